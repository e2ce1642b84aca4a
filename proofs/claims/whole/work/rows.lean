section
-- ===== PART A: goes FIRST, ahead of the names: the tables' words, and 'selects' of the private methods out of them =====
/-- a private method of a class that the tables say can be made, by its rows of tables_1 -/
def lw_okq (q : MethodName × Nat) : Prop := (q.1.cls ≠ "java/lang/invoke/MethodHandle" ∧ q.1.cls ≠ "java/lang/invoke/VarHandle") ∧ Cond.instantiable q.1.cls q.2 ∈ tables_1 ∧ Cond.privateMethod q.1 ∈ tables_1 ∧ Cond.instanceMethod q.1 ∈ tables_1
theorem lw_p0 : lw_okq (⟨"HotCells", "gatherHotPlaces", "()Z"⟩, 6) := ⟨⟨by decide +kernel, by decide +kernel⟩, List.mem_of_getElem? (i := 12) (by decide +kernel), List.mem_of_getElem? (i := 174) (by decide +kernel), List.mem_of_getElem? (i := 175) (by decide +kernel)⟩
theorem lw_p1 : lw_okq (⟨"HotCells", "heatAll", "(LHotCells$Places;)V"⟩, 6) := ⟨⟨by decide +kernel, by decide +kernel⟩, List.mem_of_getElem? (i := 12) (by decide +kernel), List.mem_of_getElem? (i := 178) (by decide +kernel), List.mem_of_getElem? (i := 179) (by decide +kernel)⟩
theorem lw_p2 : lw_okq (⟨"HotCells", "heat", "(JJ)V"⟩, 6) := ⟨⟨by decide +kernel, by decide +kernel⟩, List.mem_of_getElem? (i := 12) (by decide +kernel), List.mem_of_getElem? (i := 182) (by decide +kernel), List.mem_of_getElem? (i := 183) (by decide +kernel)⟩
theorem lw_p3 : lw_okq (⟨"HotCells", "heatCrossings", "(I)V"⟩, 6) := ⟨⟨by decide +kernel, by decide +kernel⟩, List.mem_of_getElem? (i := 12) (by decide +kernel), List.mem_of_getElem? (i := 201) (by decide +kernel), List.mem_of_getElem? (i := 202) (by decide +kernel)⟩
theorem lw_p4 : lw_okq (⟨"HotCells", "heatCrossing", "(II)V"⟩, 6) := ⟨⟨by decide +kernel, by decide +kernel⟩, List.mem_of_getElem? (i := 12) (by decide +kernel), List.mem_of_getElem? (i := 205) (by decide +kernel), List.mem_of_getElem? (i := 206) (by decide +kernel)⟩
theorem lw_p5 : lw_okq (⟨"HotCells", "settleHotPlaces", "()Z"⟩, 6) := ⟨⟨by decide +kernel, by decide +kernel⟩, List.mem_of_getElem? (i := 12) (by decide +kernel), List.mem_of_getElem? (i := 213) (by decide +kernel), List.mem_of_getElem? (i := 214) (by decide +kernel)⟩
theorem lw_p6 : lw_okq (⟨"HotCells$Keys", "sink", "(II)V"⟩, 2) := ⟨⟨by decide +kernel, by decide +kernel⟩, List.mem_of_getElem? (i := 43) (by decide +kernel), List.mem_of_getElem? (i := 221) (by decide +kernel), List.mem_of_getElem? (i := 222) (by decide +kernel)⟩
theorem lw_p7 : lw_okq (⟨"HotCells$Layout", "takeWay", "(IIII)Z"⟩, 9) := ⟨⟨by decide +kernel, by decide +kernel⟩, List.mem_of_getElem? (i := 60) (by decide +kernel), List.mem_of_getElem? (i := 241) (by decide +kernel), List.mem_of_getElem? (i := 242) (by decide +kernel)⟩
theorem lw_p8 : lw_okq (⟨"HotCells$Layout", "gatherCells", "(IIII)Z"⟩, 9) := ⟨⟨by decide +kernel, by decide +kernel⟩, List.mem_of_getElem? (i := 60) (by decide +kernel), List.mem_of_getElem? (i := 245) (by decide +kernel), List.mem_of_getElem? (i := 246) (by decide +kernel)⟩
theorem lw_p9 : lw_okq (⟨"HotCells$Layout", "addToWay", "(I)Z"⟩, 9) := ⟨⟨by decide +kernel, by decide +kernel⟩, List.mem_of_getElem? (i := 60) (by decide +kernel), List.mem_of_getElem? (i := 259) (by decide +kernel), List.mem_of_getElem? (i := 260) (by decide +kernel)⟩
theorem lw_p10 : lw_okq (⟨"HotCells$Layout", "turnColumns", "(I)V"⟩, 9) := ⟨⟨by decide +kernel, by decide +kernel⟩, List.mem_of_getElem? (i := 60) (by decide +kernel), List.mem_of_getElem? (i := 263) (by decide +kernel), List.mem_of_getElem? (i := 264) (by decide +kernel)⟩
theorem lw_p11 : lw_okq (⟨"HotCells$Layout", "turnRow", "(II)V"⟩, 9) := ⟨⟨by decide +kernel, by decide +kernel⟩, List.mem_of_getElem? (i := 60) (by decide +kernel), List.mem_of_getElem? (i := 267) (by decide +kernel), List.mem_of_getElem? (i := 268) (by decide +kernel)⟩
theorem lw_p12 : lw_okq (⟨"HotCellsModel", "crossings", "()Z"⟩, 18) := ⟨⟨by decide +kernel, by decide +kernel⟩, List.mem_of_getElem? (i := 315) (by decide +kernel), List.mem_of_getElem? (i := 446) (by decide +kernel), List.mem_of_getElem? (i := 447) (by decide +kernel)⟩
theorem lw_p13 : lw_okq (⟨"HotCellsModel$Places", "sink", "(II)V"⟩, 2) := ⟨⟨by decide +kernel, by decide +kernel⟩, List.mem_of_getElem? (i := 336) (by decide +kernel), List.mem_of_getElem? (i := 454) (by decide +kernel), List.mem_of_getElem? (i := 455) (by decide +kernel)⟩
theorem lw_p14 : lw_okq (⟨"HotCellsModel", "areFar", "(III)Z"⟩, 18) := ⟨⟨by decide +kernel, by decide +kernel⟩, List.mem_of_getElem? (i := 315) (by decide +kernel), List.mem_of_getElem? (i := 458) (by decide +kernel), List.mem_of_getElem? (i := 459) (by decide +kernel)⟩
theorem lw_p15 : lw_okq (⟨"HotCellsModel", "end", "(II)J"⟩, 18) := ⟨⟨by decide +kernel, by decide +kernel⟩, List.mem_of_getElem? (i := 315) (by decide +kernel), List.mem_of_getElem? (i := 462) (by decide +kernel), List.mem_of_getElem? (i := 463) (by decide +kernel)⟩
def lw_privs_1 : List (MethodName × Nat) := [(⟨"HotCells", "gatherHotPlaces", "()Z"⟩, 6), (⟨"HotCells", "heatAll", "(LHotCells$Places;)V"⟩, 6), (⟨"HotCells", "heat", "(JJ)V"⟩, 6), (⟨"HotCells", "heatCrossings", "(I)V"⟩, 6), (⟨"HotCells", "heatCrossing", "(II)V"⟩, 6), (⟨"HotCells", "settleHotPlaces", "()Z"⟩, 6), (⟨"HotCells$Keys", "sink", "(II)V"⟩, 2), (⟨"HotCells$Layout", "takeWay", "(IIII)Z"⟩, 9), (⟨"HotCells$Layout", "gatherCells", "(IIII)Z"⟩, 9), (⟨"HotCells$Layout", "addToWay", "(I)Z"⟩, 9), (⟨"HotCells$Layout", "turnColumns", "(I)V"⟩, 9), (⟨"HotCells$Layout", "turnRow", "(II)V"⟩, 9), (⟨"HotCellsModel", "crossings", "()Z"⟩, 18), (⟨"HotCellsModel$Places", "sink", "(II)V"⟩, 2), (⟨"HotCellsModel", "areFar", "(III)Z"⟩, 18), (⟨"HotCellsModel", "end", "(II)J"⟩, 18)]
theorem lw_r1 : ∀ q ∈ lw_privs_1, lw_okq q := List.forall_mem_cons.mpr ⟨lw_p0, List.forall_mem_cons.mpr ⟨lw_p1, List.forall_mem_cons.mpr ⟨lw_p2, List.forall_mem_cons.mpr ⟨lw_p3, List.forall_mem_cons.mpr ⟨lw_p4, List.forall_mem_cons.mpr ⟨lw_p5, List.forall_mem_cons.mpr ⟨lw_p6, List.forall_mem_cons.mpr ⟨lw_p7, List.forall_mem_cons.mpr ⟨lw_p8, List.forall_mem_cons.mpr ⟨lw_p9, List.forall_mem_cons.mpr ⟨lw_p10, List.forall_mem_cons.mpr ⟨lw_p11, List.forall_mem_cons.mpr ⟨lw_p12, List.forall_mem_cons.mpr ⟨lw_p13, List.forall_mem_cons.mpr ⟨lw_p14, List.forall_mem_cons.mpr ⟨lw_p15, fun _ h => absurd h List.not_mem_nil⟩⟩⟩⟩⟩⟩⟩⟩⟩⟩⟩⟩⟩⟩⟩⟩
theorem lw_p16 : lw_okq (⟨"HotCellsModel", "cross", "(II)V"⟩, 18) := ⟨⟨by decide +kernel, by decide +kernel⟩, List.mem_of_getElem? (i := 315) (by decide +kernel), List.mem_of_getElem? (i := 487) (by decide +kernel), List.mem_of_getElem? (i := 488) (by decide +kernel)⟩
theorem lw_p17 : lw_okq (⟨"HotCellsModel", "bend", "()Z"⟩, 18) := ⟨⟨by decide +kernel, by decide +kernel⟩, List.mem_of_getElem? (i := 315) (by decide +kernel), List.mem_of_getElem? (i := 495) (by decide +kernel), List.mem_of_getElem? (i := 496) (by decide +kernel)⟩
theorem lw_p18 : lw_okq (⟨"HotCellsModel", "firstFrom", "(I)I"⟩, 18) := ⟨⟨by decide +kernel, by decide +kernel⟩, List.mem_of_getElem? (i := 315) (by decide +kernel), List.mem_of_getElem? (i := 499) (by decide +kernel), List.mem_of_getElem? (i := 500) (by decide +kernel)⟩
theorem lw_p19 : lw_okq (⟨"HotCellsModel", "isThrough", "(II)Z"⟩, 18) := ⟨⟨by decide +kernel, by decide +kernel⟩, List.mem_of_getElem? (i := 315) (by decide +kernel), List.mem_of_getElem? (i := 512) (by decide +kernel), List.mem_of_getElem? (i := 513) (by decide +kernel)⟩
theorem lw_p20 : lw_okq (⟨"HotCellsModel", "within", "(JJJJ)Z"⟩, 18) := ⟨⟨by decide +kernel, by decide +kernel⟩, List.mem_of_getElem? (i := 315) (by decide +kernel), List.mem_of_getElem? (i := 516) (by decide +kernel), List.mem_of_getElem? (i := 517) (by decide +kernel)⟩
theorem lw_p21 : lw_okq (⟨"HotCellsModel", "atLeast", "(JJZ)V"⟩, 18) := ⟨⟨by decide +kernel, by decide +kernel⟩, List.mem_of_getElem? (i := 315) (by decide +kernel), List.mem_of_getElem? (i := 520) (by decide +kernel), List.mem_of_getElem? (i := 521) (by decide +kernel)⟩
theorem lw_p22 : lw_okq (⟨"HotCellsModel", "atMost", "(JJZ)V"⟩, 18) := ⟨⟨by decide +kernel, by decide +kernel⟩, List.mem_of_getElem? (i := 315) (by decide +kernel), List.mem_of_getElem? (i := 524) (by decide +kernel), List.mem_of_getElem? (i := 525) (by decide +kernel)⟩
theorem lw_p23 : lw_okq (⟨"HotCellsModel", "insert", "(II)V"⟩, 18) := ⟨⟨by decide +kernel, by decide +kernel⟩, List.mem_of_getElem? (i := 315) (by decide +kernel), List.mem_of_getElem? (i := 528) (by decide +kernel), List.mem_of_getElem? (i := 529) (by decide +kernel)⟩
theorem lw_p24 : lw_okq (⟨"HotCellsModel", "projection", "(II)J"⟩, 18) := ⟨⟨by decide +kernel, by decide +kernel⟩, List.mem_of_getElem? (i := 315) (by decide +kernel), List.mem_of_getElem? (i := 532) (by decide +kernel), List.mem_of_getElem? (i := 533) (by decide +kernel)⟩
theorem lw_p25 : lw_okq (⟨"HotCellsModel", "become", "()V"⟩, 18) := ⟨⟨by decide +kernel, by decide +kernel⟩, List.mem_of_getElem? (i := 315) (by decide +kernel), List.mem_of_getElem? (i := 538) (by decide +kernel), List.mem_of_getElem? (i := 539) (by decide +kernel)⟩
def lw_privs_2 : List (MethodName × Nat) := [(⟨"HotCellsModel", "cross", "(II)V"⟩, 18), (⟨"HotCellsModel", "bend", "()Z"⟩, 18), (⟨"HotCellsModel", "firstFrom", "(I)I"⟩, 18), (⟨"HotCellsModel", "isThrough", "(II)Z"⟩, 18), (⟨"HotCellsModel", "within", "(JJJJ)Z"⟩, 18), (⟨"HotCellsModel", "atLeast", "(JJZ)V"⟩, 18), (⟨"HotCellsModel", "atMost", "(JJZ)V"⟩, 18), (⟨"HotCellsModel", "insert", "(II)V"⟩, 18), (⟨"HotCellsModel", "projection", "(II)J"⟩, 18), (⟨"HotCellsModel", "become", "()V"⟩, 18)]
theorem lw_r2 : ∀ q ∈ lw_privs_2, lw_okq q := List.forall_mem_cons.mpr ⟨lw_p16, List.forall_mem_cons.mpr ⟨lw_p17, List.forall_mem_cons.mpr ⟨lw_p18, List.forall_mem_cons.mpr ⟨lw_p19, List.forall_mem_cons.mpr ⟨lw_p20, List.forall_mem_cons.mpr ⟨lw_p21, List.forall_mem_cons.mpr ⟨lw_p22, List.forall_mem_cons.mpr ⟨lw_p23, List.forall_mem_cons.mpr ⟨lw_p24, List.forall_mem_cons.mpr ⟨lw_p25, fun _ h => absurd h List.not_mem_nil⟩⟩⟩⟩⟩⟩⟩⟩⟩⟩
def lw_privs : List (MethodName × Nat) := lw_privs_1 ++ (lw_privs_2)
def lw_tbl : List Cond := k2_sels lw_privs ++ tables_1
theorem lw_privs_ok : ∀ q ∈ lw_privs, lw_okq q := by
  show ∀ q ∈ lw_privs_1 ++ (lw_privs_2), lw_okq q
  exact List.forall_mem_append.mpr ⟨lw_r1, lw_r2⟩
def RX0 : String := "HotCells$Keys"
def TX0 : u_T := fun k => match k with
  | 0 => ("HotCells$Keys", "count", "I", false)
  | _ => ("HotCells$Keys", "row", "[J", false)
def tyX0 : Nat → FieldType := fun k => match k with
  | 0 => .int
  | _ => .array .long
abbrev wsX00 : List Cond := u_ws RX0 TX0 2
theorem nmX0 : ∀ a, a < 2 → ∀ b, b < 2 → a ≠ b → (TX0 a).2.1 ≠ (TX0 b).2.1 := by decide +kernel
theorem tyX0_ok : ∀ k, k < 2 → parseFieldDescriptor (TX0 k).2.2.1 = some (tyX0 k) := by decide +kernel
abbrev cX0_init : ByteArray := prog_2_method_1_code
def yX0_init : MethodName := ⟨RX0, "<init>", "()V"⟩
abbrev cX0_add : ByteArray := prog_2_method_2_code
def yX0_add : MethodName := ⟨RX0, "add", "(J)V"⟩
abbrev cX0_sort : ByteArray := prog_2_method_3_code
def yX0_sort : MethodName := ⟨RX0, "sort", "()V"⟩
abbrev cX0_sink : ByteArray := prog_2_method_4_code
def yX0_sink : MethodName := ⟨RX0, "sink", "(II)V"⟩
abbrev cX0_dropDoubles : ByteArray := prog_2_method_5_code
def yX0_dropDoubles : MethodName := ⟨RX0, "dropDoubles", "()V"⟩
def RX1 : String := "HotCells$Layout"
def TX1 : u_T := fun k => match k with
  | 0 => ("HotCells$Layout", "hot", "LHotCells$Places;", true)
  | 1 => ("HotCells$Layout", "wayCount", "I", false)
  | 2 => ("HotCells$Layout", "wayLength", "I", false)
  | 3 => ("HotCells$Layout", "wayFrom", "[I", false)
  | 4 => ("HotCells$Layout", "wayRow", "[I", false)
  | 5 => ("HotCells$Layout", "pieceCount", "I", false)
  | 6 => ("HotCells$Layout", "pieceLesser", "[I", false)
  | 7 => ("HotCells$Layout", "pieceOther", "[I", false)
  | _ => ("HotCells$Layout", "pieceEdges", "[I", false)
def tyX1 : Nat → FieldType := fun k => match k with
  | 0 => .object "HotCells$Places"
  | 1 => .int
  | 2 => .int
  | 3 => .array .int
  | 4 => .array .int
  | 5 => .int
  | 6 => .array .int
  | 7 => .array .int
  | _ => .array .int
abbrev wsX10 : List Cond := u_ws RX1 TX1 9
theorem nmX1 : ∀ a, a < 9 → ∀ b, b < 9 → a ≠ b → (TX1 a).2.1 ≠ (TX1 b).2.1 := by decide +kernel
theorem tyX1_ok : ∀ k, k < 9 → parseFieldDescriptor (TX1 k).2.2.1 = some (tyX1 k) := by decide +kernel
abbrev cX1_init : ByteArray := prog_3_method_1_code
def yX1_init : MethodName := ⟨RX1, "<init>", "()V"⟩
abbrev cX1_takeNodes : ByteArray := prog_3_method_2_code
def yX1_takeNodes : MethodName := ⟨RX1, "takeNodes", "(LHotCells$Keys;)V"⟩
abbrev cX1_takeWays : ByteArray := prog_3_method_3_code
def yX1_takeWays : MethodName := ⟨RX1, "takeWays", "(LHotCells$Places;LHotCells$Places;)Z"⟩
abbrev cX1_takeWay : ByteArray := prog_3_method_4_code
def yX1_takeWay : MethodName := ⟨RX1, "takeWay", "(IIII)Z"⟩
abbrev cX1_gatherCells : ByteArray := prog_3_method_5_code
def yX1_gatherCells : MethodName := ⟨RX1, "gatherCells", "(IIII)Z"⟩
abbrev cX1_addToWay : ByteArray := prog_3_method_6_code
def yX1_addToWay : MethodName := ⟨RX1, "addToWay", "(I)Z"⟩
abbrev cX1_turnColumns : ByteArray := prog_3_method_7_code
def yX1_turnColumns : MethodName := ⟨RX1, "turnColumns", "(I)V"⟩
abbrev cX1_turnRow : ByteArray := prog_3_method_8_code
def yX1_turnRow : MethodName := ⟨RX1, "turnRow", "(II)V"⟩
abbrev cX1_listSteps : ByteArray := prog_3_method_9_code
def yX1_listSteps : MethodName := ⟨RX1, "listSteps", "(LHotCells$Keys;)V"⟩
abbrev cX1_takePieces : ByteArray := prog_3_method_10_code
def yX1_takePieces : MethodName := ⟨RX1, "takePieces", "(LHotCells$Keys;)Z"⟩
abbrev cX1_countUnlike : ByteArray := prog_3_method_11_code
def yX1_countUnlike : MethodName := ⟨RX1, "countUnlike", "(LHotCells$Keys;)I"⟩
def RX2 : String := "HotCells$Places"
def TX2 : u_T := fun k => match k with
  | 0 => ("HotCells$Places", "count", "I", false)
  | 1 => ("HotCells$Places", "x", "[I", false)
  | _ => ("HotCells$Places", "y", "[I", false)
def tyX2 : Nat → FieldType := fun k => match k with
  | 0 => .int
  | 1 => .array .int
  | _ => .array .int
abbrev wsX20 : List Cond := u_ws RX2 TX2 3
theorem nmX2 : ∀ a, a < 3 → ∀ b, b < 3 → a ≠ b → (TX2 a).2.1 ≠ (TX2 b).2.1 := by decide +kernel
theorem tyX2_ok : ∀ k, k < 3 → parseFieldDescriptor (TX2 k).2.2.1 = some (tyX2 k) := by decide +kernel
abbrev cX2_init : ByteArray := prog_4_method_1_code
def yX2_init : MethodName := ⟨RX2, "<init>", "()V"⟩
abbrev cX2_add : ByteArray := prog_4_method_2_code
def yX2_add : MethodName := ⟨RX2, "add", "(II)V"⟩
abbrev cX2_makeRoom : ByteArray := prog_4_method_3_code
def yX2_makeRoom : MethodName := ⟨RX2, "makeRoom", "(I)V"⟩
abbrev cX2_firstNotBelow : ByteArray := prog_4_method_4_code
def yX2_firstNotBelow : MethodName := ⟨RX2, "firstNotBelow", "(II)I"⟩
def RX3 : String := "HotCells"
def TX3 : u_T := fun k => match k with
  | 0 => ("HotCells", "starts", "LHotCells$Places;", true)
  | 1 => ("HotCells", "ends", "LHotCells$Places;", true)
  | 2 => ("HotCells", "points", "LHotCells$Places;", true)
  | 3 => ("HotCells", "keys", "LHotCells$Keys;", true)
  | 4 => ("HotCells", "laid", "LHotCells$Layout;", false)
  | _ => ("HotCells", "spare", "LHotCells$Layout;", false)
def tyX3 : Nat → FieldType := fun k => match k with
  | 0 => .object "HotCells$Places"
  | 1 => .object "HotCells$Places"
  | 2 => .object "HotCells$Places"
  | 3 => .object "HotCells$Keys"
  | 4 => .object "HotCells$Layout"
  | _ => .object "HotCells$Layout"
abbrev wsX30 : List Cond := u_ws RX3 TX3 6
theorem nmX3 : ∀ a, a < 6 → ∀ b, b < 6 → a ≠ b → (TX3 a).2.1 ≠ (TX3 b).2.1 := by decide +kernel
theorem tyX3_ok : ∀ k, k < 6 → parseFieldDescriptor (TX3 k).2.2.1 = some (tyX3 k) := by decide +kernel
abbrev cX3_init : ByteArray := prog_1_method_1_code
def yX3_init : MethodName := ⟨RX3, "<init>", "()V"⟩
abbrev cX3_edge : ByteArray := prog_1_method_2_code
def yX3_edge : MethodName := ⟨RX3, "edge", "(IIII)I"⟩
abbrev cX3_point : ByteArray := prog_1_method_3_code
def yX3_point : MethodName := ⟨RX3, "point", "(II)I"⟩
abbrev cX3_clear : ByteArray := prog_1_method_4_code
def yX3_clear : MethodName := ⟨RX3, "clear", "()V"⟩
abbrev cX3_lay : ByteArray := prog_1_method_5_code
def yX3_lay : MethodName := ⟨RX3, "lay", "()I"⟩
abbrev cX3_nodes : ByteArray := prog_1_method_6_code
def yX3_nodes : MethodName := ⟨RX3, "nodes", "()I"⟩
abbrev cX3_node : ByteArray := prog_1_method_7_code
def yX3_node : MethodName := ⟨RX3, "node", "(II)I"⟩
abbrev cX3_find : ByteArray := prog_1_method_8_code
def yX3_find : MethodName := ⟨RX3, "find", "(II)I"⟩
abbrev cX3_pieces : ByteArray := prog_1_method_9_code
def yX3_pieces : MethodName := ⟨RX3, "pieces", "()I"⟩
abbrev cX3_piece : ByteArray := prog_1_method_10_code
def yX3_piece : MethodName := ⟨RX3, "piece", "(II)I"⟩
abbrev cX3_way : ByteArray := prog_1_method_11_code
def yX3_way : MethodName := ⟨RX3, "way", "(I)I"⟩
abbrev cX3_wayNode : ByteArray := prog_1_method_12_code
def yX3_wayNode : MethodName := ⟨RX3, "wayNode", "(II)I"⟩
abbrev cX3_inBounds : ByteArray := prog_1_method_13_code
def yX3_inBounds : MethodName := ⟨RX3, "inBounds", "(II)Z"⟩
abbrev cX3_gatherHotPlaces : ByteArray := prog_1_method_14_code
def yX3_gatherHotPlaces : MethodName := ⟨RX3, "gatherHotPlaces", "()Z"⟩
abbrev cX3_settleHotPlaces : ByteArray := prog_1_method_15_code
def yX3_settleHotPlaces : MethodName := ⟨RX3, "settleHotPlaces", "()Z"⟩
abbrev cX3_heatAll : ByteArray := prog_1_method_16_code
def yX3_heatAll : MethodName := ⟨RX3, "heatAll", "(LHotCells$Places;)V"⟩
abbrev cX3_heat : ByteArray := prog_1_method_17_code
def yX3_heat : MethodName := ⟨RX3, "heat", "(JJ)V"⟩
abbrev cX3_heatCrossings : ByteArray := prog_1_method_18_code
def yX3_heatCrossings : MethodName := ⟨RX3, "heatCrossings", "(I)V"⟩
abbrev cX3_heatCrossing : ByteArray := prog_1_method_19_code
def yX3_heatCrossing : MethodName := ⟨RX3, "heatCrossing", "(II)V"⟩
abbrev cX3_withRoom : ByteArray := prog_1_method_20_code
def yX3_withRoom : MethodName := ⟨RX3, "withRoom", "([II)[I"⟩
def RX4 : String := "HotCellsModel$Ints"
def TX4 : u_T := fun k => match k with
  | 0 => ("HotCellsModel$Ints", "row", "[I", false)
  | _ => ("HotCellsModel$Ints", "size", "I", false)
def tyX4 : Nat → FieldType := fun k => match k with
  | 0 => .array .int
  | _ => .int
abbrev wsX40 : List Cond := u_ws RX4 TX4 2
theorem nmX4 : ∀ a, a < 2 → ∀ b, b < 2 → a ≠ b → (TX4 a).2.1 ≠ (TX4 b).2.1 := by decide +kernel
theorem tyX4_ok : ∀ k, k < 2 → parseFieldDescriptor (TX4 k).2.2.1 = some (tyX4 k) := by decide +kernel
abbrev cX4_init : ByteArray := prog_7_method_1_code
def yX4_init : MethodName := ⟨RX4, "<init>", "()V"⟩
abbrev cX4_clear : ByteArray := prog_7_method_2_code
def yX4_clear : MethodName := ⟨RX4, "clear", "()V"⟩
abbrev cX4_add : ByteArray := prog_7_method_3_code
def yX4_add : MethodName := ⟨RX4, "add", "(I)V"⟩
def RX5 : String := "HotCellsModel$Places"
def TX5 : u_T := fun k => match k with
  | 0 => ("HotCellsModel$Places", "row", "[J", false)
  | _ => ("HotCellsModel$Places", "size", "I", false)
def tyX5 : Nat → FieldType := fun k => match k with
  | 0 => .array .long
  | _ => .int
abbrev wsX50 : List Cond := u_ws RX5 TX5 2
theorem nmX5 : ∀ a, a < 2 → ∀ b, b < 2 → a ≠ b → (TX5 a).2.1 ≠ (TX5 b).2.1 := by decide +kernel
theorem tyX5_ok : ∀ k, k < 2 → parseFieldDescriptor (TX5 k).2.2.1 = some (tyX5 k) := by decide +kernel
abbrev cX5_init : ByteArray := prog_8_method_1_code
def yX5_init : MethodName := ⟨RX5, "<init>", "()V"⟩
abbrev cX5_clear : ByteArray := prog_8_method_2_code
def yX5_clear : MethodName := ⟨RX5, "clear", "()V"⟩
abbrev cX5_keyOf : ByteArray := prog_8_method_3_code
def yX5_keyOf : MethodName := ⟨RX5, "keyOf", "(II)J"⟩
abbrev cX5_add : ByteArray := prog_8_method_4_code
def yX5_add : MethodName := ⟨RX5, "add", "(II)V"⟩
abbrev cX5_x : ByteArray := prog_8_method_5_code
def yX5_x : MethodName := ⟨RX5, "x", "(I)I"⟩
abbrev cX5_y : ByteArray := prog_8_method_6_code
def yX5_y : MethodName := ⟨RX5, "y", "(I)I"⟩
abbrev cX5_sort : ByteArray := prog_8_method_7_code
def yX5_sort : MethodName := ⟨RX5, "sort", "()V"⟩
abbrev cX5_sink : ByteArray := prog_8_method_8_code
def yX5_sink : MethodName := ⟨RX5, "sink", "(II)V"⟩
abbrev cX5_find : ByteArray := prog_8_method_9_code
def yX5_find : MethodName := ⟨RX5, "find", "(II)I"⟩
def RX6 : String := "HotCellsModel"
def TX6 : u_T := fun k => match k with
  | 0 => ("HotCellsModel", "ends", "LHotCellsModel$Ints;", true)
  | 1 => ("HotCellsModel", "points", "LHotCellsModel$Ints;", true)
  | 2 => ("HotCellsModel", "hot", "LHotCellsModel$Places;", false)
  | 3 => ("HotCellsModel", "pairs", "LHotCellsModel$Places;", false)
  | 4 => ("HotCellsModel", "times", "[I", false)
  | 5 => ("HotCellsModel", "ways", "LHotCellsModel$Ints;", false)
  | 6 => ("HotCellsModel", "begins", "LHotCellsModel$Ints;", false)
  | 7 => ("HotCellsModel", "newHot", "LHotCellsModel$Places;", false)
  | 8 => ("HotCellsModel", "newPairs", "LHotCellsModel$Places;", false)
  | 9 => ("HotCellsModel", "newWays", "LHotCellsModel$Ints;", false)
  | 10 => ("HotCellsModel", "newBegins", "LHotCellsModel$Ints;", false)
  | 11 => ("HotCellsModel", "along", "LHotCellsModel$Ints;", true)
  | 12 => ("HotCellsModel", "fromOver", "J", false)
  | 13 => ("HotCellsModel", "fromUnder", "J", false)
  | 14 => ("HotCellsModel", "toOver", "J", false)
  | 15 => ("HotCellsModel", "toUnder", "J", false)
  | 16 => ("HotCellsModel", "hasFrom", "Z", false)
  | _ => ("HotCellsModel", "hasTo", "Z", false)
def tyX6 : Nat → FieldType := fun k => match k with
  | 0 => .object "HotCellsModel$Ints"
  | 1 => .object "HotCellsModel$Ints"
  | 2 => .object "HotCellsModel$Places"
  | 3 => .object "HotCellsModel$Places"
  | 4 => .array .int
  | 5 => .object "HotCellsModel$Ints"
  | 6 => .object "HotCellsModel$Ints"
  | 7 => .object "HotCellsModel$Places"
  | 8 => .object "HotCellsModel$Places"
  | 9 => .object "HotCellsModel$Ints"
  | 10 => .object "HotCellsModel$Ints"
  | 11 => .object "HotCellsModel$Ints"
  | 12 => .long
  | 13 => .long
  | 14 => .long
  | 15 => .long
  | 16 => .boolean
  | _ => .boolean
abbrev wsX60 : List Cond := u_ws RX6 TX6 18
theorem nmX6 : ∀ a, a < 18 → ∀ b, b < 18 → a ≠ b → (TX6 a).2.1 ≠ (TX6 b).2.1 := by decide +kernel
theorem tyX6_ok : ∀ k, k < 18 → parseFieldDescriptor (TX6 k).2.2.1 = some (tyX6 k) := by decide +kernel
abbrev cX6_side : ByteArray := prog_6_method_1_code
def yX6_side : MethodName := ⟨RX6, "side", "(JJJJJJ)J"⟩
abbrev cX6_sign : ByteArray := prog_6_method_2_code
def yX6_sign : MethodName := ⟨RX6, "sign", "(J)I"⟩
abbrev cX6_isBetween : ByteArray := prog_6_method_3_code
def yX6_isBetween : MethodName := ⟨RX6, "isBetween", "(JJJJJJ)Z"⟩
abbrev cX6_meeting : ByteArray := prog_6_method_4_code
def yX6_meeting : MethodName := ⟨RX6, "meeting", "(JJJJJJJJ)I"⟩
abbrev cX6_straight : ByteArray := prog_6_method_5_code
def yX6_straight : MethodName := ⟨RX6, "straight", "(JJJJJJJJ)I"⟩
abbrev cX6_init : ByteArray := prog_6_method_6_code
def yX6_init : MethodName := ⟨RX6, "<init>", "()V"⟩
abbrev cX6_isIn : ByteArray := prog_6_method_8_code
def yX6_isIn : MethodName := ⟨RX6, "isIn", "(II)Z"⟩
abbrev cX6_edge : ByteArray := prog_6_method_9_code
def yX6_edge : MethodName := ⟨RX6, "edge", "(IIII)I"⟩
abbrev cX6_point : ByteArray := prog_6_method_10_code
def yX6_point : MethodName := ⟨RX6, "point", "(II)I"⟩
abbrev cX6_clear : ByteArray := prog_6_method_11_code
def yX6_clear : MethodName := ⟨RX6, "clear", "()V"⟩
abbrev cX6_end : ByteArray := prog_6_method_12_code
def yX6_end : MethodName := ⟨RX6, "end", "(II)J"⟩
abbrev cX6_lay : ByteArray := prog_6_method_13_code
def yX6_lay : MethodName := ⟨RX6, "lay", "()I"⟩
abbrev cX6_become : ByteArray := prog_6_method_14_code
def yX6_become : MethodName := ⟨RX6, "become", "()V"⟩
abbrev cX6_crossings : ByteArray := prog_6_method_15_code
def yX6_crossings : MethodName := ⟨RX6, "crossings", "()Z"⟩
abbrev cX6_areFar : ByteArray := prog_6_method_16_code
def yX6_areFar : MethodName := ⟨RX6, "areFar", "(III)Z"⟩
abbrev cX6_below : ByteArray := prog_6_method_17_code
def yX6_below : MethodName := ⟨RX6, "below", "(JJ)J"⟩
abbrev cX6_cross : ByteArray := prog_6_method_18_code
def yX6_cross : MethodName := ⟨RX6, "cross", "(II)V"⟩
abbrev cX6_atLeast : ByteArray := prog_6_method_19_code
def yX6_atLeast : MethodName := ⟨RX6, "atLeast", "(JJZ)V"⟩
abbrev cX6_atMost : ByteArray := prog_6_method_20_code
def yX6_atMost : MethodName := ⟨RX6, "atMost", "(JJZ)V"⟩
abbrev cX6_within : ByteArray := prog_6_method_21_code
def yX6_within : MethodName := ⟨RX6, "within", "(JJJJ)Z"⟩
abbrev cX6_isThrough : ByteArray := prog_6_method_22_code
def yX6_isThrough : MethodName := ⟨RX6, "isThrough", "(II)Z"⟩
abbrev cX6_projection : ByteArray := prog_6_method_23_code
def yX6_projection : MethodName := ⟨RX6, "projection", "(II)J"⟩
abbrev cX6_bend : ByteArray := prog_6_method_24_code
def yX6_bend : MethodName := ⟨RX6, "bend", "()Z"⟩
abbrev cX6_firstFrom : ByteArray := prog_6_method_25_code
def yX6_firstFrom : MethodName := ⟨RX6, "firstFrom", "(I)I"⟩
abbrev cX6_insert : ByteArray := prog_6_method_26_code
def yX6_insert : MethodName := ⟨RX6, "insert", "(II)V"⟩
abbrev cX6_nodes : ByteArray := prog_6_method_27_code
def yX6_nodes : MethodName := ⟨RX6, "nodes", "()I"⟩
abbrev cX6_node : ByteArray := prog_6_method_28_code
def yX6_node : MethodName := ⟨RX6, "node", "(II)I"⟩
abbrev cX6_find : ByteArray := prog_6_method_29_code
def yX6_find : MethodName := ⟨RX6, "find", "(II)I"⟩
abbrev cX6_pieces : ByteArray := prog_6_method_30_code
def yX6_pieces : MethodName := ⟨RX6, "pieces", "()I"⟩
abbrev cX6_piece : ByteArray := prog_6_method_31_code
def yX6_piece : MethodName := ⟨RX6, "piece", "(II)I"⟩
abbrev cX6_way : ByteArray := prog_6_method_32_code
def yX6_way : MethodName := ⟨RX6, "way", "(I)I"⟩
abbrev cX6_wayNode : ByteArray := prog_6_method_33_code
def yX6_wayNode : MethodName := ⟨RX6, "wayNode", "(II)I"⟩
def RJx8e188 : String := "java/lang/Cloneable"
def TJx8e188 : u_T := fun k => match k with
  | _ => ("", "", "", false)
def tyJx8e188 : Nat → FieldType := fun k => match k with
  | _ => .int
abbrev wsJx8e1880 : List Cond := u_ws RJx8e188 TJx8e188 0
theorem nmJx8e188 : ∀ a, a < 0 → ∀ b, b < 0 → a ≠ b → (TJx8e188 a).2.1 ≠ (TJx8e188 b).2.1 := by decide +kernel
theorem tyJx8e188_ok : ∀ k, k < 0 → parseFieldDescriptor (TJx8e188 k).2.2.1 = some (tyJx8e188 k) := by decide +kernel
def RJ9 : String := "java/lang/Math"
def TJ9 : u_T := fun k => match k with
  | _ => ("", "", "", false)
def tyJ9 : Nat → FieldType := fun k => match k with
  | _ => .int
abbrev wsJ90 : List Cond := u_ws RJ9 TJ9 0
theorem nmJ9 : ∀ a, a < 0 → ∀ b, b < 0 → a ≠ b → (TJ9 a).2.1 ≠ (TJ9 b).2.1 := by decide +kernel
theorem tyJ9_ok : ∀ k, k < 0 → parseFieldDescriptor (TJ9 k).2.2.1 = some (tyJ9 k) := by decide +kernel
abbrev cJ9_floorDiv_f86c9 : ByteArray := prog_10_method_49_code
def yJ9_floorDiv_f86c9 : MethodName := ⟨RJ9, "floorDiv", "(JJ)J"⟩
abbrev cJ9_abs_067f4 : ByteArray := prog_10_method_61_code
def yJ9_abs_067f4 : MethodName := ⟨RJ9, "abs", "(J)J"⟩
abbrev cJ9_max_7cf53 : ByteArray := prog_10_method_65_code
def yJ9_max_7cf53 : MethodName := ⟨RJ9, "max", "(II)I"⟩
abbrev cJ9_max_f86c9 : ByteArray := prog_10_method_66_code
def yJ9_max_f86c9 : MethodName := ⟨RJ9, "max", "(JJ)J"⟩
abbrev cJ9_min_7cf53 : ByteArray := prog_10_method_69_code
def yJ9_min_7cf53 : MethodName := ⟨RJ9, "min", "(II)I"⟩
abbrev cJ9_min_f86c9 : ByteArray := prog_10_method_70_code
def yJ9_min_f86c9 : MethodName := ⟨RJ9, "min", "(JJ)J"⟩
def RJ10 : String := "java/lang/System"
def TJ10 : u_T := fun k => match k with
  | _ => ("", "", "", false)
def tyJ10 : Nat → FieldType := fun k => match k with
  | _ => .int
abbrev wsJ100 : List Cond := u_ws RJ10 TJ10 0
theorem nmJ10 : ∀ a, a < 0 → ∀ b, b < 0 → a ≠ b → (TJ10 a).2.1 ≠ (TJ10 b).2.1 := by decide +kernel
theorem tyJ10_ok : ∀ k, k < 0 → parseFieldDescriptor (TJ10 k).2.2.1 = some (tyJ10 k) := by decide +kernel
def RJ7 : String := "java/util/Arrays"
def TJ7 : u_T := fun k => match k with
  | _ => ("", "", "", false)
def tyJ7 : Nat → FieldType := fun k => match k with
  | _ => .int
abbrev wsJ70 : List Cond := u_ws RJ7 TJ7 0
theorem nmJ7 : ∀ a, a < 0 → ∀ b, b < 0 → a ≠ b → (TJ7 a).2.1 ≠ (TJ7 b).2.1 := by decide +kernel
theorem tyJ7_ok : ∀ k, k < 0 → parseFieldDescriptor (TJ7 k).2.2.1 = some (tyJ7 k) := by decide +kernel
abbrev cJ7_copyOf_59c91 : ByteArray := prog_12_method_123_code
def yJ7_copyOf_59c91 : MethodName := ⟨RJ7, "copyOf", "([II)[I"⟩
abbrev cJ7_copyOf_c38d5 : ByteArray := prog_12_method_124_code
def yJ7_copyOf_c38d5 : MethodName := ⟨RJ7, "copyOf", "([JI)[J"⟩
def RL : String := "HotCellsLaw"
abbrev cL_law : ByteArray := code
def yL_law : MethodName := ⟨RL, "law", "([I)Z"⟩
theorem dX0_init_0 : decode cX0_init 0 = .ok (.aload_n 0, 1) := by decide +kernel
theorem dX0_init_1 : decode cX0_init 1 = .ok (.invokespecial 3, 3) := by decide +kernel
theorem dX0_init_4 : decode cX0_init 4 = .ok (.aload_n 0, 1) := by decide +kernel
theorem dX0_init_5 : decode cX0_init 5 = .ok (.iconst 0, 1) := by decide +kernel
theorem dX0_init_6 : decode cX0_init 6 = .ok (.putfield 9, 3) := by decide +kernel
theorem dX0_init_9 : decode cX0_init 9 = .ok (.aload_n 0, 1) := by decide +kernel
theorem dX0_init_10 : decode cX0_init 10 = .ok (.bipush 64, 2) := by decide +kernel
theorem dX0_init_12 : decode cX0_init 12 = .ok (.newarray .long, 2) := by decide +kernel
theorem dX0_init_14 : decode cX0_init 14 = .ok (.putfield 15, 3) := by decide +kernel
theorem dX0_init_17 : decode cX0_init 17 = .ok (.return_, 1) := by decide +kernel
theorem dX0_add_0 : decode cX0_add 0 = .ok (.aload_n 0, 1) := by decide +kernel
theorem dX0_add_1 : decode cX0_add 1 = .ok (.getfield 9, 3) := by decide +kernel
theorem dX0_add_4 : decode cX0_add 4 = .ok (.sipush 20000, 3) := by decide +kernel
theorem dX0_add_7 : decode cX0_add 7 = .ok (.if_icmp .lt 4, 3) := by decide +kernel
theorem dX0_add_10 : decode cX0_add 10 = .ok (.return_, 1) := by decide +kernel
theorem dX0_add_11 : decode cX0_add 11 = .ok (.aload_n 0, 1) := by decide +kernel
theorem dX0_add_12 : decode cX0_add 12 = .ok (.getfield 9, 3) := by decide +kernel
theorem dX0_add_15 : decode cX0_add 15 = .ok (.aload_n 0, 1) := by decide +kernel
theorem dX0_add_16 : decode cX0_add 16 = .ok (.getfield 15, 3) := by decide +kernel
theorem dX0_add_19 : decode cX0_add 19 = .ok (.arraylength, 1) := by decide +kernel
theorem dX0_add_20 : decode cX0_add 20 = .ok (.if_icmp .lt 27, 3) := by decide +kernel
theorem dX0_add_23 : decode cX0_add 23 = .ok (.aload_n 0, 1) := by decide +kernel
theorem dX0_add_24 : decode cX0_add 24 = .ok (.aload_n 0, 1) := by decide +kernel
theorem dX0_add_25 : decode cX0_add 25 = .ok (.getfield 15, 3) := by decide +kernel
theorem dX0_add_28 : decode cX0_add 28 = .ok (.sipush 20000, 3) := by decide +kernel
theorem dX0_add_31 : decode cX0_add 31 = .ok (.iconst 2, 1) := by decide +kernel
theorem dX0_add_32 : decode cX0_add 32 = .ok (.aload_n 0, 1) := by decide +kernel
theorem dX0_add_33 : decode cX0_add 33 = .ok (.getfield 15, 3) := by decide +kernel
theorem dX0_add_36 : decode cX0_add 36 = .ok (.arraylength, 1) := by decide +kernel
theorem dX0_add_37 : decode cX0_add 37 = .ok (.imul, 1) := by decide +kernel
theorem dX0_add_38 : decode cX0_add 38 = .ok (.invokestatic 19, 3) := by decide +kernel
theorem dX0_add_41 : decode cX0_add 41 = .ok (.invokestatic 25, 3) := by decide +kernel
theorem dX0_add_44 : decode cX0_add 44 = .ok (.putfield 15, 3) := by decide +kernel
theorem dX0_add_47 : decode cX0_add 47 = .ok (.aload_n 0, 1) := by decide +kernel
theorem dX0_add_48 : decode cX0_add 48 = .ok (.getfield 15, 3) := by decide +kernel
theorem dX0_add_51 : decode cX0_add 51 = .ok (.aload_n 0, 1) := by decide +kernel
theorem dX0_add_52 : decode cX0_add 52 = .ok (.getfield 9, 3) := by decide +kernel
theorem dX0_add_55 : decode cX0_add 55 = .ok (.lload_n 1, 1) := by decide +kernel
theorem dX0_add_56 : decode cX0_add 56 = .ok (.lastore, 1) := by decide +kernel
theorem dX0_add_57 : decode cX0_add 57 = .ok (.aload_n 0, 1) := by decide +kernel
theorem dX0_add_58 : decode cX0_add 58 = .ok (.dup, 1) := by decide +kernel
theorem dX0_add_59 : decode cX0_add 59 = .ok (.getfield 9, 3) := by decide +kernel
theorem dX0_add_62 : decode cX0_add 62 = .ok (.iconst 1, 1) := by decide +kernel
theorem dX0_add_63 : decode cX0_add 63 = .ok (.iadd, 1) := by decide +kernel
theorem dX0_add_64 : decode cX0_add 64 = .ok (.putfield 9, 3) := by decide +kernel
theorem dX0_add_67 : decode cX0_add 67 = .ok (.return_, 1) := by decide +kernel
theorem dX0_sort_0 : decode cX0_sort 0 = .ok (.aload_n 0, 1) := by decide +kernel
theorem dX0_sort_1 : decode cX0_sort 1 = .ok (.getfield 9, 3) := by decide +kernel
theorem dX0_sort_4 : decode cX0_sort 4 = .ok (.iconst 2, 1) := by decide +kernel
theorem dX0_sort_5 : decode cX0_sort 5 = .ok (.idiv, 1) := by decide +kernel
theorem dX0_sort_6 : decode cX0_sort 6 = .ok (.iconst 1, 1) := by decide +kernel
theorem dX0_sort_7 : decode cX0_sort 7 = .ok (.isub, 1) := by decide +kernel
theorem dX0_sort_8 : decode cX0_sort 8 = .ok (.istore_n 1, 1) := by decide +kernel
theorem dX0_sort_9 : decode cX0_sort 9 = .ok (.iload_n 1, 1) := by decide +kernel
theorem dX0_sort_10 : decode cX0_sort 10 = .ok (.ifCond .lt 18, 3) := by decide +kernel
theorem dX0_sort_13 : decode cX0_sort 13 = .ok (.aload_n 0, 1) := by decide +kernel
theorem dX0_sort_14 : decode cX0_sort 14 = .ok (.iload_n 1, 1) := by decide +kernel
theorem dX0_sort_15 : decode cX0_sort 15 = .ok (.aload_n 0, 1) := by decide +kernel
theorem dX0_sort_16 : decode cX0_sort 16 = .ok (.getfield 9, 3) := by decide +kernel
theorem dX0_sort_19 : decode cX0_sort 19 = .ok (.invokevirtual 31, 3) := by decide +kernel
theorem dX0_sort_22 : decode cX0_sort 22 = .ok (.iinc 1 (-1), 3) := by decide +kernel
theorem dX0_sort_25 : decode cX0_sort 25 = .ok (.goto (-16), 3) := by decide +kernel
theorem dX0_sort_28 : decode cX0_sort 28 = .ok (.aload_n 0, 1) := by decide +kernel
theorem dX0_sort_29 : decode cX0_sort 29 = .ok (.getfield 9, 3) := by decide +kernel
theorem dX0_sort_32 : decode cX0_sort 32 = .ok (.iconst 1, 1) := by decide +kernel
theorem dX0_sort_33 : decode cX0_sort 33 = .ok (.isub, 1) := by decide +kernel
theorem dX0_sort_34 : decode cX0_sort 34 = .ok (.istore_n 1, 1) := by decide +kernel
theorem dX0_sort_35 : decode cX0_sort 35 = .ok (.iload_n 1, 1) := by decide +kernel
theorem dX0_sort_36 : decode cX0_sort 36 = .ok (.ifCond .le 41, 3) := by decide +kernel
theorem dX0_sort_39 : decode cX0_sort 39 = .ok (.aload_n 0, 1) := by decide +kernel
theorem dX0_sort_40 : decode cX0_sort 40 = .ok (.getfield 15, 3) := by decide +kernel
theorem dX0_sort_43 : decode cX0_sort 43 = .ok (.iconst 0, 1) := by decide +kernel
theorem dX0_sort_44 : decode cX0_sort 44 = .ok (.laload, 1) := by decide +kernel
theorem dX0_sort_45 : decode cX0_sort 45 = .ok (.lstore_n 2, 1) := by decide +kernel
theorem dX0_sort_46 : decode cX0_sort 46 = .ok (.aload_n 0, 1) := by decide +kernel
theorem dX0_sort_47 : decode cX0_sort 47 = .ok (.getfield 15, 3) := by decide +kernel
theorem dX0_sort_50 : decode cX0_sort 50 = .ok (.iconst 0, 1) := by decide +kernel
theorem dX0_sort_51 : decode cX0_sort 51 = .ok (.aload_n 0, 1) := by decide +kernel
theorem dX0_sort_52 : decode cX0_sort 52 = .ok (.getfield 15, 3) := by decide +kernel
theorem dX0_sort_55 : decode cX0_sort 55 = .ok (.iload_n 1, 1) := by decide +kernel
theorem dX0_sort_56 : decode cX0_sort 56 = .ok (.laload, 1) := by decide +kernel
theorem dX0_sort_57 : decode cX0_sort 57 = .ok (.lastore, 1) := by decide +kernel
theorem dX0_sort_58 : decode cX0_sort 58 = .ok (.aload_n 0, 1) := by decide +kernel
theorem dX0_sort_59 : decode cX0_sort 59 = .ok (.getfield 15, 3) := by decide +kernel
theorem dX0_sort_62 : decode cX0_sort 62 = .ok (.iload_n 1, 1) := by decide +kernel
theorem dX0_sort_63 : decode cX0_sort 63 = .ok (.lload_n 2, 1) := by decide +kernel
theorem dX0_sort_64 : decode cX0_sort 64 = .ok (.lastore, 1) := by decide +kernel
theorem dX0_sort_65 : decode cX0_sort 65 = .ok (.aload_n 0, 1) := by decide +kernel
theorem dX0_sort_66 : decode cX0_sort 66 = .ok (.iconst 0, 1) := by decide +kernel
theorem dX0_sort_67 : decode cX0_sort 67 = .ok (.iload_n 1, 1) := by decide +kernel
theorem dX0_sort_68 : decode cX0_sort 68 = .ok (.invokevirtual 31, 3) := by decide +kernel
theorem dX0_sort_71 : decode cX0_sort 71 = .ok (.iinc 1 (-1), 3) := by decide +kernel
theorem dX0_sort_74 : decode cX0_sort 74 = .ok (.goto (-39), 3) := by decide +kernel
theorem dX0_sort_77 : decode cX0_sort 77 = .ok (.return_, 1) := by decide +kernel
theorem dX0_sink_0 : decode cX0_sink 0 = .ok (.aload_n 0, 1) := by decide +kernel
theorem dX0_sink_1 : decode cX0_sink 1 = .ok (.getfield 15, 3) := by decide +kernel
theorem dX0_sink_4 : decode cX0_sink 4 = .ok (.iload_n 1, 1) := by decide +kernel
theorem dX0_sink_5 : decode cX0_sink 5 = .ok (.laload, 1) := by decide +kernel
theorem dX0_sink_6 : decode cX0_sink 6 = .ok (.lstore_n 3, 1) := by decide +kernel
theorem dX0_sink_7 : decode cX0_sink 7 = .ok (.iload_n 1, 1) := by decide +kernel
theorem dX0_sink_8 : decode cX0_sink 8 = .ok (.istore 5, 2) := by decide +kernel
theorem dX0_sink_10 : decode cX0_sink 10 = .ok (.iconst 2, 1) := by decide +kernel
theorem dX0_sink_11 : decode cX0_sink 11 = .ok (.iload 5, 2) := by decide +kernel
theorem dX0_sink_13 : decode cX0_sink 13 = .ok (.imul, 1) := by decide +kernel
theorem dX0_sink_14 : decode cX0_sink 14 = .ok (.iconst 1, 1) := by decide +kernel
theorem dX0_sink_15 : decode cX0_sink 15 = .ok (.iadd, 1) := by decide +kernel
theorem dX0_sink_16 : decode cX0_sink 16 = .ok (.istore 6, 2) := by decide +kernel
theorem dX0_sink_18 : decode cX0_sink 18 = .ok (.iload 6, 2) := by decide +kernel
theorem dX0_sink_20 : decode cX0_sink 20 = .ok (.iload_n 2, 1) := by decide +kernel
theorem dX0_sink_21 : decode cX0_sink 21 = .ok (.if_icmp .ge 78, 3) := by decide +kernel
theorem dX0_sink_24 : decode cX0_sink 24 = .ok (.iload 6, 2) := by decide +kernel
theorem dX0_sink_26 : decode cX0_sink 26 = .ok (.iconst 1, 1) := by decide +kernel
theorem dX0_sink_27 : decode cX0_sink 27 = .ok (.iadd, 1) := by decide +kernel
theorem dX0_sink_28 : decode cX0_sink 28 = .ok (.iload_n 2, 1) := by decide +kernel
theorem dX0_sink_29 : decode cX0_sink 29 = .ok (.if_icmp .ge 26, 3) := by decide +kernel
theorem dX0_sink_32 : decode cX0_sink 32 = .ok (.aload_n 0, 1) := by decide +kernel
theorem dX0_sink_33 : decode cX0_sink 33 = .ok (.getfield 15, 3) := by decide +kernel
theorem dX0_sink_36 : decode cX0_sink 36 = .ok (.iload 6, 2) := by decide +kernel
theorem dX0_sink_38 : decode cX0_sink 38 = .ok (.iconst 1, 1) := by decide +kernel
theorem dX0_sink_39 : decode cX0_sink 39 = .ok (.iadd, 1) := by decide +kernel
theorem dX0_sink_40 : decode cX0_sink 40 = .ok (.laload, 1) := by decide +kernel
theorem dX0_sink_41 : decode cX0_sink 41 = .ok (.aload_n 0, 1) := by decide +kernel
theorem dX0_sink_42 : decode cX0_sink 42 = .ok (.getfield 15, 3) := by decide +kernel
theorem dX0_sink_45 : decode cX0_sink 45 = .ok (.iload 6, 2) := by decide +kernel
theorem dX0_sink_47 : decode cX0_sink 47 = .ok (.laload, 1) := by decide +kernel
theorem dX0_sink_48 : decode cX0_sink 48 = .ok (.lcmp, 1) := by decide +kernel
theorem dX0_sink_49 : decode cX0_sink 49 = .ok (.ifCond .le 6, 3) := by decide +kernel
theorem dX0_sink_52 : decode cX0_sink 52 = .ok (.iinc 6 1, 3) := by decide +kernel
theorem dX0_sink_55 : decode cX0_sink 55 = .ok (.aload_n 0, 1) := by decide +kernel
theorem dX0_sink_56 : decode cX0_sink 56 = .ok (.getfield 15, 3) := by decide +kernel
theorem dX0_sink_59 : decode cX0_sink 59 = .ok (.iload 6, 2) := by decide +kernel
theorem dX0_sink_61 : decode cX0_sink 61 = .ok (.laload, 1) := by decide +kernel
theorem dX0_sink_62 : decode cX0_sink 62 = .ok (.lload_n 3, 1) := by decide +kernel
theorem dX0_sink_63 : decode cX0_sink 63 = .ok (.lcmp, 1) := by decide +kernel
theorem dX0_sink_64 : decode cX0_sink 64 = .ok (.ifCond .gt 6, 3) := by decide +kernel
theorem dX0_sink_67 : decode cX0_sink 67 = .ok (.goto 32, 3) := by decide +kernel
theorem dX0_sink_70 : decode cX0_sink 70 = .ok (.aload_n 0, 1) := by decide +kernel
theorem dX0_sink_71 : decode cX0_sink 71 = .ok (.getfield 15, 3) := by decide +kernel
theorem dX0_sink_74 : decode cX0_sink 74 = .ok (.iload 5, 2) := by decide +kernel
theorem dX0_sink_76 : decode cX0_sink 76 = .ok (.aload_n 0, 1) := by decide +kernel
theorem dX0_sink_77 : decode cX0_sink 77 = .ok (.getfield 15, 3) := by decide +kernel
theorem dX0_sink_80 : decode cX0_sink 80 = .ok (.iload 6, 2) := by decide +kernel
theorem dX0_sink_82 : decode cX0_sink 82 = .ok (.laload, 1) := by decide +kernel
theorem dX0_sink_83 : decode cX0_sink 83 = .ok (.lastore, 1) := by decide +kernel
theorem dX0_sink_84 : decode cX0_sink 84 = .ok (.iload 6, 2) := by decide +kernel
theorem dX0_sink_86 : decode cX0_sink 86 = .ok (.istore 5, 2) := by decide +kernel
theorem dX0_sink_88 : decode cX0_sink 88 = .ok (.iconst 2, 1) := by decide +kernel
theorem dX0_sink_89 : decode cX0_sink 89 = .ok (.iload 5, 2) := by decide +kernel
theorem dX0_sink_91 : decode cX0_sink 91 = .ok (.imul, 1) := by decide +kernel
theorem dX0_sink_92 : decode cX0_sink 92 = .ok (.iconst 1, 1) := by decide +kernel
theorem dX0_sink_93 : decode cX0_sink 93 = .ok (.iadd, 1) := by decide +kernel
theorem dX0_sink_94 : decode cX0_sink 94 = .ok (.istore 6, 2) := by decide +kernel
theorem dX0_sink_96 : decode cX0_sink 96 = .ok (.goto (-78), 3) := by decide +kernel
theorem dX0_sink_99 : decode cX0_sink 99 = .ok (.aload_n 0, 1) := by decide +kernel
theorem dX0_sink_100 : decode cX0_sink 100 = .ok (.getfield 15, 3) := by decide +kernel
theorem dX0_sink_103 : decode cX0_sink 103 = .ok (.iload 5, 2) := by decide +kernel
theorem dX0_sink_105 : decode cX0_sink 105 = .ok (.lload_n 3, 1) := by decide +kernel
theorem dX0_sink_106 : decode cX0_sink 106 = .ok (.lastore, 1) := by decide +kernel
theorem dX0_sink_107 : decode cX0_sink 107 = .ok (.return_, 1) := by decide +kernel
theorem dX0_dropDoubles_0 : decode cX0_dropDoubles 0 = .ok (.iconst 0, 1) := by decide +kernel
theorem dX0_dropDoubles_1 : decode cX0_dropDoubles 1 = .ok (.istore_n 1, 1) := by decide +kernel
theorem dX0_dropDoubles_2 : decode cX0_dropDoubles 2 = .ok (.iconst 0, 1) := by decide +kernel
theorem dX0_dropDoubles_3 : decode cX0_dropDoubles 3 = .ok (.istore_n 2, 1) := by decide +kernel
theorem dX0_dropDoubles_4 : decode cX0_dropDoubles 4 = .ok (.iload_n 2, 1) := by decide +kernel
theorem dX0_dropDoubles_5 : decode cX0_dropDoubles 5 = .ok (.aload_n 0, 1) := by decide +kernel
theorem dX0_dropDoubles_6 : decode cX0_dropDoubles 6 = .ok (.getfield 9, 3) := by decide +kernel
theorem dX0_dropDoubles_9 : decode cX0_dropDoubles 9 = .ok (.if_icmp .ge 46, 3) := by decide +kernel
theorem dX0_dropDoubles_12 : decode cX0_dropDoubles 12 = .ok (.iload_n 1, 1) := by decide +kernel
theorem dX0_dropDoubles_13 : decode cX0_dropDoubles 13 = .ok (.ifCond .eq 21, 3) := by decide +kernel
theorem dX0_dropDoubles_16 : decode cX0_dropDoubles 16 = .ok (.aload_n 0, 1) := by decide +kernel
theorem dX0_dropDoubles_17 : decode cX0_dropDoubles 17 = .ok (.getfield 15, 3) := by decide +kernel
theorem dX0_dropDoubles_20 : decode cX0_dropDoubles 20 = .ok (.iload_n 1, 1) := by decide +kernel
theorem dX0_dropDoubles_21 : decode cX0_dropDoubles 21 = .ok (.iconst 1, 1) := by decide +kernel
theorem dX0_dropDoubles_22 : decode cX0_dropDoubles 22 = .ok (.isub, 1) := by decide +kernel
theorem dX0_dropDoubles_23 : decode cX0_dropDoubles 23 = .ok (.laload, 1) := by decide +kernel
theorem dX0_dropDoubles_24 : decode cX0_dropDoubles 24 = .ok (.aload_n 0, 1) := by decide +kernel
theorem dX0_dropDoubles_25 : decode cX0_dropDoubles 25 = .ok (.getfield 15, 3) := by decide +kernel
theorem dX0_dropDoubles_28 : decode cX0_dropDoubles 28 = .ok (.iload_n 2, 1) := by decide +kernel
theorem dX0_dropDoubles_29 : decode cX0_dropDoubles 29 = .ok (.laload, 1) := by decide +kernel
theorem dX0_dropDoubles_30 : decode cX0_dropDoubles 30 = .ok (.lcmp, 1) := by decide +kernel
theorem dX0_dropDoubles_31 : decode cX0_dropDoubles 31 = .ok (.ifCond .eq 18, 3) := by decide +kernel
theorem dX0_dropDoubles_34 : decode cX0_dropDoubles 34 = .ok (.aload_n 0, 1) := by decide +kernel
theorem dX0_dropDoubles_35 : decode cX0_dropDoubles 35 = .ok (.getfield 15, 3) := by decide +kernel
theorem dX0_dropDoubles_38 : decode cX0_dropDoubles 38 = .ok (.iload_n 1, 1) := by decide +kernel
theorem dX0_dropDoubles_39 : decode cX0_dropDoubles 39 = .ok (.aload_n 0, 1) := by decide +kernel
theorem dX0_dropDoubles_40 : decode cX0_dropDoubles 40 = .ok (.getfield 15, 3) := by decide +kernel
theorem dX0_dropDoubles_43 : decode cX0_dropDoubles 43 = .ok (.iload_n 2, 1) := by decide +kernel
theorem dX0_dropDoubles_44 : decode cX0_dropDoubles 44 = .ok (.laload, 1) := by decide +kernel
theorem dX0_dropDoubles_45 : decode cX0_dropDoubles 45 = .ok (.lastore, 1) := by decide +kernel
theorem dX0_dropDoubles_46 : decode cX0_dropDoubles 46 = .ok (.iinc 1 1, 3) := by decide +kernel
theorem dX0_dropDoubles_49 : decode cX0_dropDoubles 49 = .ok (.iinc 2 1, 3) := by decide +kernel
theorem dX0_dropDoubles_52 : decode cX0_dropDoubles 52 = .ok (.goto (-48), 3) := by decide +kernel
theorem dX0_dropDoubles_55 : decode cX0_dropDoubles 55 = .ok (.aload_n 0, 1) := by decide +kernel
theorem dX0_dropDoubles_56 : decode cX0_dropDoubles 56 = .ok (.iload_n 1, 1) := by decide +kernel
theorem dX0_dropDoubles_57 : decode cX0_dropDoubles 57 = .ok (.putfield 9, 3) := by decide +kernel
theorem dX0_dropDoubles_60 : decode cX0_dropDoubles 60 = .ok (.return_, 1) := by decide +kernel
theorem dX1_init_0 : decode cX1_init 0 = .ok (.aload_n 0, 1) := by decide +kernel
theorem dX1_init_1 : decode cX1_init 1 = .ok (.invokespecial 3, 3) := by decide +kernel
theorem dX1_init_4 : decode cX1_init 4 = .ok (.aload_n 0, 1) := by decide +kernel
theorem dX1_init_5 : decode cX1_init 5 = .ok (.new 9, 3) := by decide +kernel
theorem dX1_init_8 : decode cX1_init 8 = .ok (.dup, 1) := by decide +kernel
theorem dX1_init_9 : decode cX1_init 9 = .ok (.invokespecial 11, 3) := by decide +kernel
theorem dX1_init_12 : decode cX1_init 12 = .ok (.putfield 12, 3) := by decide +kernel
theorem dX1_init_15 : decode cX1_init 15 = .ok (.aload_n 0, 1) := by decide +kernel
theorem dX1_init_16 : decode cX1_init 16 = .ok (.iconst 0, 1) := by decide +kernel
theorem dX1_init_17 : decode cX1_init 17 = .ok (.putfield 18, 3) := by decide +kernel
theorem dX1_init_20 : decode cX1_init 20 = .ok (.aload_n 0, 1) := by decide +kernel
theorem dX1_init_21 : decode cX1_init 21 = .ok (.iconst 0, 1) := by decide +kernel
theorem dX1_init_22 : decode cX1_init 22 = .ok (.putfield 22, 3) := by decide +kernel
theorem dX1_init_25 : decode cX1_init 25 = .ok (.aload_n 0, 1) := by decide +kernel
theorem dX1_init_26 : decode cX1_init 26 = .ok (.bipush 16, 2) := by decide +kernel
theorem dX1_init_28 : decode cX1_init 28 = .ok (.newarray .int, 2) := by decide +kernel
theorem dX1_init_30 : decode cX1_init 30 = .ok (.putfield 25, 3) := by decide +kernel
theorem dX1_init_33 : decode cX1_init 33 = .ok (.aload_n 0, 1) := by decide +kernel
theorem dX1_init_34 : decode cX1_init 34 = .ok (.bipush 32, 2) := by decide +kernel
theorem dX1_init_36 : decode cX1_init 36 = .ok (.newarray .int, 2) := by decide +kernel
theorem dX1_init_38 : decode cX1_init 38 = .ok (.putfield 29, 3) := by decide +kernel
theorem dX1_init_41 : decode cX1_init 41 = .ok (.aload_n 0, 1) := by decide +kernel
theorem dX1_init_42 : decode cX1_init 42 = .ok (.iconst 0, 1) := by decide +kernel
theorem dX1_init_43 : decode cX1_init 43 = .ok (.putfield 32, 3) := by decide +kernel
theorem dX1_init_46 : decode cX1_init 46 = .ok (.aload_n 0, 1) := by decide +kernel
theorem dX1_init_47 : decode cX1_init 47 = .ok (.bipush 16, 2) := by decide +kernel
theorem dX1_init_49 : decode cX1_init 49 = .ok (.newarray .int, 2) := by decide +kernel
theorem dX1_init_51 : decode cX1_init 51 = .ok (.putfield 35, 3) := by decide +kernel
theorem dX1_init_54 : decode cX1_init 54 = .ok (.aload_n 0, 1) := by decide +kernel
theorem dX1_init_55 : decode cX1_init 55 = .ok (.bipush 16, 2) := by decide +kernel
theorem dX1_init_57 : decode cX1_init 57 = .ok (.newarray .int, 2) := by decide +kernel
theorem dX1_init_59 : decode cX1_init 59 = .ok (.putfield 38, 3) := by decide +kernel
theorem dX1_init_62 : decode cX1_init 62 = .ok (.aload_n 0, 1) := by decide +kernel
theorem dX1_init_63 : decode cX1_init 63 = .ok (.bipush 16, 2) := by decide +kernel
theorem dX1_init_65 : decode cX1_init 65 = .ok (.newarray .int, 2) := by decide +kernel
theorem dX1_init_67 : decode cX1_init 67 = .ok (.putfield 41, 3) := by decide +kernel
theorem dX1_init_70 : decode cX1_init 70 = .ok (.return_, 1) := by decide +kernel
theorem dX1_takeNodes_0 : decode cX1_takeNodes 0 = .ok (.aload_n 0, 1) := by decide +kernel
theorem dX1_takeNodes_1 : decode cX1_takeNodes 1 = .ok (.getfield 12, 3) := by decide +kernel
theorem dX1_takeNodes_4 : decode cX1_takeNodes 4 = .ok (.aload_n 1, 1) := by decide +kernel
theorem dX1_takeNodes_5 : decode cX1_takeNodes 5 = .ok (.getfield 44, 3) := by decide +kernel
theorem dX1_takeNodes_8 : decode cX1_takeNodes 8 = .ok (.invokevirtual 49, 3) := by decide +kernel
theorem dX1_takeNodes_11 : decode cX1_takeNodes 11 = .ok (.aload_n 0, 1) := by decide +kernel
theorem dX1_takeNodes_12 : decode cX1_takeNodes 12 = .ok (.getfield 12, 3) := by decide +kernel
theorem dX1_takeNodes_15 : decode cX1_takeNodes 15 = .ok (.aload_n 1, 1) := by decide +kernel
theorem dX1_takeNodes_16 : decode cX1_takeNodes 16 = .ok (.getfield 44, 3) := by decide +kernel
theorem dX1_takeNodes_19 : decode cX1_takeNodes 19 = .ok (.putfield 53, 3) := by decide +kernel
theorem dX1_takeNodes_22 : decode cX1_takeNodes 22 = .ok (.iconst 0, 1) := by decide +kernel
theorem dX1_takeNodes_23 : decode cX1_takeNodes 23 = .ok (.istore_n 2, 1) := by decide +kernel
theorem dX1_takeNodes_24 : decode cX1_takeNodes 24 = .ok (.iload_n 2, 1) := by decide +kernel
theorem dX1_takeNodes_25 : decode cX1_takeNodes 25 = .ok (.aload_n 1, 1) := by decide +kernel
theorem dX1_takeNodes_26 : decode cX1_takeNodes 26 = .ok (.getfield 44, 3) := by decide +kernel
theorem dX1_takeNodes_29 : decode cX1_takeNodes 29 = .ok (.if_icmp .ge 55, 3) := by decide +kernel
theorem dX1_takeNodes_32 : decode cX1_takeNodes 32 = .ok (.aload_n 0, 1) := by decide +kernel
theorem dX1_takeNodes_33 : decode cX1_takeNodes 33 = .ok (.getfield 12, 3) := by decide +kernel
theorem dX1_takeNodes_36 : decode cX1_takeNodes 36 = .ok (.getfield 54, 3) := by decide +kernel
theorem dX1_takeNodes_39 : decode cX1_takeNodes 39 = .ok (.iload_n 2, 1) := by decide +kernel
theorem dX1_takeNodes_40 : decode cX1_takeNodes 40 = .ok (.aload_n 1, 1) := by decide +kernel
theorem dX1_takeNodes_41 : decode cX1_takeNodes 41 = .ok (.getfield 57, 3) := by decide +kernel
theorem dX1_takeNodes_44 : decode cX1_takeNodes 44 = .ok (.iload_n 2, 1) := by decide +kernel
theorem dX1_takeNodes_45 : decode cX1_takeNodes 45 = .ok (.laload, 1) := by decide +kernel
theorem dX1_takeNodes_46 : decode cX1_takeNodes 46 = .ok (.ldc2_w 61, 3) := by decide +kernel
theorem dX1_takeNodes_49 : decode cX1_takeNodes 49 = .ok (.ldiv, 1) := by decide +kernel
theorem dX1_takeNodes_50 : decode cX1_takeNodes 50 = .ok (.l2i, 1) := by decide +kernel
theorem dX1_takeNodes_51 : decode cX1_takeNodes 51 = .ok (.ldc 63, 2) := by decide +kernel
theorem dX1_takeNodes_53 : decode cX1_takeNodes 53 = .ok (.isub, 1) := by decide +kernel
theorem dX1_takeNodes_54 : decode cX1_takeNodes 54 = .ok (.iastore, 1) := by decide +kernel
theorem dX1_takeNodes_55 : decode cX1_takeNodes 55 = .ok (.aload_n 0, 1) := by decide +kernel
theorem dX1_takeNodes_56 : decode cX1_takeNodes 56 = .ok (.getfield 12, 3) := by decide +kernel
theorem dX1_takeNodes_59 : decode cX1_takeNodes 59 = .ok (.getfield 64, 3) := by decide +kernel
theorem dX1_takeNodes_62 : decode cX1_takeNodes 62 = .ok (.iload_n 2, 1) := by decide +kernel
theorem dX1_takeNodes_63 : decode cX1_takeNodes 63 = .ok (.aload_n 1, 1) := by decide +kernel
theorem dX1_takeNodes_64 : decode cX1_takeNodes 64 = .ok (.getfield 57, 3) := by decide +kernel
theorem dX1_takeNodes_67 : decode cX1_takeNodes 67 = .ok (.iload_n 2, 1) := by decide +kernel
theorem dX1_takeNodes_68 : decode cX1_takeNodes 68 = .ok (.laload, 1) := by decide +kernel
theorem dX1_takeNodes_69 : decode cX1_takeNodes 69 = .ok (.ldc2_w 61, 3) := by decide +kernel
theorem dX1_takeNodes_72 : decode cX1_takeNodes 72 = .ok (.lrem, 1) := by decide +kernel
theorem dX1_takeNodes_73 : decode cX1_takeNodes 73 = .ok (.l2i, 1) := by decide +kernel
theorem dX1_takeNodes_74 : decode cX1_takeNodes 74 = .ok (.ldc 63, 2) := by decide +kernel
theorem dX1_takeNodes_76 : decode cX1_takeNodes 76 = .ok (.isub, 1) := by decide +kernel
theorem dX1_takeNodes_77 : decode cX1_takeNodes 77 = .ok (.iastore, 1) := by decide +kernel
theorem dX1_takeNodes_78 : decode cX1_takeNodes 78 = .ok (.iinc 2 1, 3) := by decide +kernel
theorem dX1_takeNodes_81 : decode cX1_takeNodes 81 = .ok (.goto (-57), 3) := by decide +kernel
theorem dX1_takeNodes_84 : decode cX1_takeNodes 84 = .ok (.return_, 1) := by decide +kernel
theorem dX1_takeWays_0 : decode cX1_takeWays 0 = .ok (.aload_n 0, 1) := by decide +kernel
theorem dX1_takeWays_1 : decode cX1_takeWays 1 = .ok (.iconst 0, 1) := by decide +kernel
theorem dX1_takeWays_2 : decode cX1_takeWays 2 = .ok (.putfield 18, 3) := by decide +kernel
theorem dX1_takeWays_5 : decode cX1_takeWays 5 = .ok (.aload_n 0, 1) := by decide +kernel
theorem dX1_takeWays_6 : decode cX1_takeWays 6 = .ok (.iconst 0, 1) := by decide +kernel
theorem dX1_takeWays_7 : decode cX1_takeWays 7 = .ok (.putfield 22, 3) := by decide +kernel
theorem dX1_takeWays_10 : decode cX1_takeWays 10 = .ok (.aload_n 0, 1) := by decide +kernel
theorem dX1_takeWays_11 : decode cX1_takeWays 11 = .ok (.aload_n 0, 1) := by decide +kernel
theorem dX1_takeWays_12 : decode cX1_takeWays 12 = .ok (.getfield 25, 3) := by decide +kernel
theorem dX1_takeWays_15 : decode cX1_takeWays 15 = .ok (.aload_n 1, 1) := by decide +kernel
theorem dX1_takeWays_16 : decode cX1_takeWays 16 = .ok (.getfield 53, 3) := by decide +kernel
theorem dX1_takeWays_19 : decode cX1_takeWays 19 = .ok (.iconst 1, 1) := by decide +kernel
theorem dX1_takeWays_20 : decode cX1_takeWays 20 = .ok (.iadd, 1) := by decide +kernel
theorem dX1_takeWays_21 : decode cX1_takeWays 21 = .ok (.invokestatic 67, 3) := by decide +kernel
theorem dX1_takeWays_24 : decode cX1_takeWays 24 = .ok (.putfield 25, 3) := by decide +kernel
theorem dX1_takeWays_27 : decode cX1_takeWays 27 = .ok (.aload_n 0, 1) := by decide +kernel
theorem dX1_takeWays_28 : decode cX1_takeWays 28 = .ok (.getfield 25, 3) := by decide +kernel
theorem dX1_takeWays_31 : decode cX1_takeWays 31 = .ok (.iconst 0, 1) := by decide +kernel
theorem dX1_takeWays_32 : decode cX1_takeWays 32 = .ok (.iconst 0, 1) := by decide +kernel
theorem dX1_takeWays_33 : decode cX1_takeWays 33 = .ok (.iastore, 1) := by decide +kernel
theorem dX1_takeWays_34 : decode cX1_takeWays 34 = .ok (.iconst 1, 1) := by decide +kernel
theorem dX1_takeWays_35 : decode cX1_takeWays 35 = .ok (.istore_n 3, 1) := by decide +kernel
theorem dX1_takeWays_36 : decode cX1_takeWays 36 = .ok (.iconst 0, 1) := by decide +kernel
theorem dX1_takeWays_37 : decode cX1_takeWays 37 = .ok (.istore 4, 2) := by decide +kernel
theorem dX1_takeWays_39 : decode cX1_takeWays 39 = .ok (.iload_n 3, 1) := by decide +kernel
theorem dX1_takeWays_40 : decode cX1_takeWays 40 = .ok (.ifCond .eq 51, 3) := by decide +kernel
theorem dX1_takeWays_43 : decode cX1_takeWays 43 = .ok (.iload 4, 2) := by decide +kernel
theorem dX1_takeWays_45 : decode cX1_takeWays 45 = .ok (.aload_n 1, 1) := by decide +kernel
theorem dX1_takeWays_46 : decode cX1_takeWays 46 = .ok (.getfield 53, 3) := by decide +kernel
theorem dX1_takeWays_49 : decode cX1_takeWays 49 = .ok (.if_icmp .ge 42, 3) := by decide +kernel
theorem dX1_takeWays_52 : decode cX1_takeWays 52 = .ok (.aload_n 0, 1) := by decide +kernel
theorem dX1_takeWays_53 : decode cX1_takeWays 53 = .ok (.aload_n 1, 1) := by decide +kernel
theorem dX1_takeWays_54 : decode cX1_takeWays 54 = .ok (.getfield 54, 3) := by decide +kernel
theorem dX1_takeWays_57 : decode cX1_takeWays 57 = .ok (.iload 4, 2) := by decide +kernel
theorem dX1_takeWays_59 : decode cX1_takeWays 59 = .ok (.iaload, 1) := by decide +kernel
theorem dX1_takeWays_60 : decode cX1_takeWays 60 = .ok (.aload_n 1, 1) := by decide +kernel
theorem dX1_takeWays_61 : decode cX1_takeWays 61 = .ok (.getfield 64, 3) := by decide +kernel
theorem dX1_takeWays_64 : decode cX1_takeWays 64 = .ok (.iload 4, 2) := by decide +kernel
theorem dX1_takeWays_66 : decode cX1_takeWays 66 = .ok (.iaload, 1) := by decide +kernel
theorem dX1_takeWays_67 : decode cX1_takeWays 67 = .ok (.aload_n 2, 1) := by decide +kernel
theorem dX1_takeWays_68 : decode cX1_takeWays 68 = .ok (.getfield 54, 3) := by decide +kernel
theorem dX1_takeWays_71 : decode cX1_takeWays 71 = .ok (.iload 4, 2) := by decide +kernel
theorem dX1_takeWays_73 : decode cX1_takeWays 73 = .ok (.iaload, 1) := by decide +kernel
theorem dX1_takeWays_74 : decode cX1_takeWays 74 = .ok (.aload_n 2, 1) := by decide +kernel
theorem dX1_takeWays_75 : decode cX1_takeWays 75 = .ok (.getfield 64, 3) := by decide +kernel
theorem dX1_takeWays_78 : decode cX1_takeWays 78 = .ok (.iload 4, 2) := by decide +kernel
theorem dX1_takeWays_80 : decode cX1_takeWays 80 = .ok (.iaload, 1) := by decide +kernel
theorem dX1_takeWays_81 : decode cX1_takeWays 81 = .ok (.invokevirtual 71, 3) := by decide +kernel
theorem dX1_takeWays_84 : decode cX1_takeWays 84 = .ok (.istore_n 3, 1) := by decide +kernel
theorem dX1_takeWays_85 : decode cX1_takeWays 85 = .ok (.iinc 4 1, 3) := by decide +kernel
theorem dX1_takeWays_88 : decode cX1_takeWays 88 = .ok (.goto (-49), 3) := by decide +kernel
theorem dX1_takeWays_91 : decode cX1_takeWays 91 = .ok (.iload_n 3, 1) := by decide +kernel
theorem dX1_takeWays_92 : decode cX1_takeWays 92 = .ok (.ireturn, 1) := by decide +kernel
theorem dX1_takeWay_0 : decode cX1_takeWay 0 = .ok (.aload_n 0, 1) := by decide +kernel
theorem dX1_takeWay_1 : decode cX1_takeWay 1 = .ok (.getfield 22, 3) := by decide +kernel
theorem dX1_takeWay_4 : decode cX1_takeWay 4 = .ok (.istore 5, 2) := by decide +kernel
theorem dX1_takeWay_6 : decode cX1_takeWay 6 = .ok (.aload_n 0, 1) := by decide +kernel
theorem dX1_takeWay_7 : decode cX1_takeWay 7 = .ok (.iload_n 1, 1) := by decide +kernel
theorem dX1_takeWay_8 : decode cX1_takeWay 8 = .ok (.iload_n 2, 1) := by decide +kernel
theorem dX1_takeWay_9 : decode cX1_takeWay 9 = .ok (.iload_n 3, 1) := by decide +kernel
theorem dX1_takeWay_10 : decode cX1_takeWay 10 = .ok (.iload 4, 2) := by decide +kernel
theorem dX1_takeWay_12 : decode cX1_takeWay 12 = .ok (.invokevirtual 75, 3) := by decide +kernel
theorem dX1_takeWay_15 : decode cX1_takeWay 15 = .ok (.ifCond .ne 5, 3) := by decide +kernel
theorem dX1_takeWay_18 : decode cX1_takeWay 18 = .ok (.iconst 0, 1) := by decide +kernel
theorem dX1_takeWay_19 : decode cX1_takeWay 19 = .ok (.ireturn, 1) := by decide +kernel
theorem dX1_takeWay_20 : decode cX1_takeWay 20 = .ok (.iload_n 1, 1) := by decide +kernel
theorem dX1_takeWay_21 : decode cX1_takeWay 21 = .ok (.iload_n 3, 1) := by decide +kernel
theorem dX1_takeWay_22 : decode cX1_takeWay 22 = .ok (.if_icmp .ge 9, 3) := by decide +kernel
theorem dX1_takeWay_25 : decode cX1_takeWay 25 = .ok (.iload_n 2, 1) := by decide +kernel
theorem dX1_takeWay_26 : decode cX1_takeWay 26 = .ok (.iload 4, 2) := by decide +kernel
theorem dX1_takeWay_28 : decode cX1_takeWay 28 = .ok (.if_icmp .gt 14, 3) := by decide +kernel
theorem dX1_takeWay_31 : decode cX1_takeWay 31 = .ok (.iload_n 1, 1) := by decide +kernel
theorem dX1_takeWay_32 : decode cX1_takeWay 32 = .ok (.iload_n 3, 1) := by decide +kernel
theorem dX1_takeWay_33 : decode cX1_takeWay 33 = .ok (.if_icmp .le 15, 3) := by decide +kernel
theorem dX1_takeWay_36 : decode cX1_takeWay 36 = .ok (.iload_n 2, 1) := by decide +kernel
theorem dX1_takeWay_37 : decode cX1_takeWay 37 = .ok (.iload 4, 2) := by decide +kernel
theorem dX1_takeWay_39 : decode cX1_takeWay 39 = .ok (.if_icmp .ge 9, 3) := by decide +kernel
theorem dX1_takeWay_42 : decode cX1_takeWay 42 = .ok (.aload_n 0, 1) := by decide +kernel
theorem dX1_takeWay_43 : decode cX1_takeWay 43 = .ok (.iload 5, 2) := by decide +kernel
theorem dX1_takeWay_45 : decode cX1_takeWay 45 = .ok (.invokevirtual 78, 3) := by decide +kernel
theorem dX1_takeWay_48 : decode cX1_takeWay 48 = .ok (.iload_n 1, 1) := by decide +kernel
theorem dX1_takeWay_49 : decode cX1_takeWay 49 = .ok (.iload_n 3, 1) := by decide +kernel
theorem dX1_takeWay_50 : decode cX1_takeWay 50 = .ok (.if_icmp .gt 14, 3) := by decide +kernel
theorem dX1_takeWay_53 : decode cX1_takeWay 53 = .ok (.iload_n 1, 1) := by decide +kernel
theorem dX1_takeWay_54 : decode cX1_takeWay 54 = .ok (.iload_n 3, 1) := by decide +kernel
theorem dX1_takeWay_55 : decode cX1_takeWay 55 = .ok (.if_icmp .ne 19, 3) := by decide +kernel
theorem dX1_takeWay_58 : decode cX1_takeWay 58 = .ok (.iload_n 2, 1) := by decide +kernel
theorem dX1_takeWay_59 : decode cX1_takeWay 59 = .ok (.iload 4, 2) := by decide +kernel
theorem dX1_takeWay_61 : decode cX1_takeWay 61 = .ok (.if_icmp .le 13, 3) := by decide +kernel
theorem dX1_takeWay_64 : decode cX1_takeWay 64 = .ok (.aload_n 0, 1) := by decide +kernel
theorem dX1_takeWay_65 : decode cX1_takeWay 65 = .ok (.iload 5, 2) := by decide +kernel
theorem dX1_takeWay_67 : decode cX1_takeWay 67 = .ok (.aload_n 0, 1) := by decide +kernel
theorem dX1_takeWay_68 : decode cX1_takeWay 68 = .ok (.getfield 22, 3) := by decide +kernel
theorem dX1_takeWay_71 : decode cX1_takeWay 71 = .ok (.invokevirtual 81, 3) := by decide +kernel
theorem dX1_takeWay_74 : decode cX1_takeWay 74 = .ok (.aload_n 0, 1) := by decide +kernel
theorem dX1_takeWay_75 : decode cX1_takeWay 75 = .ok (.dup, 1) := by decide +kernel
theorem dX1_takeWay_76 : decode cX1_takeWay 76 = .ok (.getfield 18, 3) := by decide +kernel
theorem dX1_takeWay_79 : decode cX1_takeWay 79 = .ok (.iconst 1, 1) := by decide +kernel
theorem dX1_takeWay_80 : decode cX1_takeWay 80 = .ok (.iadd, 1) := by decide +kernel
theorem dX1_takeWay_81 : decode cX1_takeWay 81 = .ok (.putfield 18, 3) := by decide +kernel
theorem dX1_takeWay_84 : decode cX1_takeWay 84 = .ok (.aload_n 0, 1) := by decide +kernel
theorem dX1_takeWay_85 : decode cX1_takeWay 85 = .ok (.getfield 25, 3) := by decide +kernel
theorem dX1_takeWay_88 : decode cX1_takeWay 88 = .ok (.aload_n 0, 1) := by decide +kernel
theorem dX1_takeWay_89 : decode cX1_takeWay 89 = .ok (.getfield 18, 3) := by decide +kernel
theorem dX1_takeWay_92 : decode cX1_takeWay 92 = .ok (.aload_n 0, 1) := by decide +kernel
theorem dX1_takeWay_93 : decode cX1_takeWay 93 = .ok (.getfield 22, 3) := by decide +kernel
theorem dX1_takeWay_96 : decode cX1_takeWay 96 = .ok (.iastore, 1) := by decide +kernel
theorem dX1_takeWay_97 : decode cX1_takeWay 97 = .ok (.iconst 1, 1) := by decide +kernel
theorem dX1_takeWay_98 : decode cX1_takeWay 98 = .ok (.ireturn, 1) := by decide +kernel
theorem dX1_gatherCells_0 : decode cX1_gatherCells 0 = .ok (.iload_n 3, 1) := by decide +kernel
theorem dX1_gatherCells_1 : decode cX1_gatherCells 1 = .ok (.iload_n 1, 1) := by decide +kernel
theorem dX1_gatherCells_2 : decode cX1_gatherCells 2 = .ok (.isub, 1) := by decide +kernel
theorem dX1_gatherCells_3 : decode cX1_gatherCells 3 = .ok (.i2l, 1) := by decide +kernel
theorem dX1_gatherCells_4 : decode cX1_gatherCells 4 = .ok (.lstore 5, 2) := by decide +kernel
theorem dX1_gatherCells_6 : decode cX1_gatherCells 6 = .ok (.iload 4, 2) := by decide +kernel
theorem dX1_gatherCells_8 : decode cX1_gatherCells 8 = .ok (.iload_n 2, 1) := by decide +kernel
theorem dX1_gatherCells_9 : decode cX1_gatherCells 9 = .ok (.isub, 1) := by decide +kernel
theorem dX1_gatherCells_10 : decode cX1_gatherCells 10 = .ok (.i2l, 1) := by decide +kernel
theorem dX1_gatherCells_11 : decode cX1_gatherCells 11 = .ok (.lstore 7, 2) := by decide +kernel
theorem dX1_gatherCells_13 : decode cX1_gatherCells 13 = .ok (.lload 5, 2) := by decide +kernel
theorem dX1_gatherCells_15 : decode cX1_gatherCells 15 = .ok (.invokestatic 85, 3) := by decide +kernel
theorem dX1_gatherCells_18 : decode cX1_gatherCells 18 = .ok (.lload 7, 2) := by decide +kernel
theorem dX1_gatherCells_20 : decode cX1_gatherCells 20 = .ok (.invokestatic 85, 3) := by decide +kernel
theorem dX1_gatherCells_23 : decode cX1_gatherCells 23 = .ok (.ladd, 1) := by decide +kernel
theorem dX1_gatherCells_24 : decode cX1_gatherCells 24 = .ok (.lstore 9, 2) := by decide +kernel
theorem dX1_gatherCells_26 : decode cX1_gatherCells 26 = .ok (.iload_n 1, 1) := by decide +kernel
theorem dX1_gatherCells_27 : decode cX1_gatherCells 27 = .ok (.iload_n 3, 1) := by decide +kernel
theorem dX1_gatherCells_28 : decode cX1_gatherCells 28 = .ok (.invokestatic 91, 3) := by decide +kernel
theorem dX1_gatherCells_31 : decode cX1_gatherCells 31 = .ok (.istore 11, 2) := by decide +kernel
theorem dX1_gatherCells_33 : decode cX1_gatherCells 33 = .ok (.iload_n 2, 1) := by decide +kernel
theorem dX1_gatherCells_34 : decode cX1_gatherCells 34 = .ok (.iload 4, 2) := by decide +kernel
theorem dX1_gatherCells_36 : decode cX1_gatherCells 36 = .ok (.invokestatic 95, 3) := by decide +kernel
theorem dX1_gatherCells_39 : decode cX1_gatherCells 39 = .ok (.istore 12, 2) := by decide +kernel
theorem dX1_gatherCells_41 : decode cX1_gatherCells 41 = .ok (.iload_n 2, 1) := by decide +kernel
theorem dX1_gatherCells_42 : decode cX1_gatherCells 42 = .ok (.iload 4, 2) := by decide +kernel
theorem dX1_gatherCells_44 : decode cX1_gatherCells 44 = .ok (.invokestatic 91, 3) := by decide +kernel
theorem dX1_gatherCells_47 : decode cX1_gatherCells 47 = .ok (.istore 13, 2) := by decide +kernel
theorem dX1_gatherCells_49 : decode cX1_gatherCells 49 = .ok (.aload_n 0, 1) := by decide +kernel
theorem dX1_gatherCells_50 : decode cX1_gatherCells 50 = .ok (.getfield 12, 3) := by decide +kernel
theorem dX1_gatherCells_53 : decode cX1_gatherCells 53 = .ok (.iload_n 1, 1) := by decide +kernel
theorem dX1_gatherCells_54 : decode cX1_gatherCells 54 = .ok (.iload_n 3, 1) := by decide +kernel
theorem dX1_gatherCells_55 : decode cX1_gatherCells 55 = .ok (.invokestatic 95, 3) := by decide +kernel
theorem dX1_gatherCells_58 : decode cX1_gatherCells 58 = .ok (.iload 12, 2) := by decide +kernel
theorem dX1_gatherCells_60 : decode cX1_gatherCells 60 = .ok (.invokevirtual 98, 3) := by decide +kernel
theorem dX1_gatherCells_63 : decode cX1_gatherCells 63 = .ok (.istore 14, 2) := by decide +kernel
theorem dX1_gatherCells_65 : decode cX1_gatherCells 65 = .ok (.iload 14, 2) := by decide +kernel
theorem dX1_gatherCells_67 : decode cX1_gatherCells 67 = .ok (.aload_n 0, 1) := by decide +kernel
theorem dX1_gatherCells_68 : decode cX1_gatherCells 68 = .ok (.getfield 12, 3) := by decide +kernel
theorem dX1_gatherCells_71 : decode cX1_gatherCells 71 = .ok (.getfield 53, 3) := by decide +kernel
theorem dX1_gatherCells_74 : decode cX1_gatherCells 74 = .ok (.if_icmp .ge 129, 3) := by decide +kernel
theorem dX1_gatherCells_77 : decode cX1_gatherCells 77 = .ok (.aload_n 0, 1) := by decide +kernel
theorem dX1_gatherCells_78 : decode cX1_gatherCells 78 = .ok (.getfield 12, 3) := by decide +kernel
theorem dX1_gatherCells_81 : decode cX1_gatherCells 81 = .ok (.getfield 54, 3) := by decide +kernel
theorem dX1_gatherCells_84 : decode cX1_gatherCells 84 = .ok (.iload 14, 2) := by decide +kernel
theorem dX1_gatherCells_86 : decode cX1_gatherCells 86 = .ok (.iaload, 1) := by decide +kernel
theorem dX1_gatherCells_87 : decode cX1_gatherCells 87 = .ok (.iload 11, 2) := by decide +kernel
theorem dX1_gatherCells_89 : decode cX1_gatherCells 89 = .ok (.if_icmp .gt 114, 3) := by decide +kernel
theorem dX1_gatherCells_92 : decode cX1_gatherCells 92 = .ok (.aload_n 0, 1) := by decide +kernel
theorem dX1_gatherCells_93 : decode cX1_gatherCells 93 = .ok (.getfield 12, 3) := by decide +kernel
theorem dX1_gatherCells_96 : decode cX1_gatherCells 96 = .ok (.getfield 64, 3) := by decide +kernel
theorem dX1_gatherCells_99 : decode cX1_gatherCells 99 = .ok (.iload 14, 2) := by decide +kernel
theorem dX1_gatherCells_101 : decode cX1_gatherCells 101 = .ok (.iaload, 1) := by decide +kernel
theorem dX1_gatherCells_102 : decode cX1_gatherCells 102 = .ok (.istore 15, 2) := by decide +kernel
theorem dX1_gatherCells_104 : decode cX1_gatherCells 104 = .ok (.iload 15, 2) := by decide +kernel
theorem dX1_gatherCells_106 : decode cX1_gatherCells 106 = .ok (.iload 12, 2) := by decide +kernel
theorem dX1_gatherCells_108 : decode cX1_gatherCells 108 = .ok (.if_icmp .lt 89, 3) := by decide +kernel
theorem dX1_gatherCells_111 : decode cX1_gatherCells 111 = .ok (.iload 15, 2) := by decide +kernel
theorem dX1_gatherCells_113 : decode cX1_gatherCells 113 = .ok (.iload 13, 2) := by decide +kernel
theorem dX1_gatherCells_115 : decode cX1_gatherCells 115 = .ok (.if_icmp .le 6, 3) := by decide +kernel
theorem dX1_gatherCells_118 : decode cX1_gatherCells 118 = .ok (.goto 79, 3) := by decide +kernel
theorem dX1_gatherCells_121 : decode cX1_gatherCells 121 = .ok (.ldc2_w 101, 3) := by decide +kernel
theorem dX1_gatherCells_124 : decode cX1_gatherCells 124 = .ok (.lload 5, 2) := by decide +kernel
theorem dX1_gatherCells_126 : decode cX1_gatherCells 126 = .ok (.iload 15, 2) := by decide +kernel
theorem dX1_gatherCells_128 : decode cX1_gatherCells 128 = .ok (.iload_n 2, 1) := by decide +kernel
theorem dX1_gatherCells_129 : decode cX1_gatherCells 129 = .ok (.isub, 1) := by decide +kernel
theorem dX1_gatherCells_130 : decode cX1_gatherCells 130 = .ok (.i2l, 1) := by decide +kernel
theorem dX1_gatherCells_131 : decode cX1_gatherCells 131 = .ok (.lmul, 1) := by decide +kernel
theorem dX1_gatherCells_132 : decode cX1_gatherCells 132 = .ok (.lload 7, 2) := by decide +kernel
theorem dX1_gatherCells_134 : decode cX1_gatherCells 134 = .ok (.aload_n 0, 1) := by decide +kernel
theorem dX1_gatherCells_135 : decode cX1_gatherCells 135 = .ok (.getfield 12, 3) := by decide +kernel
theorem dX1_gatherCells_138 : decode cX1_gatherCells 138 = .ok (.getfield 54, 3) := by decide +kernel
theorem dX1_gatherCells_141 : decode cX1_gatherCells 141 = .ok (.iload 14, 2) := by decide +kernel
theorem dX1_gatherCells_143 : decode cX1_gatherCells 143 = .ok (.iaload, 1) := by decide +kernel
theorem dX1_gatherCells_144 : decode cX1_gatherCells 144 = .ok (.iload_n 1, 1) := by decide +kernel
theorem dX1_gatherCells_145 : decode cX1_gatherCells 145 = .ok (.isub, 1) := by decide +kernel
theorem dX1_gatherCells_146 : decode cX1_gatherCells 146 = .ok (.i2l, 1) := by decide +kernel
theorem dX1_gatherCells_147 : decode cX1_gatherCells 147 = .ok (.lmul, 1) := by decide +kernel
theorem dX1_gatherCells_148 : decode cX1_gatherCells 148 = .ok (.lsub, 1) := by decide +kernel
theorem dX1_gatherCells_149 : decode cX1_gatherCells 149 = .ok (.lmul, 1) := by decide +kernel
theorem dX1_gatherCells_150 : decode cX1_gatherCells 150 = .ok (.lstore 16, 2) := by decide +kernel
theorem dX1_gatherCells_152 : decode cX1_gatherCells 152 = .ok (.lload 16, 2) := by decide +kernel
theorem dX1_gatherCells_154 : decode cX1_gatherCells 154 = .ok (.invokestatic 85, 3) := by decide +kernel
theorem dX1_gatherCells_157 : decode cX1_gatherCells 157 = .ok (.lload 9, 2) := by decide +kernel
theorem dX1_gatherCells_159 : decode cX1_gatherCells 159 = .ok (.lcmp, 1) := by decide +kernel
theorem dX1_gatherCells_160 : decode cX1_gatherCells 160 = .ok (.ifCond .lt 14, 3) := by decide +kernel
theorem dX1_gatherCells_163 : decode cX1_gatherCells 163 = .ok (.lload 16, 2) := by decide +kernel
theorem dX1_gatherCells_165 : decode cX1_gatherCells 165 = .ok (.lload 5, 2) := by decide +kernel
theorem dX1_gatherCells_167 : decode cX1_gatherCells 167 = .ok (.lload 7, 2) := by decide +kernel
theorem dX1_gatherCells_169 : decode cX1_gatherCells 169 = .ok (.lsub, 1) := by decide +kernel
theorem dX1_gatherCells_170 : decode cX1_gatherCells 170 = .ok (.lcmp, 1) := by decide +kernel
theorem dX1_gatherCells_171 : decode cX1_gatherCells 171 = .ok (.ifCond .ne 7, 3) := by decide +kernel
theorem dX1_gatherCells_174 : decode cX1_gatherCells 174 = .ok (.iconst 1, 1) := by decide +kernel
theorem dX1_gatherCells_175 : decode cX1_gatherCells 175 = .ok (.goto 4, 3) := by decide +kernel
theorem dX1_gatherCells_178 : decode cX1_gatherCells 178 = .ok (.iconst 0, 1) := by decide +kernel
theorem dX1_gatherCells_179 : decode cX1_gatherCells 179 = .ok (.istore 18, 2) := by decide +kernel
theorem dX1_gatherCells_181 : decode cX1_gatherCells 181 = .ok (.iload 18, 2) := by decide +kernel
theorem dX1_gatherCells_183 : decode cX1_gatherCells 183 = .ok (.ifCond .eq 14, 3) := by decide +kernel
theorem dX1_gatherCells_186 : decode cX1_gatherCells 186 = .ok (.aload_n 0, 1) := by decide +kernel
theorem dX1_gatherCells_187 : decode cX1_gatherCells 187 = .ok (.iload 14, 2) := by decide +kernel
theorem dX1_gatherCells_189 : decode cX1_gatherCells 189 = .ok (.invokevirtual 103, 3) := by decide +kernel
theorem dX1_gatherCells_192 : decode cX1_gatherCells 192 = .ok (.ifCond .ne 5, 3) := by decide +kernel
theorem dX1_gatherCells_195 : decode cX1_gatherCells 195 = .ok (.iconst 0, 1) := by decide +kernel
theorem dX1_gatherCells_196 : decode cX1_gatherCells 196 = .ok (.ireturn, 1) := by decide +kernel
theorem dX1_gatherCells_197 : decode cX1_gatherCells 197 = .ok (.iinc 14 1, 3) := by decide +kernel
theorem dX1_gatherCells_200 : decode cX1_gatherCells 200 = .ok (.goto (-135), 3) := by decide +kernel
theorem dX1_gatherCells_203 : decode cX1_gatherCells 203 = .ok (.iconst 1, 1) := by decide +kernel
theorem dX1_gatherCells_204 : decode cX1_gatherCells 204 = .ok (.ireturn, 1) := by decide +kernel
theorem dX1_addToWay_0 : decode cX1_addToWay 0 = .ok (.aload_n 0, 1) := by decide +kernel
theorem dX1_addToWay_1 : decode cX1_addToWay 1 = .ok (.getfield 22, 3) := by decide +kernel
theorem dX1_addToWay_4 : decode cX1_addToWay 4 = .ok (.aload_n 0, 1) := by decide +kernel
theorem dX1_addToWay_5 : decode cX1_addToWay 5 = .ok (.getfield 18, 3) := by decide +kernel
theorem dX1_addToWay_8 : decode cX1_addToWay 8 = .ok (.isub, 1) := by decide +kernel
theorem dX1_addToWay_9 : decode cX1_addToWay 9 = .ok (.sipush 20000, 3) := by decide +kernel
theorem dX1_addToWay_12 : decode cX1_addToWay 12 = .ok (.if_icmp .le 5, 3) := by decide +kernel
theorem dX1_addToWay_15 : decode cX1_addToWay 15 = .ok (.iconst 0, 1) := by decide +kernel
theorem dX1_addToWay_16 : decode cX1_addToWay 16 = .ok (.ireturn, 1) := by decide +kernel
theorem dX1_addToWay_17 : decode cX1_addToWay 17 = .ok (.aload_n 0, 1) := by decide +kernel
theorem dX1_addToWay_18 : decode cX1_addToWay 18 = .ok (.aload_n 0, 1) := by decide +kernel
theorem dX1_addToWay_19 : decode cX1_addToWay 19 = .ok (.getfield 29, 3) := by decide +kernel
theorem dX1_addToWay_22 : decode cX1_addToWay 22 = .ok (.aload_n 0, 1) := by decide +kernel
theorem dX1_addToWay_23 : decode cX1_addToWay 23 = .ok (.getfield 22, 3) := by decide +kernel
theorem dX1_addToWay_26 : decode cX1_addToWay 26 = .ok (.iconst 1, 1) := by decide +kernel
theorem dX1_addToWay_27 : decode cX1_addToWay 27 = .ok (.iadd, 1) := by decide +kernel
theorem dX1_addToWay_28 : decode cX1_addToWay 28 = .ok (.invokestatic 67, 3) := by decide +kernel
theorem dX1_addToWay_31 : decode cX1_addToWay 31 = .ok (.putfield 29, 3) := by decide +kernel
theorem dX1_addToWay_34 : decode cX1_addToWay 34 = .ok (.aload_n 0, 1) := by decide +kernel
theorem dX1_addToWay_35 : decode cX1_addToWay 35 = .ok (.getfield 29, 3) := by decide +kernel
theorem dX1_addToWay_38 : decode cX1_addToWay 38 = .ok (.aload_n 0, 1) := by decide +kernel
theorem dX1_addToWay_39 : decode cX1_addToWay 39 = .ok (.getfield 22, 3) := by decide +kernel
theorem dX1_addToWay_42 : decode cX1_addToWay 42 = .ok (.iload_n 1, 1) := by decide +kernel
theorem dX1_addToWay_43 : decode cX1_addToWay 43 = .ok (.iastore, 1) := by decide +kernel
theorem dX1_addToWay_44 : decode cX1_addToWay 44 = .ok (.aload_n 0, 1) := by decide +kernel
theorem dX1_addToWay_45 : decode cX1_addToWay 45 = .ok (.dup, 1) := by decide +kernel
theorem dX1_addToWay_46 : decode cX1_addToWay 46 = .ok (.getfield 22, 3) := by decide +kernel
theorem dX1_addToWay_49 : decode cX1_addToWay 49 = .ok (.iconst 1, 1) := by decide +kernel
theorem dX1_addToWay_50 : decode cX1_addToWay 50 = .ok (.iadd, 1) := by decide +kernel
theorem dX1_addToWay_51 : decode cX1_addToWay 51 = .ok (.putfield 22, 3) := by decide +kernel
theorem dX1_addToWay_54 : decode cX1_addToWay 54 = .ok (.iconst 1, 1) := by decide +kernel
theorem dX1_addToWay_55 : decode cX1_addToWay 55 = .ok (.ireturn, 1) := by decide +kernel
theorem dX1_turnColumns_0 : decode cX1_turnColumns 0 = .ok (.iload_n 1, 1) := by decide +kernel
theorem dX1_turnColumns_1 : decode cX1_turnColumns 1 = .ok (.istore_n 2, 1) := by decide +kernel
theorem dX1_turnColumns_2 : decode cX1_turnColumns 2 = .ok (.iload_n 1, 1) := by decide +kernel
theorem dX1_turnColumns_3 : decode cX1_turnColumns 3 = .ok (.iconst 1, 1) := by decide +kernel
theorem dX1_turnColumns_4 : decode cX1_turnColumns 4 = .ok (.iadd, 1) := by decide +kernel
theorem dX1_turnColumns_5 : decode cX1_turnColumns 5 = .ok (.istore_n 3, 1) := by decide +kernel
theorem dX1_turnColumns_6 : decode cX1_turnColumns 6 = .ok (.iload_n 3, 1) := by decide +kernel
theorem dX1_turnColumns_7 : decode cX1_turnColumns 7 = .ok (.aload_n 0, 1) := by decide +kernel
theorem dX1_turnColumns_8 : decode cX1_turnColumns 8 = .ok (.getfield 22, 3) := by decide +kernel
theorem dX1_turnColumns_11 : decode cX1_turnColumns 11 = .ok (.if_icmp .gt 56, 3) := by decide +kernel
theorem dX1_turnColumns_14 : decode cX1_turnColumns 14 = .ok (.iload_n 3, 1) := by decide +kernel
theorem dX1_turnColumns_15 : decode cX1_turnColumns 15 = .ok (.aload_n 0, 1) := by decide +kernel
theorem dX1_turnColumns_16 : decode cX1_turnColumns 16 = .ok (.getfield 22, 3) := by decide +kernel
theorem dX1_turnColumns_19 : decode cX1_turnColumns 19 = .ok (.if_icmp .eq 34, 3) := by decide +kernel
theorem dX1_turnColumns_22 : decode cX1_turnColumns 22 = .ok (.aload_n 0, 1) := by decide +kernel
theorem dX1_turnColumns_23 : decode cX1_turnColumns 23 = .ok (.getfield 12, 3) := by decide +kernel
theorem dX1_turnColumns_26 : decode cX1_turnColumns 26 = .ok (.getfield 54, 3) := by decide +kernel
theorem dX1_turnColumns_29 : decode cX1_turnColumns 29 = .ok (.aload_n 0, 1) := by decide +kernel
theorem dX1_turnColumns_30 : decode cX1_turnColumns 30 = .ok (.getfield 29, 3) := by decide +kernel
theorem dX1_turnColumns_33 : decode cX1_turnColumns 33 = .ok (.iload_n 3, 1) := by decide +kernel
theorem dX1_turnColumns_34 : decode cX1_turnColumns 34 = .ok (.iaload, 1) := by decide +kernel
theorem dX1_turnColumns_35 : decode cX1_turnColumns 35 = .ok (.iaload, 1) := by decide +kernel
theorem dX1_turnColumns_36 : decode cX1_turnColumns 36 = .ok (.aload_n 0, 1) := by decide +kernel
theorem dX1_turnColumns_37 : decode cX1_turnColumns 37 = .ok (.getfield 12, 3) := by decide +kernel
theorem dX1_turnColumns_40 : decode cX1_turnColumns 40 = .ok (.getfield 54, 3) := by decide +kernel
theorem dX1_turnColumns_43 : decode cX1_turnColumns 43 = .ok (.aload_n 0, 1) := by decide +kernel
theorem dX1_turnColumns_44 : decode cX1_turnColumns 44 = .ok (.getfield 29, 3) := by decide +kernel
theorem dX1_turnColumns_47 : decode cX1_turnColumns 47 = .ok (.iload_n 2, 1) := by decide +kernel
theorem dX1_turnColumns_48 : decode cX1_turnColumns 48 = .ok (.iaload, 1) := by decide +kernel
theorem dX1_turnColumns_49 : decode cX1_turnColumns 49 = .ok (.iaload, 1) := by decide +kernel
theorem dX1_turnColumns_50 : decode cX1_turnColumns 50 = .ok (.if_icmp .eq 11, 3) := by decide +kernel
theorem dX1_turnColumns_53 : decode cX1_turnColumns 53 = .ok (.aload_n 0, 1) := by decide +kernel
theorem dX1_turnColumns_54 : decode cX1_turnColumns 54 = .ok (.iload_n 2, 1) := by decide +kernel
theorem dX1_turnColumns_55 : decode cX1_turnColumns 55 = .ok (.iload_n 3, 1) := by decide +kernel
theorem dX1_turnColumns_56 : decode cX1_turnColumns 56 = .ok (.invokevirtual 81, 3) := by decide +kernel
theorem dX1_turnColumns_59 : decode cX1_turnColumns 59 = .ok (.iload_n 3, 1) := by decide +kernel
theorem dX1_turnColumns_60 : decode cX1_turnColumns 60 = .ok (.istore_n 2, 1) := by decide +kernel
theorem dX1_turnColumns_61 : decode cX1_turnColumns 61 = .ok (.iinc 3 1, 3) := by decide +kernel
theorem dX1_turnColumns_64 : decode cX1_turnColumns 64 = .ok (.goto (-58), 3) := by decide +kernel
theorem dX1_turnColumns_67 : decode cX1_turnColumns 67 = .ok (.return_, 1) := by decide +kernel
theorem dX1_turnRow_0 : decode cX1_turnRow 0 = .ok (.iload_n 2, 1) := by decide +kernel
theorem dX1_turnRow_1 : decode cX1_turnRow 1 = .ok (.iconst 1, 1) := by decide +kernel
theorem dX1_turnRow_2 : decode cX1_turnRow 2 = .ok (.isub, 1) := by decide +kernel
theorem dX1_turnRow_3 : decode cX1_turnRow 3 = .ok (.istore_n 3, 1) := by decide +kernel
theorem dX1_turnRow_4 : decode cX1_turnRow 4 = .ok (.iload_n 1, 1) := by decide +kernel
theorem dX1_turnRow_5 : decode cX1_turnRow 5 = .ok (.istore 4, 2) := by decide +kernel
theorem dX1_turnRow_7 : decode cX1_turnRow 7 = .ok (.iload 4, 2) := by decide +kernel
theorem dX1_turnRow_9 : decode cX1_turnRow 9 = .ok (.iload_n 3, 1) := by decide +kernel
theorem dX1_turnRow_10 : decode cX1_turnRow 10 = .ok (.if_icmp .ge 42, 3) := by decide +kernel
theorem dX1_turnRow_13 : decode cX1_turnRow 13 = .ok (.aload_n 0, 1) := by decide +kernel
theorem dX1_turnRow_14 : decode cX1_turnRow 14 = .ok (.getfield 29, 3) := by decide +kernel
theorem dX1_turnRow_17 : decode cX1_turnRow 17 = .ok (.iload 4, 2) := by decide +kernel
theorem dX1_turnRow_19 : decode cX1_turnRow 19 = .ok (.iaload, 1) := by decide +kernel
theorem dX1_turnRow_20 : decode cX1_turnRow 20 = .ok (.istore 5, 2) := by decide +kernel
theorem dX1_turnRow_22 : decode cX1_turnRow 22 = .ok (.aload_n 0, 1) := by decide +kernel
theorem dX1_turnRow_23 : decode cX1_turnRow 23 = .ok (.getfield 29, 3) := by decide +kernel
theorem dX1_turnRow_26 : decode cX1_turnRow 26 = .ok (.iload 4, 2) := by decide +kernel
theorem dX1_turnRow_28 : decode cX1_turnRow 28 = .ok (.aload_n 0, 1) := by decide +kernel
theorem dX1_turnRow_29 : decode cX1_turnRow 29 = .ok (.getfield 29, 3) := by decide +kernel
theorem dX1_turnRow_32 : decode cX1_turnRow 32 = .ok (.iload_n 3, 1) := by decide +kernel
theorem dX1_turnRow_33 : decode cX1_turnRow 33 = .ok (.iaload, 1) := by decide +kernel
theorem dX1_turnRow_34 : decode cX1_turnRow 34 = .ok (.iastore, 1) := by decide +kernel
theorem dX1_turnRow_35 : decode cX1_turnRow 35 = .ok (.aload_n 0, 1) := by decide +kernel
theorem dX1_turnRow_36 : decode cX1_turnRow 36 = .ok (.getfield 29, 3) := by decide +kernel
theorem dX1_turnRow_39 : decode cX1_turnRow 39 = .ok (.iload_n 3, 1) := by decide +kernel
theorem dX1_turnRow_40 : decode cX1_turnRow 40 = .ok (.iload 5, 2) := by decide +kernel
theorem dX1_turnRow_42 : decode cX1_turnRow 42 = .ok (.iastore, 1) := by decide +kernel
theorem dX1_turnRow_43 : decode cX1_turnRow 43 = .ok (.iinc 3 (-1), 3) := by decide +kernel
theorem dX1_turnRow_46 : decode cX1_turnRow 46 = .ok (.iinc 4 1, 3) := by decide +kernel
theorem dX1_turnRow_49 : decode cX1_turnRow 49 = .ok (.goto (-42), 3) := by decide +kernel
theorem dX1_turnRow_52 : decode cX1_turnRow 52 = .ok (.return_, 1) := by decide +kernel
theorem dX1_listSteps_0 : decode cX1_listSteps 0 = .ok (.aload_n 1, 1) := by decide +kernel
theorem dX1_listSteps_1 : decode cX1_listSteps 1 = .ok (.iconst 0, 1) := by decide +kernel
theorem dX1_listSteps_2 : decode cX1_listSteps 2 = .ok (.putfield 44, 3) := by decide +kernel
theorem dX1_listSteps_5 : decode cX1_listSteps 5 = .ok (.iconst 0, 1) := by decide +kernel
theorem dX1_listSteps_6 : decode cX1_listSteps 6 = .ok (.istore_n 2, 1) := by decide +kernel
theorem dX1_listSteps_7 : decode cX1_listSteps 7 = .ok (.iload_n 2, 1) := by decide +kernel
theorem dX1_listSteps_8 : decode cX1_listSteps 8 = .ok (.aload_n 0, 1) := by decide +kernel
theorem dX1_listSteps_9 : decode cX1_listSteps 9 = .ok (.getfield 18, 3) := by decide +kernel
theorem dX1_listSteps_12 : decode cX1_listSteps 12 = .ok (.if_icmp .ge 85, 3) := by decide +kernel
theorem dX1_listSteps_15 : decode cX1_listSteps 15 = .ok (.aload_n 0, 1) := by decide +kernel
theorem dX1_listSteps_16 : decode cX1_listSteps 16 = .ok (.getfield 25, 3) := by decide +kernel
theorem dX1_listSteps_19 : decode cX1_listSteps 19 = .ok (.iload_n 2, 1) := by decide +kernel
theorem dX1_listSteps_20 : decode cX1_listSteps 20 = .ok (.iaload, 1) := by decide +kernel
theorem dX1_listSteps_21 : decode cX1_listSteps 21 = .ok (.iconst 1, 1) := by decide +kernel
theorem dX1_listSteps_22 : decode cX1_listSteps 22 = .ok (.iadd, 1) := by decide +kernel
theorem dX1_listSteps_23 : decode cX1_listSteps 23 = .ok (.istore_n 3, 1) := by decide +kernel
theorem dX1_listSteps_24 : decode cX1_listSteps 24 = .ok (.iload_n 3, 1) := by decide +kernel
theorem dX1_listSteps_25 : decode cX1_listSteps 25 = .ok (.aload_n 0, 1) := by decide +kernel
theorem dX1_listSteps_26 : decode cX1_listSteps 26 = .ok (.getfield 25, 3) := by decide +kernel
theorem dX1_listSteps_29 : decode cX1_listSteps 29 = .ok (.iload_n 2, 1) := by decide +kernel
theorem dX1_listSteps_30 : decode cX1_listSteps 30 = .ok (.iconst 1, 1) := by decide +kernel
theorem dX1_listSteps_31 : decode cX1_listSteps 31 = .ok (.iadd, 1) := by decide +kernel
theorem dX1_listSteps_32 : decode cX1_listSteps 32 = .ok (.iaload, 1) := by decide +kernel
theorem dX1_listSteps_33 : decode cX1_listSteps 33 = .ok (.if_icmp .ge 58, 3) := by decide +kernel
theorem dX1_listSteps_36 : decode cX1_listSteps 36 = .ok (.aload_n 0, 1) := by decide +kernel
theorem dX1_listSteps_37 : decode cX1_listSteps 37 = .ok (.getfield 29, 3) := by decide +kernel
theorem dX1_listSteps_40 : decode cX1_listSteps 40 = .ok (.iload_n 3, 1) := by decide +kernel
theorem dX1_listSteps_41 : decode cX1_listSteps 41 = .ok (.iconst 1, 1) := by decide +kernel
theorem dX1_listSteps_42 : decode cX1_listSteps 42 = .ok (.isub, 1) := by decide +kernel
theorem dX1_listSteps_43 : decode cX1_listSteps 43 = .ok (.iaload, 1) := by decide +kernel
theorem dX1_listSteps_44 : decode cX1_listSteps 44 = .ok (.aload_n 0, 1) := by decide +kernel
theorem dX1_listSteps_45 : decode cX1_listSteps 45 = .ok (.getfield 29, 3) := by decide +kernel
theorem dX1_listSteps_48 : decode cX1_listSteps 48 = .ok (.iload_n 3, 1) := by decide +kernel
theorem dX1_listSteps_49 : decode cX1_listSteps 49 = .ok (.iaload, 1) := by decide +kernel
theorem dX1_listSteps_50 : decode cX1_listSteps 50 = .ok (.invokestatic 95, 3) := by decide +kernel
theorem dX1_listSteps_53 : decode cX1_listSteps 53 = .ok (.i2l, 1) := by decide +kernel
theorem dX1_listSteps_54 : decode cX1_listSteps 54 = .ok (.lstore 4, 2) := by decide +kernel
theorem dX1_listSteps_56 : decode cX1_listSteps 56 = .ok (.aload_n 1, 1) := by decide +kernel
theorem dX1_listSteps_57 : decode cX1_listSteps 57 = .ok (.lload 4, 2) := by decide +kernel
theorem dX1_listSteps_59 : decode cX1_listSteps 59 = .ok (.ldc2_w 107, 3) := by decide +kernel
theorem dX1_listSteps_62 : decode cX1_listSteps 62 = .ok (.lmul, 1) := by decide +kernel
theorem dX1_listSteps_63 : decode cX1_listSteps 63 = .ok (.aload_n 0, 1) := by decide +kernel
theorem dX1_listSteps_64 : decode cX1_listSteps 64 = .ok (.getfield 29, 3) := by decide +kernel
theorem dX1_listSteps_67 : decode cX1_listSteps 67 = .ok (.iload_n 3, 1) := by decide +kernel
theorem dX1_listSteps_68 : decode cX1_listSteps 68 = .ok (.iconst 1, 1) := by decide +kernel
theorem dX1_listSteps_69 : decode cX1_listSteps 69 = .ok (.isub, 1) := by decide +kernel
theorem dX1_listSteps_70 : decode cX1_listSteps 70 = .ok (.iaload, 1) := by decide +kernel
theorem dX1_listSteps_71 : decode cX1_listSteps 71 = .ok (.aload_n 0, 1) := by decide +kernel
theorem dX1_listSteps_72 : decode cX1_listSteps 72 = .ok (.getfield 29, 3) := by decide +kernel
theorem dX1_listSteps_75 : decode cX1_listSteps 75 = .ok (.iload_n 3, 1) := by decide +kernel
theorem dX1_listSteps_76 : decode cX1_listSteps 76 = .ok (.iaload, 1) := by decide +kernel
theorem dX1_listSteps_77 : decode cX1_listSteps 77 = .ok (.invokestatic 91, 3) := by decide +kernel
theorem dX1_listSteps_80 : decode cX1_listSteps 80 = .ok (.i2l, 1) := by decide +kernel
theorem dX1_listSteps_81 : decode cX1_listSteps 81 = .ok (.ladd, 1) := by decide +kernel
theorem dX1_listSteps_82 : decode cX1_listSteps 82 = .ok (.invokevirtual 109, 3) := by decide +kernel
theorem dX1_listSteps_85 : decode cX1_listSteps 85 = .ok (.iinc 3 1, 3) := by decide +kernel
theorem dX1_listSteps_88 : decode cX1_listSteps 88 = .ok (.goto (-64), 3) := by decide +kernel
theorem dX1_listSteps_91 : decode cX1_listSteps 91 = .ok (.iinc 2 1, 3) := by decide +kernel
theorem dX1_listSteps_94 : decode cX1_listSteps 94 = .ok (.goto (-87), 3) := by decide +kernel
theorem dX1_listSteps_97 : decode cX1_listSteps 97 = .ok (.aload_n 1, 1) := by decide +kernel
theorem dX1_listSteps_98 : decode cX1_listSteps 98 = .ok (.invokevirtual 113, 3) := by decide +kernel
theorem dX1_listSteps_101 : decode cX1_listSteps 101 = .ok (.return_, 1) := by decide +kernel
theorem dX1_takePieces_0 : decode cX1_takePieces 0 = .ok (.aload_n 1, 1) := by decide +kernel
theorem dX1_takePieces_1 : decode cX1_takePieces 1 = .ok (.invokestatic 116, 3) := by decide +kernel
theorem dX1_takePieces_4 : decode cX1_takePieces 4 = .ok (.istore_n 2, 1) := by decide +kernel
theorem dX1_takePieces_5 : decode cX1_takePieces 5 = .ok (.iload_n 2, 1) := by decide +kernel
theorem dX1_takePieces_6 : decode cX1_takePieces 6 = .ok (.sipush 9000, 3) := by decide +kernel
theorem dX1_takePieces_9 : decode cX1_takePieces 9 = .ok (.if_icmp .le 5, 3) := by decide +kernel
theorem dX1_takePieces_12 : decode cX1_takePieces 12 = .ok (.iconst 0, 1) := by decide +kernel
theorem dX1_takePieces_13 : decode cX1_takePieces 13 = .ok (.ireturn, 1) := by decide +kernel
theorem dX1_takePieces_14 : decode cX1_takePieces 14 = .ok (.aload_n 0, 1) := by decide +kernel
theorem dX1_takePieces_15 : decode cX1_takePieces 15 = .ok (.aload_n 0, 1) := by decide +kernel
theorem dX1_takePieces_16 : decode cX1_takePieces 16 = .ok (.getfield 35, 3) := by decide +kernel
theorem dX1_takePieces_19 : decode cX1_takePieces 19 = .ok (.iload_n 2, 1) := by decide +kernel
theorem dX1_takePieces_20 : decode cX1_takePieces 20 = .ok (.invokestatic 67, 3) := by decide +kernel
theorem dX1_takePieces_23 : decode cX1_takePieces 23 = .ok (.putfield 35, 3) := by decide +kernel
theorem dX1_takePieces_26 : decode cX1_takePieces 26 = .ok (.aload_n 0, 1) := by decide +kernel
theorem dX1_takePieces_27 : decode cX1_takePieces 27 = .ok (.aload_n 0, 1) := by decide +kernel
theorem dX1_takePieces_28 : decode cX1_takePieces 28 = .ok (.getfield 38, 3) := by decide +kernel
theorem dX1_takePieces_31 : decode cX1_takePieces 31 = .ok (.iload_n 2, 1) := by decide +kernel
theorem dX1_takePieces_32 : decode cX1_takePieces 32 = .ok (.invokestatic 67, 3) := by decide +kernel
theorem dX1_takePieces_35 : decode cX1_takePieces 35 = .ok (.putfield 38, 3) := by decide +kernel
theorem dX1_takePieces_38 : decode cX1_takePieces 38 = .ok (.aload_n 0, 1) := by decide +kernel
theorem dX1_takePieces_39 : decode cX1_takePieces 39 = .ok (.aload_n 0, 1) := by decide +kernel
theorem dX1_takePieces_40 : decode cX1_takePieces 40 = .ok (.getfield 41, 3) := by decide +kernel
theorem dX1_takePieces_43 : decode cX1_takePieces 43 = .ok (.iload_n 2, 1) := by decide +kernel
theorem dX1_takePieces_44 : decode cX1_takePieces 44 = .ok (.invokestatic 67, 3) := by decide +kernel
theorem dX1_takePieces_47 : decode cX1_takePieces 47 = .ok (.putfield 41, 3) := by decide +kernel
theorem dX1_takePieces_50 : decode cX1_takePieces 50 = .ok (.aload_n 0, 1) := by decide +kernel
theorem dX1_takePieces_51 : decode cX1_takePieces 51 = .ok (.iconst 0, 1) := by decide +kernel
theorem dX1_takePieces_52 : decode cX1_takePieces 52 = .ok (.putfield 32, 3) := by decide +kernel
theorem dX1_takePieces_55 : decode cX1_takePieces 55 = .ok (.iconst 0, 1) := by decide +kernel
theorem dX1_takePieces_56 : decode cX1_takePieces 56 = .ok (.istore_n 3, 1) := by decide +kernel
theorem dX1_takePieces_57 : decode cX1_takePieces 57 = .ok (.iconst 1, 1) := by decide +kernel
theorem dX1_takePieces_58 : decode cX1_takePieces 58 = .ok (.istore 4, 2) := by decide +kernel
theorem dX1_takePieces_60 : decode cX1_takePieces 60 = .ok (.iload 4, 2) := by decide +kernel
theorem dX1_takePieces_62 : decode cX1_takePieces 62 = .ok (.aload_n 1, 1) := by decide +kernel
theorem dX1_takePieces_63 : decode cX1_takePieces 63 = .ok (.getfield 44, 3) := by decide +kernel
theorem dX1_takePieces_66 : decode cX1_takePieces 66 = .ok (.if_icmp .gt 101, 3) := by decide +kernel
theorem dX1_takePieces_69 : decode cX1_takePieces 69 = .ok (.iload 4, 2) := by decide +kernel
theorem dX1_takePieces_71 : decode cX1_takePieces 71 = .ok (.aload_n 1, 1) := by decide +kernel
theorem dX1_takePieces_72 : decode cX1_takePieces 72 = .ok (.getfield 44, 3) := by decide +kernel
theorem dX1_takePieces_75 : decode cX1_takePieces 75 = .ok (.if_icmp .eq 20, 3) := by decide +kernel
theorem dX1_takePieces_78 : decode cX1_takePieces 78 = .ok (.aload_n 1, 1) := by decide +kernel
theorem dX1_takePieces_79 : decode cX1_takePieces 79 = .ok (.getfield 57, 3) := by decide +kernel
theorem dX1_takePieces_82 : decode cX1_takePieces 82 = .ok (.iload 4, 2) := by decide +kernel
theorem dX1_takePieces_84 : decode cX1_takePieces 84 = .ok (.laload, 1) := by decide +kernel
theorem dX1_takePieces_85 : decode cX1_takePieces 85 = .ok (.aload_n 1, 1) := by decide +kernel
theorem dX1_takePieces_86 : decode cX1_takePieces 86 = .ok (.getfield 57, 3) := by decide +kernel
theorem dX1_takePieces_89 : decode cX1_takePieces 89 = .ok (.iload_n 3, 1) := by decide +kernel
theorem dX1_takePieces_90 : decode cX1_takePieces 90 = .ok (.laload, 1) := by decide +kernel
theorem dX1_takePieces_91 : decode cX1_takePieces 91 = .ok (.lcmp, 1) := by decide +kernel
theorem dX1_takePieces_92 : decode cX1_takePieces 92 = .ok (.ifCond .eq 69, 3) := by decide +kernel
theorem dX1_takePieces_95 : decode cX1_takePieces 95 = .ok (.aload_n 0, 1) := by decide +kernel
theorem dX1_takePieces_96 : decode cX1_takePieces 96 = .ok (.getfield 35, 3) := by decide +kernel
theorem dX1_takePieces_99 : decode cX1_takePieces 99 = .ok (.aload_n 0, 1) := by decide +kernel
theorem dX1_takePieces_100 : decode cX1_takePieces 100 = .ok (.getfield 32, 3) := by decide +kernel
theorem dX1_takePieces_103 : decode cX1_takePieces 103 = .ok (.aload_n 1, 1) := by decide +kernel
theorem dX1_takePieces_104 : decode cX1_takePieces 104 = .ok (.getfield 57, 3) := by decide +kernel
theorem dX1_takePieces_107 : decode cX1_takePieces 107 = .ok (.iload_n 3, 1) := by decide +kernel
theorem dX1_takePieces_108 : decode cX1_takePieces 108 = .ok (.laload, 1) := by decide +kernel
theorem dX1_takePieces_109 : decode cX1_takePieces 109 = .ok (.ldc2_w 107, 3) := by decide +kernel
theorem dX1_takePieces_112 : decode cX1_takePieces 112 = .ok (.ldiv, 1) := by decide +kernel
theorem dX1_takePieces_113 : decode cX1_takePieces 113 = .ok (.l2i, 1) := by decide +kernel
theorem dX1_takePieces_114 : decode cX1_takePieces 114 = .ok (.iastore, 1) := by decide +kernel
theorem dX1_takePieces_115 : decode cX1_takePieces 115 = .ok (.aload_n 0, 1) := by decide +kernel
theorem dX1_takePieces_116 : decode cX1_takePieces 116 = .ok (.getfield 38, 3) := by decide +kernel
theorem dX1_takePieces_119 : decode cX1_takePieces 119 = .ok (.aload_n 0, 1) := by decide +kernel
theorem dX1_takePieces_120 : decode cX1_takePieces 120 = .ok (.getfield 32, 3) := by decide +kernel
theorem dX1_takePieces_123 : decode cX1_takePieces 123 = .ok (.aload_n 1, 1) := by decide +kernel
theorem dX1_takePieces_124 : decode cX1_takePieces 124 = .ok (.getfield 57, 3) := by decide +kernel
theorem dX1_takePieces_127 : decode cX1_takePieces 127 = .ok (.iload_n 3, 1) := by decide +kernel
theorem dX1_takePieces_128 : decode cX1_takePieces 128 = .ok (.laload, 1) := by decide +kernel
theorem dX1_takePieces_129 : decode cX1_takePieces 129 = .ok (.ldc2_w 107, 3) := by decide +kernel
theorem dX1_takePieces_132 : decode cX1_takePieces 132 = .ok (.lrem, 1) := by decide +kernel
theorem dX1_takePieces_133 : decode cX1_takePieces 133 = .ok (.l2i, 1) := by decide +kernel
theorem dX1_takePieces_134 : decode cX1_takePieces 134 = .ok (.iastore, 1) := by decide +kernel
theorem dX1_takePieces_135 : decode cX1_takePieces 135 = .ok (.aload_n 0, 1) := by decide +kernel
theorem dX1_takePieces_136 : decode cX1_takePieces 136 = .ok (.getfield 41, 3) := by decide +kernel
theorem dX1_takePieces_139 : decode cX1_takePieces 139 = .ok (.aload_n 0, 1) := by decide +kernel
theorem dX1_takePieces_140 : decode cX1_takePieces 140 = .ok (.getfield 32, 3) := by decide +kernel
theorem dX1_takePieces_143 : decode cX1_takePieces 143 = .ok (.iload 4, 2) := by decide +kernel
theorem dX1_takePieces_145 : decode cX1_takePieces 145 = .ok (.iload_n 3, 1) := by decide +kernel
theorem dX1_takePieces_146 : decode cX1_takePieces 146 = .ok (.isub, 1) := by decide +kernel
theorem dX1_takePieces_147 : decode cX1_takePieces 147 = .ok (.iastore, 1) := by decide +kernel
theorem dX1_takePieces_148 : decode cX1_takePieces 148 = .ok (.aload_n 0, 1) := by decide +kernel
theorem dX1_takePieces_149 : decode cX1_takePieces 149 = .ok (.dup, 1) := by decide +kernel
theorem dX1_takePieces_150 : decode cX1_takePieces 150 = .ok (.getfield 32, 3) := by decide +kernel
theorem dX1_takePieces_153 : decode cX1_takePieces 153 = .ok (.iconst 1, 1) := by decide +kernel
theorem dX1_takePieces_154 : decode cX1_takePieces 154 = .ok (.iadd, 1) := by decide +kernel
theorem dX1_takePieces_155 : decode cX1_takePieces 155 = .ok (.putfield 32, 3) := by decide +kernel
theorem dX1_takePieces_158 : decode cX1_takePieces 158 = .ok (.iload 4, 2) := by decide +kernel
theorem dX1_takePieces_160 : decode cX1_takePieces 160 = .ok (.istore_n 3, 1) := by decide +kernel
theorem dX1_takePieces_161 : decode cX1_takePieces 161 = .ok (.iinc 4 1, 3) := by decide +kernel
theorem dX1_takePieces_164 : decode cX1_takePieces 164 = .ok (.goto (-104), 3) := by decide +kernel
theorem dX1_takePieces_167 : decode cX1_takePieces 167 = .ok (.iconst 1, 1) := by decide +kernel
theorem dX1_takePieces_168 : decode cX1_takePieces 168 = .ok (.ireturn, 1) := by decide +kernel
theorem dX1_countUnlike_0 : decode cX1_countUnlike 0 = .ok (.iconst 0, 1) := by decide +kernel
theorem dX1_countUnlike_1 : decode cX1_countUnlike 1 = .ok (.istore_n 1, 1) := by decide +kernel
theorem dX1_countUnlike_2 : decode cX1_countUnlike 2 = .ok (.iconst 0, 1) := by decide +kernel
theorem dX1_countUnlike_3 : decode cX1_countUnlike 3 = .ok (.istore_n 2, 1) := by decide +kernel
theorem dX1_countUnlike_4 : decode cX1_countUnlike 4 = .ok (.iload_n 2, 1) := by decide +kernel
theorem dX1_countUnlike_5 : decode cX1_countUnlike 5 = .ok (.aload_n 0, 1) := by decide +kernel
theorem dX1_countUnlike_6 : decode cX1_countUnlike 6 = .ok (.getfield 44, 3) := by decide +kernel
theorem dX1_countUnlike_9 : decode cX1_countUnlike 9 = .ok (.if_icmp .ge 34, 3) := by decide +kernel
theorem dX1_countUnlike_12 : decode cX1_countUnlike 12 = .ok (.iload_n 2, 1) := by decide +kernel
theorem dX1_countUnlike_13 : decode cX1_countUnlike 13 = .ok (.ifCond .eq 21, 3) := by decide +kernel
theorem dX1_countUnlike_16 : decode cX1_countUnlike 16 = .ok (.aload_n 0, 1) := by decide +kernel
theorem dX1_countUnlike_17 : decode cX1_countUnlike 17 = .ok (.getfield 57, 3) := by decide +kernel
theorem dX1_countUnlike_20 : decode cX1_countUnlike 20 = .ok (.iload_n 2, 1) := by decide +kernel
theorem dX1_countUnlike_21 : decode cX1_countUnlike 21 = .ok (.laload, 1) := by decide +kernel
theorem dX1_countUnlike_22 : decode cX1_countUnlike 22 = .ok (.aload_n 0, 1) := by decide +kernel
theorem dX1_countUnlike_23 : decode cX1_countUnlike 23 = .ok (.getfield 57, 3) := by decide +kernel
theorem dX1_countUnlike_26 : decode cX1_countUnlike 26 = .ok (.iload_n 2, 1) := by decide +kernel
theorem dX1_countUnlike_27 : decode cX1_countUnlike 27 = .ok (.iconst 1, 1) := by decide +kernel
theorem dX1_countUnlike_28 : decode cX1_countUnlike 28 = .ok (.isub, 1) := by decide +kernel
theorem dX1_countUnlike_29 : decode cX1_countUnlike 29 = .ok (.laload, 1) := by decide +kernel
theorem dX1_countUnlike_30 : decode cX1_countUnlike 30 = .ok (.lcmp, 1) := by decide +kernel
theorem dX1_countUnlike_31 : decode cX1_countUnlike 31 = .ok (.ifCond .eq 6, 3) := by decide +kernel
theorem dX1_countUnlike_34 : decode cX1_countUnlike 34 = .ok (.iinc 1 1, 3) := by decide +kernel
theorem dX1_countUnlike_37 : decode cX1_countUnlike 37 = .ok (.iinc 2 1, 3) := by decide +kernel
theorem dX1_countUnlike_40 : decode cX1_countUnlike 40 = .ok (.goto (-36), 3) := by decide +kernel
theorem dX1_countUnlike_43 : decode cX1_countUnlike 43 = .ok (.iload_n 1, 1) := by decide +kernel
theorem dX1_countUnlike_44 : decode cX1_countUnlike 44 = .ok (.ireturn, 1) := by decide +kernel
theorem dX2_init_0 : decode cX2_init 0 = .ok (.aload_n 0, 1) := by decide +kernel
theorem dX2_init_1 : decode cX2_init 1 = .ok (.invokespecial 1, 3) := by decide +kernel
theorem dX2_init_4 : decode cX2_init 4 = .ok (.aload_n 0, 1) := by decide +kernel
theorem dX2_init_5 : decode cX2_init 5 = .ok (.iconst 0, 1) := by decide +kernel
theorem dX2_init_6 : decode cX2_init 6 = .ok (.putfield 7, 3) := by decide +kernel
theorem dX2_init_9 : decode cX2_init 9 = .ok (.aload_n 0, 1) := by decide +kernel
theorem dX2_init_10 : decode cX2_init 10 = .ok (.bipush 16, 2) := by decide +kernel
theorem dX2_init_12 : decode cX2_init 12 = .ok (.newarray .int, 2) := by decide +kernel
theorem dX2_init_14 : decode cX2_init 14 = .ok (.putfield 13, 3) := by decide +kernel
theorem dX2_init_17 : decode cX2_init 17 = .ok (.aload_n 0, 1) := by decide +kernel
theorem dX2_init_18 : decode cX2_init 18 = .ok (.bipush 16, 2) := by decide +kernel
theorem dX2_init_20 : decode cX2_init 20 = .ok (.newarray .int, 2) := by decide +kernel
theorem dX2_init_22 : decode cX2_init 22 = .ok (.putfield 17, 3) := by decide +kernel
theorem dX2_init_25 : decode cX2_init 25 = .ok (.return_, 1) := by decide +kernel
theorem dX2_add_0 : decode cX2_add 0 = .ok (.aload_n 0, 1) := by decide +kernel
theorem dX2_add_1 : decode cX2_add 1 = .ok (.aload_n 0, 1) := by decide +kernel
theorem dX2_add_2 : decode cX2_add 2 = .ok (.getfield 7, 3) := by decide +kernel
theorem dX2_add_5 : decode cX2_add 5 = .ok (.iconst 1, 1) := by decide +kernel
theorem dX2_add_6 : decode cX2_add 6 = .ok (.iadd, 1) := by decide +kernel
theorem dX2_add_7 : decode cX2_add 7 = .ok (.invokevirtual 20, 3) := by decide +kernel
theorem dX2_add_10 : decode cX2_add 10 = .ok (.aload_n 0, 1) := by decide +kernel
theorem dX2_add_11 : decode cX2_add 11 = .ok (.getfield 13, 3) := by decide +kernel
theorem dX2_add_14 : decode cX2_add 14 = .ok (.aload_n 0, 1) := by decide +kernel
theorem dX2_add_15 : decode cX2_add 15 = .ok (.getfield 7, 3) := by decide +kernel
theorem dX2_add_18 : decode cX2_add 18 = .ok (.iload_n 1, 1) := by decide +kernel
theorem dX2_add_19 : decode cX2_add 19 = .ok (.iastore, 1) := by decide +kernel
theorem dX2_add_20 : decode cX2_add 20 = .ok (.aload_n 0, 1) := by decide +kernel
theorem dX2_add_21 : decode cX2_add 21 = .ok (.getfield 17, 3) := by decide +kernel
theorem dX2_add_24 : decode cX2_add 24 = .ok (.aload_n 0, 1) := by decide +kernel
theorem dX2_add_25 : decode cX2_add 25 = .ok (.getfield 7, 3) := by decide +kernel
theorem dX2_add_28 : decode cX2_add 28 = .ok (.iload_n 2, 1) := by decide +kernel
theorem dX2_add_29 : decode cX2_add 29 = .ok (.iastore, 1) := by decide +kernel
theorem dX2_add_30 : decode cX2_add 30 = .ok (.aload_n 0, 1) := by decide +kernel
theorem dX2_add_31 : decode cX2_add 31 = .ok (.dup, 1) := by decide +kernel
theorem dX2_add_32 : decode cX2_add 32 = .ok (.getfield 7, 3) := by decide +kernel
theorem dX2_add_35 : decode cX2_add 35 = .ok (.iconst 1, 1) := by decide +kernel
theorem dX2_add_36 : decode cX2_add 36 = .ok (.iadd, 1) := by decide +kernel
theorem dX2_add_37 : decode cX2_add 37 = .ok (.putfield 7, 3) := by decide +kernel
theorem dX2_add_40 : decode cX2_add 40 = .ok (.return_, 1) := by decide +kernel
theorem dX2_makeRoom_0 : decode cX2_makeRoom 0 = .ok (.aload_n 0, 1) := by decide +kernel
theorem dX2_makeRoom_1 : decode cX2_makeRoom 1 = .ok (.aload_n 0, 1) := by decide +kernel
theorem dX2_makeRoom_2 : decode cX2_makeRoom 2 = .ok (.getfield 13, 3) := by decide +kernel
theorem dX2_makeRoom_5 : decode cX2_makeRoom 5 = .ok (.iload_n 1, 1) := by decide +kernel
theorem dX2_makeRoom_6 : decode cX2_makeRoom 6 = .ok (.invokestatic 24, 3) := by decide +kernel
theorem dX2_makeRoom_9 : decode cX2_makeRoom 9 = .ok (.putfield 13, 3) := by decide +kernel
theorem dX2_makeRoom_12 : decode cX2_makeRoom 12 = .ok (.aload_n 0, 1) := by decide +kernel
theorem dX2_makeRoom_13 : decode cX2_makeRoom 13 = .ok (.aload_n 0, 1) := by decide +kernel
theorem dX2_makeRoom_14 : decode cX2_makeRoom 14 = .ok (.getfield 17, 3) := by decide +kernel
theorem dX2_makeRoom_17 : decode cX2_makeRoom 17 = .ok (.iload_n 1, 1) := by decide +kernel
theorem dX2_makeRoom_18 : decode cX2_makeRoom 18 = .ok (.invokestatic 24, 3) := by decide +kernel
theorem dX2_makeRoom_21 : decode cX2_makeRoom 21 = .ok (.putfield 17, 3) := by decide +kernel
theorem dX2_makeRoom_24 : decode cX2_makeRoom 24 = .ok (.return_, 1) := by decide +kernel
theorem dX2_firstNotBelow_0 : decode cX2_firstNotBelow 0 = .ok (.iconst 0, 1) := by decide +kernel
theorem dX2_firstNotBelow_1 : decode cX2_firstNotBelow 1 = .ok (.istore_n 3, 1) := by decide +kernel
theorem dX2_firstNotBelow_2 : decode cX2_firstNotBelow 2 = .ok (.aload_n 0, 1) := by decide +kernel
theorem dX2_firstNotBelow_3 : decode cX2_firstNotBelow 3 = .ok (.getfield 7, 3) := by decide +kernel
theorem dX2_firstNotBelow_6 : decode cX2_firstNotBelow 6 = .ok (.istore 4, 2) := by decide +kernel
theorem dX2_firstNotBelow_8 : decode cX2_firstNotBelow 8 = .ok (.iload_n 3, 1) := by decide +kernel
theorem dX2_firstNotBelow_9 : decode cX2_firstNotBelow 9 = .ok (.iload 4, 2) := by decide +kernel
theorem dX2_firstNotBelow_11 : decode cX2_firstNotBelow 11 = .ok (.if_icmp .ge 59, 3) := by decide +kernel
theorem dX2_firstNotBelow_14 : decode cX2_firstNotBelow 14 = .ok (.iload_n 3, 1) := by decide +kernel
theorem dX2_firstNotBelow_15 : decode cX2_firstNotBelow 15 = .ok (.iload 4, 2) := by decide +kernel
theorem dX2_firstNotBelow_17 : decode cX2_firstNotBelow 17 = .ok (.iadd, 1) := by decide +kernel
theorem dX2_firstNotBelow_18 : decode cX2_firstNotBelow 18 = .ok (.iconst 2, 1) := by decide +kernel
theorem dX2_firstNotBelow_19 : decode cX2_firstNotBelow 19 = .ok (.idiv, 1) := by decide +kernel
theorem dX2_firstNotBelow_20 : decode cX2_firstNotBelow 20 = .ok (.istore 5, 2) := by decide +kernel
theorem dX2_firstNotBelow_22 : decode cX2_firstNotBelow 22 = .ok (.aload_n 0, 1) := by decide +kernel
theorem dX2_firstNotBelow_23 : decode cX2_firstNotBelow 23 = .ok (.getfield 13, 3) := by decide +kernel
theorem dX2_firstNotBelow_26 : decode cX2_firstNotBelow 26 = .ok (.iload 5, 2) := by decide +kernel
theorem dX2_firstNotBelow_28 : decode cX2_firstNotBelow 28 = .ok (.iaload, 1) := by decide +kernel
theorem dX2_firstNotBelow_29 : decode cX2_firstNotBelow 29 = .ok (.iload_n 1, 1) := by decide +kernel
theorem dX2_firstNotBelow_30 : decode cX2_firstNotBelow 30 = .ok (.if_icmp .lt 25, 3) := by decide +kernel
theorem dX2_firstNotBelow_33 : decode cX2_firstNotBelow 33 = .ok (.aload_n 0, 1) := by decide +kernel
theorem dX2_firstNotBelow_34 : decode cX2_firstNotBelow 34 = .ok (.getfield 13, 3) := by decide +kernel
theorem dX2_firstNotBelow_37 : decode cX2_firstNotBelow 37 = .ok (.iload 5, 2) := by decide +kernel
theorem dX2_firstNotBelow_39 : decode cX2_firstNotBelow 39 = .ok (.iaload, 1) := by decide +kernel
theorem dX2_firstNotBelow_40 : decode cX2_firstNotBelow 40 = .ok (.iload_n 1, 1) := by decide +kernel
theorem dX2_firstNotBelow_41 : decode cX2_firstNotBelow 41 = .ok (.if_icmp .ne 22, 3) := by decide +kernel
theorem dX2_firstNotBelow_44 : decode cX2_firstNotBelow 44 = .ok (.aload_n 0, 1) := by decide +kernel
theorem dX2_firstNotBelow_45 : decode cX2_firstNotBelow 45 = .ok (.getfield 17, 3) := by decide +kernel
theorem dX2_firstNotBelow_48 : decode cX2_firstNotBelow 48 = .ok (.iload 5, 2) := by decide +kernel
theorem dX2_firstNotBelow_50 : decode cX2_firstNotBelow 50 = .ok (.iaload, 1) := by decide +kernel
theorem dX2_firstNotBelow_51 : decode cX2_firstNotBelow 51 = .ok (.iload_n 2, 1) := by decide +kernel
theorem dX2_firstNotBelow_52 : decode cX2_firstNotBelow 52 = .ok (.if_icmp .ge 11, 3) := by decide +kernel
theorem dX2_firstNotBelow_55 : decode cX2_firstNotBelow 55 = .ok (.iload 5, 2) := by decide +kernel
theorem dX2_firstNotBelow_57 : decode cX2_firstNotBelow 57 = .ok (.iconst 1, 1) := by decide +kernel
theorem dX2_firstNotBelow_58 : decode cX2_firstNotBelow 58 = .ok (.iadd, 1) := by decide +kernel
theorem dX2_firstNotBelow_59 : decode cX2_firstNotBelow 59 = .ok (.istore_n 3, 1) := by decide +kernel
theorem dX2_firstNotBelow_60 : decode cX2_firstNotBelow 60 = .ok (.goto 7, 3) := by decide +kernel
theorem dX2_firstNotBelow_63 : decode cX2_firstNotBelow 63 = .ok (.iload 5, 2) := by decide +kernel
theorem dX2_firstNotBelow_65 : decode cX2_firstNotBelow 65 = .ok (.istore 4, 2) := by decide +kernel
theorem dX2_firstNotBelow_67 : decode cX2_firstNotBelow 67 = .ok (.goto (-59), 3) := by decide +kernel
theorem dX2_firstNotBelow_70 : decode cX2_firstNotBelow 70 = .ok (.iload_n 3, 1) := by decide +kernel
theorem dX2_firstNotBelow_71 : decode cX2_firstNotBelow 71 = .ok (.ireturn, 1) := by decide +kernel
theorem dX3_init_0 : decode cX3_init 0 = .ok (.aload_n 0, 1) := by decide +kernel
theorem dX3_init_1 : decode cX3_init 1 = .ok (.invokespecial 3, 3) := by decide +kernel
theorem dX3_init_4 : decode cX3_init 4 = .ok (.aload_n 0, 1) := by decide +kernel
theorem dX3_init_5 : decode cX3_init 5 = .ok (.new 9, 3) := by decide +kernel
theorem dX3_init_8 : decode cX3_init 8 = .ok (.dup, 1) := by decide +kernel
theorem dX3_init_9 : decode cX3_init 9 = .ok (.invokespecial 11, 3) := by decide +kernel
theorem dX3_init_12 : decode cX3_init 12 = .ok (.putfield 12, 3) := by decide +kernel
theorem dX3_init_15 : decode cX3_init 15 = .ok (.aload_n 0, 1) := by decide +kernel
theorem dX3_init_16 : decode cX3_init 16 = .ok (.new 9, 3) := by decide +kernel
theorem dX3_init_19 : decode cX3_init 19 = .ok (.dup, 1) := by decide +kernel
theorem dX3_init_20 : decode cX3_init 20 = .ok (.invokespecial 11, 3) := by decide +kernel
theorem dX3_init_23 : decode cX3_init 23 = .ok (.putfield 16, 3) := by decide +kernel
theorem dX3_init_26 : decode cX3_init 26 = .ok (.aload_n 0, 1) := by decide +kernel
theorem dX3_init_27 : decode cX3_init 27 = .ok (.new 9, 3) := by decide +kernel
theorem dX3_init_30 : decode cX3_init 30 = .ok (.dup, 1) := by decide +kernel
theorem dX3_init_31 : decode cX3_init 31 = .ok (.invokespecial 11, 3) := by decide +kernel
theorem dX3_init_34 : decode cX3_init 34 = .ok (.putfield 19, 3) := by decide +kernel
theorem dX3_init_37 : decode cX3_init 37 = .ok (.aload_n 0, 1) := by decide +kernel
theorem dX3_init_38 : decode cX3_init 38 = .ok (.new 22, 3) := by decide +kernel
theorem dX3_init_41 : decode cX3_init 41 = .ok (.dup, 1) := by decide +kernel
theorem dX3_init_42 : decode cX3_init 42 = .ok (.invokespecial 24, 3) := by decide +kernel
theorem dX3_init_45 : decode cX3_init 45 = .ok (.putfield 25, 3) := by decide +kernel
theorem dX3_init_48 : decode cX3_init 48 = .ok (.aload_n 0, 1) := by decide +kernel
theorem dX3_init_49 : decode cX3_init 49 = .ok (.new 29, 3) := by decide +kernel
theorem dX3_init_52 : decode cX3_init 52 = .ok (.dup, 1) := by decide +kernel
theorem dX3_init_53 : decode cX3_init 53 = .ok (.invokespecial 31, 3) := by decide +kernel
theorem dX3_init_56 : decode cX3_init 56 = .ok (.putfield 32, 3) := by decide +kernel
theorem dX3_init_59 : decode cX3_init 59 = .ok (.aload_n 0, 1) := by decide +kernel
theorem dX3_init_60 : decode cX3_init 60 = .ok (.new 29, 3) := by decide +kernel
theorem dX3_init_63 : decode cX3_init 63 = .ok (.dup, 1) := by decide +kernel
theorem dX3_init_64 : decode cX3_init 64 = .ok (.invokespecial 31, 3) := by decide +kernel
theorem dX3_init_67 : decode cX3_init 67 = .ok (.putfield 36, 3) := by decide +kernel
theorem dX3_init_70 : decode cX3_init 70 = .ok (.return_, 1) := by decide +kernel
theorem dX3_edge_0 : decode cX3_edge 0 = .ok (.iload_n 1, 1) := by decide +kernel
theorem dX3_edge_1 : decode cX3_edge 1 = .ok (.iload_n 2, 1) := by decide +kernel
theorem dX3_edge_2 : decode cX3_edge 2 = .ok (.invokestatic 39, 3) := by decide +kernel
theorem dX3_edge_5 : decode cX3_edge 5 = .ok (.ifCond .eq 23, 3) := by decide +kernel
theorem dX3_edge_8 : decode cX3_edge 8 = .ok (.iload_n 3, 1) := by decide +kernel
theorem dX3_edge_9 : decode cX3_edge 9 = .ok (.iload 4, 2) := by decide +kernel
theorem dX3_edge_11 : decode cX3_edge 11 = .ok (.invokestatic 39, 3) := by decide +kernel
theorem dX3_edge_14 : decode cX3_edge 14 = .ok (.ifCond .eq 14, 3) := by decide +kernel
theorem dX3_edge_17 : decode cX3_edge 17 = .ok (.iload_n 1, 1) := by decide +kernel
theorem dX3_edge_18 : decode cX3_edge 18 = .ok (.iload_n 3, 1) := by decide +kernel
theorem dX3_edge_19 : decode cX3_edge 19 = .ok (.if_icmp .ne 11, 3) := by decide +kernel
theorem dX3_edge_22 : decode cX3_edge 22 = .ok (.iload_n 2, 1) := by decide +kernel
theorem dX3_edge_23 : decode cX3_edge 23 = .ok (.iload 4, 2) := by decide +kernel
theorem dX3_edge_25 : decode cX3_edge 25 = .ok (.if_icmp .ne 5, 3) := by decide +kernel
theorem dX3_edge_28 : decode cX3_edge 28 = .ok (.iconst (-1), 1) := by decide +kernel
theorem dX3_edge_29 : decode cX3_edge 29 = .ok (.ireturn, 1) := by decide +kernel
theorem dX3_edge_30 : decode cX3_edge 30 = .ok (.aload_n 0, 1) := by decide +kernel
theorem dX3_edge_31 : decode cX3_edge 31 = .ok (.getfield 12, 3) := by decide +kernel
theorem dX3_edge_34 : decode cX3_edge 34 = .ok (.getfield 43, 3) := by decide +kernel
theorem dX3_edge_37 : decode cX3_edge 37 = .ok (.sipush 2000, 3) := by decide +kernel
theorem dX3_edge_40 : decode cX3_edge 40 = .ok (.if_icmp .lt 6, 3) := by decide +kernel
theorem dX3_edge_43 : decode cX3_edge 43 = .ok (.bipush (-12), 2) := by decide +kernel
theorem dX3_edge_45 : decode cX3_edge 45 = .ok (.ireturn, 1) := by decide +kernel
theorem dX3_edge_46 : decode cX3_edge 46 = .ok (.aload_n 0, 1) := by decide +kernel
theorem dX3_edge_47 : decode cX3_edge 47 = .ok (.getfield 12, 3) := by decide +kernel
theorem dX3_edge_50 : decode cX3_edge 50 = .ok (.iload_n 1, 1) := by decide +kernel
theorem dX3_edge_51 : decode cX3_edge 51 = .ok (.iload_n 2, 1) := by decide +kernel
theorem dX3_edge_52 : decode cX3_edge 52 = .ok (.invokevirtual 47, 3) := by decide +kernel
theorem dX3_edge_55 : decode cX3_edge 55 = .ok (.aload_n 0, 1) := by decide +kernel
theorem dX3_edge_56 : decode cX3_edge 56 = .ok (.getfield 16, 3) := by decide +kernel
theorem dX3_edge_59 : decode cX3_edge 59 = .ok (.iload_n 3, 1) := by decide +kernel
theorem dX3_edge_60 : decode cX3_edge 60 = .ok (.iload 4, 2) := by decide +kernel
theorem dX3_edge_62 : decode cX3_edge 62 = .ok (.invokevirtual 47, 3) := by decide +kernel
theorem dX3_edge_65 : decode cX3_edge 65 = .ok (.aload_n 0, 1) := by decide +kernel
theorem dX3_edge_66 : decode cX3_edge 66 = .ok (.getfield 12, 3) := by decide +kernel
theorem dX3_edge_69 : decode cX3_edge 69 = .ok (.getfield 43, 3) := by decide +kernel
theorem dX3_edge_72 : decode cX3_edge 72 = .ok (.iconst 1, 1) := by decide +kernel
theorem dX3_edge_73 : decode cX3_edge 73 = .ok (.isub, 1) := by decide +kernel
theorem dX3_edge_74 : decode cX3_edge 74 = .ok (.ireturn, 1) := by decide +kernel
theorem dX3_point_0 : decode cX3_point 0 = .ok (.iload_n 1, 1) := by decide +kernel
theorem dX3_point_1 : decode cX3_point 1 = .ok (.iload_n 2, 1) := by decide +kernel
theorem dX3_point_2 : decode cX3_point 2 = .ok (.invokestatic 39, 3) := by decide +kernel
theorem dX3_point_5 : decode cX3_point 5 = .ok (.ifCond .ne 5, 3) := by decide +kernel
theorem dX3_point_8 : decode cX3_point 8 = .ok (.iconst (-1), 1) := by decide +kernel
theorem dX3_point_9 : decode cX3_point 9 = .ok (.ireturn, 1) := by decide +kernel
theorem dX3_point_10 : decode cX3_point 10 = .ok (.aload_n 0, 1) := by decide +kernel
theorem dX3_point_11 : decode cX3_point 11 = .ok (.getfield 19, 3) := by decide +kernel
theorem dX3_point_14 : decode cX3_point 14 = .ok (.getfield 43, 3) := by decide +kernel
theorem dX3_point_17 : decode cX3_point 17 = .ok (.sipush 1000, 3) := by decide +kernel
theorem dX3_point_20 : decode cX3_point 20 = .ok (.if_icmp .lt 6, 3) := by decide +kernel
theorem dX3_point_23 : decode cX3_point 23 = .ok (.bipush (-12), 2) := by decide +kernel
theorem dX3_point_25 : decode cX3_point 25 = .ok (.ireturn, 1) := by decide +kernel
theorem dX3_point_26 : decode cX3_point 26 = .ok (.aload_n 0, 1) := by decide +kernel
theorem dX3_point_27 : decode cX3_point 27 = .ok (.getfield 19, 3) := by decide +kernel
theorem dX3_point_30 : decode cX3_point 30 = .ok (.iload_n 1, 1) := by decide +kernel
theorem dX3_point_31 : decode cX3_point 31 = .ok (.iload_n 2, 1) := by decide +kernel
theorem dX3_point_32 : decode cX3_point 32 = .ok (.invokevirtual 47, 3) := by decide +kernel
theorem dX3_point_35 : decode cX3_point 35 = .ok (.aload_n 0, 1) := by decide +kernel
theorem dX3_point_36 : decode cX3_point 36 = .ok (.getfield 19, 3) := by decide +kernel
theorem dX3_point_39 : decode cX3_point 39 = .ok (.getfield 43, 3) := by decide +kernel
theorem dX3_point_42 : decode cX3_point 42 = .ok (.ireturn, 1) := by decide +kernel
theorem dX3_clear_0 : decode cX3_clear 0 = .ok (.aload_n 0, 1) := by decide +kernel
theorem dX3_clear_1 : decode cX3_clear 1 = .ok (.getfield 12, 3) := by decide +kernel
theorem dX3_clear_4 : decode cX3_clear 4 = .ok (.iconst 0, 1) := by decide +kernel
theorem dX3_clear_5 : decode cX3_clear 5 = .ok (.putfield 43, 3) := by decide +kernel
theorem dX3_clear_8 : decode cX3_clear 8 = .ok (.aload_n 0, 1) := by decide +kernel
theorem dX3_clear_9 : decode cX3_clear 9 = .ok (.getfield 16, 3) := by decide +kernel
theorem dX3_clear_12 : decode cX3_clear 12 = .ok (.iconst 0, 1) := by decide +kernel
theorem dX3_clear_13 : decode cX3_clear 13 = .ok (.putfield 43, 3) := by decide +kernel
theorem dX3_clear_16 : decode cX3_clear 16 = .ok (.aload_n 0, 1) := by decide +kernel
theorem dX3_clear_17 : decode cX3_clear 17 = .ok (.getfield 19, 3) := by decide +kernel
theorem dX3_clear_20 : decode cX3_clear 20 = .ok (.iconst 0, 1) := by decide +kernel
theorem dX3_clear_21 : decode cX3_clear 21 = .ok (.putfield 43, 3) := by decide +kernel
theorem dX3_clear_24 : decode cX3_clear 24 = .ok (.return_, 1) := by decide +kernel
theorem dX3_lay_0 : decode cX3_lay 0 = .ok (.aload_n 0, 1) := by decide +kernel
theorem dX3_lay_1 : decode cX3_lay 1 = .ok (.invokevirtual 51, 3) := by decide +kernel
theorem dX3_lay_4 : decode cX3_lay 4 = .ok (.ifCond .ne 6, 3) := by decide +kernel
theorem dX3_lay_7 : decode cX3_lay 7 = .ok (.bipush (-12), 2) := by decide +kernel
theorem dX3_lay_9 : decode cX3_lay 9 = .ok (.ireturn, 1) := by decide +kernel
theorem dX3_lay_10 : decode cX3_lay 10 = .ok (.aload_n 0, 1) := by decide +kernel
theorem dX3_lay_11 : decode cX3_lay 11 = .ok (.getfield 36, 3) := by decide +kernel
theorem dX3_lay_14 : decode cX3_lay 14 = .ok (.aload_n 0, 1) := by decide +kernel
theorem dX3_lay_15 : decode cX3_lay 15 = .ok (.getfield 25, 3) := by decide +kernel
theorem dX3_lay_18 : decode cX3_lay 18 = .ok (.invokevirtual 55, 3) := by decide +kernel
theorem dX3_lay_21 : decode cX3_lay 21 = .ok (.aload_n 0, 1) := by decide +kernel
theorem dX3_lay_22 : decode cX3_lay 22 = .ok (.getfield 36, 3) := by decide +kernel
theorem dX3_lay_25 : decode cX3_lay 25 = .ok (.aload_n 0, 1) := by decide +kernel
theorem dX3_lay_26 : decode cX3_lay 26 = .ok (.getfield 12, 3) := by decide +kernel
theorem dX3_lay_29 : decode cX3_lay 29 = .ok (.aload_n 0, 1) := by decide +kernel
theorem dX3_lay_30 : decode cX3_lay 30 = .ok (.getfield 16, 3) := by decide +kernel
theorem dX3_lay_33 : decode cX3_lay 33 = .ok (.invokevirtual 59, 3) := by decide +kernel
theorem dX3_lay_36 : decode cX3_lay 36 = .ok (.ifCond .ne 6, 3) := by decide +kernel
theorem dX3_lay_39 : decode cX3_lay 39 = .ok (.bipush (-12), 2) := by decide +kernel
theorem dX3_lay_41 : decode cX3_lay 41 = .ok (.ireturn, 1) := by decide +kernel
theorem dX3_lay_42 : decode cX3_lay 42 = .ok (.aload_n 0, 1) := by decide +kernel
theorem dX3_lay_43 : decode cX3_lay 43 = .ok (.getfield 36, 3) := by decide +kernel
theorem dX3_lay_46 : decode cX3_lay 46 = .ok (.aload_n 0, 1) := by decide +kernel
theorem dX3_lay_47 : decode cX3_lay 47 = .ok (.getfield 25, 3) := by decide +kernel
theorem dX3_lay_50 : decode cX3_lay 50 = .ok (.invokevirtual 63, 3) := by decide +kernel
theorem dX3_lay_53 : decode cX3_lay 53 = .ok (.aload_n 0, 1) := by decide +kernel
theorem dX3_lay_54 : decode cX3_lay 54 = .ok (.getfield 36, 3) := by decide +kernel
theorem dX3_lay_57 : decode cX3_lay 57 = .ok (.aload_n 0, 1) := by decide +kernel
theorem dX3_lay_58 : decode cX3_lay 58 = .ok (.getfield 25, 3) := by decide +kernel
theorem dX3_lay_61 : decode cX3_lay 61 = .ok (.invokevirtual 66, 3) := by decide +kernel
theorem dX3_lay_64 : decode cX3_lay 64 = .ok (.ifCond .ne 6, 3) := by decide +kernel
theorem dX3_lay_67 : decode cX3_lay 67 = .ok (.bipush (-12), 2) := by decide +kernel
theorem dX3_lay_69 : decode cX3_lay 69 = .ok (.ireturn, 1) := by decide +kernel
theorem dX3_lay_70 : decode cX3_lay 70 = .ok (.aload_n 0, 1) := by decide +kernel
theorem dX3_lay_71 : decode cX3_lay 71 = .ok (.getfield 32, 3) := by decide +kernel
theorem dX3_lay_74 : decode cX3_lay 74 = .ok (.astore_n 1, 1) := by decide +kernel
theorem dX3_lay_75 : decode cX3_lay 75 = .ok (.aload_n 0, 1) := by decide +kernel
theorem dX3_lay_76 : decode cX3_lay 76 = .ok (.aload_n 0, 1) := by decide +kernel
theorem dX3_lay_77 : decode cX3_lay 77 = .ok (.getfield 36, 3) := by decide +kernel
theorem dX3_lay_80 : decode cX3_lay 80 = .ok (.putfield 32, 3) := by decide +kernel
theorem dX3_lay_83 : decode cX3_lay 83 = .ok (.aload_n 0, 1) := by decide +kernel
theorem dX3_lay_84 : decode cX3_lay 84 = .ok (.aload_n 1, 1) := by decide +kernel
theorem dX3_lay_85 : decode cX3_lay 85 = .ok (.putfield 36, 3) := by decide +kernel
theorem dX3_lay_88 : decode cX3_lay 88 = .ok (.aload_n 0, 1) := by decide +kernel
theorem dX3_lay_89 : decode cX3_lay 89 = .ok (.getfield 32, 3) := by decide +kernel
theorem dX3_lay_92 : decode cX3_lay 92 = .ok (.getfield 70, 3) := by decide +kernel
theorem dX3_lay_95 : decode cX3_lay 95 = .ok (.ireturn, 1) := by decide +kernel
theorem dX3_nodes_0 : decode cX3_nodes 0 = .ok (.aload_n 0, 1) := by decide +kernel
theorem dX3_nodes_1 : decode cX3_nodes 1 = .ok (.getfield 32, 3) := by decide +kernel
theorem dX3_nodes_4 : decode cX3_nodes 4 = .ok (.getfield 73, 3) := by decide +kernel
theorem dX3_nodes_7 : decode cX3_nodes 7 = .ok (.getfield 43, 3) := by decide +kernel
theorem dX3_nodes_10 : decode cX3_nodes 10 = .ok (.ireturn, 1) := by decide +kernel
theorem dX3_node_0 : decode cX3_node 0 = .ok (.iload_n 1, 1) := by decide +kernel
theorem dX3_node_1 : decode cX3_node 1 = .ok (.ifCond .lt 17, 3) := by decide +kernel
theorem dX3_node_4 : decode cX3_node 4 = .ok (.iload_n 1, 1) := by decide +kernel
theorem dX3_node_5 : decode cX3_node 5 = .ok (.aload_n 0, 1) := by decide +kernel
theorem dX3_node_6 : decode cX3_node 6 = .ok (.getfield 32, 3) := by decide +kernel
theorem dX3_node_9 : decode cX3_node 9 = .ok (.getfield 73, 3) := by decide +kernel
theorem dX3_node_12 : decode cX3_node 12 = .ok (.getfield 43, 3) := by decide +kernel
theorem dX3_node_15 : decode cX3_node 15 = .ok (.if_icmp .lt 6, 3) := by decide +kernel
theorem dX3_node_18 : decode cX3_node 18 = .ok (.ldc 76, 2) := by decide +kernel
theorem dX3_node_20 : decode cX3_node 20 = .ok (.ireturn, 1) := by decide +kernel
theorem dX3_node_21 : decode cX3_node 21 = .ok (.iload_n 2, 1) := by decide +kernel
theorem dX3_node_22 : decode cX3_node 22 = .ok (.ifCond .ne 16, 3) := by decide +kernel
theorem dX3_node_25 : decode cX3_node 25 = .ok (.aload_n 0, 1) := by decide +kernel
theorem dX3_node_26 : decode cX3_node 26 = .ok (.getfield 32, 3) := by decide +kernel
theorem dX3_node_29 : decode cX3_node 29 = .ok (.getfield 73, 3) := by decide +kernel
theorem dX3_node_32 : decode cX3_node 32 = .ok (.getfield 77, 3) := by decide +kernel
theorem dX3_node_35 : decode cX3_node 35 = .ok (.iload_n 1, 1) := by decide +kernel
theorem dX3_node_36 : decode cX3_node 36 = .ok (.iaload, 1) := by decide +kernel
theorem dX3_node_37 : decode cX3_node 37 = .ok (.ireturn, 1) := by decide +kernel
theorem dX3_node_38 : decode cX3_node 38 = .ok (.iload_n 2, 1) := by decide +kernel
theorem dX3_node_39 : decode cX3_node 39 = .ok (.iconst 1, 1) := by decide +kernel
theorem dX3_node_40 : decode cX3_node 40 = .ok (.if_icmp .ne 18, 3) := by decide +kernel
theorem dX3_node_43 : decode cX3_node 43 = .ok (.aload_n 0, 1) := by decide +kernel
theorem dX3_node_44 : decode cX3_node 44 = .ok (.getfield 32, 3) := by decide +kernel
theorem dX3_node_47 : decode cX3_node 47 = .ok (.getfield 73, 3) := by decide +kernel
theorem dX3_node_50 : decode cX3_node 50 = .ok (.getfield 81, 3) := by decide +kernel
theorem dX3_node_53 : decode cX3_node 53 = .ok (.iload_n 1, 1) := by decide +kernel
theorem dX3_node_54 : decode cX3_node 54 = .ok (.iaload, 1) := by decide +kernel
theorem dX3_node_55 : decode cX3_node 55 = .ok (.goto 5, 3) := by decide +kernel
theorem dX3_node_58 : decode cX3_node 58 = .ok (.ldc 76, 2) := by decide +kernel
theorem dX3_node_60 : decode cX3_node 60 = .ok (.ireturn, 1) := by decide +kernel
theorem dX3_find_0 : decode cX3_find 0 = .ok (.aload_n 0, 1) := by decide +kernel
theorem dX3_find_1 : decode cX3_find 1 = .ok (.getfield 32, 3) := by decide +kernel
theorem dX3_find_4 : decode cX3_find 4 = .ok (.getfield 73, 3) := by decide +kernel
theorem dX3_find_7 : decode cX3_find 7 = .ok (.astore_n 3, 1) := by decide +kernel
theorem dX3_find_8 : decode cX3_find 8 = .ok (.aload_n 3, 1) := by decide +kernel
theorem dX3_find_9 : decode cX3_find 9 = .ok (.iload_n 1, 1) := by decide +kernel
theorem dX3_find_10 : decode cX3_find 10 = .ok (.iload_n 2, 1) := by decide +kernel
theorem dX3_find_11 : decode cX3_find 11 = .ok (.invokevirtual 84, 3) := by decide +kernel
theorem dX3_find_14 : decode cX3_find 14 = .ok (.istore 4, 2) := by decide +kernel
theorem dX3_find_16 : decode cX3_find 16 = .ok (.iload 4, 2) := by decide +kernel
theorem dX3_find_18 : decode cX3_find 18 = .ok (.aload_n 3, 1) := by decide +kernel
theorem dX3_find_19 : decode cX3_find 19 = .ok (.getfield 43, 3) := by decide +kernel
theorem dX3_find_22 : decode cX3_find 22 = .ok (.if_icmp .ge 30, 3) := by decide +kernel
theorem dX3_find_25 : decode cX3_find 25 = .ok (.aload_n 3, 1) := by decide +kernel
theorem dX3_find_26 : decode cX3_find 26 = .ok (.getfield 77, 3) := by decide +kernel
theorem dX3_find_29 : decode cX3_find 29 = .ok (.iload 4, 2) := by decide +kernel
theorem dX3_find_31 : decode cX3_find 31 = .ok (.iaload, 1) := by decide +kernel
theorem dX3_find_32 : decode cX3_find 32 = .ok (.iload_n 1, 1) := by decide +kernel
theorem dX3_find_33 : decode cX3_find 33 = .ok (.if_icmp .ne 19, 3) := by decide +kernel
theorem dX3_find_36 : decode cX3_find 36 = .ok (.aload_n 3, 1) := by decide +kernel
theorem dX3_find_37 : decode cX3_find 37 = .ok (.getfield 81, 3) := by decide +kernel
theorem dX3_find_40 : decode cX3_find 40 = .ok (.iload 4, 2) := by decide +kernel
theorem dX3_find_42 : decode cX3_find 42 = .ok (.iaload, 1) := by decide +kernel
theorem dX3_find_43 : decode cX3_find 43 = .ok (.iload_n 2, 1) := by decide +kernel
theorem dX3_find_44 : decode cX3_find 44 = .ok (.if_icmp .ne 8, 3) := by decide +kernel
theorem dX3_find_47 : decode cX3_find 47 = .ok (.iload 4, 2) := by decide +kernel
theorem dX3_find_49 : decode cX3_find 49 = .ok (.goto 4, 3) := by decide +kernel
theorem dX3_find_52 : decode cX3_find 52 = .ok (.iconst (-1), 1) := by decide +kernel
theorem dX3_find_53 : decode cX3_find 53 = .ok (.ireturn, 1) := by decide +kernel
theorem dX3_pieces_0 : decode cX3_pieces 0 = .ok (.aload_n 0, 1) := by decide +kernel
theorem dX3_pieces_1 : decode cX3_pieces 1 = .ok (.getfield 32, 3) := by decide +kernel
theorem dX3_pieces_4 : decode cX3_pieces 4 = .ok (.getfield 70, 3) := by decide +kernel
theorem dX3_pieces_7 : decode cX3_pieces 7 = .ok (.ireturn, 1) := by decide +kernel
theorem dX3_piece_0 : decode cX3_piece 0 = .ok (.iload_n 1, 1) := by decide +kernel
theorem dX3_piece_1 : decode cX3_piece 1 = .ok (.ifCond .lt 14, 3) := by decide +kernel
theorem dX3_piece_4 : decode cX3_piece 4 = .ok (.iload_n 1, 1) := by decide +kernel
theorem dX3_piece_5 : decode cX3_piece 5 = .ok (.aload_n 0, 1) := by decide +kernel
theorem dX3_piece_6 : decode cX3_piece 6 = .ok (.getfield 32, 3) := by decide +kernel
theorem dX3_piece_9 : decode cX3_piece 9 = .ok (.getfield 70, 3) := by decide +kernel
theorem dX3_piece_12 : decode cX3_piece 12 = .ok (.if_icmp .lt 5, 3) := by decide +kernel
theorem dX3_piece_15 : decode cX3_piece 15 = .ok (.iconst (-1), 1) := by decide +kernel
theorem dX3_piece_16 : decode cX3_piece 16 = .ok (.ireturn, 1) := by decide +kernel
theorem dX3_piece_17 : decode cX3_piece 17 = .ok (.iload_n 2, 1) := by decide +kernel
theorem dX3_piece_18 : decode cX3_piece 18 = .ok (.tableswitch 56 0 2 #[26, 36, 46], 26) := by decide +kernel
theorem dX3_piece_44 : decode cX3_piece 44 = .ok (.aload_n 0, 1) := by decide +kernel
theorem dX3_piece_45 : decode cX3_piece 45 = .ok (.getfield 32, 3) := by decide +kernel
theorem dX3_piece_48 : decode cX3_piece 48 = .ok (.getfield 88, 3) := by decide +kernel
theorem dX3_piece_51 : decode cX3_piece 51 = .ok (.iload_n 1, 1) := by decide +kernel
theorem dX3_piece_52 : decode cX3_piece 52 = .ok (.iaload, 1) := by decide +kernel
theorem dX3_piece_53 : decode cX3_piece 53 = .ok (.ireturn, 1) := by decide +kernel
theorem dX3_piece_54 : decode cX3_piece 54 = .ok (.aload_n 0, 1) := by decide +kernel
theorem dX3_piece_55 : decode cX3_piece 55 = .ok (.getfield 32, 3) := by decide +kernel
theorem dX3_piece_58 : decode cX3_piece 58 = .ok (.getfield 91, 3) := by decide +kernel
theorem dX3_piece_61 : decode cX3_piece 61 = .ok (.iload_n 1, 1) := by decide +kernel
theorem dX3_piece_62 : decode cX3_piece 62 = .ok (.iaload, 1) := by decide +kernel
theorem dX3_piece_63 : decode cX3_piece 63 = .ok (.ireturn, 1) := by decide +kernel
theorem dX3_piece_64 : decode cX3_piece 64 = .ok (.aload_n 0, 1) := by decide +kernel
theorem dX3_piece_65 : decode cX3_piece 65 = .ok (.getfield 32, 3) := by decide +kernel
theorem dX3_piece_68 : decode cX3_piece 68 = .ok (.getfield 94, 3) := by decide +kernel
theorem dX3_piece_71 : decode cX3_piece 71 = .ok (.iload_n 1, 1) := by decide +kernel
theorem dX3_piece_72 : decode cX3_piece 72 = .ok (.iaload, 1) := by decide +kernel
theorem dX3_piece_73 : decode cX3_piece 73 = .ok (.ireturn, 1) := by decide +kernel
theorem dX3_piece_74 : decode cX3_piece 74 = .ok (.iconst (-1), 1) := by decide +kernel
theorem dX3_piece_75 : decode cX3_piece 75 = .ok (.ireturn, 1) := by decide +kernel
theorem dX3_way_0 : decode cX3_way 0 = .ok (.iload_n 1, 1) := by decide +kernel
theorem dX3_way_1 : decode cX3_way 1 = .ok (.ifCond .lt 14, 3) := by decide +kernel
theorem dX3_way_4 : decode cX3_way 4 = .ok (.iload_n 1, 1) := by decide +kernel
theorem dX3_way_5 : decode cX3_way 5 = .ok (.aload_n 0, 1) := by decide +kernel
theorem dX3_way_6 : decode cX3_way 6 = .ok (.getfield 32, 3) := by decide +kernel
theorem dX3_way_9 : decode cX3_way 9 = .ok (.getfield 97, 3) := by decide +kernel
theorem dX3_way_12 : decode cX3_way 12 = .ok (.if_icmp .lt 5, 3) := by decide +kernel
theorem dX3_way_15 : decode cX3_way 15 = .ok (.iconst (-1), 1) := by decide +kernel
theorem dX3_way_16 : decode cX3_way 16 = .ok (.ireturn, 1) := by decide +kernel
theorem dX3_way_17 : decode cX3_way 17 = .ok (.aload_n 0, 1) := by decide +kernel
theorem dX3_way_18 : decode cX3_way 18 = .ok (.getfield 32, 3) := by decide +kernel
theorem dX3_way_21 : decode cX3_way 21 = .ok (.getfield 100, 3) := by decide +kernel
theorem dX3_way_24 : decode cX3_way 24 = .ok (.iload_n 1, 1) := by decide +kernel
theorem dX3_way_25 : decode cX3_way 25 = .ok (.iconst 1, 1) := by decide +kernel
theorem dX3_way_26 : decode cX3_way 26 = .ok (.iadd, 1) := by decide +kernel
theorem dX3_way_27 : decode cX3_way 27 = .ok (.iaload, 1) := by decide +kernel
theorem dX3_way_28 : decode cX3_way 28 = .ok (.aload_n 0, 1) := by decide +kernel
theorem dX3_way_29 : decode cX3_way 29 = .ok (.getfield 32, 3) := by decide +kernel
theorem dX3_way_32 : decode cX3_way 32 = .ok (.getfield 100, 3) := by decide +kernel
theorem dX3_way_35 : decode cX3_way 35 = .ok (.iload_n 1, 1) := by decide +kernel
theorem dX3_way_36 : decode cX3_way 36 = .ok (.iaload, 1) := by decide +kernel
theorem dX3_way_37 : decode cX3_way 37 = .ok (.isub, 1) := by decide +kernel
theorem dX3_way_38 : decode cX3_way 38 = .ok (.ireturn, 1) := by decide +kernel
theorem dX3_wayNode_0 : decode cX3_wayNode 0 = .ok (.iload_n 1, 1) := by decide +kernel
theorem dX3_wayNode_1 : decode cX3_wayNode 1 = .ok (.ifCond .lt 18, 3) := by decide +kernel
theorem dX3_wayNode_4 : decode cX3_wayNode 4 = .ok (.iload_n 1, 1) := by decide +kernel
theorem dX3_wayNode_5 : decode cX3_wayNode 5 = .ok (.aload_n 0, 1) := by decide +kernel
theorem dX3_wayNode_6 : decode cX3_wayNode 6 = .ok (.getfield 32, 3) := by decide +kernel
theorem dX3_wayNode_9 : decode cX3_wayNode 9 = .ok (.getfield 97, 3) := by decide +kernel
theorem dX3_wayNode_12 : decode cX3_wayNode 12 = .ok (.if_icmp .ge 7, 3) := by decide +kernel
theorem dX3_wayNode_15 : decode cX3_wayNode 15 = .ok (.iload_n 2, 1) := by decide +kernel
theorem dX3_wayNode_16 : decode cX3_wayNode 16 = .ok (.ifCond .ge 5, 3) := by decide +kernel
theorem dX3_wayNode_19 : decode cX3_wayNode 19 = .ok (.iconst (-1), 1) := by decide +kernel
theorem dX3_wayNode_20 : decode cX3_wayNode 20 = .ok (.ireturn, 1) := by decide +kernel
theorem dX3_wayNode_21 : decode cX3_wayNode 21 = .ok (.aload_n 0, 1) := by decide +kernel
theorem dX3_wayNode_22 : decode cX3_wayNode 22 = .ok (.getfield 32, 3) := by decide +kernel
theorem dX3_wayNode_25 : decode cX3_wayNode 25 = .ok (.getfield 100, 3) := by decide +kernel
theorem dX3_wayNode_28 : decode cX3_wayNode 28 = .ok (.iload_n 1, 1) := by decide +kernel
theorem dX3_wayNode_29 : decode cX3_wayNode 29 = .ok (.iaload, 1) := by decide +kernel
theorem dX3_wayNode_30 : decode cX3_wayNode 30 = .ok (.istore_n 3, 1) := by decide +kernel
theorem dX3_wayNode_31 : decode cX3_wayNode 31 = .ok (.iload_n 2, 1) := by decide +kernel
theorem dX3_wayNode_32 : decode cX3_wayNode 32 = .ok (.aload_n 0, 1) := by decide +kernel
theorem dX3_wayNode_33 : decode cX3_wayNode 33 = .ok (.getfield 32, 3) := by decide +kernel
theorem dX3_wayNode_36 : decode cX3_wayNode 36 = .ok (.getfield 100, 3) := by decide +kernel
theorem dX3_wayNode_39 : decode cX3_wayNode 39 = .ok (.iload_n 1, 1) := by decide +kernel
theorem dX3_wayNode_40 : decode cX3_wayNode 40 = .ok (.iconst 1, 1) := by decide +kernel
theorem dX3_wayNode_41 : decode cX3_wayNode 41 = .ok (.iadd, 1) := by decide +kernel
theorem dX3_wayNode_42 : decode cX3_wayNode 42 = .ok (.iaload, 1) := by decide +kernel
theorem dX3_wayNode_43 : decode cX3_wayNode 43 = .ok (.iload_n 3, 1) := by decide +kernel
theorem dX3_wayNode_44 : decode cX3_wayNode 44 = .ok (.isub, 1) := by decide +kernel
theorem dX3_wayNode_45 : decode cX3_wayNode 45 = .ok (.if_icmp .ge 17, 3) := by decide +kernel
theorem dX3_wayNode_48 : decode cX3_wayNode 48 = .ok (.aload_n 0, 1) := by decide +kernel
theorem dX3_wayNode_49 : decode cX3_wayNode 49 = .ok (.getfield 32, 3) := by decide +kernel
theorem dX3_wayNode_52 : decode cX3_wayNode 52 = .ok (.getfield 103, 3) := by decide +kernel
theorem dX3_wayNode_55 : decode cX3_wayNode 55 = .ok (.iload_n 3, 1) := by decide +kernel
theorem dX3_wayNode_56 : decode cX3_wayNode 56 = .ok (.iload_n 2, 1) := by decide +kernel
theorem dX3_wayNode_57 : decode cX3_wayNode 57 = .ok (.iadd, 1) := by decide +kernel
theorem dX3_wayNode_58 : decode cX3_wayNode 58 = .ok (.iaload, 1) := by decide +kernel
theorem dX3_wayNode_59 : decode cX3_wayNode 59 = .ok (.goto 4, 3) := by decide +kernel
theorem dX3_wayNode_62 : decode cX3_wayNode 62 = .ok (.iconst (-1), 1) := by decide +kernel
theorem dX3_wayNode_63 : decode cX3_wayNode 63 = .ok (.ireturn, 1) := by decide +kernel
theorem dX3_inBounds_0 : decode cX3_inBounds 0 = .ok (.iload_n 0, 1) := by decide +kernel
theorem dX3_inBounds_1 : decode cX3_inBounds 1 = .ok (.ldc 106, 2) := by decide +kernel
theorem dX3_inBounds_3 : decode cX3_inBounds 3 = .ok (.if_icmp .lt 25, 3) := by decide +kernel
theorem dX3_inBounds_6 : decode cX3_inBounds 6 = .ok (.iload_n 0, 1) := by decide +kernel
theorem dX3_inBounds_7 : decode cX3_inBounds 7 = .ok (.ldc 107, 2) := by decide +kernel
theorem dX3_inBounds_9 : decode cX3_inBounds 9 = .ok (.if_icmp .gt 19, 3) := by decide +kernel
theorem dX3_inBounds_12 : decode cX3_inBounds 12 = .ok (.iload_n 1, 1) := by decide +kernel
theorem dX3_inBounds_13 : decode cX3_inBounds 13 = .ok (.ldc 106, 2) := by decide +kernel
theorem dX3_inBounds_15 : decode cX3_inBounds 15 = .ok (.if_icmp .lt 13, 3) := by decide +kernel
theorem dX3_inBounds_18 : decode cX3_inBounds 18 = .ok (.iload_n 1, 1) := by decide +kernel
theorem dX3_inBounds_19 : decode cX3_inBounds 19 = .ok (.ldc 107, 2) := by decide +kernel
theorem dX3_inBounds_21 : decode cX3_inBounds 21 = .ok (.if_icmp .gt 7, 3) := by decide +kernel
theorem dX3_inBounds_24 : decode cX3_inBounds 24 = .ok (.iconst 1, 1) := by decide +kernel
theorem dX3_inBounds_25 : decode cX3_inBounds 25 = .ok (.goto 4, 3) := by decide +kernel
theorem dX3_inBounds_28 : decode cX3_inBounds 28 = .ok (.iconst 0, 1) := by decide +kernel
theorem dX3_inBounds_29 : decode cX3_inBounds 29 = .ok (.ireturn, 1) := by decide +kernel
theorem dX3_gatherHotPlaces_0 : decode cX3_gatherHotPlaces 0 = .ok (.aload_n 0, 1) := by decide +kernel
theorem dX3_gatherHotPlaces_1 : decode cX3_gatherHotPlaces 1 = .ok (.getfield 25, 3) := by decide +kernel
theorem dX3_gatherHotPlaces_4 : decode cX3_gatherHotPlaces 4 = .ok (.iconst 0, 1) := by decide +kernel
theorem dX3_gatherHotPlaces_5 : decode cX3_gatherHotPlaces 5 = .ok (.putfield 108, 3) := by decide +kernel
theorem dX3_gatherHotPlaces_8 : decode cX3_gatherHotPlaces 8 = .ok (.aload_n 0, 1) := by decide +kernel
theorem dX3_gatherHotPlaces_9 : decode cX3_gatherHotPlaces 9 = .ok (.aload_n 0, 1) := by decide +kernel
theorem dX3_gatherHotPlaces_10 : decode cX3_gatherHotPlaces 10 = .ok (.getfield 12, 3) := by decide +kernel
theorem dX3_gatherHotPlaces_13 : decode cX3_gatherHotPlaces 13 = .ok (.invokevirtual 109, 3) := by decide +kernel
theorem dX3_gatherHotPlaces_16 : decode cX3_gatherHotPlaces 16 = .ok (.aload_n 0, 1) := by decide +kernel
theorem dX3_gatherHotPlaces_17 : decode cX3_gatherHotPlaces 17 = .ok (.aload_n 0, 1) := by decide +kernel
theorem dX3_gatherHotPlaces_18 : decode cX3_gatherHotPlaces 18 = .ok (.getfield 16, 3) := by decide +kernel
theorem dX3_gatherHotPlaces_21 : decode cX3_gatherHotPlaces 21 = .ok (.invokevirtual 109, 3) := by decide +kernel
theorem dX3_gatherHotPlaces_24 : decode cX3_gatherHotPlaces 24 = .ok (.aload_n 0, 1) := by decide +kernel
theorem dX3_gatherHotPlaces_25 : decode cX3_gatherHotPlaces 25 = .ok (.aload_n 0, 1) := by decide +kernel
theorem dX3_gatherHotPlaces_26 : decode cX3_gatherHotPlaces 26 = .ok (.getfield 19, 3) := by decide +kernel
theorem dX3_gatherHotPlaces_29 : decode cX3_gatherHotPlaces 29 = .ok (.invokevirtual 109, 3) := by decide +kernel
theorem dX3_gatherHotPlaces_32 : decode cX3_gatherHotPlaces 32 = .ok (.iconst 1, 1) := by decide +kernel
theorem dX3_gatherHotPlaces_33 : decode cX3_gatherHotPlaces 33 = .ok (.istore_n 1, 1) := by decide +kernel
theorem dX3_gatherHotPlaces_34 : decode cX3_gatherHotPlaces 34 = .ok (.iload_n 1, 1) := by decide +kernel
theorem dX3_gatherHotPlaces_35 : decode cX3_gatherHotPlaces 35 = .ok (.aload_n 0, 1) := by decide +kernel
theorem dX3_gatherHotPlaces_36 : decode cX3_gatherHotPlaces 36 = .ok (.getfield 12, 3) := by decide +kernel
theorem dX3_gatherHotPlaces_39 : decode cX3_gatherHotPlaces 39 = .ok (.getfield 43, 3) := by decide +kernel
theorem dX3_gatherHotPlaces_42 : decode cX3_gatherHotPlaces 42 = .ok (.if_icmp .ge 36, 3) := by decide +kernel
theorem dX3_gatherHotPlaces_45 : decode cX3_gatherHotPlaces 45 = .ok (.aload_n 0, 1) := by decide +kernel
theorem dX3_gatherHotPlaces_46 : decode cX3_gatherHotPlaces 46 = .ok (.iload_n 1, 1) := by decide +kernel
theorem dX3_gatherHotPlaces_47 : decode cX3_gatherHotPlaces 47 = .ok (.invokevirtual 113, 3) := by decide +kernel
theorem dX3_gatherHotPlaces_50 : decode cX3_gatherHotPlaces 50 = .ok (.aload_n 0, 1) := by decide +kernel
theorem dX3_gatherHotPlaces_51 : decode cX3_gatherHotPlaces 51 = .ok (.getfield 25, 3) := by decide +kernel
theorem dX3_gatherHotPlaces_54 : decode cX3_gatherHotPlaces 54 = .ok (.getfield 108, 3) := by decide +kernel
theorem dX3_gatherHotPlaces_57 : decode cX3_gatherHotPlaces 57 = .ok (.sipush 18000, 3) := by decide +kernel
theorem dX3_gatherHotPlaces_60 : decode cX3_gatherHotPlaces 60 = .ok (.if_icmp .le 12, 3) := by decide +kernel
theorem dX3_gatherHotPlaces_63 : decode cX3_gatherHotPlaces 63 = .ok (.aload_n 0, 1) := by decide +kernel
theorem dX3_gatherHotPlaces_64 : decode cX3_gatherHotPlaces 64 = .ok (.invokevirtual 117, 3) := by decide +kernel
theorem dX3_gatherHotPlaces_67 : decode cX3_gatherHotPlaces 67 = .ok (.ifCond .ne 5, 3) := by decide +kernel
theorem dX3_gatherHotPlaces_70 : decode cX3_gatherHotPlaces 70 = .ok (.iconst 0, 1) := by decide +kernel
theorem dX3_gatherHotPlaces_71 : decode cX3_gatherHotPlaces 71 = .ok (.ireturn, 1) := by decide +kernel
theorem dX3_gatherHotPlaces_72 : decode cX3_gatherHotPlaces 72 = .ok (.iinc 1 1, 3) := by decide +kernel
theorem dX3_gatherHotPlaces_75 : decode cX3_gatherHotPlaces 75 = .ok (.goto (-41), 3) := by decide +kernel
theorem dX3_gatherHotPlaces_78 : decode cX3_gatherHotPlaces 78 = .ok (.aload_n 0, 1) := by decide +kernel
theorem dX3_gatherHotPlaces_79 : decode cX3_gatherHotPlaces 79 = .ok (.invokevirtual 117, 3) := by decide +kernel
theorem dX3_gatherHotPlaces_82 : decode cX3_gatherHotPlaces 82 = .ok (.ireturn, 1) := by decide +kernel
theorem dX3_settleHotPlaces_0 : decode cX3_settleHotPlaces 0 = .ok (.aload_n 0, 1) := by decide +kernel
theorem dX3_settleHotPlaces_1 : decode cX3_settleHotPlaces 1 = .ok (.getfield 25, 3) := by decide +kernel
theorem dX3_settleHotPlaces_4 : decode cX3_settleHotPlaces 4 = .ok (.invokevirtual 120, 3) := by decide +kernel
theorem dX3_settleHotPlaces_7 : decode cX3_settleHotPlaces 7 = .ok (.aload_n 0, 1) := by decide +kernel
theorem dX3_settleHotPlaces_8 : decode cX3_settleHotPlaces 8 = .ok (.getfield 25, 3) := by decide +kernel
theorem dX3_settleHotPlaces_11 : decode cX3_settleHotPlaces 11 = .ok (.invokevirtual 123, 3) := by decide +kernel
theorem dX3_settleHotPlaces_14 : decode cX3_settleHotPlaces 14 = .ok (.aload_n 0, 1) := by decide +kernel
theorem dX3_settleHotPlaces_15 : decode cX3_settleHotPlaces 15 = .ok (.getfield 25, 3) := by decide +kernel
theorem dX3_settleHotPlaces_18 : decode cX3_settleHotPlaces 18 = .ok (.getfield 108, 3) := by decide +kernel
theorem dX3_settleHotPlaces_21 : decode cX3_settleHotPlaces 21 = .ok (.sipush 6000, 3) := by decide +kernel
theorem dX3_settleHotPlaces_24 : decode cX3_settleHotPlaces 24 = .ok (.if_icmp .gt 7, 3) := by decide +kernel
theorem dX3_settleHotPlaces_27 : decode cX3_settleHotPlaces 27 = .ok (.iconst 1, 1) := by decide +kernel
theorem dX3_settleHotPlaces_28 : decode cX3_settleHotPlaces 28 = .ok (.goto 4, 3) := by decide +kernel
theorem dX3_settleHotPlaces_31 : decode cX3_settleHotPlaces 31 = .ok (.iconst 0, 1) := by decide +kernel
theorem dX3_settleHotPlaces_32 : decode cX3_settleHotPlaces 32 = .ok (.ireturn, 1) := by decide +kernel
theorem dX3_heatAll_0 : decode cX3_heatAll 0 = .ok (.iconst 0, 1) := by decide +kernel
theorem dX3_heatAll_1 : decode cX3_heatAll 1 = .ok (.istore_n 2, 1) := by decide +kernel
theorem dX3_heatAll_2 : decode cX3_heatAll 2 = .ok (.iload_n 2, 1) := by decide +kernel
theorem dX3_heatAll_3 : decode cX3_heatAll 3 = .ok (.aload_n 1, 1) := by decide +kernel
theorem dX3_heatAll_4 : decode cX3_heatAll 4 = .ok (.getfield 43, 3) := by decide +kernel
theorem dX3_heatAll_7 : decode cX3_heatAll 7 = .ok (.if_icmp .ge 27, 3) := by decide +kernel
theorem dX3_heatAll_10 : decode cX3_heatAll 10 = .ok (.aload_n 0, 1) := by decide +kernel
theorem dX3_heatAll_11 : decode cX3_heatAll 11 = .ok (.aload_n 1, 1) := by decide +kernel
theorem dX3_heatAll_12 : decode cX3_heatAll 12 = .ok (.getfield 77, 3) := by decide +kernel
theorem dX3_heatAll_15 : decode cX3_heatAll 15 = .ok (.iload_n 2, 1) := by decide +kernel
theorem dX3_heatAll_16 : decode cX3_heatAll 16 = .ok (.iaload, 1) := by decide +kernel
theorem dX3_heatAll_17 : decode cX3_heatAll 17 = .ok (.i2l, 1) := by decide +kernel
theorem dX3_heatAll_18 : decode cX3_heatAll 18 = .ok (.aload_n 1, 1) := by decide +kernel
theorem dX3_heatAll_19 : decode cX3_heatAll 19 = .ok (.getfield 81, 3) := by decide +kernel
theorem dX3_heatAll_22 : decode cX3_heatAll 22 = .ok (.iload_n 2, 1) := by decide +kernel
theorem dX3_heatAll_23 : decode cX3_heatAll 23 = .ok (.iaload, 1) := by decide +kernel
theorem dX3_heatAll_24 : decode cX3_heatAll 24 = .ok (.i2l, 1) := by decide +kernel
theorem dX3_heatAll_25 : decode cX3_heatAll 25 = .ok (.invokevirtual 126, 3) := by decide +kernel
theorem dX3_heatAll_28 : decode cX3_heatAll 28 = .ok (.iinc 2 1, 3) := by decide +kernel
theorem dX3_heatAll_31 : decode cX3_heatAll 31 = .ok (.goto (-29), 3) := by decide +kernel
theorem dX3_heatAll_34 : decode cX3_heatAll 34 = .ok (.return_, 1) := by decide +kernel
theorem dX3_heat_0 : decode cX3_heat 0 = .ok (.aload_n 0, 1) := by decide +kernel
theorem dX3_heat_1 : decode cX3_heat 1 = .ok (.getfield 25, 3) := by decide +kernel
theorem dX3_heat_4 : decode cX3_heat 4 = .ok (.lload_n 1, 1) := by decide +kernel
theorem dX3_heat_5 : decode cX3_heat 5 = .ok (.ldc2_w 130, 3) := by decide +kernel
theorem dX3_heat_8 : decode cX3_heat 8 = .ok (.ladd, 1) := by decide +kernel
theorem dX3_heat_9 : decode cX3_heat 9 = .ok (.ldc2_w 132, 3) := by decide +kernel
theorem dX3_heat_12 : decode cX3_heat 12 = .ok (.lmul, 1) := by decide +kernel
theorem dX3_heat_13 : decode cX3_heat 13 = .ok (.lload_n 3, 1) := by decide +kernel
theorem dX3_heat_14 : decode cX3_heat 14 = .ok (.ldc2_w 130, 3) := by decide +kernel
theorem dX3_heat_17 : decode cX3_heat 17 = .ok (.ladd, 1) := by decide +kernel
theorem dX3_heat_18 : decode cX3_heat 18 = .ok (.ladd, 1) := by decide +kernel
theorem dX3_heat_19 : decode cX3_heat 19 = .ok (.invokevirtual 134, 3) := by decide +kernel
theorem dX3_heat_22 : decode cX3_heat 22 = .ok (.return_, 1) := by decide +kernel
theorem dX3_heatCrossings_0 : decode cX3_heatCrossings 0 = .ok (.iconst 0, 1) := by decide +kernel
theorem dX3_heatCrossings_1 : decode cX3_heatCrossings 1 = .ok (.istore_n 2, 1) := by decide +kernel
theorem dX3_heatCrossings_2 : decode cX3_heatCrossings 2 = .ok (.iload_n 2, 1) := by decide +kernel
theorem dX3_heatCrossings_3 : decode cX3_heatCrossings 3 = .ok (.iload_n 1, 1) := by decide +kernel
theorem dX3_heatCrossings_4 : decode cX3_heatCrossings 4 = .ok (.if_icmp .ge 15, 3) := by decide +kernel
theorem dX3_heatCrossings_7 : decode cX3_heatCrossings 7 = .ok (.aload_n 0, 1) := by decide +kernel
theorem dX3_heatCrossings_8 : decode cX3_heatCrossings 8 = .ok (.iload_n 1, 1) := by decide +kernel
theorem dX3_heatCrossings_9 : decode cX3_heatCrossings 9 = .ok (.iload_n 2, 1) := by decide +kernel
theorem dX3_heatCrossings_10 : decode cX3_heatCrossings 10 = .ok (.invokevirtual 137, 3) := by decide +kernel
theorem dX3_heatCrossings_13 : decode cX3_heatCrossings 13 = .ok (.iinc 2 1, 3) := by decide +kernel
theorem dX3_heatCrossings_16 : decode cX3_heatCrossings 16 = .ok (.goto (-14), 3) := by decide +kernel
theorem dX3_heatCrossings_19 : decode cX3_heatCrossings 19 = .ok (.return_, 1) := by decide +kernel
theorem dX3_heatCrossing_0 : decode cX3_heatCrossing 0 = .ok (.aload_n 0, 1) := by decide +kernel
theorem dX3_heatCrossing_1 : decode cX3_heatCrossing 1 = .ok (.getfield 16, 3) := by decide +kernel
theorem dX3_heatCrossing_4 : decode cX3_heatCrossing 4 = .ok (.getfield 77, 3) := by decide +kernel
theorem dX3_heatCrossing_7 : decode cX3_heatCrossing 7 = .ok (.iload_n 1, 1) := by decide +kernel
theorem dX3_heatCrossing_8 : decode cX3_heatCrossing 8 = .ok (.iaload, 1) := by decide +kernel
theorem dX3_heatCrossing_9 : decode cX3_heatCrossing 9 = .ok (.aload_n 0, 1) := by decide +kernel
theorem dX3_heatCrossing_10 : decode cX3_heatCrossing 10 = .ok (.getfield 12, 3) := by decide +kernel
theorem dX3_heatCrossing_13 : decode cX3_heatCrossing 13 = .ok (.getfield 77, 3) := by decide +kernel
theorem dX3_heatCrossing_16 : decode cX3_heatCrossing 16 = .ok (.iload_n 1, 1) := by decide +kernel
theorem dX3_heatCrossing_17 : decode cX3_heatCrossing 17 = .ok (.iaload, 1) := by decide +kernel
theorem dX3_heatCrossing_18 : decode cX3_heatCrossing 18 = .ok (.isub, 1) := by decide +kernel
theorem dX3_heatCrossing_19 : decode cX3_heatCrossing 19 = .ok (.i2l, 1) := by decide +kernel
theorem dX3_heatCrossing_20 : decode cX3_heatCrossing 20 = .ok (.lstore_n 3, 1) := by decide +kernel
theorem dX3_heatCrossing_21 : decode cX3_heatCrossing 21 = .ok (.aload_n 0, 1) := by decide +kernel
theorem dX3_heatCrossing_22 : decode cX3_heatCrossing 22 = .ok (.getfield 16, 3) := by decide +kernel
theorem dX3_heatCrossing_25 : decode cX3_heatCrossing 25 = .ok (.getfield 81, 3) := by decide +kernel
theorem dX3_heatCrossing_28 : decode cX3_heatCrossing 28 = .ok (.iload_n 1, 1) := by decide +kernel
theorem dX3_heatCrossing_29 : decode cX3_heatCrossing 29 = .ok (.iaload, 1) := by decide +kernel
theorem dX3_heatCrossing_30 : decode cX3_heatCrossing 30 = .ok (.aload_n 0, 1) := by decide +kernel
theorem dX3_heatCrossing_31 : decode cX3_heatCrossing 31 = .ok (.getfield 12, 3) := by decide +kernel
theorem dX3_heatCrossing_34 : decode cX3_heatCrossing 34 = .ok (.getfield 81, 3) := by decide +kernel
theorem dX3_heatCrossing_37 : decode cX3_heatCrossing 37 = .ok (.iload_n 1, 1) := by decide +kernel
theorem dX3_heatCrossing_38 : decode cX3_heatCrossing 38 = .ok (.iaload, 1) := by decide +kernel
theorem dX3_heatCrossing_39 : decode cX3_heatCrossing 39 = .ok (.isub, 1) := by decide +kernel
theorem dX3_heatCrossing_40 : decode cX3_heatCrossing 40 = .ok (.i2l, 1) := by decide +kernel
theorem dX3_heatCrossing_41 : decode cX3_heatCrossing 41 = .ok (.lstore 5, 2) := by decide +kernel
theorem dX3_heatCrossing_43 : decode cX3_heatCrossing 43 = .ok (.aload_n 0, 1) := by decide +kernel
theorem dX3_heatCrossing_44 : decode cX3_heatCrossing 44 = .ok (.getfield 16, 3) := by decide +kernel
theorem dX3_heatCrossing_47 : decode cX3_heatCrossing 47 = .ok (.getfield 77, 3) := by decide +kernel
theorem dX3_heatCrossing_50 : decode cX3_heatCrossing 50 = .ok (.iload_n 2, 1) := by decide +kernel
theorem dX3_heatCrossing_51 : decode cX3_heatCrossing 51 = .ok (.iaload, 1) := by decide +kernel
theorem dX3_heatCrossing_52 : decode cX3_heatCrossing 52 = .ok (.aload_n 0, 1) := by decide +kernel
theorem dX3_heatCrossing_53 : decode cX3_heatCrossing 53 = .ok (.getfield 12, 3) := by decide +kernel
theorem dX3_heatCrossing_56 : decode cX3_heatCrossing 56 = .ok (.getfield 77, 3) := by decide +kernel
theorem dX3_heatCrossing_59 : decode cX3_heatCrossing 59 = .ok (.iload_n 2, 1) := by decide +kernel
theorem dX3_heatCrossing_60 : decode cX3_heatCrossing 60 = .ok (.iaload, 1) := by decide +kernel
theorem dX3_heatCrossing_61 : decode cX3_heatCrossing 61 = .ok (.isub, 1) := by decide +kernel
theorem dX3_heatCrossing_62 : decode cX3_heatCrossing 62 = .ok (.i2l, 1) := by decide +kernel
theorem dX3_heatCrossing_63 : decode cX3_heatCrossing 63 = .ok (.lstore 7, 2) := by decide +kernel
theorem dX3_heatCrossing_65 : decode cX3_heatCrossing 65 = .ok (.aload_n 0, 1) := by decide +kernel
theorem dX3_heatCrossing_66 : decode cX3_heatCrossing 66 = .ok (.getfield 16, 3) := by decide +kernel
theorem dX3_heatCrossing_69 : decode cX3_heatCrossing 69 = .ok (.getfield 81, 3) := by decide +kernel
theorem dX3_heatCrossing_72 : decode cX3_heatCrossing 72 = .ok (.iload_n 2, 1) := by decide +kernel
theorem dX3_heatCrossing_73 : decode cX3_heatCrossing 73 = .ok (.iaload, 1) := by decide +kernel
theorem dX3_heatCrossing_74 : decode cX3_heatCrossing 74 = .ok (.aload_n 0, 1) := by decide +kernel
theorem dX3_heatCrossing_75 : decode cX3_heatCrossing 75 = .ok (.getfield 12, 3) := by decide +kernel
theorem dX3_heatCrossing_78 : decode cX3_heatCrossing 78 = .ok (.getfield 81, 3) := by decide +kernel
theorem dX3_heatCrossing_81 : decode cX3_heatCrossing 81 = .ok (.iload_n 2, 1) := by decide +kernel
theorem dX3_heatCrossing_82 : decode cX3_heatCrossing 82 = .ok (.iaload, 1) := by decide +kernel
theorem dX3_heatCrossing_83 : decode cX3_heatCrossing 83 = .ok (.isub, 1) := by decide +kernel
theorem dX3_heatCrossing_84 : decode cX3_heatCrossing 84 = .ok (.i2l, 1) := by decide +kernel
theorem dX3_heatCrossing_85 : decode cX3_heatCrossing 85 = .ok (.lstore 9, 2) := by decide +kernel
theorem dX3_heatCrossing_87 : decode cX3_heatCrossing 87 = .ok (.aload_n 0, 1) := by decide +kernel
theorem dX3_heatCrossing_88 : decode cX3_heatCrossing 88 = .ok (.getfield 12, 3) := by decide +kernel
theorem dX3_heatCrossing_91 : decode cX3_heatCrossing 91 = .ok (.getfield 77, 3) := by decide +kernel
theorem dX3_heatCrossing_94 : decode cX3_heatCrossing 94 = .ok (.iload_n 2, 1) := by decide +kernel
theorem dX3_heatCrossing_95 : decode cX3_heatCrossing 95 = .ok (.iaload, 1) := by decide +kernel
theorem dX3_heatCrossing_96 : decode cX3_heatCrossing 96 = .ok (.aload_n 0, 1) := by decide +kernel
theorem dX3_heatCrossing_97 : decode cX3_heatCrossing 97 = .ok (.getfield 12, 3) := by decide +kernel
theorem dX3_heatCrossing_100 : decode cX3_heatCrossing 100 = .ok (.getfield 77, 3) := by decide +kernel
theorem dX3_heatCrossing_103 : decode cX3_heatCrossing 103 = .ok (.iload_n 1, 1) := by decide +kernel
theorem dX3_heatCrossing_104 : decode cX3_heatCrossing 104 = .ok (.iaload, 1) := by decide +kernel
theorem dX3_heatCrossing_105 : decode cX3_heatCrossing 105 = .ok (.isub, 1) := by decide +kernel
theorem dX3_heatCrossing_106 : decode cX3_heatCrossing 106 = .ok (.i2l, 1) := by decide +kernel
theorem dX3_heatCrossing_107 : decode cX3_heatCrossing 107 = .ok (.lstore 11, 2) := by decide +kernel
theorem dX3_heatCrossing_109 : decode cX3_heatCrossing 109 = .ok (.aload_n 0, 1) := by decide +kernel
theorem dX3_heatCrossing_110 : decode cX3_heatCrossing 110 = .ok (.getfield 12, 3) := by decide +kernel
theorem dX3_heatCrossing_113 : decode cX3_heatCrossing 113 = .ok (.getfield 81, 3) := by decide +kernel
theorem dX3_heatCrossing_116 : decode cX3_heatCrossing 116 = .ok (.iload_n 2, 1) := by decide +kernel
theorem dX3_heatCrossing_117 : decode cX3_heatCrossing 117 = .ok (.iaload, 1) := by decide +kernel
theorem dX3_heatCrossing_118 : decode cX3_heatCrossing 118 = .ok (.aload_n 0, 1) := by decide +kernel
theorem dX3_heatCrossing_119 : decode cX3_heatCrossing 119 = .ok (.getfield 12, 3) := by decide +kernel
theorem dX3_heatCrossing_122 : decode cX3_heatCrossing 122 = .ok (.getfield 81, 3) := by decide +kernel
theorem dX3_heatCrossing_125 : decode cX3_heatCrossing 125 = .ok (.iload_n 1, 1) := by decide +kernel
theorem dX3_heatCrossing_126 : decode cX3_heatCrossing 126 = .ok (.iaload, 1) := by decide +kernel
theorem dX3_heatCrossing_127 : decode cX3_heatCrossing 127 = .ok (.isub, 1) := by decide +kernel
theorem dX3_heatCrossing_128 : decode cX3_heatCrossing 128 = .ok (.i2l, 1) := by decide +kernel
theorem dX3_heatCrossing_129 : decode cX3_heatCrossing 129 = .ok (.lstore 13, 2) := by decide +kernel
theorem dX3_heatCrossing_131 : decode cX3_heatCrossing 131 = .ok (.lload_n 3, 1) := by decide +kernel
theorem dX3_heatCrossing_132 : decode cX3_heatCrossing 132 = .ok (.lload 9, 2) := by decide +kernel
theorem dX3_heatCrossing_134 : decode cX3_heatCrossing 134 = .ok (.lmul, 1) := by decide +kernel
theorem dX3_heatCrossing_135 : decode cX3_heatCrossing 135 = .ok (.lload 5, 2) := by decide +kernel
theorem dX3_heatCrossing_137 : decode cX3_heatCrossing 137 = .ok (.lload 7, 2) := by decide +kernel
theorem dX3_heatCrossing_139 : decode cX3_heatCrossing 139 = .ok (.lmul, 1) := by decide +kernel
theorem dX3_heatCrossing_140 : decode cX3_heatCrossing 140 = .ok (.lsub, 1) := by decide +kernel
theorem dX3_heatCrossing_141 : decode cX3_heatCrossing 141 = .ok (.lstore 15, 2) := by decide +kernel
theorem dX3_heatCrossing_143 : decode cX3_heatCrossing 143 = .ok (.lload 11, 2) := by decide +kernel
theorem dX3_heatCrossing_145 : decode cX3_heatCrossing 145 = .ok (.lload 9, 2) := by decide +kernel
theorem dX3_heatCrossing_147 : decode cX3_heatCrossing 147 = .ok (.lmul, 1) := by decide +kernel
theorem dX3_heatCrossing_148 : decode cX3_heatCrossing 148 = .ok (.lload 13, 2) := by decide +kernel
theorem dX3_heatCrossing_150 : decode cX3_heatCrossing 150 = .ok (.lload 7, 2) := by decide +kernel
theorem dX3_heatCrossing_152 : decode cX3_heatCrossing 152 = .ok (.lmul, 1) := by decide +kernel
theorem dX3_heatCrossing_153 : decode cX3_heatCrossing 153 = .ok (.lsub, 1) := by decide +kernel
theorem dX3_heatCrossing_154 : decode cX3_heatCrossing 154 = .ok (.lstore 17, 2) := by decide +kernel
theorem dX3_heatCrossing_156 : decode cX3_heatCrossing 156 = .ok (.lload 11, 2) := by decide +kernel
theorem dX3_heatCrossing_158 : decode cX3_heatCrossing 158 = .ok (.lload 5, 2) := by decide +kernel
theorem dX3_heatCrossing_160 : decode cX3_heatCrossing 160 = .ok (.lmul, 1) := by decide +kernel
theorem dX3_heatCrossing_161 : decode cX3_heatCrossing 161 = .ok (.lload 13, 2) := by decide +kernel
theorem dX3_heatCrossing_163 : decode cX3_heatCrossing 163 = .ok (.lload_n 3, 1) := by decide +kernel
theorem dX3_heatCrossing_164 : decode cX3_heatCrossing 164 = .ok (.lmul, 1) := by decide +kernel
theorem dX3_heatCrossing_165 : decode cX3_heatCrossing 165 = .ok (.lsub, 1) := by decide +kernel
theorem dX3_heatCrossing_166 : decode cX3_heatCrossing 166 = .ok (.lstore 19, 2) := by decide +kernel
theorem dX3_heatCrossing_168 : decode cX3_heatCrossing 168 = .ok (.lload 15, 2) := by decide +kernel
theorem dX3_heatCrossing_170 : decode cX3_heatCrossing 170 = .ok (.lconst 0, 1) := by decide +kernel
theorem dX3_heatCrossing_171 : decode cX3_heatCrossing 171 = .ok (.lcmp, 1) := by decide +kernel
theorem dX3_heatCrossing_172 : decode cX3_heatCrossing 172 = .ok (.ifCond .ge 18, 3) := by decide +kernel
theorem dX3_heatCrossing_175 : decode cX3_heatCrossing 175 = .ok (.lload 15, 2) := by decide +kernel
theorem dX3_heatCrossing_177 : decode cX3_heatCrossing 177 = .ok (.lneg, 1) := by decide +kernel
theorem dX3_heatCrossing_178 : decode cX3_heatCrossing 178 = .ok (.lstore 15, 2) := by decide +kernel
theorem dX3_heatCrossing_180 : decode cX3_heatCrossing 180 = .ok (.lload 17, 2) := by decide +kernel
theorem dX3_heatCrossing_182 : decode cX3_heatCrossing 182 = .ok (.lneg, 1) := by decide +kernel
theorem dX3_heatCrossing_183 : decode cX3_heatCrossing 183 = .ok (.lstore 17, 2) := by decide +kernel
theorem dX3_heatCrossing_185 : decode cX3_heatCrossing 185 = .ok (.lload 19, 2) := by decide +kernel
theorem dX3_heatCrossing_187 : decode cX3_heatCrossing 187 = .ok (.lneg, 1) := by decide +kernel
theorem dX3_heatCrossing_188 : decode cX3_heatCrossing 188 = .ok (.lstore 19, 2) := by decide +kernel
theorem dX3_heatCrossing_190 : decode cX3_heatCrossing 190 = .ok (.lload 15, 2) := by decide +kernel
theorem dX3_heatCrossing_192 : decode cX3_heatCrossing 192 = .ok (.lconst 0, 1) := by decide +kernel
theorem dX3_heatCrossing_193 : decode cX3_heatCrossing 193 = .ok (.lcmp, 1) := by decide +kernel
theorem dX3_heatCrossing_194 : decode cX3_heatCrossing 194 = .ok (.ifCond .eq 33, 3) := by decide +kernel
theorem dX3_heatCrossing_197 : decode cX3_heatCrossing 197 = .ok (.lload 17, 2) := by decide +kernel
theorem dX3_heatCrossing_199 : decode cX3_heatCrossing 199 = .ok (.lconst 0, 1) := by decide +kernel
theorem dX3_heatCrossing_200 : decode cX3_heatCrossing 200 = .ok (.lcmp, 1) := by decide +kernel
theorem dX3_heatCrossing_201 : decode cX3_heatCrossing 201 = .ok (.ifCond .lt 26, 3) := by decide +kernel
theorem dX3_heatCrossing_204 : decode cX3_heatCrossing 204 = .ok (.lload 17, 2) := by decide +kernel
theorem dX3_heatCrossing_206 : decode cX3_heatCrossing 206 = .ok (.lload 15, 2) := by decide +kernel
theorem dX3_heatCrossing_208 : decode cX3_heatCrossing 208 = .ok (.lcmp, 1) := by decide +kernel
theorem dX3_heatCrossing_209 : decode cX3_heatCrossing 209 = .ok (.ifCond .gt 18, 3) := by decide +kernel
theorem dX3_heatCrossing_212 : decode cX3_heatCrossing 212 = .ok (.lload 19, 2) := by decide +kernel
theorem dX3_heatCrossing_214 : decode cX3_heatCrossing 214 = .ok (.lconst 0, 1) := by decide +kernel
theorem dX3_heatCrossing_215 : decode cX3_heatCrossing 215 = .ok (.lcmp, 1) := by decide +kernel
theorem dX3_heatCrossing_216 : decode cX3_heatCrossing 216 = .ok (.ifCond .lt 11, 3) := by decide +kernel
theorem dX3_heatCrossing_219 : decode cX3_heatCrossing 219 = .ok (.lload 19, 2) := by decide +kernel
theorem dX3_heatCrossing_221 : decode cX3_heatCrossing 221 = .ok (.lload 15, 2) := by decide +kernel
theorem dX3_heatCrossing_223 : decode cX3_heatCrossing 223 = .ok (.lcmp, 1) := by decide +kernel
theorem dX3_heatCrossing_224 : decode cX3_heatCrossing 224 = .ok (.ifCond .le 4, 3) := by decide +kernel
theorem dX3_heatCrossing_227 : decode cX3_heatCrossing 227 = .ok (.return_, 1) := by decide +kernel
theorem dX3_heatCrossing_228 : decode cX3_heatCrossing 228 = .ok (.aload_n 0, 1) := by decide +kernel
theorem dX3_heatCrossing_229 : decode cX3_heatCrossing 229 = .ok (.aload_n 0, 1) := by decide +kernel
theorem dX3_heatCrossing_230 : decode cX3_heatCrossing 230 = .ok (.getfield 12, 3) := by decide +kernel
theorem dX3_heatCrossing_233 : decode cX3_heatCrossing 233 = .ok (.getfield 77, 3) := by decide +kernel
theorem dX3_heatCrossing_236 : decode cX3_heatCrossing 236 = .ok (.iload_n 1, 1) := by decide +kernel
theorem dX3_heatCrossing_237 : decode cX3_heatCrossing 237 = .ok (.iaload, 1) := by decide +kernel
theorem dX3_heatCrossing_238 : decode cX3_heatCrossing 238 = .ok (.i2l, 1) := by decide +kernel
theorem dX3_heatCrossing_239 : decode cX3_heatCrossing 239 = .ok (.ldc2_w 140, 3) := by decide +kernel
theorem dX3_heatCrossing_242 : decode cX3_heatCrossing 242 = .ok (.lload 17, 2) := by decide +kernel
theorem dX3_heatCrossing_244 : decode cX3_heatCrossing 244 = .ok (.lmul, 1) := by decide +kernel
theorem dX3_heatCrossing_245 : decode cX3_heatCrossing 245 = .ok (.lload_n 3, 1) := by decide +kernel
theorem dX3_heatCrossing_246 : decode cX3_heatCrossing 246 = .ok (.lmul, 1) := by decide +kernel
theorem dX3_heatCrossing_247 : decode cX3_heatCrossing 247 = .ok (.lload 15, 2) := by decide +kernel
theorem dX3_heatCrossing_249 : decode cX3_heatCrossing 249 = .ok (.ladd, 1) := by decide +kernel
theorem dX3_heatCrossing_250 : decode cX3_heatCrossing 250 = .ok (.ldc2_w 140, 3) := by decide +kernel
theorem dX3_heatCrossing_253 : decode cX3_heatCrossing 253 = .ok (.lload 15, 2) := by decide +kernel
theorem dX3_heatCrossing_255 : decode cX3_heatCrossing 255 = .ok (.lmul, 1) := by decide +kernel
theorem dX3_heatCrossing_256 : decode cX3_heatCrossing 256 = .ok (.invokestatic 142, 3) := by decide +kernel
theorem dX3_heatCrossing_259 : decode cX3_heatCrossing 259 = .ok (.ladd, 1) := by decide +kernel
theorem dX3_heatCrossing_260 : decode cX3_heatCrossing 260 = .ok (.aload_n 0, 1) := by decide +kernel
theorem dX3_heatCrossing_261 : decode cX3_heatCrossing 261 = .ok (.getfield 12, 3) := by decide +kernel
theorem dX3_heatCrossing_264 : decode cX3_heatCrossing 264 = .ok (.getfield 81, 3) := by decide +kernel
theorem dX3_heatCrossing_267 : decode cX3_heatCrossing 267 = .ok (.iload_n 1, 1) := by decide +kernel
theorem dX3_heatCrossing_268 : decode cX3_heatCrossing 268 = .ok (.iaload, 1) := by decide +kernel
theorem dX3_heatCrossing_269 : decode cX3_heatCrossing 269 = .ok (.i2l, 1) := by decide +kernel
theorem dX3_heatCrossing_270 : decode cX3_heatCrossing 270 = .ok (.ldc2_w 140, 3) := by decide +kernel
theorem dX3_heatCrossing_273 : decode cX3_heatCrossing 273 = .ok (.lload 17, 2) := by decide +kernel
theorem dX3_heatCrossing_275 : decode cX3_heatCrossing 275 = .ok (.lmul, 1) := by decide +kernel
theorem dX3_heatCrossing_276 : decode cX3_heatCrossing 276 = .ok (.lload 5, 2) := by decide +kernel
theorem dX3_heatCrossing_278 : decode cX3_heatCrossing 278 = .ok (.lmul, 1) := by decide +kernel
theorem dX3_heatCrossing_279 : decode cX3_heatCrossing 279 = .ok (.lload 15, 2) := by decide +kernel
theorem dX3_heatCrossing_281 : decode cX3_heatCrossing 281 = .ok (.ladd, 1) := by decide +kernel
theorem dX3_heatCrossing_282 : decode cX3_heatCrossing 282 = .ok (.ldc2_w 140, 3) := by decide +kernel
theorem dX3_heatCrossing_285 : decode cX3_heatCrossing 285 = .ok (.lload 15, 2) := by decide +kernel
theorem dX3_heatCrossing_287 : decode cX3_heatCrossing 287 = .ok (.lmul, 1) := by decide +kernel
theorem dX3_heatCrossing_288 : decode cX3_heatCrossing 288 = .ok (.invokestatic 142, 3) := by decide +kernel
theorem dX3_heatCrossing_291 : decode cX3_heatCrossing 291 = .ok (.ladd, 1) := by decide +kernel
theorem dX3_heatCrossing_292 : decode cX3_heatCrossing 292 = .ok (.invokevirtual 126, 3) := by decide +kernel
theorem dX3_heatCrossing_295 : decode cX3_heatCrossing 295 = .ok (.return_, 1) := by decide +kernel
theorem dX3_withRoom_0 : decode cX3_withRoom 0 = .ok (.iload_n 1, 1) := by decide +kernel
theorem dX3_withRoom_1 : decode cX3_withRoom 1 = .ok (.aload_n 0, 1) := by decide +kernel
theorem dX3_withRoom_2 : decode cX3_withRoom 2 = .ok (.arraylength, 1) := by decide +kernel
theorem dX3_withRoom_3 : decode cX3_withRoom 3 = .ok (.if_icmp .gt 7, 3) := by decide +kernel
theorem dX3_withRoom_6 : decode cX3_withRoom 6 = .ok (.aload_n 0, 1) := by decide +kernel
theorem dX3_withRoom_7 : decode cX3_withRoom 7 = .ok (.goto 15, 3) := by decide +kernel
theorem dX3_withRoom_10 : decode cX3_withRoom 10 = .ok (.aload_n 0, 1) := by decide +kernel
theorem dX3_withRoom_11 : decode cX3_withRoom 11 = .ok (.iload_n 1, 1) := by decide +kernel
theorem dX3_withRoom_12 : decode cX3_withRoom 12 = .ok (.iconst 2, 1) := by decide +kernel
theorem dX3_withRoom_13 : decode cX3_withRoom 13 = .ok (.aload_n 0, 1) := by decide +kernel
theorem dX3_withRoom_14 : decode cX3_withRoom 14 = .ok (.arraylength, 1) := by decide +kernel
theorem dX3_withRoom_15 : decode cX3_withRoom 15 = .ok (.imul, 1) := by decide +kernel
theorem dX3_withRoom_16 : decode cX3_withRoom 16 = .ok (.invokestatic 148, 3) := by decide +kernel
theorem dX3_withRoom_19 : decode cX3_withRoom 19 = .ok (.invokestatic 151, 3) := by decide +kernel
theorem dX3_withRoom_22 : decode cX3_withRoom 22 = .ok (.areturn, 1) := by decide +kernel
theorem dX4_init_0 : decode cX4_init 0 = .ok (.aload_n 0, 1) := by decide +kernel
theorem dX4_init_1 : decode cX4_init 1 = .ok (.invokespecial 1, 3) := by decide +kernel
theorem dX4_init_4 : decode cX4_init 4 = .ok (.aload_n 0, 1) := by decide +kernel
theorem dX4_init_5 : decode cX4_init 5 = .ok (.bipush 64, 2) := by decide +kernel
theorem dX4_init_7 : decode cX4_init 7 = .ok (.newarray .int, 2) := by decide +kernel
theorem dX4_init_9 : decode cX4_init 9 = .ok (.putfield 7, 3) := by decide +kernel
theorem dX4_init_12 : decode cX4_init 12 = .ok (.return_, 1) := by decide +kernel
theorem dX4_clear_0 : decode cX4_clear 0 = .ok (.aload_n 0, 1) := by decide +kernel
theorem dX4_clear_1 : decode cX4_clear 1 = .ok (.iconst 0, 1) := by decide +kernel
theorem dX4_clear_2 : decode cX4_clear 2 = .ok (.putfield 13, 3) := by decide +kernel
theorem dX4_clear_5 : decode cX4_clear 5 = .ok (.return_, 1) := by decide +kernel
theorem dX4_add_0 : decode cX4_add 0 = .ok (.aload_n 0, 1) := by decide +kernel
theorem dX4_add_1 : decode cX4_add 1 = .ok (.getfield 13, 3) := by decide +kernel
theorem dX4_add_4 : decode cX4_add 4 = .ok (.aload_n 0, 1) := by decide +kernel
theorem dX4_add_5 : decode cX4_add 5 = .ok (.getfield 7, 3) := by decide +kernel
theorem dX4_add_8 : decode cX4_add 8 = .ok (.arraylength, 1) := by decide +kernel
theorem dX4_add_9 : decode cX4_add 9 = .ok (.if_icmp .ne 42, 3) := by decide +kernel
theorem dX4_add_12 : decode cX4_add 12 = .ok (.iconst 2, 1) := by decide +kernel
theorem dX4_add_13 : decode cX4_add 13 = .ok (.aload_n 0, 1) := by decide +kernel
theorem dX4_add_14 : decode cX4_add 14 = .ok (.getfield 13, 3) := by decide +kernel
theorem dX4_add_17 : decode cX4_add 17 = .ok (.imul, 1) := by decide +kernel
theorem dX4_add_18 : decode cX4_add 18 = .ok (.newarray .int, 2) := by decide +kernel
theorem dX4_add_20 : decode cX4_add 20 = .ok (.astore_n 2, 1) := by decide +kernel
theorem dX4_add_21 : decode cX4_add 21 = .ok (.iconst 0, 1) := by decide +kernel
theorem dX4_add_22 : decode cX4_add 22 = .ok (.istore_n 3, 1) := by decide +kernel
theorem dX4_add_23 : decode cX4_add 23 = .ok (.iload_n 3, 1) := by decide +kernel
theorem dX4_add_24 : decode cX4_add 24 = .ok (.aload_n 0, 1) := by decide +kernel
theorem dX4_add_25 : decode cX4_add 25 = .ok (.getfield 13, 3) := by decide +kernel
theorem dX4_add_28 : decode cX4_add 28 = .ok (.if_icmp .ge 18, 3) := by decide +kernel
theorem dX4_add_31 : decode cX4_add 31 = .ok (.aload_n 2, 1) := by decide +kernel
theorem dX4_add_32 : decode cX4_add 32 = .ok (.iload_n 3, 1) := by decide +kernel
theorem dX4_add_33 : decode cX4_add 33 = .ok (.aload_n 0, 1) := by decide +kernel
theorem dX4_add_34 : decode cX4_add 34 = .ok (.getfield 7, 3) := by decide +kernel
theorem dX4_add_37 : decode cX4_add 37 = .ok (.iload_n 3, 1) := by decide +kernel
theorem dX4_add_38 : decode cX4_add 38 = .ok (.iaload, 1) := by decide +kernel
theorem dX4_add_39 : decode cX4_add 39 = .ok (.iastore, 1) := by decide +kernel
theorem dX4_add_40 : decode cX4_add 40 = .ok (.iinc 3 1, 3) := by decide +kernel
theorem dX4_add_43 : decode cX4_add 43 = .ok (.goto (-20), 3) := by decide +kernel
theorem dX4_add_46 : decode cX4_add 46 = .ok (.aload_n 0, 1) := by decide +kernel
theorem dX4_add_47 : decode cX4_add 47 = .ok (.aload_n 2, 1) := by decide +kernel
theorem dX4_add_48 : decode cX4_add 48 = .ok (.putfield 7, 3) := by decide +kernel
theorem dX4_add_51 : decode cX4_add 51 = .ok (.aload_n 0, 1) := by decide +kernel
theorem dX4_add_52 : decode cX4_add 52 = .ok (.getfield 7, 3) := by decide +kernel
theorem dX4_add_55 : decode cX4_add 55 = .ok (.aload_n 0, 1) := by decide +kernel
theorem dX4_add_56 : decode cX4_add 56 = .ok (.getfield 13, 3) := by decide +kernel
theorem dX4_add_59 : decode cX4_add 59 = .ok (.iload_n 1, 1) := by decide +kernel
theorem dX4_add_60 : decode cX4_add 60 = .ok (.iastore, 1) := by decide +kernel
theorem dX4_add_61 : decode cX4_add 61 = .ok (.aload_n 0, 1) := by decide +kernel
theorem dX4_add_62 : decode cX4_add 62 = .ok (.dup, 1) := by decide +kernel
theorem dX4_add_63 : decode cX4_add 63 = .ok (.getfield 13, 3) := by decide +kernel
theorem dX4_add_66 : decode cX4_add 66 = .ok (.iconst 1, 1) := by decide +kernel
theorem dX4_add_67 : decode cX4_add 67 = .ok (.iadd, 1) := by decide +kernel
theorem dX4_add_68 : decode cX4_add 68 = .ok (.putfield 13, 3) := by decide +kernel
theorem dX4_add_71 : decode cX4_add 71 = .ok (.return_, 1) := by decide +kernel
theorem dX5_init_0 : decode cX5_init 0 = .ok (.aload_n 0, 1) := by decide +kernel
theorem dX5_init_1 : decode cX5_init 1 = .ok (.invokespecial 1, 3) := by decide +kernel
theorem dX5_init_4 : decode cX5_init 4 = .ok (.aload_n 0, 1) := by decide +kernel
theorem dX5_init_5 : decode cX5_init 5 = .ok (.bipush 64, 2) := by decide +kernel
theorem dX5_init_7 : decode cX5_init 7 = .ok (.newarray .long, 2) := by decide +kernel
theorem dX5_init_9 : decode cX5_init 9 = .ok (.putfield 7, 3) := by decide +kernel
theorem dX5_init_12 : decode cX5_init 12 = .ok (.return_, 1) := by decide +kernel
theorem dX5_clear_0 : decode cX5_clear 0 = .ok (.aload_n 0, 1) := by decide +kernel
theorem dX5_clear_1 : decode cX5_clear 1 = .ok (.iconst 0, 1) := by decide +kernel
theorem dX5_clear_2 : decode cX5_clear 2 = .ok (.putfield 13, 3) := by decide +kernel
theorem dX5_clear_5 : decode cX5_clear 5 = .ok (.return_, 1) := by decide +kernel
theorem dX5_keyOf_0 : decode cX5_keyOf 0 = .ok (.iload_n 0, 1) := by decide +kernel
theorem dX5_keyOf_1 : decode cX5_keyOf 1 = .ok (.i2l, 1) := by decide +kernel
theorem dX5_keyOf_2 : decode cX5_keyOf 2 = .ok (.bipush 32, 2) := by decide +kernel
theorem dX5_keyOf_4 : decode cX5_keyOf 4 = .ok (.lshl, 1) := by decide +kernel
theorem dX5_keyOf_5 : decode cX5_keyOf 5 = .ok (.iload_n 1, 1) := by decide +kernel
theorem dX5_keyOf_6 : decode cX5_keyOf 6 = .ok (.i2l, 1) := by decide +kernel
theorem dX5_keyOf_7 : decode cX5_keyOf 7 = .ok (.ldc2_w 17, 3) := by decide +kernel
theorem dX5_keyOf_10 : decode cX5_keyOf 10 = .ok (.ladd, 1) := by decide +kernel
theorem dX5_keyOf_11 : decode cX5_keyOf 11 = .ok (.lor, 1) := by decide +kernel
theorem dX5_keyOf_12 : decode cX5_keyOf 12 = .ok (.lreturn, 1) := by decide +kernel
theorem dX5_add_0 : decode cX5_add 0 = .ok (.aload_n 0, 1) := by decide +kernel
theorem dX5_add_1 : decode cX5_add 1 = .ok (.getfield 13, 3) := by decide +kernel
theorem dX5_add_4 : decode cX5_add 4 = .ok (.aload_n 0, 1) := by decide +kernel
theorem dX5_add_5 : decode cX5_add 5 = .ok (.getfield 7, 3) := by decide +kernel
theorem dX5_add_8 : decode cX5_add 8 = .ok (.arraylength, 1) := by decide +kernel
theorem dX5_add_9 : decode cX5_add 9 = .ok (.if_icmp .ne 46, 3) := by decide +kernel
theorem dX5_add_12 : decode cX5_add 12 = .ok (.iconst 2, 1) := by decide +kernel
theorem dX5_add_13 : decode cX5_add 13 = .ok (.aload_n 0, 1) := by decide +kernel
theorem dX5_add_14 : decode cX5_add 14 = .ok (.getfield 13, 3) := by decide +kernel
theorem dX5_add_17 : decode cX5_add 17 = .ok (.imul, 1) := by decide +kernel
theorem dX5_add_18 : decode cX5_add 18 = .ok (.newarray .long, 2) := by decide +kernel
theorem dX5_add_20 : decode cX5_add 20 = .ok (.astore_n 3, 1) := by decide +kernel
theorem dX5_add_21 : decode cX5_add 21 = .ok (.iconst 0, 1) := by decide +kernel
theorem dX5_add_22 : decode cX5_add 22 = .ok (.istore 4, 2) := by decide +kernel
theorem dX5_add_24 : decode cX5_add 24 = .ok (.iload 4, 2) := by decide +kernel
theorem dX5_add_26 : decode cX5_add 26 = .ok (.aload_n 0, 1) := by decide +kernel
theorem dX5_add_27 : decode cX5_add 27 = .ok (.getfield 13, 3) := by decide +kernel
theorem dX5_add_30 : decode cX5_add 30 = .ok (.if_icmp .ge 20, 3) := by decide +kernel
theorem dX5_add_33 : decode cX5_add 33 = .ok (.aload_n 3, 1) := by decide +kernel
theorem dX5_add_34 : decode cX5_add 34 = .ok (.iload 4, 2) := by decide +kernel
theorem dX5_add_36 : decode cX5_add 36 = .ok (.aload_n 0, 1) := by decide +kernel
theorem dX5_add_37 : decode cX5_add 37 = .ok (.getfield 7, 3) := by decide +kernel
theorem dX5_add_40 : decode cX5_add 40 = .ok (.iload 4, 2) := by decide +kernel
theorem dX5_add_42 : decode cX5_add 42 = .ok (.laload, 1) := by decide +kernel
theorem dX5_add_43 : decode cX5_add 43 = .ok (.lastore, 1) := by decide +kernel
theorem dX5_add_44 : decode cX5_add 44 = .ok (.iinc 4 1, 3) := by decide +kernel
theorem dX5_add_47 : decode cX5_add 47 = .ok (.goto (-23), 3) := by decide +kernel
theorem dX5_add_50 : decode cX5_add 50 = .ok (.aload_n 0, 1) := by decide +kernel
theorem dX5_add_51 : decode cX5_add 51 = .ok (.aload_n 3, 1) := by decide +kernel
theorem dX5_add_52 : decode cX5_add 52 = .ok (.putfield 7, 3) := by decide +kernel
theorem dX5_add_55 : decode cX5_add 55 = .ok (.aload_n 0, 1) := by decide +kernel
theorem dX5_add_56 : decode cX5_add 56 = .ok (.getfield 7, 3) := by decide +kernel
theorem dX5_add_59 : decode cX5_add 59 = .ok (.aload_n 0, 1) := by decide +kernel
theorem dX5_add_60 : decode cX5_add 60 = .ok (.getfield 13, 3) := by decide +kernel
theorem dX5_add_63 : decode cX5_add 63 = .ok (.iload_n 1, 1) := by decide +kernel
theorem dX5_add_64 : decode cX5_add 64 = .ok (.iload_n 2, 1) := by decide +kernel
theorem dX5_add_65 : decode cX5_add 65 = .ok (.invokestatic 19, 3) := by decide +kernel
theorem dX5_add_68 : decode cX5_add 68 = .ok (.lastore, 1) := by decide +kernel
theorem dX5_add_69 : decode cX5_add 69 = .ok (.aload_n 0, 1) := by decide +kernel
theorem dX5_add_70 : decode cX5_add 70 = .ok (.dup, 1) := by decide +kernel
theorem dX5_add_71 : decode cX5_add 71 = .ok (.getfield 13, 3) := by decide +kernel
theorem dX5_add_74 : decode cX5_add 74 = .ok (.iconst 1, 1) := by decide +kernel
theorem dX5_add_75 : decode cX5_add 75 = .ok (.iadd, 1) := by decide +kernel
theorem dX5_add_76 : decode cX5_add 76 = .ok (.putfield 13, 3) := by decide +kernel
theorem dX5_add_79 : decode cX5_add 79 = .ok (.return_, 1) := by decide +kernel
theorem dX5_x_0 : decode cX5_x 0 = .ok (.aload_n 0, 1) := by decide +kernel
theorem dX5_x_1 : decode cX5_x 1 = .ok (.getfield 7, 3) := by decide +kernel
theorem dX5_x_4 : decode cX5_x 4 = .ok (.iload_n 1, 1) := by decide +kernel
theorem dX5_x_5 : decode cX5_x 5 = .ok (.laload, 1) := by decide +kernel
theorem dX5_x_6 : decode cX5_x 6 = .ok (.bipush 32, 2) := by decide +kernel
theorem dX5_x_8 : decode cX5_x 8 = .ok (.lshr, 1) := by decide +kernel
theorem dX5_x_9 : decode cX5_x 9 = .ok (.l2i, 1) := by decide +kernel
theorem dX5_x_10 : decode cX5_x 10 = .ok (.ireturn, 1) := by decide +kernel
theorem dX5_y_0 : decode cX5_y 0 = .ok (.aload_n 0, 1) := by decide +kernel
theorem dX5_y_1 : decode cX5_y 1 = .ok (.getfield 7, 3) := by decide +kernel
theorem dX5_y_4 : decode cX5_y 4 = .ok (.iload_n 1, 1) := by decide +kernel
theorem dX5_y_5 : decode cX5_y 5 = .ok (.laload, 1) := by decide +kernel
theorem dX5_y_6 : decode cX5_y 6 = .ok (.ldc2_w 23, 3) := by decide +kernel
theorem dX5_y_9 : decode cX5_y 9 = .ok (.land, 1) := by decide +kernel
theorem dX5_y_10 : decode cX5_y 10 = .ok (.ldc2_w 17, 3) := by decide +kernel
theorem dX5_y_13 : decode cX5_y 13 = .ok (.lsub, 1) := by decide +kernel
theorem dX5_y_14 : decode cX5_y 14 = .ok (.l2i, 1) := by decide +kernel
theorem dX5_y_15 : decode cX5_y 15 = .ok (.ireturn, 1) := by decide +kernel
theorem dX5_sort_0 : decode cX5_sort 0 = .ok (.aload_n 0, 1) := by decide +kernel
theorem dX5_sort_1 : decode cX5_sort 1 = .ok (.getfield 13, 3) := by decide +kernel
theorem dX5_sort_4 : decode cX5_sort 4 = .ok (.iconst 2, 1) := by decide +kernel
theorem dX5_sort_5 : decode cX5_sort 5 = .ok (.idiv, 1) := by decide +kernel
theorem dX5_sort_6 : decode cX5_sort 6 = .ok (.iconst 1, 1) := by decide +kernel
theorem dX5_sort_7 : decode cX5_sort 7 = .ok (.isub, 1) := by decide +kernel
theorem dX5_sort_8 : decode cX5_sort 8 = .ok (.istore_n 1, 1) := by decide +kernel
theorem dX5_sort_9 : decode cX5_sort 9 = .ok (.iload_n 1, 1) := by decide +kernel
theorem dX5_sort_10 : decode cX5_sort 10 = .ok (.ifCond .lt 18, 3) := by decide +kernel
theorem dX5_sort_13 : decode cX5_sort 13 = .ok (.aload_n 0, 1) := by decide +kernel
theorem dX5_sort_14 : decode cX5_sort 14 = .ok (.iload_n 1, 1) := by decide +kernel
theorem dX5_sort_15 : decode cX5_sort 15 = .ok (.aload_n 0, 1) := by decide +kernel
theorem dX5_sort_16 : decode cX5_sort 16 = .ok (.getfield 13, 3) := by decide +kernel
theorem dX5_sort_19 : decode cX5_sort 19 = .ok (.invokevirtual 25, 3) := by decide +kernel
theorem dX5_sort_22 : decode cX5_sort 22 = .ok (.iinc 1 (-1), 3) := by decide +kernel
theorem dX5_sort_25 : decode cX5_sort 25 = .ok (.goto (-16), 3) := by decide +kernel
theorem dX5_sort_28 : decode cX5_sort 28 = .ok (.aload_n 0, 1) := by decide +kernel
theorem dX5_sort_29 : decode cX5_sort 29 = .ok (.getfield 13, 3) := by decide +kernel
theorem dX5_sort_32 : decode cX5_sort 32 = .ok (.iconst 1, 1) := by decide +kernel
theorem dX5_sort_33 : decode cX5_sort 33 = .ok (.isub, 1) := by decide +kernel
theorem dX5_sort_34 : decode cX5_sort 34 = .ok (.istore_n 1, 1) := by decide +kernel
theorem dX5_sort_35 : decode cX5_sort 35 = .ok (.iload_n 1, 1) := by decide +kernel
theorem dX5_sort_36 : decode cX5_sort 36 = .ok (.ifCond .le 41, 3) := by decide +kernel
theorem dX5_sort_39 : decode cX5_sort 39 = .ok (.aload_n 0, 1) := by decide +kernel
theorem dX5_sort_40 : decode cX5_sort 40 = .ok (.getfield 7, 3) := by decide +kernel
theorem dX5_sort_43 : decode cX5_sort 43 = .ok (.iconst 0, 1) := by decide +kernel
theorem dX5_sort_44 : decode cX5_sort 44 = .ok (.laload, 1) := by decide +kernel
theorem dX5_sort_45 : decode cX5_sort 45 = .ok (.lstore_n 2, 1) := by decide +kernel
theorem dX5_sort_46 : decode cX5_sort 46 = .ok (.aload_n 0, 1) := by decide +kernel
theorem dX5_sort_47 : decode cX5_sort 47 = .ok (.getfield 7, 3) := by decide +kernel
theorem dX5_sort_50 : decode cX5_sort 50 = .ok (.iconst 0, 1) := by decide +kernel
theorem dX5_sort_51 : decode cX5_sort 51 = .ok (.aload_n 0, 1) := by decide +kernel
theorem dX5_sort_52 : decode cX5_sort 52 = .ok (.getfield 7, 3) := by decide +kernel
theorem dX5_sort_55 : decode cX5_sort 55 = .ok (.iload_n 1, 1) := by decide +kernel
theorem dX5_sort_56 : decode cX5_sort 56 = .ok (.laload, 1) := by decide +kernel
theorem dX5_sort_57 : decode cX5_sort 57 = .ok (.lastore, 1) := by decide +kernel
theorem dX5_sort_58 : decode cX5_sort 58 = .ok (.aload_n 0, 1) := by decide +kernel
theorem dX5_sort_59 : decode cX5_sort 59 = .ok (.getfield 7, 3) := by decide +kernel
theorem dX5_sort_62 : decode cX5_sort 62 = .ok (.iload_n 1, 1) := by decide +kernel
theorem dX5_sort_63 : decode cX5_sort 63 = .ok (.lload_n 2, 1) := by decide +kernel
theorem dX5_sort_64 : decode cX5_sort 64 = .ok (.lastore, 1) := by decide +kernel
theorem dX5_sort_65 : decode cX5_sort 65 = .ok (.aload_n 0, 1) := by decide +kernel
theorem dX5_sort_66 : decode cX5_sort 66 = .ok (.iconst 0, 1) := by decide +kernel
theorem dX5_sort_67 : decode cX5_sort 67 = .ok (.iload_n 1, 1) := by decide +kernel
theorem dX5_sort_68 : decode cX5_sort 68 = .ok (.invokevirtual 25, 3) := by decide +kernel
theorem dX5_sort_71 : decode cX5_sort 71 = .ok (.iinc 1 (-1), 3) := by decide +kernel
theorem dX5_sort_74 : decode cX5_sort 74 = .ok (.goto (-39), 3) := by decide +kernel
theorem dX5_sort_77 : decode cX5_sort 77 = .ok (.iconst 0, 1) := by decide +kernel
theorem dX5_sort_78 : decode cX5_sort 78 = .ok (.istore_n 1, 1) := by decide +kernel
theorem dX5_sort_79 : decode cX5_sort 79 = .ok (.iconst 0, 1) := by decide +kernel
theorem dX5_sort_80 : decode cX5_sort 80 = .ok (.istore_n 2, 1) := by decide +kernel
theorem dX5_sort_81 : decode cX5_sort 81 = .ok (.iload_n 2, 1) := by decide +kernel
theorem dX5_sort_82 : decode cX5_sort 82 = .ok (.aload_n 0, 1) := by decide +kernel
theorem dX5_sort_83 : decode cX5_sort 83 = .ok (.getfield 13, 3) := by decide +kernel
theorem dX5_sort_86 : decode cX5_sort 86 = .ok (.if_icmp .ge 49, 3) := by decide +kernel
theorem dX5_sort_89 : decode cX5_sort 89 = .ok (.iload_n 1, 1) := by decide +kernel
theorem dX5_sort_90 : decode cX5_sort 90 = .ok (.ifCond .le 24, 3) := by decide +kernel
theorem dX5_sort_93 : decode cX5_sort 93 = .ok (.aload_n 0, 1) := by decide +kernel
theorem dX5_sort_94 : decode cX5_sort 94 = .ok (.getfield 7, 3) := by decide +kernel
theorem dX5_sort_97 : decode cX5_sort 97 = .ok (.iload_n 1, 1) := by decide +kernel
theorem dX5_sort_98 : decode cX5_sort 98 = .ok (.iconst 1, 1) := by decide +kernel
theorem dX5_sort_99 : decode cX5_sort 99 = .ok (.isub, 1) := by decide +kernel
theorem dX5_sort_100 : decode cX5_sort 100 = .ok (.laload, 1) := by decide +kernel
theorem dX5_sort_101 : decode cX5_sort 101 = .ok (.aload_n 0, 1) := by decide +kernel
theorem dX5_sort_102 : decode cX5_sort 102 = .ok (.getfield 7, 3) := by decide +kernel
theorem dX5_sort_105 : decode cX5_sort 105 = .ok (.iload_n 2, 1) := by decide +kernel
theorem dX5_sort_106 : decode cX5_sort 106 = .ok (.laload, 1) := by decide +kernel
theorem dX5_sort_107 : decode cX5_sort 107 = .ok (.lcmp, 1) := by decide +kernel
theorem dX5_sort_108 : decode cX5_sort 108 = .ok (.ifCond .ne 6, 3) := by decide +kernel
theorem dX5_sort_111 : decode cX5_sort 111 = .ok (.goto 18, 3) := by decide +kernel
theorem dX5_sort_114 : decode cX5_sort 114 = .ok (.aload_n 0, 1) := by decide +kernel
theorem dX5_sort_115 : decode cX5_sort 115 = .ok (.getfield 7, 3) := by decide +kernel
theorem dX5_sort_118 : decode cX5_sort 118 = .ok (.iload_n 1, 1) := by decide +kernel
theorem dX5_sort_119 : decode cX5_sort 119 = .ok (.aload_n 0, 1) := by decide +kernel
theorem dX5_sort_120 : decode cX5_sort 120 = .ok (.getfield 7, 3) := by decide +kernel
theorem dX5_sort_123 : decode cX5_sort 123 = .ok (.iload_n 2, 1) := by decide +kernel
theorem dX5_sort_124 : decode cX5_sort 124 = .ok (.laload, 1) := by decide +kernel
theorem dX5_sort_125 : decode cX5_sort 125 = .ok (.lastore, 1) := by decide +kernel
theorem dX5_sort_126 : decode cX5_sort 126 = .ok (.iinc 1 1, 3) := by decide +kernel
theorem dX5_sort_129 : decode cX5_sort 129 = .ok (.iinc 2 1, 3) := by decide +kernel
theorem dX5_sort_132 : decode cX5_sort 132 = .ok (.goto (-51), 3) := by decide +kernel
theorem dX5_sort_135 : decode cX5_sort 135 = .ok (.aload_n 0, 1) := by decide +kernel
theorem dX5_sort_136 : decode cX5_sort 136 = .ok (.iload_n 1, 1) := by decide +kernel
theorem dX5_sort_137 : decode cX5_sort 137 = .ok (.putfield 13, 3) := by decide +kernel
theorem dX5_sort_140 : decode cX5_sort 140 = .ok (.return_, 1) := by decide +kernel
theorem dX5_sink_0 : decode cX5_sink 0 = .ok (.iload_n 1, 1) := by decide +kernel
theorem dX5_sink_1 : decode cX5_sink 1 = .ok (.istore_n 3, 1) := by decide +kernel
theorem dX5_sink_2 : decode cX5_sink 2 = .ok (.aload_n 0, 1) := by decide +kernel
theorem dX5_sink_3 : decode cX5_sink 3 = .ok (.getfield 7, 3) := by decide +kernel
theorem dX5_sink_6 : decode cX5_sink 6 = .ok (.iload_n 3, 1) := by decide +kernel
theorem dX5_sink_7 : decode cX5_sink 7 = .ok (.laload, 1) := by decide +kernel
theorem dX5_sink_8 : decode cX5_sink 8 = .ok (.lstore 4, 2) := by decide +kernel
theorem dX5_sink_10 : decode cX5_sink 10 = .ok (.iconst 2, 1) := by decide +kernel
theorem dX5_sink_11 : decode cX5_sink 11 = .ok (.iload_n 3, 1) := by decide +kernel
theorem dX5_sink_12 : decode cX5_sink 12 = .ok (.imul, 1) := by decide +kernel
theorem dX5_sink_13 : decode cX5_sink 13 = .ok (.iconst 1, 1) := by decide +kernel
theorem dX5_sink_14 : decode cX5_sink 14 = .ok (.iadd, 1) := by decide +kernel
theorem dX5_sink_15 : decode cX5_sink 15 = .ok (.iload_n 2, 1) := by decide +kernel
theorem dX5_sink_16 : decode cX5_sink 16 = .ok (.if_icmp .ge 7, 3) := by decide +kernel
theorem dX5_sink_19 : decode cX5_sink 19 = .ok (.iconst 1, 1) := by decide +kernel
theorem dX5_sink_20 : decode cX5_sink 20 = .ok (.goto 4, 3) := by decide +kernel
theorem dX5_sink_23 : decode cX5_sink 23 = .ok (.iconst 0, 1) := by decide +kernel
theorem dX5_sink_24 : decode cX5_sink 24 = .ok (.istore 6, 2) := by decide +kernel
theorem dX5_sink_26 : decode cX5_sink 26 = .ok (.iload 6, 2) := by decide +kernel
theorem dX5_sink_28 : decode cX5_sink 28 = .ok (.ifCond .eq 104, 3) := by decide +kernel
theorem dX5_sink_31 : decode cX5_sink 31 = .ok (.iconst 2, 1) := by decide +kernel
theorem dX5_sink_32 : decode cX5_sink 32 = .ok (.iload_n 3, 1) := by decide +kernel
theorem dX5_sink_33 : decode cX5_sink 33 = .ok (.imul, 1) := by decide +kernel
theorem dX5_sink_34 : decode cX5_sink 34 = .ok (.iconst 1, 1) := by decide +kernel
theorem dX5_sink_35 : decode cX5_sink 35 = .ok (.iadd, 1) := by decide +kernel
theorem dX5_sink_36 : decode cX5_sink 36 = .ok (.istore 7, 2) := by decide +kernel
theorem dX5_sink_38 : decode cX5_sink 38 = .ok (.iload 7, 2) := by decide +kernel
theorem dX5_sink_40 : decode cX5_sink 40 = .ok (.iconst 1, 1) := by decide +kernel
theorem dX5_sink_41 : decode cX5_sink 41 = .ok (.iadd, 1) := by decide +kernel
theorem dX5_sink_42 : decode cX5_sink 42 = .ok (.iload_n 2, 1) := by decide +kernel
theorem dX5_sink_43 : decode cX5_sink 43 = .ok (.if_icmp .ge 26, 3) := by decide +kernel
theorem dX5_sink_46 : decode cX5_sink 46 = .ok (.aload_n 0, 1) := by decide +kernel
theorem dX5_sink_47 : decode cX5_sink 47 = .ok (.getfield 7, 3) := by decide +kernel
theorem dX5_sink_50 : decode cX5_sink 50 = .ok (.iload 7, 2) := by decide +kernel
theorem dX5_sink_52 : decode cX5_sink 52 = .ok (.iconst 1, 1) := by decide +kernel
theorem dX5_sink_53 : decode cX5_sink 53 = .ok (.iadd, 1) := by decide +kernel
theorem dX5_sink_54 : decode cX5_sink 54 = .ok (.laload, 1) := by decide +kernel
theorem dX5_sink_55 : decode cX5_sink 55 = .ok (.aload_n 0, 1) := by decide +kernel
theorem dX5_sink_56 : decode cX5_sink 56 = .ok (.getfield 7, 3) := by decide +kernel
theorem dX5_sink_59 : decode cX5_sink 59 = .ok (.iload 7, 2) := by decide +kernel
theorem dX5_sink_61 : decode cX5_sink 61 = .ok (.laload, 1) := by decide +kernel
theorem dX5_sink_62 : decode cX5_sink 62 = .ok (.lcmp, 1) := by decide +kernel
theorem dX5_sink_63 : decode cX5_sink 63 = .ok (.ifCond .le 6, 3) := by decide +kernel
theorem dX5_sink_66 : decode cX5_sink 66 = .ok (.iinc 7 1, 3) := by decide +kernel
theorem dX5_sink_69 : decode cX5_sink 69 = .ok (.aload_n 0, 1) := by decide +kernel
theorem dX5_sink_70 : decode cX5_sink 70 = .ok (.getfield 7, 3) := by decide +kernel
theorem dX5_sink_73 : decode cX5_sink 73 = .ok (.iload 7, 2) := by decide +kernel
theorem dX5_sink_75 : decode cX5_sink 75 = .ok (.laload, 1) := by decide +kernel
theorem dX5_sink_76 : decode cX5_sink 76 = .ok (.lload 4, 2) := by decide +kernel
theorem dX5_sink_78 : decode cX5_sink 78 = .ok (.lcmp, 1) := by decide +kernel
theorem dX5_sink_79 : decode cX5_sink 79 = .ok (.ifCond .le 7, 3) := by decide +kernel
theorem dX5_sink_82 : decode cX5_sink 82 = .ok (.iconst 1, 1) := by decide +kernel
theorem dX5_sink_83 : decode cX5_sink 83 = .ok (.goto 4, 3) := by decide +kernel
theorem dX5_sink_86 : decode cX5_sink 86 = .ok (.iconst 0, 1) := by decide +kernel
theorem dX5_sink_87 : decode cX5_sink 87 = .ok (.istore 6, 2) := by decide +kernel
theorem dX5_sink_89 : decode cX5_sink 89 = .ok (.iload 6, 2) := by decide +kernel
theorem dX5_sink_91 : decode cX5_sink 91 = .ok (.ifCond .ne 6, 3) := by decide +kernel
theorem dX5_sink_94 : decode cX5_sink 94 = .ok (.goto (-68), 3) := by decide +kernel
theorem dX5_sink_97 : decode cX5_sink 97 = .ok (.aload_n 0, 1) := by decide +kernel
theorem dX5_sink_98 : decode cX5_sink 98 = .ok (.getfield 7, 3) := by decide +kernel
theorem dX5_sink_101 : decode cX5_sink 101 = .ok (.iload_n 3, 1) := by decide +kernel
theorem dX5_sink_102 : decode cX5_sink 102 = .ok (.aload_n 0, 1) := by decide +kernel
theorem dX5_sink_103 : decode cX5_sink 103 = .ok (.getfield 7, 3) := by decide +kernel
theorem dX5_sink_106 : decode cX5_sink 106 = .ok (.iload 7, 2) := by decide +kernel
theorem dX5_sink_108 : decode cX5_sink 108 = .ok (.laload, 1) := by decide +kernel
theorem dX5_sink_109 : decode cX5_sink 109 = .ok (.lastore, 1) := by decide +kernel
theorem dX5_sink_110 : decode cX5_sink 110 = .ok (.iload 7, 2) := by decide +kernel
theorem dX5_sink_112 : decode cX5_sink 112 = .ok (.istore_n 3, 1) := by decide +kernel
theorem dX5_sink_113 : decode cX5_sink 113 = .ok (.iconst 2, 1) := by decide +kernel
theorem dX5_sink_114 : decode cX5_sink 114 = .ok (.iload_n 3, 1) := by decide +kernel
theorem dX5_sink_115 : decode cX5_sink 115 = .ok (.imul, 1) := by decide +kernel
theorem dX5_sink_116 : decode cX5_sink 116 = .ok (.iconst 1, 1) := by decide +kernel
theorem dX5_sink_117 : decode cX5_sink 117 = .ok (.iadd, 1) := by decide +kernel
theorem dX5_sink_118 : decode cX5_sink 118 = .ok (.iload_n 2, 1) := by decide +kernel
theorem dX5_sink_119 : decode cX5_sink 119 = .ok (.if_icmp .ge 7, 3) := by decide +kernel
theorem dX5_sink_122 : decode cX5_sink 122 = .ok (.iconst 1, 1) := by decide +kernel
theorem dX5_sink_123 : decode cX5_sink 123 = .ok (.goto 4, 3) := by decide +kernel
theorem dX5_sink_126 : decode cX5_sink 126 = .ok (.iconst 0, 1) := by decide +kernel
theorem dX5_sink_127 : decode cX5_sink 127 = .ok (.istore 6, 2) := by decide +kernel
theorem dX5_sink_129 : decode cX5_sink 129 = .ok (.goto (-103), 3) := by decide +kernel
theorem dX5_sink_132 : decode cX5_sink 132 = .ok (.aload_n 0, 1) := by decide +kernel
theorem dX5_sink_133 : decode cX5_sink 133 = .ok (.getfield 7, 3) := by decide +kernel
theorem dX5_sink_136 : decode cX5_sink 136 = .ok (.iload_n 3, 1) := by decide +kernel
theorem dX5_sink_137 : decode cX5_sink 137 = .ok (.lload 4, 2) := by decide +kernel
theorem dX5_sink_139 : decode cX5_sink 139 = .ok (.lastore, 1) := by decide +kernel
theorem dX5_sink_140 : decode cX5_sink 140 = .ok (.return_, 1) := by decide +kernel
theorem dX5_find_0 : decode cX5_find 0 = .ok (.iload_n 1, 1) := by decide +kernel
theorem dX5_find_1 : decode cX5_find 1 = .ok (.iload_n 2, 1) := by decide +kernel
theorem dX5_find_2 : decode cX5_find 2 = .ok (.invokestatic 19, 3) := by decide +kernel
theorem dX5_find_5 : decode cX5_find 5 = .ok (.lstore_n 3, 1) := by decide +kernel
theorem dX5_find_6 : decode cX5_find 6 = .ok (.iconst 0, 1) := by decide +kernel
theorem dX5_find_7 : decode cX5_find 7 = .ok (.istore 5, 2) := by decide +kernel
theorem dX5_find_9 : decode cX5_find 9 = .ok (.aload_n 0, 1) := by decide +kernel
theorem dX5_find_10 : decode cX5_find 10 = .ok (.getfield 13, 3) := by decide +kernel
theorem dX5_find_13 : decode cX5_find 13 = .ok (.istore 6, 2) := by decide +kernel
theorem dX5_find_15 : decode cX5_find 15 = .ok (.iload 5, 2) := by decide +kernel
theorem dX5_find_17 : decode cX5_find 17 = .ok (.iload 6, 2) := by decide +kernel
theorem dX5_find_19 : decode cX5_find 19 = .ok (.if_icmp .ge 40, 3) := by decide +kernel
theorem dX5_find_22 : decode cX5_find 22 = .ok (.iload 5, 2) := by decide +kernel
theorem dX5_find_24 : decode cX5_find 24 = .ok (.iload 6, 2) := by decide +kernel
theorem dX5_find_26 : decode cX5_find 26 = .ok (.iadd, 1) := by decide +kernel
theorem dX5_find_27 : decode cX5_find 27 = .ok (.iconst 2, 1) := by decide +kernel
theorem dX5_find_28 : decode cX5_find 28 = .ok (.idiv, 1) := by decide +kernel
theorem dX5_find_29 : decode cX5_find 29 = .ok (.istore 7, 2) := by decide +kernel
theorem dX5_find_31 : decode cX5_find 31 = .ok (.aload_n 0, 1) := by decide +kernel
theorem dX5_find_32 : decode cX5_find 32 = .ok (.getfield 7, 3) := by decide +kernel
theorem dX5_find_35 : decode cX5_find 35 = .ok (.iload 7, 2) := by decide +kernel
theorem dX5_find_37 : decode cX5_find 37 = .ok (.laload, 1) := by decide +kernel
theorem dX5_find_38 : decode cX5_find 38 = .ok (.lload_n 3, 1) := by decide +kernel
theorem dX5_find_39 : decode cX5_find 39 = .ok (.lcmp, 1) := by decide +kernel
theorem dX5_find_40 : decode cX5_find 40 = .ok (.ifCond .ge 12, 3) := by decide +kernel
theorem dX5_find_43 : decode cX5_find 43 = .ok (.iload 7, 2) := by decide +kernel
theorem dX5_find_45 : decode cX5_find 45 = .ok (.iconst 1, 1) := by decide +kernel
theorem dX5_find_46 : decode cX5_find 46 = .ok (.iadd, 1) := by decide +kernel
theorem dX5_find_47 : decode cX5_find 47 = .ok (.istore 5, 2) := by decide +kernel
theorem dX5_find_49 : decode cX5_find 49 = .ok (.goto 7, 3) := by decide +kernel
theorem dX5_find_52 : decode cX5_find 52 = .ok (.iload 7, 2) := by decide +kernel
theorem dX5_find_54 : decode cX5_find 54 = .ok (.istore 6, 2) := by decide +kernel
theorem dX5_find_56 : decode cX5_find 56 = .ok (.goto (-41), 3) := by decide +kernel
theorem dX5_find_59 : decode cX5_find 59 = .ok (.iload 5, 2) := by decide +kernel
theorem dX5_find_61 : decode cX5_find 61 = .ok (.aload_n 0, 1) := by decide +kernel
theorem dX5_find_62 : decode cX5_find 62 = .ok (.getfield 13, 3) := by decide +kernel
theorem dX5_find_65 : decode cX5_find 65 = .ok (.if_icmp .ge 20, 3) := by decide +kernel
theorem dX5_find_68 : decode cX5_find 68 = .ok (.aload_n 0, 1) := by decide +kernel
theorem dX5_find_69 : decode cX5_find 69 = .ok (.getfield 7, 3) := by decide +kernel
theorem dX5_find_72 : decode cX5_find 72 = .ok (.iload 5, 2) := by decide +kernel
theorem dX5_find_74 : decode cX5_find 74 = .ok (.laload, 1) := by decide +kernel
theorem dX5_find_75 : decode cX5_find 75 = .ok (.lload_n 3, 1) := by decide +kernel
theorem dX5_find_76 : decode cX5_find 76 = .ok (.lcmp, 1) := by decide +kernel
theorem dX5_find_77 : decode cX5_find 77 = .ok (.ifCond .ne 8, 3) := by decide +kernel
theorem dX5_find_80 : decode cX5_find 80 = .ok (.iload 5, 2) := by decide +kernel
theorem dX5_find_82 : decode cX5_find 82 = .ok (.goto 4, 3) := by decide +kernel
theorem dX5_find_85 : decode cX5_find 85 = .ok (.iconst (-1), 1) := by decide +kernel
theorem dX5_find_86 : decode cX5_find 86 = .ok (.ireturn, 1) := by decide +kernel
theorem dX6_side_0 : decode cX6_side 0 = .ok (.lload 4, 2) := by decide +kernel
theorem dX6_side_2 : decode cX6_side 2 = .ok (.lload_n 0, 1) := by decide +kernel
theorem dX6_side_3 : decode cX6_side 3 = .ok (.lsub, 1) := by decide +kernel
theorem dX6_side_4 : decode cX6_side 4 = .ok (.lload 10, 2) := by decide +kernel
theorem dX6_side_6 : decode cX6_side 6 = .ok (.lload_n 2, 1) := by decide +kernel
theorem dX6_side_7 : decode cX6_side 7 = .ok (.lsub, 1) := by decide +kernel
theorem dX6_side_8 : decode cX6_side 8 = .ok (.lmul, 1) := by decide +kernel
theorem dX6_side_9 : decode cX6_side 9 = .ok (.lload 6, 2) := by decide +kernel
theorem dX6_side_11 : decode cX6_side 11 = .ok (.lload_n 2, 1) := by decide +kernel
theorem dX6_side_12 : decode cX6_side 12 = .ok (.lsub, 1) := by decide +kernel
theorem dX6_side_13 : decode cX6_side 13 = .ok (.lload 8, 2) := by decide +kernel
theorem dX6_side_15 : decode cX6_side 15 = .ok (.lload_n 0, 1) := by decide +kernel
theorem dX6_side_16 : decode cX6_side 16 = .ok (.lsub, 1) := by decide +kernel
theorem dX6_side_17 : decode cX6_side 17 = .ok (.lmul, 1) := by decide +kernel
theorem dX6_side_18 : decode cX6_side 18 = .ok (.lsub, 1) := by decide +kernel
theorem dX6_side_19 : decode cX6_side 19 = .ok (.lreturn, 1) := by decide +kernel
theorem dX6_sign_0 : decode cX6_sign 0 = .ok (.lload_n 0, 1) := by decide +kernel
theorem dX6_sign_1 : decode cX6_sign 1 = .ok (.lconst 0, 1) := by decide +kernel
theorem dX6_sign_2 : decode cX6_sign 2 = .ok (.lcmp, 1) := by decide +kernel
theorem dX6_sign_3 : decode cX6_sign 3 = .ok (.ifCond .le 7, 3) := by decide +kernel
theorem dX6_sign_6 : decode cX6_sign 6 = .ok (.iconst 1, 1) := by decide +kernel
theorem dX6_sign_7 : decode cX6_sign 7 = .ok (.goto 14, 3) := by decide +kernel
theorem dX6_sign_10 : decode cX6_sign 10 = .ok (.lload_n 0, 1) := by decide +kernel
theorem dX6_sign_11 : decode cX6_sign 11 = .ok (.lconst 0, 1) := by decide +kernel
theorem dX6_sign_12 : decode cX6_sign 12 = .ok (.lcmp, 1) := by decide +kernel
theorem dX6_sign_13 : decode cX6_sign 13 = .ok (.ifCond .ge 7, 3) := by decide +kernel
theorem dX6_sign_16 : decode cX6_sign 16 = .ok (.iconst (-1), 1) := by decide +kernel
theorem dX6_sign_17 : decode cX6_sign 17 = .ok (.goto 4, 3) := by decide +kernel
theorem dX6_sign_20 : decode cX6_sign 20 = .ok (.iconst 0, 1) := by decide +kernel
theorem dX6_sign_21 : decode cX6_sign 21 = .ok (.ireturn, 1) := by decide +kernel
theorem dX6_isBetween_0 : decode cX6_isBetween 0 = .ok (.lload_n 0, 1) := by decide +kernel
theorem dX6_isBetween_1 : decode cX6_isBetween 1 = .ok (.lload 4, 2) := by decide +kernel
theorem dX6_isBetween_3 : decode cX6_isBetween 3 = .ok (.invokestatic 1, 3) := by decide +kernel
theorem dX6_isBetween_6 : decode cX6_isBetween 6 = .ok (.lload 8, 2) := by decide +kernel
theorem dX6_isBetween_8 : decode cX6_isBetween 8 = .ok (.lcmp, 1) := by decide +kernel
theorem dX6_isBetween_9 : decode cX6_isBetween 9 = .ok (.ifCond .gt 43, 3) := by decide +kernel
theorem dX6_isBetween_12 : decode cX6_isBetween 12 = .ok (.lload 8, 2) := by decide +kernel
theorem dX6_isBetween_14 : decode cX6_isBetween 14 = .ok (.lload_n 0, 1) := by decide +kernel
theorem dX6_isBetween_15 : decode cX6_isBetween 15 = .ok (.lload 4, 2) := by decide +kernel
theorem dX6_isBetween_17 : decode cX6_isBetween 17 = .ok (.invokestatic 7, 3) := by decide +kernel
theorem dX6_isBetween_20 : decode cX6_isBetween 20 = .ok (.lcmp, 1) := by decide +kernel
theorem dX6_isBetween_21 : decode cX6_isBetween 21 = .ok (.ifCond .gt 31, 3) := by decide +kernel
theorem dX6_isBetween_24 : decode cX6_isBetween 24 = .ok (.lload_n 2, 1) := by decide +kernel
theorem dX6_isBetween_25 : decode cX6_isBetween 25 = .ok (.lload 6, 2) := by decide +kernel
theorem dX6_isBetween_27 : decode cX6_isBetween 27 = .ok (.invokestatic 1, 3) := by decide +kernel
theorem dX6_isBetween_30 : decode cX6_isBetween 30 = .ok (.lload 10, 2) := by decide +kernel
theorem dX6_isBetween_32 : decode cX6_isBetween 32 = .ok (.lcmp, 1) := by decide +kernel
theorem dX6_isBetween_33 : decode cX6_isBetween 33 = .ok (.ifCond .gt 19, 3) := by decide +kernel
theorem dX6_isBetween_36 : decode cX6_isBetween 36 = .ok (.lload 10, 2) := by decide +kernel
theorem dX6_isBetween_38 : decode cX6_isBetween 38 = .ok (.lload_n 2, 1) := by decide +kernel
theorem dX6_isBetween_39 : decode cX6_isBetween 39 = .ok (.lload 6, 2) := by decide +kernel
theorem dX6_isBetween_41 : decode cX6_isBetween 41 = .ok (.invokestatic 7, 3) := by decide +kernel
theorem dX6_isBetween_44 : decode cX6_isBetween 44 = .ok (.lcmp, 1) := by decide +kernel
theorem dX6_isBetween_45 : decode cX6_isBetween 45 = .ok (.ifCond .gt 7, 3) := by decide +kernel
theorem dX6_isBetween_48 : decode cX6_isBetween 48 = .ok (.iconst 1, 1) := by decide +kernel
theorem dX6_isBetween_49 : decode cX6_isBetween 49 = .ok (.goto 4, 3) := by decide +kernel
theorem dX6_isBetween_52 : decode cX6_isBetween 52 = .ok (.iconst 0, 1) := by decide +kernel
theorem dX6_isBetween_53 : decode cX6_isBetween 53 = .ok (.ireturn, 1) := by decide +kernel
theorem dX6_meeting_0 : decode cX6_meeting 0 = .ok (.lload_n 0, 1) := by decide +kernel
theorem dX6_meeting_1 : decode cX6_meeting 1 = .ok (.lload_n 2, 1) := by decide +kernel
theorem dX6_meeting_2 : decode cX6_meeting 2 = .ok (.lload 4, 2) := by decide +kernel
theorem dX6_meeting_4 : decode cX6_meeting 4 = .ok (.lload 6, 2) := by decide +kernel
theorem dX6_meeting_6 : decode cX6_meeting 6 = .ok (.lload 8, 2) := by decide +kernel
theorem dX6_meeting_8 : decode cX6_meeting 8 = .ok (.lload 10, 2) := by decide +kernel
theorem dX6_meeting_10 : decode cX6_meeting 10 = .ok (.invokestatic 10, 3) := by decide +kernel
theorem dX6_meeting_13 : decode cX6_meeting 13 = .ok (.invokestatic 16, 3) := by decide +kernel
theorem dX6_meeting_16 : decode cX6_meeting 16 = .ok (.istore 16, 2) := by decide +kernel
theorem dX6_meeting_18 : decode cX6_meeting 18 = .ok (.lload_n 0, 1) := by decide +kernel
theorem dX6_meeting_19 : decode cX6_meeting 19 = .ok (.lload_n 2, 1) := by decide +kernel
theorem dX6_meeting_20 : decode cX6_meeting 20 = .ok (.lload 4, 2) := by decide +kernel
theorem dX6_meeting_22 : decode cX6_meeting 22 = .ok (.lload 6, 2) := by decide +kernel
theorem dX6_meeting_24 : decode cX6_meeting 24 = .ok (.lload 12, 2) := by decide +kernel
theorem dX6_meeting_26 : decode cX6_meeting 26 = .ok (.lload 14, 2) := by decide +kernel
theorem dX6_meeting_28 : decode cX6_meeting 28 = .ok (.invokestatic 10, 3) := by decide +kernel
theorem dX6_meeting_31 : decode cX6_meeting 31 = .ok (.invokestatic 16, 3) := by decide +kernel
theorem dX6_meeting_34 : decode cX6_meeting 34 = .ok (.istore 17, 2) := by decide +kernel
theorem dX6_meeting_36 : decode cX6_meeting 36 = .ok (.lload 8, 2) := by decide +kernel
theorem dX6_meeting_38 : decode cX6_meeting 38 = .ok (.lload 10, 2) := by decide +kernel
theorem dX6_meeting_40 : decode cX6_meeting 40 = .ok (.lload 12, 2) := by decide +kernel
theorem dX6_meeting_42 : decode cX6_meeting 42 = .ok (.lload 14, 2) := by decide +kernel
theorem dX6_meeting_44 : decode cX6_meeting 44 = .ok (.lload_n 0, 1) := by decide +kernel
theorem dX6_meeting_45 : decode cX6_meeting 45 = .ok (.lload_n 2, 1) := by decide +kernel
theorem dX6_meeting_46 : decode cX6_meeting 46 = .ok (.invokestatic 10, 3) := by decide +kernel
theorem dX6_meeting_49 : decode cX6_meeting 49 = .ok (.invokestatic 16, 3) := by decide +kernel
theorem dX6_meeting_52 : decode cX6_meeting 52 = .ok (.istore 18, 2) := by decide +kernel
theorem dX6_meeting_54 : decode cX6_meeting 54 = .ok (.lload 8, 2) := by decide +kernel
theorem dX6_meeting_56 : decode cX6_meeting 56 = .ok (.lload 10, 2) := by decide +kernel
theorem dX6_meeting_58 : decode cX6_meeting 58 = .ok (.lload 12, 2) := by decide +kernel
theorem dX6_meeting_60 : decode cX6_meeting 60 = .ok (.lload 14, 2) := by decide +kernel
theorem dX6_meeting_62 : decode cX6_meeting 62 = .ok (.lload 4, 2) := by decide +kernel
theorem dX6_meeting_64 : decode cX6_meeting 64 = .ok (.lload 6, 2) := by decide +kernel
theorem dX6_meeting_66 : decode cX6_meeting 66 = .ok (.invokestatic 10, 3) := by decide +kernel
theorem dX6_meeting_69 : decode cX6_meeting 69 = .ok (.invokestatic 16, 3) := by decide +kernel
theorem dX6_meeting_72 : decode cX6_meeting 72 = .ok (.istore 19, 2) := by decide +kernel
theorem dX6_meeting_74 : decode cX6_meeting 74 = .ok (.iload 16, 2) := by decide +kernel
theorem dX6_meeting_76 : decode cX6_meeting 76 = .ok (.ifCond .ne 26, 3) := by decide +kernel
theorem dX6_meeting_79 : decode cX6_meeting 79 = .ok (.iload 17, 2) := by decide +kernel
theorem dX6_meeting_81 : decode cX6_meeting 81 = .ok (.ifCond .ne 21, 3) := by decide +kernel
theorem dX6_meeting_84 : decode cX6_meeting 84 = .ok (.lload_n 0, 1) := by decide +kernel
theorem dX6_meeting_85 : decode cX6_meeting 85 = .ok (.lload_n 2, 1) := by decide +kernel
theorem dX6_meeting_86 : decode cX6_meeting 86 = .ok (.lload 4, 2) := by decide +kernel
theorem dX6_meeting_88 : decode cX6_meeting 88 = .ok (.lload 6, 2) := by decide +kernel
theorem dX6_meeting_90 : decode cX6_meeting 90 = .ok (.lload 8, 2) := by decide +kernel
theorem dX6_meeting_92 : decode cX6_meeting 92 = .ok (.lload 10, 2) := by decide +kernel
theorem dX6_meeting_94 : decode cX6_meeting 94 = .ok (.lload 12, 2) := by decide +kernel
theorem dX6_meeting_96 : decode cX6_meeting 96 = .ok (.lload 14, 2) := by decide +kernel
theorem dX6_meeting_98 : decode cX6_meeting 98 = .ok (.invokestatic 20, 3) := by decide +kernel
theorem dX6_meeting_101 : decode cX6_meeting 101 = .ok (.ireturn, 1) := by decide +kernel
theorem dX6_meeting_102 : decode cX6_meeting 102 = .ok (.iload 16, 2) := by decide +kernel
theorem dX6_meeting_104 : decode cX6_meeting 104 = .ok (.iload 17, 2) := by decide +kernel
theorem dX6_meeting_106 : decode cX6_meeting 106 = .ok (.imul, 1) := by decide +kernel
theorem dX6_meeting_107 : decode cX6_meeting 107 = .ok (.ifCond .ge 13, 3) := by decide +kernel
theorem dX6_meeting_110 : decode cX6_meeting 110 = .ok (.iload 18, 2) := by decide +kernel
theorem dX6_meeting_112 : decode cX6_meeting 112 = .ok (.iload 19, 2) := by decide +kernel
theorem dX6_meeting_114 : decode cX6_meeting 114 = .ok (.imul, 1) := by decide +kernel
theorem dX6_meeting_115 : decode cX6_meeting 115 = .ok (.ifCond .ge 5, 3) := by decide +kernel
theorem dX6_meeting_118 : decode cX6_meeting 118 = .ok (.iconst 1, 1) := by decide +kernel
theorem dX6_meeting_119 : decode cX6_meeting 119 = .ok (.ireturn, 1) := by decide +kernel
theorem dX6_meeting_120 : decode cX6_meeting 120 = .ok (.iload 16, 2) := by decide +kernel
theorem dX6_meeting_122 : decode cX6_meeting 122 = .ok (.ifCond .ne 19, 3) := by decide +kernel
theorem dX6_meeting_125 : decode cX6_meeting 125 = .ok (.lload_n 0, 1) := by decide +kernel
theorem dX6_meeting_126 : decode cX6_meeting 126 = .ok (.lload_n 2, 1) := by decide +kernel
theorem dX6_meeting_127 : decode cX6_meeting 127 = .ok (.lload 4, 2) := by decide +kernel
theorem dX6_meeting_129 : decode cX6_meeting 129 = .ok (.lload 6, 2) := by decide +kernel
theorem dX6_meeting_131 : decode cX6_meeting 131 = .ok (.lload 8, 2) := by decide +kernel
theorem dX6_meeting_133 : decode cX6_meeting 133 = .ok (.lload 10, 2) := by decide +kernel
theorem dX6_meeting_135 : decode cX6_meeting 135 = .ok (.invokestatic 24, 3) := by decide +kernel
theorem dX6_meeting_138 : decode cX6_meeting 138 = .ok (.ifCond .ne 68, 3) := by decide +kernel
theorem dX6_meeting_141 : decode cX6_meeting 141 = .ok (.iload 17, 2) := by decide +kernel
theorem dX6_meeting_143 : decode cX6_meeting 143 = .ok (.ifCond .ne 19, 3) := by decide +kernel
theorem dX6_meeting_146 : decode cX6_meeting 146 = .ok (.lload_n 0, 1) := by decide +kernel
theorem dX6_meeting_147 : decode cX6_meeting 147 = .ok (.lload_n 2, 1) := by decide +kernel
theorem dX6_meeting_148 : decode cX6_meeting 148 = .ok (.lload 4, 2) := by decide +kernel
theorem dX6_meeting_150 : decode cX6_meeting 150 = .ok (.lload 6, 2) := by decide +kernel
theorem dX6_meeting_152 : decode cX6_meeting 152 = .ok (.lload 12, 2) := by decide +kernel
theorem dX6_meeting_154 : decode cX6_meeting 154 = .ok (.lload 14, 2) := by decide +kernel
theorem dX6_meeting_156 : decode cX6_meeting 156 = .ok (.invokestatic 24, 3) := by decide +kernel
theorem dX6_meeting_159 : decode cX6_meeting 159 = .ok (.ifCond .ne 47, 3) := by decide +kernel
theorem dX6_meeting_162 : decode cX6_meeting 162 = .ok (.iload 18, 2) := by decide +kernel
theorem dX6_meeting_164 : decode cX6_meeting 164 = .ok (.ifCond .ne 19, 3) := by decide +kernel
theorem dX6_meeting_167 : decode cX6_meeting 167 = .ok (.lload 8, 2) := by decide +kernel
theorem dX6_meeting_169 : decode cX6_meeting 169 = .ok (.lload 10, 2) := by decide +kernel
theorem dX6_meeting_171 : decode cX6_meeting 171 = .ok (.lload 12, 2) := by decide +kernel
theorem dX6_meeting_173 : decode cX6_meeting 173 = .ok (.lload 14, 2) := by decide +kernel
theorem dX6_meeting_175 : decode cX6_meeting 175 = .ok (.lload_n 0, 1) := by decide +kernel
theorem dX6_meeting_176 : decode cX6_meeting 176 = .ok (.lload_n 2, 1) := by decide +kernel
theorem dX6_meeting_177 : decode cX6_meeting 177 = .ok (.invokestatic 24, 3) := by decide +kernel
theorem dX6_meeting_180 : decode cX6_meeting 180 = .ok (.ifCond .ne 26, 3) := by decide +kernel
theorem dX6_meeting_183 : decode cX6_meeting 183 = .ok (.iload 19, 2) := by decide +kernel
theorem dX6_meeting_185 : decode cX6_meeting 185 = .ok (.ifCond .ne 25, 3) := by decide +kernel
theorem dX6_meeting_188 : decode cX6_meeting 188 = .ok (.lload 8, 2) := by decide +kernel
theorem dX6_meeting_190 : decode cX6_meeting 190 = .ok (.lload 10, 2) := by decide +kernel
theorem dX6_meeting_192 : decode cX6_meeting 192 = .ok (.lload 12, 2) := by decide +kernel
theorem dX6_meeting_194 : decode cX6_meeting 194 = .ok (.lload 14, 2) := by decide +kernel
theorem dX6_meeting_196 : decode cX6_meeting 196 = .ok (.lload 4, 2) := by decide +kernel
theorem dX6_meeting_198 : decode cX6_meeting 198 = .ok (.lload 6, 2) := by decide +kernel
theorem dX6_meeting_200 : decode cX6_meeting 200 = .ok (.invokestatic 24, 3) := by decide +kernel
theorem dX6_meeting_203 : decode cX6_meeting 203 = .ok (.ifCond .eq 7, 3) := by decide +kernel
theorem dX6_meeting_206 : decode cX6_meeting 206 = .ok (.iconst 1, 1) := by decide +kernel
theorem dX6_meeting_207 : decode cX6_meeting 207 = .ok (.goto 4, 3) := by decide +kernel
theorem dX6_meeting_210 : decode cX6_meeting 210 = .ok (.iconst 0, 1) := by decide +kernel
theorem dX6_meeting_211 : decode cX6_meeting 211 = .ok (.istore 20, 2) := by decide +kernel
theorem dX6_meeting_213 : decode cX6_meeting 213 = .ok (.iload 20, 2) := by decide +kernel
theorem dX6_meeting_215 : decode cX6_meeting 215 = .ok (.ifCond .eq 7, 3) := by decide +kernel
theorem dX6_meeting_218 : decode cX6_meeting 218 = .ok (.iconst 2, 1) := by decide +kernel
theorem dX6_meeting_219 : decode cX6_meeting 219 = .ok (.goto 4, 3) := by decide +kernel
theorem dX6_meeting_222 : decode cX6_meeting 222 = .ok (.iconst 0, 1) := by decide +kernel
theorem dX6_meeting_223 : decode cX6_meeting 223 = .ok (.ireturn, 1) := by decide +kernel
theorem dX6_straight_0 : decode cX6_straight 0 = .ok (.lload_n 0, 1) := by decide +kernel
theorem dX6_straight_1 : decode cX6_straight 1 = .ok (.lload 4, 2) := by decide +kernel
theorem dX6_straight_3 : decode cX6_straight 3 = .ok (.lcmp, 1) := by decide +kernel
theorem dX6_straight_4 : decode cX6_straight 4 = .ok (.ifCond .eq 7, 3) := by decide +kernel
theorem dX6_straight_7 : decode cX6_straight 7 = .ok (.iconst 1, 1) := by decide +kernel
theorem dX6_straight_8 : decode cX6_straight 8 = .ok (.goto 4, 3) := by decide +kernel
theorem dX6_straight_11 : decode cX6_straight 11 = .ok (.iconst 0, 1) := by decide +kernel
theorem dX6_straight_12 : decode cX6_straight 12 = .ok (.istore 16, 2) := by decide +kernel
theorem dX6_straight_14 : decode cX6_straight 14 = .ok (.iload 16, 2) := by decide +kernel
theorem dX6_straight_16 : decode cX6_straight 16 = .ok (.ifCond .eq 12, 3) := by decide +kernel
theorem dX6_straight_19 : decode cX6_straight 19 = .ok (.lload_n 0, 1) := by decide +kernel
theorem dX6_straight_20 : decode cX6_straight 20 = .ok (.lload 4, 2) := by decide +kernel
theorem dX6_straight_22 : decode cX6_straight 22 = .ok (.invokestatic 1, 3) := by decide +kernel
theorem dX6_straight_25 : decode cX6_straight 25 = .ok (.goto 9, 3) := by decide +kernel
theorem dX6_straight_28 : decode cX6_straight 28 = .ok (.lload_n 2, 1) := by decide +kernel
theorem dX6_straight_29 : decode cX6_straight 29 = .ok (.lload 6, 2) := by decide +kernel
theorem dX6_straight_31 : decode cX6_straight 31 = .ok (.invokestatic 1, 3) := by decide +kernel
theorem dX6_straight_34 : decode cX6_straight 34 = .ok (.lstore 17, 2) := by decide +kernel
theorem dX6_straight_36 : decode cX6_straight 36 = .ok (.iload 16, 2) := by decide +kernel
theorem dX6_straight_38 : decode cX6_straight 38 = .ok (.ifCond .eq 12, 3) := by decide +kernel
theorem dX6_straight_41 : decode cX6_straight 41 = .ok (.lload_n 0, 1) := by decide +kernel
theorem dX6_straight_42 : decode cX6_straight 42 = .ok (.lload 4, 2) := by decide +kernel
theorem dX6_straight_44 : decode cX6_straight 44 = .ok (.invokestatic 7, 3) := by decide +kernel
theorem dX6_straight_47 : decode cX6_straight 47 = .ok (.goto 9, 3) := by decide +kernel
theorem dX6_straight_50 : decode cX6_straight 50 = .ok (.lload_n 2, 1) := by decide +kernel
theorem dX6_straight_51 : decode cX6_straight 51 = .ok (.lload 6, 2) := by decide +kernel
theorem dX6_straight_53 : decode cX6_straight 53 = .ok (.invokestatic 7, 3) := by decide +kernel
theorem dX6_straight_56 : decode cX6_straight 56 = .ok (.lstore 19, 2) := by decide +kernel
theorem dX6_straight_58 : decode cX6_straight 58 = .ok (.iload 16, 2) := by decide +kernel
theorem dX6_straight_60 : decode cX6_straight 60 = .ok (.ifCond .eq 13, 3) := by decide +kernel
theorem dX6_straight_63 : decode cX6_straight 63 = .ok (.lload 8, 2) := by decide +kernel
theorem dX6_straight_65 : decode cX6_straight 65 = .ok (.lload 12, 2) := by decide +kernel
theorem dX6_straight_67 : decode cX6_straight 67 = .ok (.invokestatic 1, 3) := by decide +kernel
theorem dX6_straight_70 : decode cX6_straight 70 = .ok (.goto 10, 3) := by decide +kernel
theorem dX6_straight_73 : decode cX6_straight 73 = .ok (.lload 10, 2) := by decide +kernel
theorem dX6_straight_75 : decode cX6_straight 75 = .ok (.lload 14, 2) := by decide +kernel
theorem dX6_straight_77 : decode cX6_straight 77 = .ok (.invokestatic 1, 3) := by decide +kernel
theorem dX6_straight_80 : decode cX6_straight 80 = .ok (.lstore 21, 2) := by decide +kernel
theorem dX6_straight_82 : decode cX6_straight 82 = .ok (.iload 16, 2) := by decide +kernel
theorem dX6_straight_84 : decode cX6_straight 84 = .ok (.ifCond .eq 13, 3) := by decide +kernel
theorem dX6_straight_87 : decode cX6_straight 87 = .ok (.lload 8, 2) := by decide +kernel
theorem dX6_straight_89 : decode cX6_straight 89 = .ok (.lload 12, 2) := by decide +kernel
theorem dX6_straight_91 : decode cX6_straight 91 = .ok (.invokestatic 7, 3) := by decide +kernel
theorem dX6_straight_94 : decode cX6_straight 94 = .ok (.goto 10, 3) := by decide +kernel
theorem dX6_straight_97 : decode cX6_straight 97 = .ok (.lload 10, 2) := by decide +kernel
theorem dX6_straight_99 : decode cX6_straight 99 = .ok (.lload 14, 2) := by decide +kernel
theorem dX6_straight_101 : decode cX6_straight 101 = .ok (.invokestatic 7, 3) := by decide +kernel
theorem dX6_straight_104 : decode cX6_straight 104 = .ok (.lstore 23, 2) := by decide +kernel
theorem dX6_straight_106 : decode cX6_straight 106 = .ok (.lload 17, 2) := by decide +kernel
theorem dX6_straight_108 : decode cX6_straight 108 = .ok (.lload 21, 2) := by decide +kernel
theorem dX6_straight_110 : decode cX6_straight 110 = .ok (.invokestatic 7, 3) := by decide +kernel
theorem dX6_straight_113 : decode cX6_straight 113 = .ok (.lstore 25, 2) := by decide +kernel
theorem dX6_straight_115 : decode cX6_straight 115 = .ok (.lload 19, 2) := by decide +kernel
theorem dX6_straight_117 : decode cX6_straight 117 = .ok (.lload 23, 2) := by decide +kernel
theorem dX6_straight_119 : decode cX6_straight 119 = .ok (.invokestatic 1, 3) := by decide +kernel
theorem dX6_straight_122 : decode cX6_straight 122 = .ok (.lstore 27, 2) := by decide +kernel
theorem dX6_straight_124 : decode cX6_straight 124 = .ok (.lload 25, 2) := by decide +kernel
theorem dX6_straight_126 : decode cX6_straight 126 = .ok (.lload 27, 2) := by decide +kernel
theorem dX6_straight_128 : decode cX6_straight 128 = .ok (.lcmp, 1) := by decide +kernel
theorem dX6_straight_129 : decode cX6_straight 129 = .ok (.ifCond .le 7, 3) := by decide +kernel
theorem dX6_straight_132 : decode cX6_straight 132 = .ok (.iconst 0, 1) := by decide +kernel
theorem dX6_straight_133 : decode cX6_straight 133 = .ok (.goto 16, 3) := by decide +kernel
theorem dX6_straight_136 : decode cX6_straight 136 = .ok (.lload 25, 2) := by decide +kernel
theorem dX6_straight_138 : decode cX6_straight 138 = .ok (.lload 27, 2) := by decide +kernel
theorem dX6_straight_140 : decode cX6_straight 140 = .ok (.lcmp, 1) := by decide +kernel
theorem dX6_straight_141 : decode cX6_straight 141 = .ok (.ifCond .ne 7, 3) := by decide +kernel
theorem dX6_straight_144 : decode cX6_straight 144 = .ok (.iconst 2, 1) := by decide +kernel
theorem dX6_straight_145 : decode cX6_straight 145 = .ok (.goto 4, 3) := by decide +kernel
theorem dX6_straight_148 : decode cX6_straight 148 = .ok (.iconst 3, 1) := by decide +kernel
theorem dX6_straight_149 : decode cX6_straight 149 = .ok (.ireturn, 1) := by decide +kernel
theorem dX6_init_0 : decode cX6_init 0 = .ok (.aload_n 0, 1) := by decide +kernel
theorem dX6_init_1 : decode cX6_init 1 = .ok (.invokespecial 28, 3) := by decide +kernel
theorem dX6_init_4 : decode cX6_init 4 = .ok (.aload_n 0, 1) := by decide +kernel
theorem dX6_init_5 : decode cX6_init 5 = .ok (.new 34, 3) := by decide +kernel
theorem dX6_init_8 : decode cX6_init 8 = .ok (.dup, 1) := by decide +kernel
theorem dX6_init_9 : decode cX6_init 9 = .ok (.invokespecial 36, 3) := by decide +kernel
theorem dX6_init_12 : decode cX6_init 12 = .ok (.putfield 37, 3) := by decide +kernel
theorem dX6_init_15 : decode cX6_init 15 = .ok (.aload_n 0, 1) := by decide +kernel
theorem dX6_init_16 : decode cX6_init 16 = .ok (.new 34, 3) := by decide +kernel
theorem dX6_init_19 : decode cX6_init 19 = .ok (.dup, 1) := by decide +kernel
theorem dX6_init_20 : decode cX6_init 20 = .ok (.invokespecial 36, 3) := by decide +kernel
theorem dX6_init_23 : decode cX6_init 23 = .ok (.putfield 41, 3) := by decide +kernel
theorem dX6_init_26 : decode cX6_init 26 = .ok (.aload_n 0, 1) := by decide +kernel
theorem dX6_init_27 : decode cX6_init 27 = .ok (.new 44, 3) := by decide +kernel
theorem dX6_init_30 : decode cX6_init 30 = .ok (.dup, 1) := by decide +kernel
theorem dX6_init_31 : decode cX6_init 31 = .ok (.invokespecial 46, 3) := by decide +kernel
theorem dX6_init_34 : decode cX6_init 34 = .ok (.putfield 47, 3) := by decide +kernel
theorem dX6_init_37 : decode cX6_init 37 = .ok (.aload_n 0, 1) := by decide +kernel
theorem dX6_init_38 : decode cX6_init 38 = .ok (.new 44, 3) := by decide +kernel
theorem dX6_init_41 : decode cX6_init 41 = .ok (.dup, 1) := by decide +kernel
theorem dX6_init_42 : decode cX6_init 42 = .ok (.invokespecial 46, 3) := by decide +kernel
theorem dX6_init_45 : decode cX6_init 45 = .ok (.putfield 51, 3) := by decide +kernel
theorem dX6_init_48 : decode cX6_init 48 = .ok (.aload_n 0, 1) := by decide +kernel
theorem dX6_init_49 : decode cX6_init 49 = .ok (.iconst 0, 1) := by decide +kernel
theorem dX6_init_50 : decode cX6_init 50 = .ok (.newarray .int, 2) := by decide +kernel
theorem dX6_init_52 : decode cX6_init 52 = .ok (.putfield 54, 3) := by decide +kernel
theorem dX6_init_55 : decode cX6_init 55 = .ok (.aload_n 0, 1) := by decide +kernel
theorem dX6_init_56 : decode cX6_init 56 = .ok (.new 34, 3) := by decide +kernel
theorem dX6_init_59 : decode cX6_init 59 = .ok (.dup, 1) := by decide +kernel
theorem dX6_init_60 : decode cX6_init 60 = .ok (.invokespecial 36, 3) := by decide +kernel
theorem dX6_init_63 : decode cX6_init 63 = .ok (.putfield 58, 3) := by decide +kernel
theorem dX6_init_66 : decode cX6_init 66 = .ok (.aload_n 0, 1) := by decide +kernel
theorem dX6_init_67 : decode cX6_init 67 = .ok (.new 34, 3) := by decide +kernel
theorem dX6_init_70 : decode cX6_init 70 = .ok (.dup, 1) := by decide +kernel
theorem dX6_init_71 : decode cX6_init 71 = .ok (.invokespecial 36, 3) := by decide +kernel
theorem dX6_init_74 : decode cX6_init 74 = .ok (.putfield 61, 3) := by decide +kernel
theorem dX6_init_77 : decode cX6_init 77 = .ok (.aload_n 0, 1) := by decide +kernel
theorem dX6_init_78 : decode cX6_init 78 = .ok (.new 44, 3) := by decide +kernel
theorem dX6_init_81 : decode cX6_init 81 = .ok (.dup, 1) := by decide +kernel
theorem dX6_init_82 : decode cX6_init 82 = .ok (.invokespecial 46, 3) := by decide +kernel
theorem dX6_init_85 : decode cX6_init 85 = .ok (.putfield 64, 3) := by decide +kernel
theorem dX6_init_88 : decode cX6_init 88 = .ok (.aload_n 0, 1) := by decide +kernel
theorem dX6_init_89 : decode cX6_init 89 = .ok (.new 44, 3) := by decide +kernel
theorem dX6_init_92 : decode cX6_init 92 = .ok (.dup, 1) := by decide +kernel
theorem dX6_init_93 : decode cX6_init 93 = .ok (.invokespecial 46, 3) := by decide +kernel
theorem dX6_init_96 : decode cX6_init 96 = .ok (.putfield 67, 3) := by decide +kernel
theorem dX6_init_99 : decode cX6_init 99 = .ok (.aload_n 0, 1) := by decide +kernel
theorem dX6_init_100 : decode cX6_init 100 = .ok (.new 34, 3) := by decide +kernel
theorem dX6_init_103 : decode cX6_init 103 = .ok (.dup, 1) := by decide +kernel
theorem dX6_init_104 : decode cX6_init 104 = .ok (.invokespecial 36, 3) := by decide +kernel
theorem dX6_init_107 : decode cX6_init 107 = .ok (.putfield 70, 3) := by decide +kernel
theorem dX6_init_110 : decode cX6_init 110 = .ok (.aload_n 0, 1) := by decide +kernel
theorem dX6_init_111 : decode cX6_init 111 = .ok (.new 34, 3) := by decide +kernel
theorem dX6_init_114 : decode cX6_init 114 = .ok (.dup, 1) := by decide +kernel
theorem dX6_init_115 : decode cX6_init 115 = .ok (.invokespecial 36, 3) := by decide +kernel
theorem dX6_init_118 : decode cX6_init 118 = .ok (.putfield 73, 3) := by decide +kernel
theorem dX6_init_121 : decode cX6_init 121 = .ok (.aload_n 0, 1) := by decide +kernel
theorem dX6_init_122 : decode cX6_init 122 = .ok (.new 34, 3) := by decide +kernel
theorem dX6_init_125 : decode cX6_init 125 = .ok (.dup, 1) := by decide +kernel
theorem dX6_init_126 : decode cX6_init 126 = .ok (.invokespecial 36, 3) := by decide +kernel
theorem dX6_init_129 : decode cX6_init 129 = .ok (.putfield 76, 3) := by decide +kernel
theorem dX6_init_132 : decode cX6_init 132 = .ok (.return_, 1) := by decide +kernel
theorem dX6_isIn_0 : decode cX6_isIn 0 = .ok (.iload_n 0, 1) := by decide +kernel
theorem dX6_isIn_1 : decode cX6_isIn 1 = .ok (.ldc 79, 2) := by decide +kernel
theorem dX6_isIn_3 : decode cX6_isIn 3 = .ok (.if_icmp .lt 25, 3) := by decide +kernel
theorem dX6_isIn_6 : decode cX6_isIn 6 = .ok (.iload_n 0, 1) := by decide +kernel
theorem dX6_isIn_7 : decode cX6_isIn 7 = .ok (.ldc 80, 2) := by decide +kernel
theorem dX6_isIn_9 : decode cX6_isIn 9 = .ok (.if_icmp .gt 19, 3) := by decide +kernel
theorem dX6_isIn_12 : decode cX6_isIn 12 = .ok (.iload_n 1, 1) := by decide +kernel
theorem dX6_isIn_13 : decode cX6_isIn 13 = .ok (.ldc 79, 2) := by decide +kernel
theorem dX6_isIn_15 : decode cX6_isIn 15 = .ok (.if_icmp .lt 13, 3) := by decide +kernel
theorem dX6_isIn_18 : decode cX6_isIn 18 = .ok (.iload_n 1, 1) := by decide +kernel
theorem dX6_isIn_19 : decode cX6_isIn 19 = .ok (.ldc 80, 2) := by decide +kernel
theorem dX6_isIn_21 : decode cX6_isIn 21 = .ok (.if_icmp .gt 7, 3) := by decide +kernel
theorem dX6_isIn_24 : decode cX6_isIn 24 = .ok (.iconst 1, 1) := by decide +kernel
theorem dX6_isIn_25 : decode cX6_isIn 25 = .ok (.goto 4, 3) := by decide +kernel
theorem dX6_isIn_28 : decode cX6_isIn 28 = .ok (.iconst 0, 1) := by decide +kernel
theorem dX6_isIn_29 : decode cX6_isIn 29 = .ok (.ireturn, 1) := by decide +kernel
theorem dX6_edge_0 : decode cX6_edge 0 = .ok (.iload_n 1, 1) := by decide +kernel
theorem dX6_edge_1 : decode cX6_edge 1 = .ok (.iload_n 2, 1) := by decide +kernel
theorem dX6_edge_2 : decode cX6_edge 2 = .ok (.invokestatic 81, 3) := by decide +kernel
theorem dX6_edge_5 : decode cX6_edge 5 = .ok (.ifCond .eq 23, 3) := by decide +kernel
theorem dX6_edge_8 : decode cX6_edge 8 = .ok (.iload_n 3, 1) := by decide +kernel
theorem dX6_edge_9 : decode cX6_edge 9 = .ok (.iload 4, 2) := by decide +kernel
theorem dX6_edge_11 : decode cX6_edge 11 = .ok (.invokestatic 81, 3) := by decide +kernel
theorem dX6_edge_14 : decode cX6_edge 14 = .ok (.ifCond .eq 14, 3) := by decide +kernel
theorem dX6_edge_17 : decode cX6_edge 17 = .ok (.iload_n 1, 1) := by decide +kernel
theorem dX6_edge_18 : decode cX6_edge 18 = .ok (.iload_n 3, 1) := by decide +kernel
theorem dX6_edge_19 : decode cX6_edge 19 = .ok (.if_icmp .ne 11, 3) := by decide +kernel
theorem dX6_edge_22 : decode cX6_edge 22 = .ok (.iload_n 2, 1) := by decide +kernel
theorem dX6_edge_23 : decode cX6_edge 23 = .ok (.iload 4, 2) := by decide +kernel
theorem dX6_edge_25 : decode cX6_edge 25 = .ok (.if_icmp .ne 5, 3) := by decide +kernel
theorem dX6_edge_28 : decode cX6_edge 28 = .ok (.iconst (-1), 1) := by decide +kernel
theorem dX6_edge_29 : decode cX6_edge 29 = .ok (.ireturn, 1) := by decide +kernel
theorem dX6_edge_30 : decode cX6_edge 30 = .ok (.aload_n 0, 1) := by decide +kernel
theorem dX6_edge_31 : decode cX6_edge 31 = .ok (.getfield 37, 3) := by decide +kernel
theorem dX6_edge_34 : decode cX6_edge 34 = .ok (.getfield 85, 3) := by decide +kernel
theorem dX6_edge_37 : decode cX6_edge 37 = .ok (.sipush 8000, 3) := by decide +kernel
theorem dX6_edge_40 : decode cX6_edge 40 = .ok (.if_icmp .ne 6, 3) := by decide +kernel
theorem dX6_edge_43 : decode cX6_edge 43 = .ok (.bipush (-12), 2) := by decide +kernel
theorem dX6_edge_45 : decode cX6_edge 45 = .ok (.ireturn, 1) := by decide +kernel
theorem dX6_edge_46 : decode cX6_edge 46 = .ok (.aload_n 0, 1) := by decide +kernel
theorem dX6_edge_47 : decode cX6_edge 47 = .ok (.getfield 37, 3) := by decide +kernel
theorem dX6_edge_50 : decode cX6_edge 50 = .ok (.iload_n 1, 1) := by decide +kernel
theorem dX6_edge_51 : decode cX6_edge 51 = .ok (.invokevirtual 89, 3) := by decide +kernel
theorem dX6_edge_54 : decode cX6_edge 54 = .ok (.aload_n 0, 1) := by decide +kernel
theorem dX6_edge_55 : decode cX6_edge 55 = .ok (.getfield 37, 3) := by decide +kernel
theorem dX6_edge_58 : decode cX6_edge 58 = .ok (.iload_n 2, 1) := by decide +kernel
theorem dX6_edge_59 : decode cX6_edge 59 = .ok (.invokevirtual 89, 3) := by decide +kernel
theorem dX6_edge_62 : decode cX6_edge 62 = .ok (.aload_n 0, 1) := by decide +kernel
theorem dX6_edge_63 : decode cX6_edge 63 = .ok (.getfield 37, 3) := by decide +kernel
theorem dX6_edge_66 : decode cX6_edge 66 = .ok (.iload_n 3, 1) := by decide +kernel
theorem dX6_edge_67 : decode cX6_edge 67 = .ok (.invokevirtual 89, 3) := by decide +kernel
theorem dX6_edge_70 : decode cX6_edge 70 = .ok (.aload_n 0, 1) := by decide +kernel
theorem dX6_edge_71 : decode cX6_edge 71 = .ok (.getfield 37, 3) := by decide +kernel
theorem dX6_edge_74 : decode cX6_edge 74 = .ok (.iload 4, 2) := by decide +kernel
theorem dX6_edge_76 : decode cX6_edge 76 = .ok (.invokevirtual 89, 3) := by decide +kernel
theorem dX6_edge_79 : decode cX6_edge 79 = .ok (.aload_n 0, 1) := by decide +kernel
theorem dX6_edge_80 : decode cX6_edge 80 = .ok (.getfield 37, 3) := by decide +kernel
theorem dX6_edge_83 : decode cX6_edge 83 = .ok (.getfield 85, 3) := by decide +kernel
theorem dX6_edge_86 : decode cX6_edge 86 = .ok (.iconst 4, 1) := by decide +kernel
theorem dX6_edge_87 : decode cX6_edge 87 = .ok (.idiv, 1) := by decide +kernel
theorem dX6_edge_88 : decode cX6_edge 88 = .ok (.iconst 1, 1) := by decide +kernel
theorem dX6_edge_89 : decode cX6_edge 89 = .ok (.isub, 1) := by decide +kernel
theorem dX6_edge_90 : decode cX6_edge 90 = .ok (.ireturn, 1) := by decide +kernel
theorem dX6_point_0 : decode cX6_point 0 = .ok (.iload_n 1, 1) := by decide +kernel
theorem dX6_point_1 : decode cX6_point 1 = .ok (.iload_n 2, 1) := by decide +kernel
theorem dX6_point_2 : decode cX6_point 2 = .ok (.invokestatic 81, 3) := by decide +kernel
theorem dX6_point_5 : decode cX6_point 5 = .ok (.ifCond .ne 5, 3) := by decide +kernel
theorem dX6_point_8 : decode cX6_point 8 = .ok (.iconst (-1), 1) := by decide +kernel
theorem dX6_point_9 : decode cX6_point 9 = .ok (.ireturn, 1) := by decide +kernel
theorem dX6_point_10 : decode cX6_point 10 = .ok (.aload_n 0, 1) := by decide +kernel
theorem dX6_point_11 : decode cX6_point 11 = .ok (.getfield 41, 3) := by decide +kernel
theorem dX6_point_14 : decode cX6_point 14 = .ok (.getfield 85, 3) := by decide +kernel
theorem dX6_point_17 : decode cX6_point 17 = .ok (.sipush 2000, 3) := by decide +kernel
theorem dX6_point_20 : decode cX6_point 20 = .ok (.if_icmp .ne 6, 3) := by decide +kernel
theorem dX6_point_23 : decode cX6_point 23 = .ok (.bipush (-12), 2) := by decide +kernel
theorem dX6_point_25 : decode cX6_point 25 = .ok (.ireturn, 1) := by decide +kernel
theorem dX6_point_26 : decode cX6_point 26 = .ok (.aload_n 0, 1) := by decide +kernel
theorem dX6_point_27 : decode cX6_point 27 = .ok (.getfield 41, 3) := by decide +kernel
theorem dX6_point_30 : decode cX6_point 30 = .ok (.iload_n 1, 1) := by decide +kernel
theorem dX6_point_31 : decode cX6_point 31 = .ok (.invokevirtual 89, 3) := by decide +kernel
theorem dX6_point_34 : decode cX6_point 34 = .ok (.aload_n 0, 1) := by decide +kernel
theorem dX6_point_35 : decode cX6_point 35 = .ok (.getfield 41, 3) := by decide +kernel
theorem dX6_point_38 : decode cX6_point 38 = .ok (.iload_n 2, 1) := by decide +kernel
theorem dX6_point_39 : decode cX6_point 39 = .ok (.invokevirtual 89, 3) := by decide +kernel
theorem dX6_point_42 : decode cX6_point 42 = .ok (.aload_n 0, 1) := by decide +kernel
theorem dX6_point_43 : decode cX6_point 43 = .ok (.getfield 41, 3) := by decide +kernel
theorem dX6_point_46 : decode cX6_point 46 = .ok (.getfield 85, 3) := by decide +kernel
theorem dX6_point_49 : decode cX6_point 49 = .ok (.iconst 2, 1) := by decide +kernel
theorem dX6_point_50 : decode cX6_point 50 = .ok (.idiv, 1) := by decide +kernel
theorem dX6_point_51 : decode cX6_point 51 = .ok (.ireturn, 1) := by decide +kernel
theorem dX6_clear_0 : decode cX6_clear 0 = .ok (.aload_n 0, 1) := by decide +kernel
theorem dX6_clear_1 : decode cX6_clear 1 = .ok (.getfield 37, 3) := by decide +kernel
theorem dX6_clear_4 : decode cX6_clear 4 = .ok (.invokevirtual 93, 3) := by decide +kernel
theorem dX6_clear_7 : decode cX6_clear 7 = .ok (.aload_n 0, 1) := by decide +kernel
theorem dX6_clear_8 : decode cX6_clear 8 = .ok (.getfield 41, 3) := by decide +kernel
theorem dX6_clear_11 : decode cX6_clear 11 = .ok (.invokevirtual 93, 3) := by decide +kernel
theorem dX6_clear_14 : decode cX6_clear 14 = .ok (.return_, 1) := by decide +kernel
theorem dX6_end_0 : decode cX6_end 0 = .ok (.aload_n 0, 1) := by decide +kernel
theorem dX6_end_1 : decode cX6_end 1 = .ok (.getfield 37, 3) := by decide +kernel
theorem dX6_end_4 : decode cX6_end 4 = .ok (.getfield 96, 3) := by decide +kernel
theorem dX6_end_7 : decode cX6_end 7 = .ok (.iconst 4, 1) := by decide +kernel
theorem dX6_end_8 : decode cX6_end 8 = .ok (.iload_n 1, 1) := by decide +kernel
theorem dX6_end_9 : decode cX6_end 9 = .ok (.imul, 1) := by decide +kernel
theorem dX6_end_10 : decode cX6_end 10 = .ok (.iload_n 2, 1) := by decide +kernel
theorem dX6_end_11 : decode cX6_end 11 = .ok (.iadd, 1) := by decide +kernel
theorem dX6_end_12 : decode cX6_end 12 = .ok (.iaload, 1) := by decide +kernel
theorem dX6_end_13 : decode cX6_end 13 = .ok (.i2l, 1) := by decide +kernel
theorem dX6_end_14 : decode cX6_end 14 = .ok (.lreturn, 1) := by decide +kernel
theorem dX6_lay_0 : decode cX6_lay 0 = .ok (.aload_n 0, 1) := by decide +kernel
theorem dX6_lay_1 : decode cX6_lay 1 = .ok (.getfield 64, 3) := by decide +kernel
theorem dX6_lay_4 : decode cX6_lay 4 = .ok (.invokevirtual 99, 3) := by decide +kernel
theorem dX6_lay_7 : decode cX6_lay 7 = .ok (.aload_n 0, 1) := by decide +kernel
theorem dX6_lay_8 : decode cX6_lay 8 = .ok (.getfield 67, 3) := by decide +kernel
theorem dX6_lay_11 : decode cX6_lay 11 = .ok (.invokevirtual 99, 3) := by decide +kernel
theorem dX6_lay_14 : decode cX6_lay 14 = .ok (.aload_n 0, 1) := by decide +kernel
theorem dX6_lay_15 : decode cX6_lay 15 = .ok (.getfield 70, 3) := by decide +kernel
theorem dX6_lay_18 : decode cX6_lay 18 = .ok (.invokevirtual 93, 3) := by decide +kernel
theorem dX6_lay_21 : decode cX6_lay 21 = .ok (.aload_n 0, 1) := by decide +kernel
theorem dX6_lay_22 : decode cX6_lay 22 = .ok (.getfield 73, 3) := by decide +kernel
theorem dX6_lay_25 : decode cX6_lay 25 = .ok (.invokevirtual 93, 3) := by decide +kernel
theorem dX6_lay_28 : decode cX6_lay 28 = .ok (.iconst 0, 1) := by decide +kernel
theorem dX6_lay_29 : decode cX6_lay 29 = .ok (.istore_n 1, 1) := by decide +kernel
theorem dX6_lay_30 : decode cX6_lay 30 = .ok (.iload_n 1, 1) := by decide +kernel
theorem dX6_lay_31 : decode cX6_lay 31 = .ok (.aload_n 0, 1) := by decide +kernel
theorem dX6_lay_32 : decode cX6_lay 32 = .ok (.getfield 37, 3) := by decide +kernel
theorem dX6_lay_35 : decode cX6_lay 35 = .ok (.getfield 85, 3) := by decide +kernel
theorem dX6_lay_38 : decode cX6_lay 38 = .ok (.if_icmp .ge 36, 3) := by decide +kernel
theorem dX6_lay_41 : decode cX6_lay 41 = .ok (.aload_n 0, 1) := by decide +kernel
theorem dX6_lay_42 : decode cX6_lay 42 = .ok (.getfield 64, 3) := by decide +kernel
theorem dX6_lay_45 : decode cX6_lay 45 = .ok (.aload_n 0, 1) := by decide +kernel
theorem dX6_lay_46 : decode cX6_lay 46 = .ok (.getfield 37, 3) := by decide +kernel
theorem dX6_lay_49 : decode cX6_lay 49 = .ok (.getfield 96, 3) := by decide +kernel
theorem dX6_lay_52 : decode cX6_lay 52 = .ok (.iload_n 1, 1) := by decide +kernel
theorem dX6_lay_53 : decode cX6_lay 53 = .ok (.iaload, 1) := by decide +kernel
theorem dX6_lay_54 : decode cX6_lay 54 = .ok (.aload_n 0, 1) := by decide +kernel
theorem dX6_lay_55 : decode cX6_lay 55 = .ok (.getfield 37, 3) := by decide +kernel
theorem dX6_lay_58 : decode cX6_lay 58 = .ok (.getfield 96, 3) := by decide +kernel
theorem dX6_lay_61 : decode cX6_lay 61 = .ok (.iload_n 1, 1) := by decide +kernel
theorem dX6_lay_62 : decode cX6_lay 62 = .ok (.iconst 1, 1) := by decide +kernel
theorem dX6_lay_63 : decode cX6_lay 63 = .ok (.iadd, 1) := by decide +kernel
theorem dX6_lay_64 : decode cX6_lay 64 = .ok (.iaload, 1) := by decide +kernel
theorem dX6_lay_65 : decode cX6_lay 65 = .ok (.invokevirtual 100, 3) := by decide +kernel
theorem dX6_lay_68 : decode cX6_lay 68 = .ok (.iinc 1 2, 3) := by decide +kernel
theorem dX6_lay_71 : decode cX6_lay 71 = .ok (.goto (-41), 3) := by decide +kernel
theorem dX6_lay_74 : decode cX6_lay 74 = .ok (.iconst 0, 1) := by decide +kernel
theorem dX6_lay_75 : decode cX6_lay 75 = .ok (.istore_n 1, 1) := by decide +kernel
theorem dX6_lay_76 : decode cX6_lay 76 = .ok (.iload_n 1, 1) := by decide +kernel
theorem dX6_lay_77 : decode cX6_lay 77 = .ok (.aload_n 0, 1) := by decide +kernel
theorem dX6_lay_78 : decode cX6_lay 78 = .ok (.getfield 41, 3) := by decide +kernel
theorem dX6_lay_81 : decode cX6_lay 81 = .ok (.getfield 85, 3) := by decide +kernel
theorem dX6_lay_84 : decode cX6_lay 84 = .ok (.if_icmp .ge 36, 3) := by decide +kernel
theorem dX6_lay_87 : decode cX6_lay 87 = .ok (.aload_n 0, 1) := by decide +kernel
theorem dX6_lay_88 : decode cX6_lay 88 = .ok (.getfield 64, 3) := by decide +kernel
theorem dX6_lay_91 : decode cX6_lay 91 = .ok (.aload_n 0, 1) := by decide +kernel
theorem dX6_lay_92 : decode cX6_lay 92 = .ok (.getfield 41, 3) := by decide +kernel
theorem dX6_lay_95 : decode cX6_lay 95 = .ok (.getfield 96, 3) := by decide +kernel
theorem dX6_lay_98 : decode cX6_lay 98 = .ok (.iload_n 1, 1) := by decide +kernel
theorem dX6_lay_99 : decode cX6_lay 99 = .ok (.iaload, 1) := by decide +kernel
theorem dX6_lay_100 : decode cX6_lay 100 = .ok (.aload_n 0, 1) := by decide +kernel
theorem dX6_lay_101 : decode cX6_lay 101 = .ok (.getfield 41, 3) := by decide +kernel
theorem dX6_lay_104 : decode cX6_lay 104 = .ok (.getfield 96, 3) := by decide +kernel
theorem dX6_lay_107 : decode cX6_lay 107 = .ok (.iload_n 1, 1) := by decide +kernel
theorem dX6_lay_108 : decode cX6_lay 108 = .ok (.iconst 1, 1) := by decide +kernel
theorem dX6_lay_109 : decode cX6_lay 109 = .ok (.iadd, 1) := by decide +kernel
theorem dX6_lay_110 : decode cX6_lay 110 = .ok (.iaload, 1) := by decide +kernel
theorem dX6_lay_111 : decode cX6_lay 111 = .ok (.invokevirtual 100, 3) := by decide +kernel
theorem dX6_lay_114 : decode cX6_lay 114 = .ok (.iinc 1 2, 3) := by decide +kernel
theorem dX6_lay_117 : decode cX6_lay 117 = .ok (.goto (-41), 3) := by decide +kernel
theorem dX6_lay_120 : decode cX6_lay 120 = .ok (.aload_n 0, 1) := by decide +kernel
theorem dX6_lay_121 : decode cX6_lay 121 = .ok (.invokevirtual 103, 3) := by decide +kernel
theorem dX6_lay_124 : decode cX6_lay 124 = .ok (.ifCond .eq 10, 3) := by decide +kernel
theorem dX6_lay_127 : decode cX6_lay 127 = .ok (.aload_n 0, 1) := by decide +kernel
theorem dX6_lay_128 : decode cX6_lay 128 = .ok (.invokevirtual 107, 3) := by decide +kernel
theorem dX6_lay_131 : decode cX6_lay 131 = .ok (.ifCond .ne 6, 3) := by decide +kernel
theorem dX6_lay_134 : decode cX6_lay 134 = .ok (.bipush (-12), 2) := by decide +kernel
theorem dX6_lay_136 : decode cX6_lay 136 = .ok (.ireturn, 1) := by decide +kernel
theorem dX6_lay_137 : decode cX6_lay 137 = .ok (.iconst 0, 1) := by decide +kernel
theorem dX6_lay_138 : decode cX6_lay 138 = .ok (.istore_n 1, 1) := by decide +kernel
theorem dX6_lay_139 : decode cX6_lay 139 = .ok (.iload_n 1, 1) := by decide +kernel
theorem dX6_lay_140 : decode cX6_lay 140 = .ok (.iconst 1, 1) := by decide +kernel
theorem dX6_lay_141 : decode cX6_lay 141 = .ok (.iadd, 1) := by decide +kernel
theorem dX6_lay_142 : decode cX6_lay 142 = .ok (.aload_n 0, 1) := by decide +kernel
theorem dX6_lay_143 : decode cX6_lay 143 = .ok (.getfield 73, 3) := by decide +kernel
theorem dX6_lay_146 : decode cX6_lay 146 = .ok (.getfield 85, 3) := by decide +kernel
theorem dX6_lay_149 : decode cX6_lay 149 = .ok (.if_icmp .ge 95, 3) := by decide +kernel
theorem dX6_lay_152 : decode cX6_lay 152 = .ok (.aload_n 0, 1) := by decide +kernel
theorem dX6_lay_153 : decode cX6_lay 153 = .ok (.getfield 73, 3) := by decide +kernel
theorem dX6_lay_156 : decode cX6_lay 156 = .ok (.getfield 96, 3) := by decide +kernel
theorem dX6_lay_159 : decode cX6_lay 159 = .ok (.iload_n 1, 1) := by decide +kernel
theorem dX6_lay_160 : decode cX6_lay 160 = .ok (.iaload, 1) := by decide +kernel
theorem dX6_lay_161 : decode cX6_lay 161 = .ok (.istore_n 2, 1) := by decide +kernel
theorem dX6_lay_162 : decode cX6_lay 162 = .ok (.iload_n 2, 1) := by decide +kernel
theorem dX6_lay_163 : decode cX6_lay 163 = .ok (.iconst 1, 1) := by decide +kernel
theorem dX6_lay_164 : decode cX6_lay 164 = .ok (.iadd, 1) := by decide +kernel
theorem dX6_lay_165 : decode cX6_lay 165 = .ok (.aload_n 0, 1) := by decide +kernel
theorem dX6_lay_166 : decode cX6_lay 166 = .ok (.getfield 73, 3) := by decide +kernel
theorem dX6_lay_169 : decode cX6_lay 169 = .ok (.getfield 96, 3) := by decide +kernel
theorem dX6_lay_172 : decode cX6_lay 172 = .ok (.iload_n 1, 1) := by decide +kernel
theorem dX6_lay_173 : decode cX6_lay 173 = .ok (.iconst 1, 1) := by decide +kernel
theorem dX6_lay_174 : decode cX6_lay 174 = .ok (.iadd, 1) := by decide +kernel
theorem dX6_lay_175 : decode cX6_lay 175 = .ok (.iaload, 1) := by decide +kernel
theorem dX6_lay_176 : decode cX6_lay 176 = .ok (.if_icmp .ge 62, 3) := by decide +kernel
theorem dX6_lay_179 : decode cX6_lay 179 = .ok (.aload_n 0, 1) := by decide +kernel
theorem dX6_lay_180 : decode cX6_lay 180 = .ok (.getfield 67, 3) := by decide +kernel
theorem dX6_lay_183 : decode cX6_lay 183 = .ok (.aload_n 0, 1) := by decide +kernel
theorem dX6_lay_184 : decode cX6_lay 184 = .ok (.getfield 70, 3) := by decide +kernel
theorem dX6_lay_187 : decode cX6_lay 187 = .ok (.getfield 96, 3) := by decide +kernel
theorem dX6_lay_190 : decode cX6_lay 190 = .ok (.iload_n 2, 1) := by decide +kernel
theorem dX6_lay_191 : decode cX6_lay 191 = .ok (.iaload, 1) := by decide +kernel
theorem dX6_lay_192 : decode cX6_lay 192 = .ok (.aload_n 0, 1) := by decide +kernel
theorem dX6_lay_193 : decode cX6_lay 193 = .ok (.getfield 70, 3) := by decide +kernel
theorem dX6_lay_196 : decode cX6_lay 196 = .ok (.getfield 96, 3) := by decide +kernel
theorem dX6_lay_199 : decode cX6_lay 199 = .ok (.iload_n 2, 1) := by decide +kernel
theorem dX6_lay_200 : decode cX6_lay 200 = .ok (.iconst 1, 1) := by decide +kernel
theorem dX6_lay_201 : decode cX6_lay 201 = .ok (.iadd, 1) := by decide +kernel
theorem dX6_lay_202 : decode cX6_lay 202 = .ok (.iaload, 1) := by decide +kernel
theorem dX6_lay_203 : decode cX6_lay 203 = .ok (.invokestatic 110, 3) := by decide +kernel
theorem dX6_lay_206 : decode cX6_lay 206 = .ok (.aload_n 0, 1) := by decide +kernel
theorem dX6_lay_207 : decode cX6_lay 207 = .ok (.getfield 70, 3) := by decide +kernel
theorem dX6_lay_210 : decode cX6_lay 210 = .ok (.getfield 96, 3) := by decide +kernel
theorem dX6_lay_213 : decode cX6_lay 213 = .ok (.iload_n 2, 1) := by decide +kernel
theorem dX6_lay_214 : decode cX6_lay 214 = .ok (.iaload, 1) := by decide +kernel
theorem dX6_lay_215 : decode cX6_lay 215 = .ok (.aload_n 0, 1) := by decide +kernel
theorem dX6_lay_216 : decode cX6_lay 216 = .ok (.getfield 70, 3) := by decide +kernel
theorem dX6_lay_219 : decode cX6_lay 219 = .ok (.getfield 96, 3) := by decide +kernel
theorem dX6_lay_222 : decode cX6_lay 222 = .ok (.iload_n 2, 1) := by decide +kernel
theorem dX6_lay_223 : decode cX6_lay 223 = .ok (.iconst 1, 1) := by decide +kernel
theorem dX6_lay_224 : decode cX6_lay 224 = .ok (.iadd, 1) := by decide +kernel
theorem dX6_lay_225 : decode cX6_lay 225 = .ok (.iaload, 1) := by decide +kernel
theorem dX6_lay_226 : decode cX6_lay 226 = .ok (.invokestatic 113, 3) := by decide +kernel
theorem dX6_lay_229 : decode cX6_lay 229 = .ok (.invokevirtual 100, 3) := by decide +kernel
theorem dX6_lay_232 : decode cX6_lay 232 = .ok (.iinc 2 1, 3) := by decide +kernel
theorem dX6_lay_235 : decode cX6_lay 235 = .ok (.goto (-73), 3) := by decide +kernel
theorem dX6_lay_238 : decode cX6_lay 238 = .ok (.iinc 1 1, 3) := by decide +kernel
theorem dX6_lay_241 : decode cX6_lay 241 = .ok (.goto (-102), 3) := by decide +kernel
theorem dX6_lay_244 : decode cX6_lay 244 = .ok (.aload_n 0, 1) := by decide +kernel
theorem dX6_lay_245 : decode cX6_lay 245 = .ok (.getfield 67, 3) := by decide +kernel
theorem dX6_lay_248 : decode cX6_lay 248 = .ok (.invokevirtual 115, 3) := by decide +kernel
theorem dX6_lay_251 : decode cX6_lay 251 = .ok (.aload_n 0, 1) := by decide +kernel
theorem dX6_lay_252 : decode cX6_lay 252 = .ok (.getfield 67, 3) := by decide +kernel
theorem dX6_lay_255 : decode cX6_lay 255 = .ok (.getfield 118, 3) := by decide +kernel
theorem dX6_lay_258 : decode cX6_lay 258 = .ok (.sipush 9000, 3) := by decide +kernel
theorem dX6_lay_261 : decode cX6_lay 261 = .ok (.if_icmp .le 6, 3) := by decide +kernel
theorem dX6_lay_264 : decode cX6_lay 264 = .ok (.bipush (-12), 2) := by decide +kernel
theorem dX6_lay_266 : decode cX6_lay 266 = .ok (.ireturn, 1) := by decide +kernel
theorem dX6_lay_267 : decode cX6_lay 267 = .ok (.aload_n 0, 1) := by decide +kernel
theorem dX6_lay_268 : decode cX6_lay 268 = .ok (.invokevirtual 119, 3) := by decide +kernel
theorem dX6_lay_271 : decode cX6_lay 271 = .ok (.aload_n 0, 1) := by decide +kernel
theorem dX6_lay_272 : decode cX6_lay 272 = .ok (.getfield 51, 3) := by decide +kernel
theorem dX6_lay_275 : decode cX6_lay 275 = .ok (.getfield 118, 3) := by decide +kernel
theorem dX6_lay_278 : decode cX6_lay 278 = .ok (.ireturn, 1) := by decide +kernel
theorem dX6_become_0 : decode cX6_become 0 = .ok (.aload_n 0, 1) := by decide +kernel
theorem dX6_become_1 : decode cX6_become 1 = .ok (.getfield 47, 3) := by decide +kernel
theorem dX6_become_4 : decode cX6_become 4 = .ok (.astore_n 1, 1) := by decide +kernel
theorem dX6_become_5 : decode cX6_become 5 = .ok (.aload_n 0, 1) := by decide +kernel
theorem dX6_become_6 : decode cX6_become 6 = .ok (.getfield 51, 3) := by decide +kernel
theorem dX6_become_9 : decode cX6_become 9 = .ok (.astore_n 2, 1) := by decide +kernel
theorem dX6_become_10 : decode cX6_become 10 = .ok (.aload_n 0, 1) := by decide +kernel
theorem dX6_become_11 : decode cX6_become 11 = .ok (.getfield 58, 3) := by decide +kernel
theorem dX6_become_14 : decode cX6_become 14 = .ok (.astore_n 3, 1) := by decide +kernel
theorem dX6_become_15 : decode cX6_become 15 = .ok (.aload_n 0, 1) := by decide +kernel
theorem dX6_become_16 : decode cX6_become 16 = .ok (.getfield 61, 3) := by decide +kernel
theorem dX6_become_19 : decode cX6_become 19 = .ok (.astore 4, 2) := by decide +kernel
theorem dX6_become_21 : decode cX6_become 21 = .ok (.aload_n 0, 1) := by decide +kernel
theorem dX6_become_22 : decode cX6_become 22 = .ok (.aload_n 0, 1) := by decide +kernel
theorem dX6_become_23 : decode cX6_become 23 = .ok (.getfield 64, 3) := by decide +kernel
theorem dX6_become_26 : decode cX6_become 26 = .ok (.putfield 47, 3) := by decide +kernel
theorem dX6_become_29 : decode cX6_become 29 = .ok (.aload_n 0, 1) := by decide +kernel
theorem dX6_become_30 : decode cX6_become 30 = .ok (.aload_n 0, 1) := by decide +kernel
theorem dX6_become_31 : decode cX6_become 31 = .ok (.getfield 67, 3) := by decide +kernel
theorem dX6_become_34 : decode cX6_become 34 = .ok (.putfield 51, 3) := by decide +kernel
theorem dX6_become_37 : decode cX6_become 37 = .ok (.aload_n 0, 1) := by decide +kernel
theorem dX6_become_38 : decode cX6_become 38 = .ok (.aload_n 0, 1) := by decide +kernel
theorem dX6_become_39 : decode cX6_become 39 = .ok (.getfield 70, 3) := by decide +kernel
theorem dX6_become_42 : decode cX6_become 42 = .ok (.putfield 58, 3) := by decide +kernel
theorem dX6_become_45 : decode cX6_become 45 = .ok (.aload_n 0, 1) := by decide +kernel
theorem dX6_become_46 : decode cX6_become 46 = .ok (.aload_n 0, 1) := by decide +kernel
theorem dX6_become_47 : decode cX6_become 47 = .ok (.getfield 73, 3) := by decide +kernel
theorem dX6_become_50 : decode cX6_become 50 = .ok (.putfield 61, 3) := by decide +kernel
theorem dX6_become_53 : decode cX6_become 53 = .ok (.aload_n 0, 1) := by decide +kernel
theorem dX6_become_54 : decode cX6_become 54 = .ok (.aload_n 1, 1) := by decide +kernel
theorem dX6_become_55 : decode cX6_become 55 = .ok (.putfield 64, 3) := by decide +kernel
theorem dX6_become_58 : decode cX6_become 58 = .ok (.aload_n 0, 1) := by decide +kernel
theorem dX6_become_59 : decode cX6_become 59 = .ok (.aload_n 2, 1) := by decide +kernel
theorem dX6_become_60 : decode cX6_become 60 = .ok (.putfield 67, 3) := by decide +kernel
theorem dX6_become_63 : decode cX6_become 63 = .ok (.aload_n 0, 1) := by decide +kernel
theorem dX6_become_64 : decode cX6_become 64 = .ok (.aload_n 3, 1) := by decide +kernel
theorem dX6_become_65 : decode cX6_become 65 = .ok (.putfield 70, 3) := by decide +kernel
theorem dX6_become_68 : decode cX6_become 68 = .ok (.aload_n 0, 1) := by decide +kernel
theorem dX6_become_69 : decode cX6_become 69 = .ok (.aload 4, 2) := by decide +kernel
theorem dX6_become_71 : decode cX6_become 71 = .ok (.putfield 73, 3) := by decide +kernel
theorem dX6_become_74 : decode cX6_become 74 = .ok (.aload_n 0, 1) := by decide +kernel
theorem dX6_become_75 : decode cX6_become 75 = .ok (.getfield 54, 3) := by decide +kernel
theorem dX6_become_78 : decode cX6_become 78 = .ok (.arraylength, 1) := by decide +kernel
theorem dX6_become_79 : decode cX6_become 79 = .ok (.aload_n 0, 1) := by decide +kernel
theorem dX6_become_80 : decode cX6_become 80 = .ok (.getfield 51, 3) := by decide +kernel
theorem dX6_become_83 : decode cX6_become 83 = .ok (.getfield 118, 3) := by decide +kernel
theorem dX6_become_86 : decode cX6_become 86 = .ok (.if_icmp .ge 16, 3) := by decide +kernel
theorem dX6_become_89 : decode cX6_become 89 = .ok (.aload_n 0, 1) := by decide +kernel
theorem dX6_become_90 : decode cX6_become 90 = .ok (.aload_n 0, 1) := by decide +kernel
theorem dX6_become_91 : decode cX6_become 91 = .ok (.getfield 51, 3) := by decide +kernel
theorem dX6_become_94 : decode cX6_become 94 = .ok (.getfield 118, 3) := by decide +kernel
theorem dX6_become_97 : decode cX6_become 97 = .ok (.newarray .int, 2) := by decide +kernel
theorem dX6_become_99 : decode cX6_become 99 = .ok (.putfield 54, 3) := by decide +kernel
theorem dX6_become_102 : decode cX6_become 102 = .ok (.iconst 0, 1) := by decide +kernel
theorem dX6_become_103 : decode cX6_become 103 = .ok (.istore 5, 2) := by decide +kernel
theorem dX6_become_105 : decode cX6_become 105 = .ok (.iload 5, 2) := by decide +kernel
theorem dX6_become_107 : decode cX6_become 107 = .ok (.aload_n 0, 1) := by decide +kernel
theorem dX6_become_108 : decode cX6_become 108 = .ok (.getfield 51, 3) := by decide +kernel
theorem dX6_become_111 : decode cX6_become 111 = .ok (.getfield 118, 3) := by decide +kernel
theorem dX6_become_114 : decode cX6_become 114 = .ok (.if_icmp .ge 17, 3) := by decide +kernel
theorem dX6_become_117 : decode cX6_become 117 = .ok (.aload_n 0, 1) := by decide +kernel
theorem dX6_become_118 : decode cX6_become 118 = .ok (.getfield 54, 3) := by decide +kernel
theorem dX6_become_121 : decode cX6_become 121 = .ok (.iload 5, 2) := by decide +kernel
theorem dX6_become_123 : decode cX6_become 123 = .ok (.iconst 0, 1) := by decide +kernel
theorem dX6_become_124 : decode cX6_become 124 = .ok (.iastore, 1) := by decide +kernel
theorem dX6_become_125 : decode cX6_become 125 = .ok (.iinc 5 1, 3) := by decide +kernel
theorem dX6_become_128 : decode cX6_become 128 = .ok (.goto (-23), 3) := by decide +kernel
theorem dX6_become_131 : decode cX6_become 131 = .ok (.iconst 0, 1) := by decide +kernel
theorem dX6_become_132 : decode cX6_become 132 = .ok (.istore 5, 2) := by decide +kernel
theorem dX6_become_134 : decode cX6_become 134 = .ok (.iload 5, 2) := by decide +kernel
theorem dX6_become_136 : decode cX6_become 136 = .ok (.iconst 1, 1) := by decide +kernel
theorem dX6_become_137 : decode cX6_become 137 = .ok (.iadd, 1) := by decide +kernel
theorem dX6_become_138 : decode cX6_become 138 = .ok (.aload_n 0, 1) := by decide +kernel
theorem dX6_become_139 : decode cX6_become 139 = .ok (.getfield 61, 3) := by decide +kernel
theorem dX6_become_142 : decode cX6_become 142 = .ok (.getfield 85, 3) := by decide +kernel
theorem dX6_become_145 : decode cX6_become 145 = .ok (.if_icmp .ge 116, 3) := by decide +kernel
theorem dX6_become_148 : decode cX6_become 148 = .ok (.aload_n 0, 1) := by decide +kernel
theorem dX6_become_149 : decode cX6_become 149 = .ok (.getfield 61, 3) := by decide +kernel
theorem dX6_become_152 : decode cX6_become 152 = .ok (.getfield 96, 3) := by decide +kernel
theorem dX6_become_155 : decode cX6_become 155 = .ok (.iload 5, 2) := by decide +kernel
theorem dX6_become_157 : decode cX6_become 157 = .ok (.iaload, 1) := by decide +kernel
theorem dX6_become_158 : decode cX6_become 158 = .ok (.istore 6, 2) := by decide +kernel
theorem dX6_become_160 : decode cX6_become 160 = .ok (.iload 6, 2) := by decide +kernel
theorem dX6_become_162 : decode cX6_become 162 = .ok (.iconst 1, 1) := by decide +kernel
theorem dX6_become_163 : decode cX6_become 163 = .ok (.iadd, 1) := by decide +kernel
theorem dX6_become_164 : decode cX6_become 164 = .ok (.aload_n 0, 1) := by decide +kernel
theorem dX6_become_165 : decode cX6_become 165 = .ok (.getfield 61, 3) := by decide +kernel
theorem dX6_become_168 : decode cX6_become 168 = .ok (.getfield 96, 3) := by decide +kernel
theorem dX6_become_171 : decode cX6_become 171 = .ok (.iload 5, 2) := by decide +kernel
theorem dX6_become_173 : decode cX6_become 173 = .ok (.iconst 1, 1) := by decide +kernel
theorem dX6_become_174 : decode cX6_become 174 = .ok (.iadd, 1) := by decide +kernel
theorem dX6_become_175 : decode cX6_become 175 = .ok (.iaload, 1) := by decide +kernel
theorem dX6_become_176 : decode cX6_become 176 = .ok (.if_icmp .ge 79, 3) := by decide +kernel
theorem dX6_become_179 : decode cX6_become 179 = .ok (.aload_n 0, 1) := by decide +kernel
theorem dX6_become_180 : decode cX6_become 180 = .ok (.getfield 51, 3) := by decide +kernel
theorem dX6_become_183 : decode cX6_become 183 = .ok (.aload_n 0, 1) := by decide +kernel
theorem dX6_become_184 : decode cX6_become 184 = .ok (.getfield 58, 3) := by decide +kernel
theorem dX6_become_187 : decode cX6_become 187 = .ok (.getfield 96, 3) := by decide +kernel
theorem dX6_become_190 : decode cX6_become 190 = .ok (.iload 6, 2) := by decide +kernel
theorem dX6_become_192 : decode cX6_become 192 = .ok (.iaload, 1) := by decide +kernel
theorem dX6_become_193 : decode cX6_become 193 = .ok (.aload_n 0, 1) := by decide +kernel
theorem dX6_become_194 : decode cX6_become 194 = .ok (.getfield 58, 3) := by decide +kernel
theorem dX6_become_197 : decode cX6_become 197 = .ok (.getfield 96, 3) := by decide +kernel
theorem dX6_become_200 : decode cX6_become 200 = .ok (.iload 6, 2) := by decide +kernel
theorem dX6_become_202 : decode cX6_become 202 = .ok (.iconst 1, 1) := by decide +kernel
theorem dX6_become_203 : decode cX6_become 203 = .ok (.iadd, 1) := by decide +kernel
theorem dX6_become_204 : decode cX6_become 204 = .ok (.iaload, 1) := by decide +kernel
theorem dX6_become_205 : decode cX6_become 205 = .ok (.invokestatic 110, 3) := by decide +kernel
theorem dX6_become_208 : decode cX6_become 208 = .ok (.aload_n 0, 1) := by decide +kernel
theorem dX6_become_209 : decode cX6_become 209 = .ok (.getfield 58, 3) := by decide +kernel
theorem dX6_become_212 : decode cX6_become 212 = .ok (.getfield 96, 3) := by decide +kernel
theorem dX6_become_215 : decode cX6_become 215 = .ok (.iload 6, 2) := by decide +kernel
theorem dX6_become_217 : decode cX6_become 217 = .ok (.iaload, 1) := by decide +kernel
theorem dX6_become_218 : decode cX6_become 218 = .ok (.aload_n 0, 1) := by decide +kernel
theorem dX6_become_219 : decode cX6_become 219 = .ok (.getfield 58, 3) := by decide +kernel
theorem dX6_become_222 : decode cX6_become 222 = .ok (.getfield 96, 3) := by decide +kernel
theorem dX6_become_225 : decode cX6_become 225 = .ok (.iload 6, 2) := by decide +kernel
theorem dX6_become_227 : decode cX6_become 227 = .ok (.iconst 1, 1) := by decide +kernel
theorem dX6_become_228 : decode cX6_become 228 = .ok (.iadd, 1) := by decide +kernel
theorem dX6_become_229 : decode cX6_become 229 = .ok (.iaload, 1) := by decide +kernel
theorem dX6_become_230 : decode cX6_become 230 = .ok (.invokestatic 113, 3) := by decide +kernel
theorem dX6_become_233 : decode cX6_become 233 = .ok (.invokevirtual 122, 3) := by decide +kernel
theorem dX6_become_236 : decode cX6_become 236 = .ok (.istore 7, 2) := by decide +kernel
theorem dX6_become_238 : decode cX6_become 238 = .ok (.aload_n 0, 1) := by decide +kernel
theorem dX6_become_239 : decode cX6_become 239 = .ok (.getfield 54, 3) := by decide +kernel
theorem dX6_become_242 : decode cX6_become 242 = .ok (.iload 7, 2) := by decide +kernel
theorem dX6_become_244 : decode cX6_become 244 = .ok (.dup2, 1) := by decide +kernel
theorem dX6_become_245 : decode cX6_become 245 = .ok (.iaload, 1) := by decide +kernel
theorem dX6_become_246 : decode cX6_become 246 = .ok (.iconst 1, 1) := by decide +kernel
theorem dX6_become_247 : decode cX6_become 247 = .ok (.iadd, 1) := by decide +kernel
theorem dX6_become_248 : decode cX6_become 248 = .ok (.iastore, 1) := by decide +kernel
theorem dX6_become_249 : decode cX6_become 249 = .ok (.iinc 6 1, 3) := by decide +kernel
theorem dX6_become_252 : decode cX6_become 252 = .ok (.goto (-92), 3) := by decide +kernel
theorem dX6_become_255 : decode cX6_become 255 = .ok (.iinc 5 1, 3) := by decide +kernel
theorem dX6_become_258 : decode cX6_become 258 = .ok (.goto (-124), 3) := by decide +kernel
theorem dX6_become_261 : decode cX6_become 261 = .ok (.return_, 1) := by decide +kernel
theorem dX6_crossings_0 : decode cX6_crossings 0 = .ok (.aload_n 0, 1) := by decide +kernel
theorem dX6_crossings_1 : decode cX6_crossings 1 = .ok (.getfield 64, 3) := by decide +kernel
theorem dX6_crossings_4 : decode cX6_crossings 4 = .ok (.invokevirtual 115, 3) := by decide +kernel
theorem dX6_crossings_7 : decode cX6_crossings 7 = .ok (.iconst 0, 1) := by decide +kernel
theorem dX6_crossings_8 : decode cX6_crossings 8 = .ok (.istore_n 1, 1) := by decide +kernel
theorem dX6_crossings_9 : decode cX6_crossings 9 = .ok (.iload_n 1, 1) := by decide +kernel
theorem dX6_crossings_10 : decode cX6_crossings 10 = .ok (.aload_n 0, 1) := by decide +kernel
theorem dX6_crossings_11 : decode cX6_crossings 11 = .ok (.getfield 37, 3) := by decide +kernel
theorem dX6_crossings_14 : decode cX6_crossings 14 = .ok (.getfield 85, 3) := by decide +kernel
theorem dX6_crossings_17 : decode cX6_crossings 17 = .ok (.iconst 4, 1) := by decide +kernel
theorem dX6_crossings_18 : decode cX6_crossings 18 = .ok (.idiv, 1) := by decide +kernel
theorem dX6_crossings_19 : decode cX6_crossings 19 = .ok (.if_icmp .ge 144, 3) := by decide +kernel
theorem dX6_crossings_22 : decode cX6_crossings 22 = .ok (.iconst 0, 1) := by decide +kernel
theorem dX6_crossings_23 : decode cX6_crossings 23 = .ok (.istore_n 2, 1) := by decide +kernel
theorem dX6_crossings_24 : decode cX6_crossings 24 = .ok (.iload_n 2, 1) := by decide +kernel
theorem dX6_crossings_25 : decode cX6_crossings 25 = .ok (.iload_n 1, 1) := by decide +kernel
theorem dX6_crossings_26 : decode cX6_crossings 26 = .ok (.if_icmp .ge 131, 3) := by decide +kernel
theorem dX6_crossings_29 : decode cX6_crossings 29 = .ok (.aload_n 0, 1) := by decide +kernel
theorem dX6_crossings_30 : decode cX6_crossings 30 = .ok (.iload_n 1, 1) := by decide +kernel
theorem dX6_crossings_31 : decode cX6_crossings 31 = .ok (.iload_n 2, 1) := by decide +kernel
theorem dX6_crossings_32 : decode cX6_crossings 32 = .ok (.iconst 0, 1) := by decide +kernel
theorem dX6_crossings_33 : decode cX6_crossings 33 = .ok (.invokevirtual 125, 3) := by decide +kernel
theorem dX6_crossings_36 : decode cX6_crossings 36 = .ok (.ifCond .ne 115, 3) := by decide +kernel
theorem dX6_crossings_39 : decode cX6_crossings 39 = .ok (.aload_n 0, 1) := by decide +kernel
theorem dX6_crossings_40 : decode cX6_crossings 40 = .ok (.iload_n 1, 1) := by decide +kernel
theorem dX6_crossings_41 : decode cX6_crossings 41 = .ok (.iload_n 2, 1) := by decide +kernel
theorem dX6_crossings_42 : decode cX6_crossings 42 = .ok (.iconst 1, 1) := by decide +kernel
theorem dX6_crossings_43 : decode cX6_crossings 43 = .ok (.invokevirtual 125, 3) := by decide +kernel
theorem dX6_crossings_46 : decode cX6_crossings 46 = .ok (.ifCond .eq 6, 3) := by decide +kernel
theorem dX6_crossings_49 : decode cX6_crossings 49 = .ok (.goto 102, 3) := by decide +kernel
theorem dX6_crossings_52 : decode cX6_crossings 52 = .ok (.aload_n 0, 1) := by decide +kernel
theorem dX6_crossings_53 : decode cX6_crossings 53 = .ok (.iload_n 1, 1) := by decide +kernel
theorem dX6_crossings_54 : decode cX6_crossings 54 = .ok (.iconst 0, 1) := by decide +kernel
theorem dX6_crossings_55 : decode cX6_crossings 55 = .ok (.invokevirtual 129, 3) := by decide +kernel
theorem dX6_crossings_58 : decode cX6_crossings 58 = .ok (.aload_n 0, 1) := by decide +kernel
theorem dX6_crossings_59 : decode cX6_crossings 59 = .ok (.iload_n 1, 1) := by decide +kernel
theorem dX6_crossings_60 : decode cX6_crossings 60 = .ok (.iconst 1, 1) := by decide +kernel
theorem dX6_crossings_61 : decode cX6_crossings 61 = .ok (.invokevirtual 129, 3) := by decide +kernel
theorem dX6_crossings_64 : decode cX6_crossings 64 = .ok (.aload_n 0, 1) := by decide +kernel
theorem dX6_crossings_65 : decode cX6_crossings 65 = .ok (.iload_n 1, 1) := by decide +kernel
theorem dX6_crossings_66 : decode cX6_crossings 66 = .ok (.iconst 2, 1) := by decide +kernel
theorem dX6_crossings_67 : decode cX6_crossings 67 = .ok (.invokevirtual 129, 3) := by decide +kernel
theorem dX6_crossings_70 : decode cX6_crossings 70 = .ok (.aload_n 0, 1) := by decide +kernel
theorem dX6_crossings_71 : decode cX6_crossings 71 = .ok (.iload_n 1, 1) := by decide +kernel
theorem dX6_crossings_72 : decode cX6_crossings 72 = .ok (.iconst 3, 1) := by decide +kernel
theorem dX6_crossings_73 : decode cX6_crossings 73 = .ok (.invokevirtual 129, 3) := by decide +kernel
theorem dX6_crossings_76 : decode cX6_crossings 76 = .ok (.aload_n 0, 1) := by decide +kernel
theorem dX6_crossings_77 : decode cX6_crossings 77 = .ok (.iload_n 2, 1) := by decide +kernel
theorem dX6_crossings_78 : decode cX6_crossings 78 = .ok (.iconst 0, 1) := by decide +kernel
theorem dX6_crossings_79 : decode cX6_crossings 79 = .ok (.invokevirtual 129, 3) := by decide +kernel
theorem dX6_crossings_82 : decode cX6_crossings 82 = .ok (.aload_n 0, 1) := by decide +kernel
theorem dX6_crossings_83 : decode cX6_crossings 83 = .ok (.iload_n 2, 1) := by decide +kernel
theorem dX6_crossings_84 : decode cX6_crossings 84 = .ok (.iconst 1, 1) := by decide +kernel
theorem dX6_crossings_85 : decode cX6_crossings 85 = .ok (.invokevirtual 129, 3) := by decide +kernel
theorem dX6_crossings_88 : decode cX6_crossings 88 = .ok (.aload_n 0, 1) := by decide +kernel
theorem dX6_crossings_89 : decode cX6_crossings 89 = .ok (.iload_n 2, 1) := by decide +kernel
theorem dX6_crossings_90 : decode cX6_crossings 90 = .ok (.iconst 2, 1) := by decide +kernel
theorem dX6_crossings_91 : decode cX6_crossings 91 = .ok (.invokevirtual 129, 3) := by decide +kernel
theorem dX6_crossings_94 : decode cX6_crossings 94 = .ok (.aload_n 0, 1) := by decide +kernel
theorem dX6_crossings_95 : decode cX6_crossings 95 = .ok (.iload_n 2, 1) := by decide +kernel
theorem dX6_crossings_96 : decode cX6_crossings 96 = .ok (.iconst 3, 1) := by decide +kernel
theorem dX6_crossings_97 : decode cX6_crossings 97 = .ok (.invokevirtual 129, 3) := by decide +kernel
theorem dX6_crossings_100 : decode cX6_crossings 100 = .ok (.invokestatic 133, 3) := by decide +kernel
theorem dX6_crossings_103 : decode cX6_crossings 103 = .ok (.iconst 1, 1) := by decide +kernel
theorem dX6_crossings_104 : decode cX6_crossings 104 = .ok (.if_icmp .ne 9, 3) := by decide +kernel
theorem dX6_crossings_107 : decode cX6_crossings 107 = .ok (.aload_n 0, 1) := by decide +kernel
theorem dX6_crossings_108 : decode cX6_crossings 108 = .ok (.iload_n 1, 1) := by decide +kernel
theorem dX6_crossings_109 : decode cX6_crossings 109 = .ok (.iload_n 2, 1) := by decide +kernel
theorem dX6_crossings_110 : decode cX6_crossings 110 = .ok (.invokevirtual 136, 3) := by decide +kernel
theorem dX6_crossings_113 : decode cX6_crossings 113 = .ok (.aload_n 0, 1) := by decide +kernel
theorem dX6_crossings_114 : decode cX6_crossings 114 = .ok (.getfield 64, 3) := by decide +kernel
theorem dX6_crossings_117 : decode cX6_crossings 117 = .ok (.getfield 118, 3) := by decide +kernel
theorem dX6_crossings_120 : decode cX6_crossings 120 = .ok (.sipush 18000, 3) := by decide +kernel
theorem dX6_crossings_123 : decode cX6_crossings 123 = .ok (.if_icmp .gt 6, 3) := by decide +kernel
theorem dX6_crossings_126 : decode cX6_crossings 126 = .ok (.goto 25, 3) := by decide +kernel
theorem dX6_crossings_129 : decode cX6_crossings 129 = .ok (.aload_n 0, 1) := by decide +kernel
theorem dX6_crossings_130 : decode cX6_crossings 130 = .ok (.getfield 64, 3) := by decide +kernel
theorem dX6_crossings_133 : decode cX6_crossings 133 = .ok (.invokevirtual 115, 3) := by decide +kernel
theorem dX6_crossings_136 : decode cX6_crossings 136 = .ok (.aload_n 0, 1) := by decide +kernel
theorem dX6_crossings_137 : decode cX6_crossings 137 = .ok (.getfield 64, 3) := by decide +kernel
theorem dX6_crossings_140 : decode cX6_crossings 140 = .ok (.getfield 118, 3) := by decide +kernel
theorem dX6_crossings_143 : decode cX6_crossings 143 = .ok (.sipush 6000, 3) := by decide +kernel
theorem dX6_crossings_146 : decode cX6_crossings 146 = .ok (.if_icmp .le 5, 3) := by decide +kernel
theorem dX6_crossings_149 : decode cX6_crossings 149 = .ok (.iconst 0, 1) := by decide +kernel
theorem dX6_crossings_150 : decode cX6_crossings 150 = .ok (.ireturn, 1) := by decide +kernel
theorem dX6_crossings_151 : decode cX6_crossings 151 = .ok (.iinc 2 1, 3) := by decide +kernel
theorem dX6_crossings_154 : decode cX6_crossings 154 = .ok (.goto (-130), 3) := by decide +kernel
theorem dX6_crossings_157 : decode cX6_crossings 157 = .ok (.iinc 1 1, 3) := by decide +kernel
theorem dX6_crossings_160 : decode cX6_crossings 160 = .ok (.goto (-151), 3) := by decide +kernel
theorem dX6_crossings_163 : decode cX6_crossings 163 = .ok (.aload_n 0, 1) := by decide +kernel
theorem dX6_crossings_164 : decode cX6_crossings 164 = .ok (.getfield 64, 3) := by decide +kernel
theorem dX6_crossings_167 : decode cX6_crossings 167 = .ok (.invokevirtual 115, 3) := by decide +kernel
theorem dX6_crossings_170 : decode cX6_crossings 170 = .ok (.aload_n 0, 1) := by decide +kernel
theorem dX6_crossings_171 : decode cX6_crossings 171 = .ok (.getfield 64, 3) := by decide +kernel
theorem dX6_crossings_174 : decode cX6_crossings 174 = .ok (.getfield 118, 3) := by decide +kernel
theorem dX6_crossings_177 : decode cX6_crossings 177 = .ok (.sipush 6000, 3) := by decide +kernel
theorem dX6_crossings_180 : decode cX6_crossings 180 = .ok (.if_icmp .gt 7, 3) := by decide +kernel
theorem dX6_crossings_183 : decode cX6_crossings 183 = .ok (.iconst 1, 1) := by decide +kernel
theorem dX6_crossings_184 : decode cX6_crossings 184 = .ok (.goto 4, 3) := by decide +kernel
theorem dX6_crossings_187 : decode cX6_crossings 187 = .ok (.iconst 0, 1) := by decide +kernel
theorem dX6_crossings_188 : decode cX6_crossings 188 = .ok (.ireturn, 1) := by decide +kernel
theorem dX6_areFar_0 : decode cX6_areFar 0 = .ok (.aload_n 0, 1) := by decide +kernel
theorem dX6_areFar_1 : decode cX6_areFar 1 = .ok (.iload_n 1, 1) := by decide +kernel
theorem dX6_areFar_2 : decode cX6_areFar 2 = .ok (.iload_n 3, 1) := by decide +kernel
theorem dX6_areFar_3 : decode cX6_areFar 3 = .ok (.invokevirtual 129, 3) := by decide +kernel
theorem dX6_areFar_6 : decode cX6_areFar 6 = .ok (.aload_n 0, 1) := by decide +kernel
theorem dX6_areFar_7 : decode cX6_areFar 7 = .ok (.iload_n 1, 1) := by decide +kernel
theorem dX6_areFar_8 : decode cX6_areFar 8 = .ok (.iload_n 3, 1) := by decide +kernel
theorem dX6_areFar_9 : decode cX6_areFar 9 = .ok (.iconst 2, 1) := by decide +kernel
theorem dX6_areFar_10 : decode cX6_areFar 10 = .ok (.iadd, 1) := by decide +kernel
theorem dX6_areFar_11 : decode cX6_areFar 11 = .ok (.invokevirtual 129, 3) := by decide +kernel
theorem dX6_areFar_14 : decode cX6_areFar 14 = .ok (.invokestatic 7, 3) := by decide +kernel
theorem dX6_areFar_17 : decode cX6_areFar 17 = .ok (.aload_n 0, 1) := by decide +kernel
theorem dX6_areFar_18 : decode cX6_areFar 18 = .ok (.iload_n 2, 1) := by decide +kernel
theorem dX6_areFar_19 : decode cX6_areFar 19 = .ok (.iload_n 3, 1) := by decide +kernel
theorem dX6_areFar_20 : decode cX6_areFar 20 = .ok (.invokevirtual 129, 3) := by decide +kernel
theorem dX6_areFar_23 : decode cX6_areFar 23 = .ok (.aload_n 0, 1) := by decide +kernel
theorem dX6_areFar_24 : decode cX6_areFar 24 = .ok (.iload_n 2, 1) := by decide +kernel
theorem dX6_areFar_25 : decode cX6_areFar 25 = .ok (.iload_n 3, 1) := by decide +kernel
theorem dX6_areFar_26 : decode cX6_areFar 26 = .ok (.iconst 2, 1) := by decide +kernel
theorem dX6_areFar_27 : decode cX6_areFar 27 = .ok (.iadd, 1) := by decide +kernel
theorem dX6_areFar_28 : decode cX6_areFar 28 = .ok (.invokevirtual 129, 3) := by decide +kernel
theorem dX6_areFar_31 : decode cX6_areFar 31 = .ok (.invokestatic 1, 3) := by decide +kernel
theorem dX6_areFar_34 : decode cX6_areFar 34 = .ok (.lcmp, 1) := by decide +kernel
theorem dX6_areFar_35 : decode cX6_areFar 35 = .ok (.ifCond .lt 41, 3) := by decide +kernel
theorem dX6_areFar_38 : decode cX6_areFar 38 = .ok (.aload_n 0, 1) := by decide +kernel
theorem dX6_areFar_39 : decode cX6_areFar 39 = .ok (.iload_n 2, 1) := by decide +kernel
theorem dX6_areFar_40 : decode cX6_areFar 40 = .ok (.iload_n 3, 1) := by decide +kernel
theorem dX6_areFar_41 : decode cX6_areFar 41 = .ok (.invokevirtual 129, 3) := by decide +kernel
theorem dX6_areFar_44 : decode cX6_areFar 44 = .ok (.aload_n 0, 1) := by decide +kernel
theorem dX6_areFar_45 : decode cX6_areFar 45 = .ok (.iload_n 2, 1) := by decide +kernel
theorem dX6_areFar_46 : decode cX6_areFar 46 = .ok (.iload_n 3, 1) := by decide +kernel
theorem dX6_areFar_47 : decode cX6_areFar 47 = .ok (.iconst 2, 1) := by decide +kernel
theorem dX6_areFar_48 : decode cX6_areFar 48 = .ok (.iadd, 1) := by decide +kernel
theorem dX6_areFar_49 : decode cX6_areFar 49 = .ok (.invokevirtual 129, 3) := by decide +kernel
theorem dX6_areFar_52 : decode cX6_areFar 52 = .ok (.invokestatic 7, 3) := by decide +kernel
theorem dX6_areFar_55 : decode cX6_areFar 55 = .ok (.aload_n 0, 1) := by decide +kernel
theorem dX6_areFar_56 : decode cX6_areFar 56 = .ok (.iload_n 1, 1) := by decide +kernel
theorem dX6_areFar_57 : decode cX6_areFar 57 = .ok (.iload_n 3, 1) := by decide +kernel
theorem dX6_areFar_58 : decode cX6_areFar 58 = .ok (.invokevirtual 129, 3) := by decide +kernel
theorem dX6_areFar_61 : decode cX6_areFar 61 = .ok (.aload_n 0, 1) := by decide +kernel
theorem dX6_areFar_62 : decode cX6_areFar 62 = .ok (.iload_n 1, 1) := by decide +kernel
theorem dX6_areFar_63 : decode cX6_areFar 63 = .ok (.iload_n 3, 1) := by decide +kernel
theorem dX6_areFar_64 : decode cX6_areFar 64 = .ok (.iconst 2, 1) := by decide +kernel
theorem dX6_areFar_65 : decode cX6_areFar 65 = .ok (.iadd, 1) := by decide +kernel
theorem dX6_areFar_66 : decode cX6_areFar 66 = .ok (.invokevirtual 129, 3) := by decide +kernel
theorem dX6_areFar_69 : decode cX6_areFar 69 = .ok (.invokestatic 1, 3) := by decide +kernel
theorem dX6_areFar_72 : decode cX6_areFar 72 = .ok (.lcmp, 1) := by decide +kernel
theorem dX6_areFar_73 : decode cX6_areFar 73 = .ok (.ifCond .ge 7, 3) := by decide +kernel
theorem dX6_areFar_76 : decode cX6_areFar 76 = .ok (.iconst 1, 1) := by decide +kernel
theorem dX6_areFar_77 : decode cX6_areFar 77 = .ok (.goto 4, 3) := by decide +kernel
theorem dX6_areFar_80 : decode cX6_areFar 80 = .ok (.iconst 0, 1) := by decide +kernel
theorem dX6_areFar_81 : decode cX6_areFar 81 = .ok (.ireturn, 1) := by decide +kernel
theorem dX6_below_0 : decode cX6_below 0 = .ok (.lload_n 0, 1) := by decide +kernel
theorem dX6_below_1 : decode cX6_below 1 = .ok (.lload_n 2, 1) := by decide +kernel
theorem dX6_below_2 : decode cX6_below 2 = .ok (.ldiv, 1) := by decide +kernel
theorem dX6_below_3 : decode cX6_below 3 = .ok (.lstore 4, 2) := by decide +kernel
theorem dX6_below_5 : decode cX6_below 5 = .ok (.lload_n 0, 1) := by decide +kernel
theorem dX6_below_6 : decode cX6_below 6 = .ok (.lload_n 2, 1) := by decide +kernel
theorem dX6_below_7 : decode cX6_below 7 = .ok (.lrem, 1) := by decide +kernel
theorem dX6_below_8 : decode cX6_below 8 = .ok (.lconst 0, 1) := by decide +kernel
theorem dX6_below_9 : decode cX6_below 9 = .ok (.lcmp, 1) := by decide +kernel
theorem dX6_below_10 : decode cX6_below 10 = .ok (.ifCond .ge 10, 3) := by decide +kernel
theorem dX6_below_13 : decode cX6_below 13 = .ok (.lload 4, 2) := by decide +kernel
theorem dX6_below_15 : decode cX6_below 15 = .ok (.lconst 1, 1) := by decide +kernel
theorem dX6_below_16 : decode cX6_below 16 = .ok (.lsub, 1) := by decide +kernel
theorem dX6_below_17 : decode cX6_below 17 = .ok (.goto 5, 3) := by decide +kernel
theorem dX6_below_20 : decode cX6_below 20 = .ok (.lload 4, 2) := by decide +kernel
theorem dX6_below_22 : decode cX6_below 22 = .ok (.lreturn, 1) := by decide +kernel
theorem dX6_cross_0 : decode cX6_cross 0 = .ok (.aload_n 0, 1) := by decide +kernel
theorem dX6_cross_1 : decode cX6_cross 1 = .ok (.iload_n 1, 1) := by decide +kernel
theorem dX6_cross_2 : decode cX6_cross 2 = .ok (.iconst 2, 1) := by decide +kernel
theorem dX6_cross_3 : decode cX6_cross 3 = .ok (.invokevirtual 129, 3) := by decide +kernel
theorem dX6_cross_6 : decode cX6_cross 6 = .ok (.aload_n 0, 1) := by decide +kernel
theorem dX6_cross_7 : decode cX6_cross 7 = .ok (.iload_n 1, 1) := by decide +kernel
theorem dX6_cross_8 : decode cX6_cross 8 = .ok (.iconst 0, 1) := by decide +kernel
theorem dX6_cross_9 : decode cX6_cross 9 = .ok (.invokevirtual 129, 3) := by decide +kernel
theorem dX6_cross_12 : decode cX6_cross 12 = .ok (.lsub, 1) := by decide +kernel
theorem dX6_cross_13 : decode cX6_cross 13 = .ok (.lstore_n 3, 1) := by decide +kernel
theorem dX6_cross_14 : decode cX6_cross 14 = .ok (.aload_n 0, 1) := by decide +kernel
theorem dX6_cross_15 : decode cX6_cross 15 = .ok (.iload_n 1, 1) := by decide +kernel
theorem dX6_cross_16 : decode cX6_cross 16 = .ok (.iconst 3, 1) := by decide +kernel
theorem dX6_cross_17 : decode cX6_cross 17 = .ok (.invokevirtual 129, 3) := by decide +kernel
theorem dX6_cross_20 : decode cX6_cross 20 = .ok (.aload_n 0, 1) := by decide +kernel
theorem dX6_cross_21 : decode cX6_cross 21 = .ok (.iload_n 1, 1) := by decide +kernel
theorem dX6_cross_22 : decode cX6_cross 22 = .ok (.iconst 1, 1) := by decide +kernel
theorem dX6_cross_23 : decode cX6_cross 23 = .ok (.invokevirtual 129, 3) := by decide +kernel
theorem dX6_cross_26 : decode cX6_cross 26 = .ok (.lsub, 1) := by decide +kernel
theorem dX6_cross_27 : decode cX6_cross 27 = .ok (.lstore 5, 2) := by decide +kernel
theorem dX6_cross_29 : decode cX6_cross 29 = .ok (.aload_n 0, 1) := by decide +kernel
theorem dX6_cross_30 : decode cX6_cross 30 = .ok (.iload_n 2, 1) := by decide +kernel
theorem dX6_cross_31 : decode cX6_cross 31 = .ok (.iconst 2, 1) := by decide +kernel
theorem dX6_cross_32 : decode cX6_cross 32 = .ok (.invokevirtual 129, 3) := by decide +kernel
theorem dX6_cross_35 : decode cX6_cross 35 = .ok (.aload_n 0, 1) := by decide +kernel
theorem dX6_cross_36 : decode cX6_cross 36 = .ok (.iload_n 2, 1) := by decide +kernel
theorem dX6_cross_37 : decode cX6_cross 37 = .ok (.iconst 0, 1) := by decide +kernel
theorem dX6_cross_38 : decode cX6_cross 38 = .ok (.invokevirtual 129, 3) := by decide +kernel
theorem dX6_cross_41 : decode cX6_cross 41 = .ok (.lsub, 1) := by decide +kernel
theorem dX6_cross_42 : decode cX6_cross 42 = .ok (.lstore 7, 2) := by decide +kernel
theorem dX6_cross_44 : decode cX6_cross 44 = .ok (.aload_n 0, 1) := by decide +kernel
theorem dX6_cross_45 : decode cX6_cross 45 = .ok (.iload_n 2, 1) := by decide +kernel
theorem dX6_cross_46 : decode cX6_cross 46 = .ok (.iconst 3, 1) := by decide +kernel
theorem dX6_cross_47 : decode cX6_cross 47 = .ok (.invokevirtual 129, 3) := by decide +kernel
theorem dX6_cross_50 : decode cX6_cross 50 = .ok (.aload_n 0, 1) := by decide +kernel
theorem dX6_cross_51 : decode cX6_cross 51 = .ok (.iload_n 2, 1) := by decide +kernel
theorem dX6_cross_52 : decode cX6_cross 52 = .ok (.iconst 1, 1) := by decide +kernel
theorem dX6_cross_53 : decode cX6_cross 53 = .ok (.invokevirtual 129, 3) := by decide +kernel
theorem dX6_cross_56 : decode cX6_cross 56 = .ok (.lsub, 1) := by decide +kernel
theorem dX6_cross_57 : decode cX6_cross 57 = .ok (.lstore 9, 2) := by decide +kernel
theorem dX6_cross_59 : decode cX6_cross 59 = .ok (.lload_n 3, 1) := by decide +kernel
theorem dX6_cross_60 : decode cX6_cross 60 = .ok (.lload 9, 2) := by decide +kernel
theorem dX6_cross_62 : decode cX6_cross 62 = .ok (.lmul, 1) := by decide +kernel
theorem dX6_cross_63 : decode cX6_cross 63 = .ok (.lload 5, 2) := by decide +kernel
theorem dX6_cross_65 : decode cX6_cross 65 = .ok (.lload 7, 2) := by decide +kernel
theorem dX6_cross_67 : decode cX6_cross 67 = .ok (.lmul, 1) := by decide +kernel
theorem dX6_cross_68 : decode cX6_cross 68 = .ok (.lsub, 1) := by decide +kernel
theorem dX6_cross_69 : decode cX6_cross 69 = .ok (.lstore 11, 2) := by decide +kernel
theorem dX6_cross_71 : decode cX6_cross 71 = .ok (.aload_n 0, 1) := by decide +kernel
theorem dX6_cross_72 : decode cX6_cross 72 = .ok (.iload_n 2, 1) := by decide +kernel
theorem dX6_cross_73 : decode cX6_cross 73 = .ok (.iconst 0, 1) := by decide +kernel
theorem dX6_cross_74 : decode cX6_cross 74 = .ok (.invokevirtual 129, 3) := by decide +kernel
theorem dX6_cross_77 : decode cX6_cross 77 = .ok (.aload_n 0, 1) := by decide +kernel
theorem dX6_cross_78 : decode cX6_cross 78 = .ok (.iload_n 1, 1) := by decide +kernel
theorem dX6_cross_79 : decode cX6_cross 79 = .ok (.iconst 0, 1) := by decide +kernel
theorem dX6_cross_80 : decode cX6_cross 80 = .ok (.invokevirtual 129, 3) := by decide +kernel
theorem dX6_cross_83 : decode cX6_cross 83 = .ok (.lsub, 1) := by decide +kernel
theorem dX6_cross_84 : decode cX6_cross 84 = .ok (.lload 9, 2) := by decide +kernel
theorem dX6_cross_86 : decode cX6_cross 86 = .ok (.lmul, 1) := by decide +kernel
theorem dX6_cross_87 : decode cX6_cross 87 = .ok (.aload_n 0, 1) := by decide +kernel
theorem dX6_cross_88 : decode cX6_cross 88 = .ok (.iload_n 2, 1) := by decide +kernel
theorem dX6_cross_89 : decode cX6_cross 89 = .ok (.iconst 1, 1) := by decide +kernel
theorem dX6_cross_90 : decode cX6_cross 90 = .ok (.invokevirtual 129, 3) := by decide +kernel
theorem dX6_cross_93 : decode cX6_cross 93 = .ok (.aload_n 0, 1) := by decide +kernel
theorem dX6_cross_94 : decode cX6_cross 94 = .ok (.iload_n 1, 1) := by decide +kernel
theorem dX6_cross_95 : decode cX6_cross 95 = .ok (.iconst 1, 1) := by decide +kernel
theorem dX6_cross_96 : decode cX6_cross 96 = .ok (.invokevirtual 129, 3) := by decide +kernel
theorem dX6_cross_99 : decode cX6_cross 99 = .ok (.lsub, 1) := by decide +kernel
theorem dX6_cross_100 : decode cX6_cross 100 = .ok (.lload 7, 2) := by decide +kernel
theorem dX6_cross_102 : decode cX6_cross 102 = .ok (.lmul, 1) := by decide +kernel
theorem dX6_cross_103 : decode cX6_cross 103 = .ok (.lsub, 1) := by decide +kernel
theorem dX6_cross_104 : decode cX6_cross 104 = .ok (.lstore 13, 2) := by decide +kernel
theorem dX6_cross_106 : decode cX6_cross 106 = .ok (.lload 11, 2) := by decide +kernel
theorem dX6_cross_108 : decode cX6_cross 108 = .ok (.lconst 0, 1) := by decide +kernel
theorem dX6_cross_109 : decode cX6_cross 109 = .ok (.lcmp, 1) := by decide +kernel
theorem dX6_cross_110 : decode cX6_cross 110 = .ok (.ifCond .ge 13, 3) := by decide +kernel
theorem dX6_cross_113 : decode cX6_cross 113 = .ok (.lload 11, 2) := by decide +kernel
theorem dX6_cross_115 : decode cX6_cross 115 = .ok (.lneg, 1) := by decide +kernel
theorem dX6_cross_116 : decode cX6_cross 116 = .ok (.lstore 11, 2) := by decide +kernel
theorem dX6_cross_118 : decode cX6_cross 118 = .ok (.lload 13, 2) := by decide +kernel
theorem dX6_cross_120 : decode cX6_cross 120 = .ok (.lneg, 1) := by decide +kernel
theorem dX6_cross_121 : decode cX6_cross 121 = .ok (.lstore 13, 2) := by decide +kernel
theorem dX6_cross_123 : decode cX6_cross 123 = .ok (.ldc2_w 139, 3) := by decide +kernel
theorem dX6_cross_126 : decode cX6_cross 126 = .ok (.aload_n 0, 1) := by decide +kernel
theorem dX6_cross_127 : decode cX6_cross 127 = .ok (.iload_n 1, 1) := by decide +kernel
theorem dX6_cross_128 : decode cX6_cross 128 = .ok (.iconst 0, 1) := by decide +kernel
theorem dX6_cross_129 : decode cX6_cross 129 = .ok (.invokevirtual 129, 3) := by decide +kernel
theorem dX6_cross_132 : decode cX6_cross 132 = .ok (.lload 11, 2) := by decide +kernel
theorem dX6_cross_134 : decode cX6_cross 134 = .ok (.lmul, 1) := by decide +kernel
theorem dX6_cross_135 : decode cX6_cross 135 = .ok (.lload_n 3, 1) := by decide +kernel
theorem dX6_cross_136 : decode cX6_cross 136 = .ok (.lload 13, 2) := by decide +kernel
theorem dX6_cross_138 : decode cX6_cross 138 = .ok (.lmul, 1) := by decide +kernel
theorem dX6_cross_139 : decode cX6_cross 139 = .ok (.ladd, 1) := by decide +kernel
theorem dX6_cross_140 : decode cX6_cross 140 = .ok (.lmul, 1) := by decide +kernel
theorem dX6_cross_141 : decode cX6_cross 141 = .ok (.lload 11, 2) := by decide +kernel
theorem dX6_cross_143 : decode cX6_cross 143 = .ok (.ladd, 1) := by decide +kernel
theorem dX6_cross_144 : decode cX6_cross 144 = .ok (.ldc2_w 139, 3) := by decide +kernel
theorem dX6_cross_147 : decode cX6_cross 147 = .ok (.lload 11, 2) := by decide +kernel
theorem dX6_cross_149 : decode cX6_cross 149 = .ok (.lmul, 1) := by decide +kernel
theorem dX6_cross_150 : decode cX6_cross 150 = .ok (.invokestatic 141, 3) := by decide +kernel
theorem dX6_cross_153 : decode cX6_cross 153 = .ok (.lstore 15, 2) := by decide +kernel
theorem dX6_cross_155 : decode cX6_cross 155 = .ok (.ldc2_w 139, 3) := by decide +kernel
theorem dX6_cross_158 : decode cX6_cross 158 = .ok (.aload_n 0, 1) := by decide +kernel
theorem dX6_cross_159 : decode cX6_cross 159 = .ok (.iload_n 1, 1) := by decide +kernel
theorem dX6_cross_160 : decode cX6_cross 160 = .ok (.iconst 1, 1) := by decide +kernel
theorem dX6_cross_161 : decode cX6_cross 161 = .ok (.invokevirtual 129, 3) := by decide +kernel
theorem dX6_cross_164 : decode cX6_cross 164 = .ok (.lload 11, 2) := by decide +kernel
theorem dX6_cross_166 : decode cX6_cross 166 = .ok (.lmul, 1) := by decide +kernel
theorem dX6_cross_167 : decode cX6_cross 167 = .ok (.lload 5, 2) := by decide +kernel
theorem dX6_cross_169 : decode cX6_cross 169 = .ok (.lload 13, 2) := by decide +kernel
theorem dX6_cross_171 : decode cX6_cross 171 = .ok (.lmul, 1) := by decide +kernel
theorem dX6_cross_172 : decode cX6_cross 172 = .ok (.ladd, 1) := by decide +kernel
theorem dX6_cross_173 : decode cX6_cross 173 = .ok (.lmul, 1) := by decide +kernel
theorem dX6_cross_174 : decode cX6_cross 174 = .ok (.lload 11, 2) := by decide +kernel
theorem dX6_cross_176 : decode cX6_cross 176 = .ok (.ladd, 1) := by decide +kernel
theorem dX6_cross_177 : decode cX6_cross 177 = .ok (.ldc2_w 139, 3) := by decide +kernel
theorem dX6_cross_180 : decode cX6_cross 180 = .ok (.lload 11, 2) := by decide +kernel
theorem dX6_cross_182 : decode cX6_cross 182 = .ok (.lmul, 1) := by decide +kernel
theorem dX6_cross_183 : decode cX6_cross 183 = .ok (.invokestatic 141, 3) := by decide +kernel
theorem dX6_cross_186 : decode cX6_cross 186 = .ok (.lstore 17, 2) := by decide +kernel
theorem dX6_cross_188 : decode cX6_cross 188 = .ok (.aload_n 0, 1) := by decide +kernel
theorem dX6_cross_189 : decode cX6_cross 189 = .ok (.getfield 64, 3) := by decide +kernel
theorem dX6_cross_192 : decode cX6_cross 192 = .ok (.lload 15, 2) := by decide +kernel
theorem dX6_cross_194 : decode cX6_cross 194 = .ok (.l2i, 1) := by decide +kernel
theorem dX6_cross_195 : decode cX6_cross 195 = .ok (.lload 17, 2) := by decide +kernel
theorem dX6_cross_197 : decode cX6_cross 197 = .ok (.l2i, 1) := by decide +kernel
theorem dX6_cross_198 : decode cX6_cross 198 = .ok (.invokevirtual 100, 3) := by decide +kernel
theorem dX6_cross_201 : decode cX6_cross 201 = .ok (.return_, 1) := by decide +kernel
theorem dX6_atLeast_0 : decode cX6_atLeast 0 = .ok (.lload_n 1, 1) := by decide +kernel
theorem dX6_atLeast_1 : decode cX6_atLeast 1 = .ok (.aload_n 0, 1) := by decide +kernel
theorem dX6_atLeast_2 : decode cX6_atLeast 2 = .ok (.getfield 144, 3) := by decide +kernel
theorem dX6_atLeast_5 : decode cX6_atLeast 5 = .ok (.lmul, 1) := by decide +kernel
theorem dX6_atLeast_6 : decode cX6_atLeast 6 = .ok (.aload_n 0, 1) := by decide +kernel
theorem dX6_atLeast_7 : decode cX6_atLeast 7 = .ok (.getfield 148, 3) := by decide +kernel
theorem dX6_atLeast_10 : decode cX6_atLeast 10 = .ok (.lload_n 3, 1) := by decide +kernel
theorem dX6_atLeast_11 : decode cX6_atLeast 11 = .ok (.lmul, 1) := by decide +kernel
theorem dX6_atLeast_12 : decode cX6_atLeast 12 = .ok (.lsub, 1) := by decide +kernel
theorem dX6_atLeast_13 : decode cX6_atLeast 13 = .ok (.lstore 6, 2) := by decide +kernel
theorem dX6_atLeast_15 : decode cX6_atLeast 15 = .ok (.lload 6, 2) := by decide +kernel
theorem dX6_atLeast_17 : decode cX6_atLeast 17 = .ok (.lconst 0, 1) := by decide +kernel
theorem dX6_atLeast_18 : decode cX6_atLeast 18 = .ok (.lcmp, 1) := by decide +kernel
theorem dX6_atLeast_19 : decode cX6_atLeast 19 = .ok (.ifCond .gt 15, 3) := by decide +kernel
theorem dX6_atLeast_22 : decode cX6_atLeast 22 = .ok (.lload 6, 2) := by decide +kernel
theorem dX6_atLeast_24 : decode cX6_atLeast 24 = .ok (.lconst 0, 1) := by decide +kernel
theorem dX6_atLeast_25 : decode cX6_atLeast 25 = .ok (.lcmp, 1) := by decide +kernel
theorem dX6_atLeast_26 : decode cX6_atLeast 26 = .ok (.ifCond .ne 24, 3) := by decide +kernel
theorem dX6_atLeast_29 : decode cX6_atLeast 29 = .ok (.iload 5, 2) := by decide +kernel
theorem dX6_atLeast_31 : decode cX6_atLeast 31 = .ok (.ifCond .ne 19, 3) := by decide +kernel
theorem dX6_atLeast_34 : decode cX6_atLeast 34 = .ok (.aload_n 0, 1) := by decide +kernel
theorem dX6_atLeast_35 : decode cX6_atLeast 35 = .ok (.lload_n 1, 1) := by decide +kernel
theorem dX6_atLeast_36 : decode cX6_atLeast 36 = .ok (.putfield 148, 3) := by decide +kernel
theorem dX6_atLeast_39 : decode cX6_atLeast 39 = .ok (.aload_n 0, 1) := by decide +kernel
theorem dX6_atLeast_40 : decode cX6_atLeast 40 = .ok (.lload_n 3, 1) := by decide +kernel
theorem dX6_atLeast_41 : decode cX6_atLeast 41 = .ok (.putfield 144, 3) := by decide +kernel
theorem dX6_atLeast_44 : decode cX6_atLeast 44 = .ok (.aload_n 0, 1) := by decide +kernel
theorem dX6_atLeast_45 : decode cX6_atLeast 45 = .ok (.iload 5, 2) := by decide +kernel
theorem dX6_atLeast_47 : decode cX6_atLeast 47 = .ok (.putfield 151, 3) := by decide +kernel
theorem dX6_atLeast_50 : decode cX6_atLeast 50 = .ok (.return_, 1) := by decide +kernel
theorem dX6_atMost_0 : decode cX6_atMost 0 = .ok (.lload_n 1, 1) := by decide +kernel
theorem dX6_atMost_1 : decode cX6_atMost 1 = .ok (.aload_n 0, 1) := by decide +kernel
theorem dX6_atMost_2 : decode cX6_atMost 2 = .ok (.getfield 155, 3) := by decide +kernel
theorem dX6_atMost_5 : decode cX6_atMost 5 = .ok (.lmul, 1) := by decide +kernel
theorem dX6_atMost_6 : decode cX6_atMost 6 = .ok (.aload_n 0, 1) := by decide +kernel
theorem dX6_atMost_7 : decode cX6_atMost 7 = .ok (.getfield 158, 3) := by decide +kernel
theorem dX6_atMost_10 : decode cX6_atMost 10 = .ok (.lload_n 3, 1) := by decide +kernel
theorem dX6_atMost_11 : decode cX6_atMost 11 = .ok (.lmul, 1) := by decide +kernel
theorem dX6_atMost_12 : decode cX6_atMost 12 = .ok (.lsub, 1) := by decide +kernel
theorem dX6_atMost_13 : decode cX6_atMost 13 = .ok (.lstore 6, 2) := by decide +kernel
theorem dX6_atMost_15 : decode cX6_atMost 15 = .ok (.lload 6, 2) := by decide +kernel
theorem dX6_atMost_17 : decode cX6_atMost 17 = .ok (.lconst 0, 1) := by decide +kernel
theorem dX6_atMost_18 : decode cX6_atMost 18 = .ok (.lcmp, 1) := by decide +kernel
theorem dX6_atMost_19 : decode cX6_atMost 19 = .ok (.ifCond .lt 15, 3) := by decide +kernel
theorem dX6_atMost_22 : decode cX6_atMost 22 = .ok (.lload 6, 2) := by decide +kernel
theorem dX6_atMost_24 : decode cX6_atMost 24 = .ok (.lconst 0, 1) := by decide +kernel
theorem dX6_atMost_25 : decode cX6_atMost 25 = .ok (.lcmp, 1) := by decide +kernel
theorem dX6_atMost_26 : decode cX6_atMost 26 = .ok (.ifCond .ne 24, 3) := by decide +kernel
theorem dX6_atMost_29 : decode cX6_atMost 29 = .ok (.iload 5, 2) := by decide +kernel
theorem dX6_atMost_31 : decode cX6_atMost 31 = .ok (.ifCond .ne 19, 3) := by decide +kernel
theorem dX6_atMost_34 : decode cX6_atMost 34 = .ok (.aload_n 0, 1) := by decide +kernel
theorem dX6_atMost_35 : decode cX6_atMost 35 = .ok (.lload_n 1, 1) := by decide +kernel
theorem dX6_atMost_36 : decode cX6_atMost 36 = .ok (.putfield 158, 3) := by decide +kernel
theorem dX6_atMost_39 : decode cX6_atMost 39 = .ok (.aload_n 0, 1) := by decide +kernel
theorem dX6_atMost_40 : decode cX6_atMost 40 = .ok (.lload_n 3, 1) := by decide +kernel
theorem dX6_atMost_41 : decode cX6_atMost 41 = .ok (.putfield 155, 3) := by decide +kernel
theorem dX6_atMost_44 : decode cX6_atMost 44 = .ok (.aload_n 0, 1) := by decide +kernel
theorem dX6_atMost_45 : decode cX6_atMost 45 = .ok (.iload 5, 2) := by decide +kernel
theorem dX6_atMost_47 : decode cX6_atMost 47 = .ok (.putfield 161, 3) := by decide +kernel
theorem dX6_atMost_50 : decode cX6_atMost 50 = .ok (.return_, 1) := by decide +kernel
theorem dX6_within_0 : decode cX6_within 0 = .ok (.lload_n 3, 1) := by decide +kernel
theorem dX6_within_1 : decode cX6_within 1 = .ok (.lconst 0, 1) := by decide +kernel
theorem dX6_within_2 : decode cX6_within 2 = .ok (.lcmp, 1) := by decide +kernel
theorem dX6_within_3 : decode cX6_within 3 = .ok (.ifCond .ne 23, 3) := by decide +kernel
theorem dX6_within_6 : decode cX6_within 6 = .ok (.lload_n 1, 1) := by decide +kernel
theorem dX6_within_7 : decode cX6_within 7 = .ok (.lload 5, 2) := by decide +kernel
theorem dX6_within_9 : decode cX6_within 9 = .ok (.lcmp, 1) := by decide +kernel
theorem dX6_within_10 : decode cX6_within 10 = .ok (.ifCond .lt 14, 3) := by decide +kernel
theorem dX6_within_13 : decode cX6_within 13 = .ok (.lload_n 1, 1) := by decide +kernel
theorem dX6_within_14 : decode cX6_within 14 = .ok (.lload 7, 2) := by decide +kernel
theorem dX6_within_16 : decode cX6_within 16 = .ok (.lcmp, 1) := by decide +kernel
theorem dX6_within_17 : decode cX6_within 17 = .ok (.ifCond .ge 7, 3) := by decide +kernel
theorem dX6_within_20 : decode cX6_within 20 = .ok (.iconst 1, 1) := by decide +kernel
theorem dX6_within_21 : decode cX6_within 21 = .ok (.goto 4, 3) := by decide +kernel
theorem dX6_within_24 : decode cX6_within 24 = .ok (.iconst 0, 1) := by decide +kernel
theorem dX6_within_25 : decode cX6_within 25 = .ok (.ireturn, 1) := by decide +kernel
theorem dX6_within_26 : decode cX6_within 26 = .ok (.lload_n 3, 1) := by decide +kernel
theorem dX6_within_27 : decode cX6_within 27 = .ok (.lconst 0, 1) := by decide +kernel
theorem dX6_within_28 : decode cX6_within 28 = .ok (.lcmp, 1) := by decide +kernel
theorem dX6_within_29 : decode cX6_within 29 = .ok (.ifCond .le 26, 3) := by decide +kernel
theorem dX6_within_32 : decode cX6_within 32 = .ok (.aload_n 0, 1) := by decide +kernel
theorem dX6_within_33 : decode cX6_within 33 = .ok (.lload 5, 2) := by decide +kernel
theorem dX6_within_35 : decode cX6_within 35 = .ok (.lload_n 1, 1) := by decide +kernel
theorem dX6_within_36 : decode cX6_within 36 = .ok (.lsub, 1) := by decide +kernel
theorem dX6_within_37 : decode cX6_within 37 = .ok (.lload_n 3, 1) := by decide +kernel
theorem dX6_within_38 : decode cX6_within 38 = .ok (.iconst 1, 1) := by decide +kernel
theorem dX6_within_39 : decode cX6_within 39 = .ok (.invokevirtual 164, 3) := by decide +kernel
theorem dX6_within_42 : decode cX6_within 42 = .ok (.aload_n 0, 1) := by decide +kernel
theorem dX6_within_43 : decode cX6_within 43 = .ok (.lload 7, 2) := by decide +kernel
theorem dX6_within_45 : decode cX6_within 45 = .ok (.lload_n 1, 1) := by decide +kernel
theorem dX6_within_46 : decode cX6_within 46 = .ok (.lsub, 1) := by decide +kernel
theorem dX6_within_47 : decode cX6_within 47 = .ok (.lload_n 3, 1) := by decide +kernel
theorem dX6_within_48 : decode cX6_within 48 = .ok (.iconst 0, 1) := by decide +kernel
theorem dX6_within_49 : decode cX6_within 49 = .ok (.invokevirtual 168, 3) := by decide +kernel
theorem dX6_within_52 : decode cX6_within 52 = .ok (.goto 25, 3) := by decide +kernel
theorem dX6_within_55 : decode cX6_within 55 = .ok (.aload_n 0, 1) := by decide +kernel
theorem dX6_within_56 : decode cX6_within 56 = .ok (.lload_n 1, 1) := by decide +kernel
theorem dX6_within_57 : decode cX6_within 57 = .ok (.lload 5, 2) := by decide +kernel
theorem dX6_within_59 : decode cX6_within 59 = .ok (.lsub, 1) := by decide +kernel
theorem dX6_within_60 : decode cX6_within 60 = .ok (.lload_n 3, 1) := by decide +kernel
theorem dX6_within_61 : decode cX6_within 61 = .ok (.lneg, 1) := by decide +kernel
theorem dX6_within_62 : decode cX6_within 62 = .ok (.iconst 1, 1) := by decide +kernel
theorem dX6_within_63 : decode cX6_within 63 = .ok (.invokevirtual 168, 3) := by decide +kernel
theorem dX6_within_66 : decode cX6_within 66 = .ok (.aload_n 0, 1) := by decide +kernel
theorem dX6_within_67 : decode cX6_within 67 = .ok (.lload_n 1, 1) := by decide +kernel
theorem dX6_within_68 : decode cX6_within 68 = .ok (.lload 7, 2) := by decide +kernel
theorem dX6_within_70 : decode cX6_within 70 = .ok (.lsub, 1) := by decide +kernel
theorem dX6_within_71 : decode cX6_within 71 = .ok (.lload_n 3, 1) := by decide +kernel
theorem dX6_within_72 : decode cX6_within 72 = .ok (.lneg, 1) := by decide +kernel
theorem dX6_within_73 : decode cX6_within 73 = .ok (.iconst 0, 1) := by decide +kernel
theorem dX6_within_74 : decode cX6_within 74 = .ok (.invokevirtual 164, 3) := by decide +kernel
theorem dX6_within_77 : decode cX6_within 77 = .ok (.iconst 1, 1) := by decide +kernel
theorem dX6_within_78 : decode cX6_within 78 = .ok (.ireturn, 1) := by decide +kernel
theorem dX6_isThrough_0 : decode cX6_isThrough 0 = .ok (.aload_n 0, 1) := by decide +kernel
theorem dX6_isThrough_1 : decode cX6_isThrough 1 = .ok (.lconst 0, 1) := by decide +kernel
theorem dX6_isThrough_2 : decode cX6_isThrough 2 = .ok (.putfield 148, 3) := by decide +kernel
theorem dX6_isThrough_5 : decode cX6_isThrough 5 = .ok (.aload_n 0, 1) := by decide +kernel
theorem dX6_isThrough_6 : decode cX6_isThrough 6 = .ok (.lconst 1, 1) := by decide +kernel
theorem dX6_isThrough_7 : decode cX6_isThrough 7 = .ok (.putfield 144, 3) := by decide +kernel
theorem dX6_isThrough_10 : decode cX6_isThrough 10 = .ok (.aload_n 0, 1) := by decide +kernel
theorem dX6_isThrough_11 : decode cX6_isThrough 11 = .ok (.lconst 1, 1) := by decide +kernel
theorem dX6_isThrough_12 : decode cX6_isThrough 12 = .ok (.putfield 158, 3) := by decide +kernel
theorem dX6_isThrough_15 : decode cX6_isThrough 15 = .ok (.aload_n 0, 1) := by decide +kernel
theorem dX6_isThrough_16 : decode cX6_isThrough 16 = .ok (.lconst 1, 1) := by decide +kernel
theorem dX6_isThrough_17 : decode cX6_isThrough 17 = .ok (.putfield 155, 3) := by decide +kernel
theorem dX6_isThrough_20 : decode cX6_isThrough 20 = .ok (.aload_n 0, 1) := by decide +kernel
theorem dX6_isThrough_21 : decode cX6_isThrough 21 = .ok (.iconst 1, 1) := by decide +kernel
theorem dX6_isThrough_22 : decode cX6_isThrough 22 = .ok (.putfield 151, 3) := by decide +kernel
theorem dX6_isThrough_25 : decode cX6_isThrough 25 = .ok (.aload_n 0, 1) := by decide +kernel
theorem dX6_isThrough_26 : decode cX6_isThrough 26 = .ok (.iconst 1, 1) := by decide +kernel
theorem dX6_isThrough_27 : decode cX6_isThrough 27 = .ok (.putfield 161, 3) := by decide +kernel
theorem dX6_isThrough_30 : decode cX6_isThrough 30 = .ok (.ldc2_w 139, 3) := by decide +kernel
theorem dX6_isThrough_33 : decode cX6_isThrough 33 = .ok (.aload_n 0, 1) := by decide +kernel
theorem dX6_isThrough_34 : decode cX6_isThrough 34 = .ok (.getfield 64, 3) := by decide +kernel
theorem dX6_isThrough_37 : decode cX6_isThrough 37 = .ok (.iload_n 2, 1) := by decide +kernel
theorem dX6_isThrough_38 : decode cX6_isThrough 38 = .ok (.invokevirtual 171, 3) := by decide +kernel
theorem dX6_isThrough_41 : decode cX6_isThrough 41 = .ok (.i2l, 1) := by decide +kernel
theorem dX6_isThrough_42 : decode cX6_isThrough 42 = .ok (.lmul, 1) := by decide +kernel
theorem dX6_isThrough_43 : decode cX6_isThrough 43 = .ok (.lstore_n 3, 1) := by decide +kernel
theorem dX6_isThrough_44 : decode cX6_isThrough 44 = .ok (.ldc2_w 139, 3) := by decide +kernel
theorem dX6_isThrough_47 : decode cX6_isThrough 47 = .ok (.aload_n 0, 1) := by decide +kernel
theorem dX6_isThrough_48 : decode cX6_isThrough 48 = .ok (.getfield 64, 3) := by decide +kernel
theorem dX6_isThrough_51 : decode cX6_isThrough 51 = .ok (.iload_n 2, 1) := by decide +kernel
theorem dX6_isThrough_52 : decode cX6_isThrough 52 = .ok (.invokevirtual 175, 3) := by decide +kernel
theorem dX6_isThrough_55 : decode cX6_isThrough 55 = .ok (.i2l, 1) := by decide +kernel
theorem dX6_isThrough_56 : decode cX6_isThrough 56 = .ok (.lmul, 1) := by decide +kernel
theorem dX6_isThrough_57 : decode cX6_isThrough 57 = .ok (.lstore 5, 2) := by decide +kernel
theorem dX6_isThrough_59 : decode cX6_isThrough 59 = .ok (.aload_n 0, 1) := by decide +kernel
theorem dX6_isThrough_60 : decode cX6_isThrough 60 = .ok (.ldc2_w 139, 3) := by decide +kernel
theorem dX6_isThrough_63 : decode cX6_isThrough 63 = .ok (.aload_n 0, 1) := by decide +kernel
theorem dX6_isThrough_64 : decode cX6_isThrough 64 = .ok (.iload_n 1, 1) := by decide +kernel
theorem dX6_isThrough_65 : decode cX6_isThrough 65 = .ok (.iconst 0, 1) := by decide +kernel
theorem dX6_isThrough_66 : decode cX6_isThrough 66 = .ok (.invokevirtual 129, 3) := by decide +kernel
theorem dX6_isThrough_69 : decode cX6_isThrough 69 = .ok (.lmul, 1) := by decide +kernel
theorem dX6_isThrough_70 : decode cX6_isThrough 70 = .ok (.ldc2_w 139, 3) := by decide +kernel
theorem dX6_isThrough_73 : decode cX6_isThrough 73 = .ok (.aload_n 0, 1) := by decide +kernel
theorem dX6_isThrough_74 : decode cX6_isThrough 74 = .ok (.iload_n 1, 1) := by decide +kernel
theorem dX6_isThrough_75 : decode cX6_isThrough 75 = .ok (.iconst 2, 1) := by decide +kernel
theorem dX6_isThrough_76 : decode cX6_isThrough 76 = .ok (.invokevirtual 129, 3) := by decide +kernel
theorem dX6_isThrough_79 : decode cX6_isThrough 79 = .ok (.aload_n 0, 1) := by decide +kernel
theorem dX6_isThrough_80 : decode cX6_isThrough 80 = .ok (.iload_n 1, 1) := by decide +kernel
theorem dX6_isThrough_81 : decode cX6_isThrough 81 = .ok (.iconst 0, 1) := by decide +kernel
theorem dX6_isThrough_82 : decode cX6_isThrough 82 = .ok (.invokevirtual 129, 3) := by decide +kernel
theorem dX6_isThrough_85 : decode cX6_isThrough 85 = .ok (.lsub, 1) := by decide +kernel
theorem dX6_isThrough_86 : decode cX6_isThrough 86 = .ok (.lmul, 1) := by decide +kernel
theorem dX6_isThrough_87 : decode cX6_isThrough 87 = .ok (.lload_n 3, 1) := by decide +kernel
theorem dX6_isThrough_88 : decode cX6_isThrough 88 = .ok (.lconst 1, 1) := by decide +kernel
theorem dX6_isThrough_89 : decode cX6_isThrough 89 = .ok (.lsub, 1) := by decide +kernel
theorem dX6_isThrough_90 : decode cX6_isThrough 90 = .ok (.lload_n 3, 1) := by decide +kernel
theorem dX6_isThrough_91 : decode cX6_isThrough 91 = .ok (.lconst 1, 1) := by decide +kernel
theorem dX6_isThrough_92 : decode cX6_isThrough 92 = .ok (.ladd, 1) := by decide +kernel
theorem dX6_isThrough_93 : decode cX6_isThrough 93 = .ok (.invokevirtual 178, 3) := by decide +kernel
theorem dX6_isThrough_96 : decode cX6_isThrough 96 = .ok (.ifCond .ne 5, 3) := by decide +kernel
theorem dX6_isThrough_99 : decode cX6_isThrough 99 = .ok (.iconst 0, 1) := by decide +kernel
theorem dX6_isThrough_100 : decode cX6_isThrough 100 = .ok (.ireturn, 1) := by decide +kernel
theorem dX6_isThrough_101 : decode cX6_isThrough 101 = .ok (.aload_n 0, 1) := by decide +kernel
theorem dX6_isThrough_102 : decode cX6_isThrough 102 = .ok (.ldc2_w 139, 3) := by decide +kernel
theorem dX6_isThrough_105 : decode cX6_isThrough 105 = .ok (.aload_n 0, 1) := by decide +kernel
theorem dX6_isThrough_106 : decode cX6_isThrough 106 = .ok (.iload_n 1, 1) := by decide +kernel
theorem dX6_isThrough_107 : decode cX6_isThrough 107 = .ok (.iconst 1, 1) := by decide +kernel
theorem dX6_isThrough_108 : decode cX6_isThrough 108 = .ok (.invokevirtual 129, 3) := by decide +kernel
theorem dX6_isThrough_111 : decode cX6_isThrough 111 = .ok (.lmul, 1) := by decide +kernel
theorem dX6_isThrough_112 : decode cX6_isThrough 112 = .ok (.ldc2_w 139, 3) := by decide +kernel
theorem dX6_isThrough_115 : decode cX6_isThrough 115 = .ok (.aload_n 0, 1) := by decide +kernel
theorem dX6_isThrough_116 : decode cX6_isThrough 116 = .ok (.iload_n 1, 1) := by decide +kernel
theorem dX6_isThrough_117 : decode cX6_isThrough 117 = .ok (.iconst 3, 1) := by decide +kernel
theorem dX6_isThrough_118 : decode cX6_isThrough 118 = .ok (.invokevirtual 129, 3) := by decide +kernel
theorem dX6_isThrough_121 : decode cX6_isThrough 121 = .ok (.aload_n 0, 1) := by decide +kernel
theorem dX6_isThrough_122 : decode cX6_isThrough 122 = .ok (.iload_n 1, 1) := by decide +kernel
theorem dX6_isThrough_123 : decode cX6_isThrough 123 = .ok (.iconst 1, 1) := by decide +kernel
theorem dX6_isThrough_124 : decode cX6_isThrough 124 = .ok (.invokevirtual 129, 3) := by decide +kernel
theorem dX6_isThrough_127 : decode cX6_isThrough 127 = .ok (.lsub, 1) := by decide +kernel
theorem dX6_isThrough_128 : decode cX6_isThrough 128 = .ok (.lmul, 1) := by decide +kernel
theorem dX6_isThrough_129 : decode cX6_isThrough 129 = .ok (.lload 5, 2) := by decide +kernel
theorem dX6_isThrough_131 : decode cX6_isThrough 131 = .ok (.lconst 1, 1) := by decide +kernel
theorem dX6_isThrough_132 : decode cX6_isThrough 132 = .ok (.lsub, 1) := by decide +kernel
theorem dX6_isThrough_133 : decode cX6_isThrough 133 = .ok (.lload 5, 2) := by decide +kernel
theorem dX6_isThrough_135 : decode cX6_isThrough 135 = .ok (.lconst 1, 1) := by decide +kernel
theorem dX6_isThrough_136 : decode cX6_isThrough 136 = .ok (.ladd, 1) := by decide +kernel
theorem dX6_isThrough_137 : decode cX6_isThrough 137 = .ok (.invokevirtual 178, 3) := by decide +kernel
theorem dX6_isThrough_140 : decode cX6_isThrough 140 = .ok (.ifCond .ne 5, 3) := by decide +kernel
theorem dX6_isThrough_143 : decode cX6_isThrough 143 = .ok (.iconst 0, 1) := by decide +kernel
theorem dX6_isThrough_144 : decode cX6_isThrough 144 = .ok (.ireturn, 1) := by decide +kernel
theorem dX6_isThrough_145 : decode cX6_isThrough 145 = .ok (.aload_n 0, 1) := by decide +kernel
theorem dX6_isThrough_146 : decode cX6_isThrough 146 = .ok (.getfield 148, 3) := by decide +kernel
theorem dX6_isThrough_149 : decode cX6_isThrough 149 = .ok (.aload_n 0, 1) := by decide +kernel
theorem dX6_isThrough_150 : decode cX6_isThrough 150 = .ok (.getfield 155, 3) := by decide +kernel
theorem dX6_isThrough_153 : decode cX6_isThrough 153 = .ok (.lmul, 1) := by decide +kernel
theorem dX6_isThrough_154 : decode cX6_isThrough 154 = .ok (.aload_n 0, 1) := by decide +kernel
theorem dX6_isThrough_155 : decode cX6_isThrough 155 = .ok (.getfield 158, 3) := by decide +kernel
theorem dX6_isThrough_158 : decode cX6_isThrough 158 = .ok (.aload_n 0, 1) := by decide +kernel
theorem dX6_isThrough_159 : decode cX6_isThrough 159 = .ok (.getfield 144, 3) := by decide +kernel
theorem dX6_isThrough_162 : decode cX6_isThrough 162 = .ok (.lmul, 1) := by decide +kernel
theorem dX6_isThrough_163 : decode cX6_isThrough 163 = .ok (.lsub, 1) := by decide +kernel
theorem dX6_isThrough_164 : decode cX6_isThrough 164 = .ok (.lstore 7, 2) := by decide +kernel
theorem dX6_isThrough_166 : decode cX6_isThrough 166 = .ok (.lload 7, 2) := by decide +kernel
theorem dX6_isThrough_168 : decode cX6_isThrough 168 = .ok (.lconst 0, 1) := by decide +kernel
theorem dX6_isThrough_169 : decode cX6_isThrough 169 = .ok (.lcmp, 1) := by decide +kernel
theorem dX6_isThrough_170 : decode cX6_isThrough 170 = .ok (.ifCond .lt 24, 3) := by decide +kernel
theorem dX6_isThrough_173 : decode cX6_isThrough 173 = .ok (.lload 7, 2) := by decide +kernel
theorem dX6_isThrough_175 : decode cX6_isThrough 175 = .ok (.lconst 0, 1) := by decide +kernel
theorem dX6_isThrough_176 : decode cX6_isThrough 176 = .ok (.lcmp, 1) := by decide +kernel
theorem dX6_isThrough_177 : decode cX6_isThrough 177 = .ok (.ifCond .ne 21, 3) := by decide +kernel
theorem dX6_isThrough_180 : decode cX6_isThrough 180 = .ok (.aload_n 0, 1) := by decide +kernel
theorem dX6_isThrough_181 : decode cX6_isThrough 181 = .ok (.getfield 151, 3) := by decide +kernel
theorem dX6_isThrough_184 : decode cX6_isThrough 184 = .ok (.ifCond .eq 14, 3) := by decide +kernel
theorem dX6_isThrough_187 : decode cX6_isThrough 187 = .ok (.aload_n 0, 1) := by decide +kernel
theorem dX6_isThrough_188 : decode cX6_isThrough 188 = .ok (.getfield 161, 3) := by decide +kernel
theorem dX6_isThrough_191 : decode cX6_isThrough 191 = .ok (.ifCond .eq 7, 3) := by decide +kernel
theorem dX6_isThrough_194 : decode cX6_isThrough 194 = .ok (.iconst 1, 1) := by decide +kernel
theorem dX6_isThrough_195 : decode cX6_isThrough 195 = .ok (.goto 4, 3) := by decide +kernel
theorem dX6_isThrough_198 : decode cX6_isThrough 198 = .ok (.iconst 0, 1) := by decide +kernel
theorem dX6_isThrough_199 : decode cX6_isThrough 199 = .ok (.ireturn, 1) := by decide +kernel
theorem dX6_projection_0 : decode cX6_projection 0 = .ok (.aload_n 0, 1) := by decide +kernel
theorem dX6_projection_1 : decode cX6_projection 1 = .ok (.getfield 64, 3) := by decide +kernel
theorem dX6_projection_4 : decode cX6_projection 4 = .ok (.iload_n 2, 1) := by decide +kernel
theorem dX6_projection_5 : decode cX6_projection 5 = .ok (.invokevirtual 171, 3) := by decide +kernel
theorem dX6_projection_8 : decode cX6_projection 8 = .ok (.i2l, 1) := by decide +kernel
theorem dX6_projection_9 : decode cX6_projection 9 = .ok (.aload_n 0, 1) := by decide +kernel
theorem dX6_projection_10 : decode cX6_projection 10 = .ok (.iload_n 1, 1) := by decide +kernel
theorem dX6_projection_11 : decode cX6_projection 11 = .ok (.iconst 0, 1) := by decide +kernel
theorem dX6_projection_12 : decode cX6_projection 12 = .ok (.invokevirtual 129, 3) := by decide +kernel
theorem dX6_projection_15 : decode cX6_projection 15 = .ok (.lsub, 1) := by decide +kernel
theorem dX6_projection_16 : decode cX6_projection 16 = .ok (.aload_n 0, 1) := by decide +kernel
theorem dX6_projection_17 : decode cX6_projection 17 = .ok (.iload_n 1, 1) := by decide +kernel
theorem dX6_projection_18 : decode cX6_projection 18 = .ok (.iconst 2, 1) := by decide +kernel
theorem dX6_projection_19 : decode cX6_projection 19 = .ok (.invokevirtual 129, 3) := by decide +kernel
theorem dX6_projection_22 : decode cX6_projection 22 = .ok (.aload_n 0, 1) := by decide +kernel
theorem dX6_projection_23 : decode cX6_projection 23 = .ok (.iload_n 1, 1) := by decide +kernel
theorem dX6_projection_24 : decode cX6_projection 24 = .ok (.iconst 0, 1) := by decide +kernel
theorem dX6_projection_25 : decode cX6_projection 25 = .ok (.invokevirtual 129, 3) := by decide +kernel
theorem dX6_projection_28 : decode cX6_projection 28 = .ok (.lsub, 1) := by decide +kernel
theorem dX6_projection_29 : decode cX6_projection 29 = .ok (.lmul, 1) := by decide +kernel
theorem dX6_projection_30 : decode cX6_projection 30 = .ok (.aload_n 0, 1) := by decide +kernel
theorem dX6_projection_31 : decode cX6_projection 31 = .ok (.getfield 64, 3) := by decide +kernel
theorem dX6_projection_34 : decode cX6_projection 34 = .ok (.iload_n 2, 1) := by decide +kernel
theorem dX6_projection_35 : decode cX6_projection 35 = .ok (.invokevirtual 175, 3) := by decide +kernel
theorem dX6_projection_38 : decode cX6_projection 38 = .ok (.i2l, 1) := by decide +kernel
theorem dX6_projection_39 : decode cX6_projection 39 = .ok (.aload_n 0, 1) := by decide +kernel
theorem dX6_projection_40 : decode cX6_projection 40 = .ok (.iload_n 1, 1) := by decide +kernel
theorem dX6_projection_41 : decode cX6_projection 41 = .ok (.iconst 1, 1) := by decide +kernel
theorem dX6_projection_42 : decode cX6_projection 42 = .ok (.invokevirtual 129, 3) := by decide +kernel
theorem dX6_projection_45 : decode cX6_projection 45 = .ok (.lsub, 1) := by decide +kernel
theorem dX6_projection_46 : decode cX6_projection 46 = .ok (.aload_n 0, 1) := by decide +kernel
theorem dX6_projection_47 : decode cX6_projection 47 = .ok (.iload_n 1, 1) := by decide +kernel
theorem dX6_projection_48 : decode cX6_projection 48 = .ok (.iconst 3, 1) := by decide +kernel
theorem dX6_projection_49 : decode cX6_projection 49 = .ok (.invokevirtual 129, 3) := by decide +kernel
theorem dX6_projection_52 : decode cX6_projection 52 = .ok (.aload_n 0, 1) := by decide +kernel
theorem dX6_projection_53 : decode cX6_projection 53 = .ok (.iload_n 1, 1) := by decide +kernel
theorem dX6_projection_54 : decode cX6_projection 54 = .ok (.iconst 1, 1) := by decide +kernel
theorem dX6_projection_55 : decode cX6_projection 55 = .ok (.invokevirtual 129, 3) := by decide +kernel
theorem dX6_projection_58 : decode cX6_projection 58 = .ok (.lsub, 1) := by decide +kernel
theorem dX6_projection_59 : decode cX6_projection 59 = .ok (.lmul, 1) := by decide +kernel
theorem dX6_projection_60 : decode cX6_projection 60 = .ok (.ladd, 1) := by decide +kernel
theorem dX6_projection_61 : decode cX6_projection 61 = .ok (.lreturn, 1) := by decide +kernel
theorem dX6_bend_0 : decode cX6_bend 0 = .ok (.iconst 0, 1) := by decide +kernel
theorem dX6_bend_1 : decode cX6_bend 1 = .ok (.istore_n 1, 1) := by decide +kernel
theorem dX6_bend_2 : decode cX6_bend 2 = .ok (.iload_n 1, 1) := by decide +kernel
theorem dX6_bend_3 : decode cX6_bend 3 = .ok (.aload_n 0, 1) := by decide +kernel
theorem dX6_bend_4 : decode cX6_bend 4 = .ok (.getfield 37, 3) := by decide +kernel
theorem dX6_bend_7 : decode cX6_bend 7 = .ok (.getfield 85, 3) := by decide +kernel
theorem dX6_bend_10 : decode cX6_bend 10 = .ok (.iconst 4, 1) := by decide +kernel
theorem dX6_bend_11 : decode cX6_bend 11 = .ok (.idiv, 1) := by decide +kernel
theorem dX6_bend_12 : decode cX6_bend 12 = .ok (.if_icmp .ge 256, 3) := by decide +kernel
theorem dX6_bend_15 : decode cX6_bend 15 = .ok (.aload_n 0, 1) := by decide +kernel
theorem dX6_bend_16 : decode cX6_bend 16 = .ok (.getfield 76, 3) := by decide +kernel
theorem dX6_bend_19 : decode cX6_bend 19 = .ok (.invokevirtual 93, 3) := by decide +kernel
theorem dX6_bend_22 : decode cX6_bend 22 = .ok (.aload_n 0, 1) := by decide +kernel
theorem dX6_bend_23 : decode cX6_bend 23 = .ok (.iload_n 1, 1) := by decide +kernel
theorem dX6_bend_24 : decode cX6_bend 24 = .ok (.iconst 0, 1) := by decide +kernel
theorem dX6_bend_25 : decode cX6_bend 25 = .ok (.invokevirtual 129, 3) := by decide +kernel
theorem dX6_bend_28 : decode cX6_bend 28 = .ok (.aload_n 0, 1) := by decide +kernel
theorem dX6_bend_29 : decode cX6_bend 29 = .ok (.iload_n 1, 1) := by decide +kernel
theorem dX6_bend_30 : decode cX6_bend 30 = .ok (.iconst 2, 1) := by decide +kernel
theorem dX6_bend_31 : decode cX6_bend 31 = .ok (.invokevirtual 129, 3) := by decide +kernel
theorem dX6_bend_34 : decode cX6_bend 34 = .ok (.invokestatic 1, 3) := by decide +kernel
theorem dX6_bend_37 : decode cX6_bend 37 = .ok (.lstore_n 2, 1) := by decide +kernel
theorem dX6_bend_38 : decode cX6_bend 38 = .ok (.aload_n 0, 1) := by decide +kernel
theorem dX6_bend_39 : decode cX6_bend 39 = .ok (.iload_n 1, 1) := by decide +kernel
theorem dX6_bend_40 : decode cX6_bend 40 = .ok (.iconst 0, 1) := by decide +kernel
theorem dX6_bend_41 : decode cX6_bend 41 = .ok (.invokevirtual 129, 3) := by decide +kernel
theorem dX6_bend_44 : decode cX6_bend 44 = .ok (.aload_n 0, 1) := by decide +kernel
theorem dX6_bend_45 : decode cX6_bend 45 = .ok (.iload_n 1, 1) := by decide +kernel
theorem dX6_bend_46 : decode cX6_bend 46 = .ok (.iconst 2, 1) := by decide +kernel
theorem dX6_bend_47 : decode cX6_bend 47 = .ok (.invokevirtual 129, 3) := by decide +kernel
theorem dX6_bend_50 : decode cX6_bend 50 = .ok (.invokestatic 7, 3) := by decide +kernel
theorem dX6_bend_53 : decode cX6_bend 53 = .ok (.lstore 4, 2) := by decide +kernel
theorem dX6_bend_55 : decode cX6_bend 55 = .ok (.aload_n 0, 1) := by decide +kernel
theorem dX6_bend_56 : decode cX6_bend 56 = .ok (.iload_n 1, 1) := by decide +kernel
theorem dX6_bend_57 : decode cX6_bend 57 = .ok (.iconst 1, 1) := by decide +kernel
theorem dX6_bend_58 : decode cX6_bend 58 = .ok (.invokevirtual 129, 3) := by decide +kernel
theorem dX6_bend_61 : decode cX6_bend 61 = .ok (.aload_n 0, 1) := by decide +kernel
theorem dX6_bend_62 : decode cX6_bend 62 = .ok (.iload_n 1, 1) := by decide +kernel
theorem dX6_bend_63 : decode cX6_bend 63 = .ok (.iconst 3, 1) := by decide +kernel
theorem dX6_bend_64 : decode cX6_bend 64 = .ok (.invokevirtual 129, 3) := by decide +kernel
theorem dX6_bend_67 : decode cX6_bend 67 = .ok (.invokestatic 1, 3) := by decide +kernel
theorem dX6_bend_70 : decode cX6_bend 70 = .ok (.lstore 6, 2) := by decide +kernel
theorem dX6_bend_72 : decode cX6_bend 72 = .ok (.aload_n 0, 1) := by decide +kernel
theorem dX6_bend_73 : decode cX6_bend 73 = .ok (.iload_n 1, 1) := by decide +kernel
theorem dX6_bend_74 : decode cX6_bend 74 = .ok (.iconst 1, 1) := by decide +kernel
theorem dX6_bend_75 : decode cX6_bend 75 = .ok (.invokevirtual 129, 3) := by decide +kernel
theorem dX6_bend_78 : decode cX6_bend 78 = .ok (.aload_n 0, 1) := by decide +kernel
theorem dX6_bend_79 : decode cX6_bend 79 = .ok (.iload_n 1, 1) := by decide +kernel
theorem dX6_bend_80 : decode cX6_bend 80 = .ok (.iconst 3, 1) := by decide +kernel
theorem dX6_bend_81 : decode cX6_bend 81 = .ok (.invokevirtual 129, 3) := by decide +kernel
theorem dX6_bend_84 : decode cX6_bend 84 = .ok (.invokestatic 7, 3) := by decide +kernel
theorem dX6_bend_87 : decode cX6_bend 87 = .ok (.lstore 8, 2) := by decide +kernel
theorem dX6_bend_89 : decode cX6_bend 89 = .ok (.aload_n 0, 1) := by decide +kernel
theorem dX6_bend_90 : decode cX6_bend 90 = .ok (.lload_n 2, 1) := by decide +kernel
theorem dX6_bend_91 : decode cX6_bend 91 = .ok (.l2i, 1) := by decide +kernel
theorem dX6_bend_92 : decode cX6_bend 92 = .ok (.iconst 1, 1) := by decide +kernel
theorem dX6_bend_93 : decode cX6_bend 93 = .ok (.isub, 1) := by decide +kernel
theorem dX6_bend_94 : decode cX6_bend 94 = .ok (.invokevirtual 182, 3) := by decide +kernel
theorem dX6_bend_97 : decode cX6_bend 97 = .ok (.istore 10, 2) := by decide +kernel
theorem dX6_bend_99 : decode cX6_bend 99 = .ok (.iload 10, 2) := by decide +kernel
theorem dX6_bend_101 : decode cX6_bend 101 = .ok (.aload_n 0, 1) := by decide +kernel
theorem dX6_bend_102 : decode cX6_bend 102 = .ok (.getfield 64, 3) := by decide +kernel
theorem dX6_bend_105 : decode cX6_bend 105 = .ok (.getfield 118, 3) := by decide +kernel
theorem dX6_bend_108 : decode cX6_bend 108 = .ok (.if_icmp .ge 83, 3) := by decide +kernel
theorem dX6_bend_111 : decode cX6_bend 111 = .ok (.aload_n 0, 1) := by decide +kernel
theorem dX6_bend_112 : decode cX6_bend 112 = .ok (.getfield 64, 3) := by decide +kernel
theorem dX6_bend_115 : decode cX6_bend 115 = .ok (.iload 10, 2) := by decide +kernel
theorem dX6_bend_117 : decode cX6_bend 117 = .ok (.invokevirtual 171, 3) := by decide +kernel
theorem dX6_bend_120 : decode cX6_bend 120 = .ok (.i2l, 1) := by decide +kernel
theorem dX6_bend_121 : decode cX6_bend 121 = .ok (.lload 4, 2) := by decide +kernel
theorem dX6_bend_123 : decode cX6_bend 123 = .ok (.lconst 1, 1) := by decide +kernel
theorem dX6_bend_124 : decode cX6_bend 124 = .ok (.ladd, 1) := by decide +kernel
theorem dX6_bend_125 : decode cX6_bend 125 = .ok (.lcmp, 1) := by decide +kernel
theorem dX6_bend_126 : decode cX6_bend 126 = .ok (.ifCond .gt 65, 3) := by decide +kernel
theorem dX6_bend_129 : decode cX6_bend 129 = .ok (.aload_n 0, 1) := by decide +kernel
theorem dX6_bend_130 : decode cX6_bend 130 = .ok (.getfield 64, 3) := by decide +kernel
theorem dX6_bend_133 : decode cX6_bend 133 = .ok (.iload 10, 2) := by decide +kernel
theorem dX6_bend_135 : decode cX6_bend 135 = .ok (.invokevirtual 175, 3) := by decide +kernel
theorem dX6_bend_138 : decode cX6_bend 138 = .ok (.i2l, 1) := by decide +kernel
theorem dX6_bend_139 : decode cX6_bend 139 = .ok (.lload 6, 2) := by decide +kernel
theorem dX6_bend_141 : decode cX6_bend 141 = .ok (.lconst 1, 1) := by decide +kernel
theorem dX6_bend_142 : decode cX6_bend 142 = .ok (.lsub, 1) := by decide +kernel
theorem dX6_bend_143 : decode cX6_bend 143 = .ok (.lcmp, 1) := by decide +kernel
theorem dX6_bend_144 : decode cX6_bend 144 = .ok (.ifCond .lt 41, 3) := by decide +kernel
theorem dX6_bend_147 : decode cX6_bend 147 = .ok (.aload_n 0, 1) := by decide +kernel
theorem dX6_bend_148 : decode cX6_bend 148 = .ok (.getfield 64, 3) := by decide +kernel
theorem dX6_bend_151 : decode cX6_bend 151 = .ok (.iload 10, 2) := by decide +kernel
theorem dX6_bend_153 : decode cX6_bend 153 = .ok (.invokevirtual 175, 3) := by decide +kernel
theorem dX6_bend_156 : decode cX6_bend 156 = .ok (.i2l, 1) := by decide +kernel
theorem dX6_bend_157 : decode cX6_bend 157 = .ok (.lload 8, 2) := by decide +kernel
theorem dX6_bend_159 : decode cX6_bend 159 = .ok (.lconst 1, 1) := by decide +kernel
theorem dX6_bend_160 : decode cX6_bend 160 = .ok (.ladd, 1) := by decide +kernel
theorem dX6_bend_161 : decode cX6_bend 161 = .ok (.lcmp, 1) := by decide +kernel
theorem dX6_bend_162 : decode cX6_bend 162 = .ok (.ifCond .gt 23, 3) := by decide +kernel
theorem dX6_bend_165 : decode cX6_bend 165 = .ok (.aload_n 0, 1) := by decide +kernel
theorem dX6_bend_166 : decode cX6_bend 166 = .ok (.iload_n 1, 1) := by decide +kernel
theorem dX6_bend_167 : decode cX6_bend 167 = .ok (.iload 10, 2) := by decide +kernel
theorem dX6_bend_169 : decode cX6_bend 169 = .ok (.invokevirtual 185, 3) := by decide +kernel
theorem dX6_bend_172 : decode cX6_bend 172 = .ok (.ifCond .ne 6, 3) := by decide +kernel
theorem dX6_bend_175 : decode cX6_bend 175 = .ok (.goto 10, 3) := by decide +kernel
theorem dX6_bend_178 : decode cX6_bend 178 = .ok (.aload_n 0, 1) := by decide +kernel
theorem dX6_bend_179 : decode cX6_bend 179 = .ok (.iload_n 1, 1) := by decide +kernel
theorem dX6_bend_180 : decode cX6_bend 180 = .ok (.iload 10, 2) := by decide +kernel
theorem dX6_bend_182 : decode cX6_bend 182 = .ok (.invokevirtual 188, 3) := by decide +kernel
theorem dX6_bend_185 : decode cX6_bend 185 = .ok (.iinc 10 1, 3) := by decide +kernel
theorem dX6_bend_188 : decode cX6_bend 188 = .ok (.goto (-89), 3) := by decide +kernel
theorem dX6_bend_191 : decode cX6_bend 191 = .ok (.aload_n 0, 1) := by decide +kernel
theorem dX6_bend_192 : decode cX6_bend 192 = .ok (.getfield 73, 3) := by decide +kernel
theorem dX6_bend_195 : decode cX6_bend 195 = .ok (.aload_n 0, 1) := by decide +kernel
theorem dX6_bend_196 : decode cX6_bend 196 = .ok (.getfield 70, 3) := by decide +kernel
theorem dX6_bend_199 : decode cX6_bend 199 = .ok (.getfield 85, 3) := by decide +kernel
theorem dX6_bend_202 : decode cX6_bend 202 = .ok (.invokevirtual 89, 3) := by decide +kernel
theorem dX6_bend_205 : decode cX6_bend 205 = .ok (.iconst 0, 1) := by decide +kernel
theorem dX6_bend_206 : decode cX6_bend 206 = .ok (.istore 10, 2) := by decide +kernel
theorem dX6_bend_208 : decode cX6_bend 208 = .ok (.iload 10, 2) := by decide +kernel
theorem dX6_bend_210 : decode cX6_bend 210 = .ok (.aload_n 0, 1) := by decide +kernel
theorem dX6_bend_211 : decode cX6_bend 211 = .ok (.getfield 76, 3) := by decide +kernel
theorem dX6_bend_214 : decode cX6_bend 214 = .ok (.getfield 85, 3) := by decide +kernel
theorem dX6_bend_217 : decode cX6_bend 217 = .ok (.if_icmp .ge 26, 3) := by decide +kernel
theorem dX6_bend_220 : decode cX6_bend 220 = .ok (.aload_n 0, 1) := by decide +kernel
theorem dX6_bend_221 : decode cX6_bend 221 = .ok (.getfield 70, 3) := by decide +kernel
theorem dX6_bend_224 : decode cX6_bend 224 = .ok (.aload_n 0, 1) := by decide +kernel
theorem dX6_bend_225 : decode cX6_bend 225 = .ok (.getfield 76, 3) := by decide +kernel
theorem dX6_bend_228 : decode cX6_bend 228 = .ok (.getfield 96, 3) := by decide +kernel
theorem dX6_bend_231 : decode cX6_bend 231 = .ok (.iload 10, 2) := by decide +kernel
theorem dX6_bend_233 : decode cX6_bend 233 = .ok (.iaload, 1) := by decide +kernel
theorem dX6_bend_234 : decode cX6_bend 234 = .ok (.invokevirtual 89, 3) := by decide +kernel
theorem dX6_bend_237 : decode cX6_bend 237 = .ok (.iinc 10 1, 3) := by decide +kernel
theorem dX6_bend_240 : decode cX6_bend 240 = .ok (.goto (-32), 3) := by decide +kernel
theorem dX6_bend_243 : decode cX6_bend 243 = .ok (.aload_n 0, 1) := by decide +kernel
theorem dX6_bend_244 : decode cX6_bend 244 = .ok (.getfield 70, 3) := by decide +kernel
theorem dX6_bend_247 : decode cX6_bend 247 = .ok (.getfield 85, 3) := by decide +kernel
theorem dX6_bend_250 : decode cX6_bend 250 = .ok (.iload_n 1, 1) := by decide +kernel
theorem dX6_bend_251 : decode cX6_bend 251 = .ok (.isub, 1) := by decide +kernel
theorem dX6_bend_252 : decode cX6_bend 252 = .ok (.iconst 1, 1) := by decide +kernel
theorem dX6_bend_253 : decode cX6_bend 253 = .ok (.isub, 1) := by decide +kernel
theorem dX6_bend_254 : decode cX6_bend 254 = .ok (.sipush 20000, 3) := by decide +kernel
theorem dX6_bend_257 : decode cX6_bend 257 = .ok (.if_icmp .le 5, 3) := by decide +kernel
theorem dX6_bend_260 : decode cX6_bend 260 = .ok (.iconst 0, 1) := by decide +kernel
theorem dX6_bend_261 : decode cX6_bend 261 = .ok (.ireturn, 1) := by decide +kernel
theorem dX6_bend_262 : decode cX6_bend 262 = .ok (.iinc 1 1, 3) := by decide +kernel
theorem dX6_bend_265 : decode cX6_bend 265 = .ok (.goto (-263), 3) := by decide +kernel
theorem dX6_bend_268 : decode cX6_bend 268 = .ok (.aload_n 0, 1) := by decide +kernel
theorem dX6_bend_269 : decode cX6_bend 269 = .ok (.getfield 73, 3) := by decide +kernel
theorem dX6_bend_272 : decode cX6_bend 272 = .ok (.aload_n 0, 1) := by decide +kernel
theorem dX6_bend_273 : decode cX6_bend 273 = .ok (.getfield 70, 3) := by decide +kernel
theorem dX6_bend_276 : decode cX6_bend 276 = .ok (.getfield 85, 3) := by decide +kernel
theorem dX6_bend_279 : decode cX6_bend 279 = .ok (.invokevirtual 89, 3) := by decide +kernel
theorem dX6_bend_282 : decode cX6_bend 282 = .ok (.iconst 1, 1) := by decide +kernel
theorem dX6_bend_283 : decode cX6_bend 283 = .ok (.ireturn, 1) := by decide +kernel
theorem dX6_firstFrom_0 : decode cX6_firstFrom 0 = .ok (.iconst 0, 1) := by decide +kernel
theorem dX6_firstFrom_1 : decode cX6_firstFrom 1 = .ok (.istore_n 2, 1) := by decide +kernel
theorem dX6_firstFrom_2 : decode cX6_firstFrom 2 = .ok (.aload_n 0, 1) := by decide +kernel
theorem dX6_firstFrom_3 : decode cX6_firstFrom 3 = .ok (.getfield 64, 3) := by decide +kernel
theorem dX6_firstFrom_6 : decode cX6_firstFrom 6 = .ok (.getfield 118, 3) := by decide +kernel
theorem dX6_firstFrom_9 : decode cX6_firstFrom 9 = .ok (.istore_n 3, 1) := by decide +kernel
theorem dX6_firstFrom_10 : decode cX6_firstFrom 10 = .ok (.iload_n 2, 1) := by decide +kernel
theorem dX6_firstFrom_11 : decode cX6_firstFrom 11 = .ok (.iload_n 3, 1) := by decide +kernel
theorem dX6_firstFrom_12 : decode cX6_firstFrom 12 = .ok (.if_icmp .ge 37, 3) := by decide +kernel
theorem dX6_firstFrom_15 : decode cX6_firstFrom 15 = .ok (.iload_n 2, 1) := by decide +kernel
theorem dX6_firstFrom_16 : decode cX6_firstFrom 16 = .ok (.iload_n 3, 1) := by decide +kernel
theorem dX6_firstFrom_17 : decode cX6_firstFrom 17 = .ok (.iadd, 1) := by decide +kernel
theorem dX6_firstFrom_18 : decode cX6_firstFrom 18 = .ok (.iconst 2, 1) := by decide +kernel
theorem dX6_firstFrom_19 : decode cX6_firstFrom 19 = .ok (.idiv, 1) := by decide +kernel
theorem dX6_firstFrom_20 : decode cX6_firstFrom 20 = .ok (.istore 4, 2) := by decide +kernel
theorem dX6_firstFrom_22 : decode cX6_firstFrom 22 = .ok (.aload_n 0, 1) := by decide +kernel
theorem dX6_firstFrom_23 : decode cX6_firstFrom 23 = .ok (.getfield 64, 3) := by decide +kernel
theorem dX6_firstFrom_26 : decode cX6_firstFrom 26 = .ok (.iload 4, 2) := by decide +kernel
theorem dX6_firstFrom_28 : decode cX6_firstFrom 28 = .ok (.invokevirtual 171, 3) := by decide +kernel
theorem dX6_firstFrom_31 : decode cX6_firstFrom 31 = .ok (.iload_n 1, 1) := by decide +kernel
theorem dX6_firstFrom_32 : decode cX6_firstFrom 32 = .ok (.if_icmp .ge 11, 3) := by decide +kernel
theorem dX6_firstFrom_35 : decode cX6_firstFrom 35 = .ok (.iload 4, 2) := by decide +kernel
theorem dX6_firstFrom_37 : decode cX6_firstFrom 37 = .ok (.iconst 1, 1) := by decide +kernel
theorem dX6_firstFrom_38 : decode cX6_firstFrom 38 = .ok (.iadd, 1) := by decide +kernel
theorem dX6_firstFrom_39 : decode cX6_firstFrom 39 = .ok (.istore_n 2, 1) := by decide +kernel
theorem dX6_firstFrom_40 : decode cX6_firstFrom 40 = .ok (.goto 6, 3) := by decide +kernel
theorem dX6_firstFrom_43 : decode cX6_firstFrom 43 = .ok (.iload 4, 2) := by decide +kernel
theorem dX6_firstFrom_45 : decode cX6_firstFrom 45 = .ok (.istore_n 3, 1) := by decide +kernel
theorem dX6_firstFrom_46 : decode cX6_firstFrom 46 = .ok (.goto (-36), 3) := by decide +kernel
theorem dX6_firstFrom_49 : decode cX6_firstFrom 49 = .ok (.iload_n 2, 1) := by decide +kernel
theorem dX6_firstFrom_50 : decode cX6_firstFrom 50 = .ok (.ireturn, 1) := by decide +kernel
theorem dX6_insert_0 : decode cX6_insert 0 = .ok (.aload_n 0, 1) := by decide +kernel
theorem dX6_insert_1 : decode cX6_insert 1 = .ok (.getfield 76, 3) := by decide +kernel
theorem dX6_insert_4 : decode cX6_insert 4 = .ok (.iload_n 2, 1) := by decide +kernel
theorem dX6_insert_5 : decode cX6_insert 5 = .ok (.invokevirtual 89, 3) := by decide +kernel
theorem dX6_insert_8 : decode cX6_insert 8 = .ok (.aload_n 0, 1) := by decide +kernel
theorem dX6_insert_9 : decode cX6_insert 9 = .ok (.getfield 76, 3) := by decide +kernel
theorem dX6_insert_12 : decode cX6_insert 12 = .ok (.getfield 85, 3) := by decide +kernel
theorem dX6_insert_15 : decode cX6_insert 15 = .ok (.iconst 1, 1) := by decide +kernel
theorem dX6_insert_16 : decode cX6_insert 16 = .ok (.isub, 1) := by decide +kernel
theorem dX6_insert_17 : decode cX6_insert 17 = .ok (.istore_n 3, 1) := by decide +kernel
theorem dX6_insert_18 : decode cX6_insert 18 = .ok (.iload_n 3, 1) := by decide +kernel
theorem dX6_insert_19 : decode cX6_insert 19 = .ok (.ifCond .le 55, 3) := by decide +kernel
theorem dX6_insert_22 : decode cX6_insert 22 = .ok (.aload_n 0, 1) := by decide +kernel
theorem dX6_insert_23 : decode cX6_insert 23 = .ok (.iload_n 1, 1) := by decide +kernel
theorem dX6_insert_24 : decode cX6_insert 24 = .ok (.aload_n 0, 1) := by decide +kernel
theorem dX6_insert_25 : decode cX6_insert 25 = .ok (.getfield 76, 3) := by decide +kernel
theorem dX6_insert_28 : decode cX6_insert 28 = .ok (.getfield 96, 3) := by decide +kernel
theorem dX6_insert_31 : decode cX6_insert 31 = .ok (.iload_n 3, 1) := by decide +kernel
theorem dX6_insert_32 : decode cX6_insert 32 = .ok (.iconst 1, 1) := by decide +kernel
theorem dX6_insert_33 : decode cX6_insert 33 = .ok (.isub, 1) := by decide +kernel
theorem dX6_insert_34 : decode cX6_insert 34 = .ok (.iaload, 1) := by decide +kernel
theorem dX6_insert_35 : decode cX6_insert 35 = .ok (.invokevirtual 191, 3) := by decide +kernel
theorem dX6_insert_38 : decode cX6_insert 38 = .ok (.aload_n 0, 1) := by decide +kernel
theorem dX6_insert_39 : decode cX6_insert 39 = .ok (.iload_n 1, 1) := by decide +kernel
theorem dX6_insert_40 : decode cX6_insert 40 = .ok (.iload_n 2, 1) := by decide +kernel
theorem dX6_insert_41 : decode cX6_insert 41 = .ok (.invokevirtual 191, 3) := by decide +kernel
theorem dX6_insert_44 : decode cX6_insert 44 = .ok (.lcmp, 1) := by decide +kernel
theorem dX6_insert_45 : decode cX6_insert 45 = .ok (.ifCond .le 29, 3) := by decide +kernel
theorem dX6_insert_48 : decode cX6_insert 48 = .ok (.aload_n 0, 1) := by decide +kernel
theorem dX6_insert_49 : decode cX6_insert 49 = .ok (.getfield 76, 3) := by decide +kernel
theorem dX6_insert_52 : decode cX6_insert 52 = .ok (.getfield 96, 3) := by decide +kernel
theorem dX6_insert_55 : decode cX6_insert 55 = .ok (.iload_n 3, 1) := by decide +kernel
theorem dX6_insert_56 : decode cX6_insert 56 = .ok (.aload_n 0, 1) := by decide +kernel
theorem dX6_insert_57 : decode cX6_insert 57 = .ok (.getfield 76, 3) := by decide +kernel
theorem dX6_insert_60 : decode cX6_insert 60 = .ok (.getfield 96, 3) := by decide +kernel
theorem dX6_insert_63 : decode cX6_insert 63 = .ok (.iload_n 3, 1) := by decide +kernel
theorem dX6_insert_64 : decode cX6_insert 64 = .ok (.iconst 1, 1) := by decide +kernel
theorem dX6_insert_65 : decode cX6_insert 65 = .ok (.isub, 1) := by decide +kernel
theorem dX6_insert_66 : decode cX6_insert 66 = .ok (.iaload, 1) := by decide +kernel
theorem dX6_insert_67 : decode cX6_insert 67 = .ok (.iastore, 1) := by decide +kernel
theorem dX6_insert_68 : decode cX6_insert 68 = .ok (.iinc 3 (-1), 3) := by decide +kernel
theorem dX6_insert_71 : decode cX6_insert 71 = .ok (.goto (-53), 3) := by decide +kernel
theorem dX6_insert_74 : decode cX6_insert 74 = .ok (.aload_n 0, 1) := by decide +kernel
theorem dX6_insert_75 : decode cX6_insert 75 = .ok (.getfield 76, 3) := by decide +kernel
theorem dX6_insert_78 : decode cX6_insert 78 = .ok (.getfield 96, 3) := by decide +kernel
theorem dX6_insert_81 : decode cX6_insert 81 = .ok (.iload_n 3, 1) := by decide +kernel
theorem dX6_insert_82 : decode cX6_insert 82 = .ok (.iload_n 2, 1) := by decide +kernel
theorem dX6_insert_83 : decode cX6_insert 83 = .ok (.iastore, 1) := by decide +kernel
theorem dX6_insert_84 : decode cX6_insert 84 = .ok (.return_, 1) := by decide +kernel
theorem dX6_nodes_0 : decode cX6_nodes 0 = .ok (.aload_n 0, 1) := by decide +kernel
theorem dX6_nodes_1 : decode cX6_nodes 1 = .ok (.getfield 47, 3) := by decide +kernel
theorem dX6_nodes_4 : decode cX6_nodes 4 = .ok (.getfield 118, 3) := by decide +kernel
theorem dX6_nodes_7 : decode cX6_nodes 7 = .ok (.ireturn, 1) := by decide +kernel
theorem dX6_node_0 : decode cX6_node 0 = .ok (.iload_n 1, 1) := by decide +kernel
theorem dX6_node_1 : decode cX6_node 1 = .ok (.ifCond .lt 23, 3) := by decide +kernel
theorem dX6_node_4 : decode cX6_node 4 = .ok (.iload_n 1, 1) := by decide +kernel
theorem dX6_node_5 : decode cX6_node 5 = .ok (.aload_n 0, 1) := by decide +kernel
theorem dX6_node_6 : decode cX6_node 6 = .ok (.getfield 47, 3) := by decide +kernel
theorem dX6_node_9 : decode cX6_node 9 = .ok (.getfield 118, 3) := by decide +kernel
theorem dX6_node_12 : decode cX6_node 12 = .ok (.if_icmp .ge 12, 3) := by decide +kernel
theorem dX6_node_15 : decode cX6_node 15 = .ok (.iload_n 2, 1) := by decide +kernel
theorem dX6_node_16 : decode cX6_node 16 = .ok (.ifCond .lt 8, 3) := by decide +kernel
theorem dX6_node_19 : decode cX6_node 19 = .ok (.iload_n 2, 1) := by decide +kernel
theorem dX6_node_20 : decode cX6_node 20 = .ok (.iconst 1, 1) := by decide +kernel
theorem dX6_node_21 : decode cX6_node 21 = .ok (.if_icmp .le 8, 3) := by decide +kernel
theorem dX6_node_24 : decode cX6_node 24 = .ok (.ldc 194, 2) := by decide +kernel
theorem dX6_node_26 : decode cX6_node 26 = .ok (.goto 26, 3) := by decide +kernel
theorem dX6_node_29 : decode cX6_node 29 = .ok (.iload_n 2, 1) := by decide +kernel
theorem dX6_node_30 : decode cX6_node 30 = .ok (.ifCond .ne 14, 3) := by decide +kernel
theorem dX6_node_33 : decode cX6_node 33 = .ok (.aload_n 0, 1) := by decide +kernel
theorem dX6_node_34 : decode cX6_node 34 = .ok (.getfield 47, 3) := by decide +kernel
theorem dX6_node_37 : decode cX6_node 37 = .ok (.iload_n 1, 1) := by decide +kernel
theorem dX6_node_38 : decode cX6_node 38 = .ok (.invokevirtual 171, 3) := by decide +kernel
theorem dX6_node_41 : decode cX6_node 41 = .ok (.goto 11, 3) := by decide +kernel
theorem dX6_node_44 : decode cX6_node 44 = .ok (.aload_n 0, 1) := by decide +kernel
theorem dX6_node_45 : decode cX6_node 45 = .ok (.getfield 47, 3) := by decide +kernel
theorem dX6_node_48 : decode cX6_node 48 = .ok (.iload_n 1, 1) := by decide +kernel
theorem dX6_node_49 : decode cX6_node 49 = .ok (.invokevirtual 175, 3) := by decide +kernel
theorem dX6_node_52 : decode cX6_node 52 = .ok (.ireturn, 1) := by decide +kernel
theorem dX6_find_0 : decode cX6_find 0 = .ok (.iload_n 1, 1) := by decide +kernel
theorem dX6_find_1 : decode cX6_find 1 = .ok (.iload_n 2, 1) := by decide +kernel
theorem dX6_find_2 : decode cX6_find 2 = .ok (.invokestatic 81, 3) := by decide +kernel
theorem dX6_find_5 : decode cX6_find 5 = .ok (.ifCond .eq 15, 3) := by decide +kernel
theorem dX6_find_8 : decode cX6_find 8 = .ok (.aload_n 0, 1) := by decide +kernel
theorem dX6_find_9 : decode cX6_find 9 = .ok (.getfield 47, 3) := by decide +kernel
theorem dX6_find_12 : decode cX6_find 12 = .ok (.iload_n 1, 1) := by decide +kernel
theorem dX6_find_13 : decode cX6_find 13 = .ok (.iload_n 2, 1) := by decide +kernel
theorem dX6_find_14 : decode cX6_find 14 = .ok (.invokevirtual 122, 3) := by decide +kernel
theorem dX6_find_17 : decode cX6_find 17 = .ok (.goto 4, 3) := by decide +kernel
theorem dX6_find_20 : decode cX6_find 20 = .ok (.iconst (-1), 1) := by decide +kernel
theorem dX6_find_21 : decode cX6_find 21 = .ok (.ireturn, 1) := by decide +kernel
theorem dX6_pieces_0 : decode cX6_pieces 0 = .ok (.aload_n 0, 1) := by decide +kernel
theorem dX6_pieces_1 : decode cX6_pieces 1 = .ok (.getfield 51, 3) := by decide +kernel
theorem dX6_pieces_4 : decode cX6_pieces 4 = .ok (.getfield 118, 3) := by decide +kernel
theorem dX6_pieces_7 : decode cX6_pieces 7 = .ok (.ireturn, 1) := by decide +kernel
theorem dX6_piece_0 : decode cX6_piece 0 = .ok (.iload_n 1, 1) := by decide +kernel
theorem dX6_piece_1 : decode cX6_piece 1 = .ok (.ifCond .lt 23, 3) := by decide +kernel
theorem dX6_piece_4 : decode cX6_piece 4 = .ok (.iload_n 1, 1) := by decide +kernel
theorem dX6_piece_5 : decode cX6_piece 5 = .ok (.aload_n 0, 1) := by decide +kernel
theorem dX6_piece_6 : decode cX6_piece 6 = .ok (.getfield 51, 3) := by decide +kernel
theorem dX6_piece_9 : decode cX6_piece 9 = .ok (.getfield 118, 3) := by decide +kernel
theorem dX6_piece_12 : decode cX6_piece 12 = .ok (.if_icmp .ge 12, 3) := by decide +kernel
theorem dX6_piece_15 : decode cX6_piece 15 = .ok (.iload_n 2, 1) := by decide +kernel
theorem dX6_piece_16 : decode cX6_piece 16 = .ok (.ifCond .lt 8, 3) := by decide +kernel
theorem dX6_piece_19 : decode cX6_piece 19 = .ok (.iload_n 2, 1) := by decide +kernel
theorem dX6_piece_20 : decode cX6_piece 20 = .ok (.iconst 2, 1) := by decide +kernel
theorem dX6_piece_21 : decode cX6_piece 21 = .ok (.if_icmp .le 5, 3) := by decide +kernel
theorem dX6_piece_24 : decode cX6_piece 24 = .ok (.iconst (-1), 1) := by decide +kernel
theorem dX6_piece_25 : decode cX6_piece 25 = .ok (.ireturn, 1) := by decide +kernel
theorem dX6_piece_26 : decode cX6_piece 26 = .ok (.iload_n 2, 1) := by decide +kernel
theorem dX6_piece_27 : decode cX6_piece 27 = .ok (.ifCond .ne 14, 3) := by decide +kernel
theorem dX6_piece_30 : decode cX6_piece 30 = .ok (.aload_n 0, 1) := by decide +kernel
theorem dX6_piece_31 : decode cX6_piece 31 = .ok (.getfield 51, 3) := by decide +kernel
theorem dX6_piece_34 : decode cX6_piece 34 = .ok (.iload_n 1, 1) := by decide +kernel
theorem dX6_piece_35 : decode cX6_piece 35 = .ok (.invokevirtual 171, 3) := by decide +kernel
theorem dX6_piece_38 : decode cX6_piece 38 = .ok (.goto 25, 3) := by decide +kernel
theorem dX6_piece_41 : decode cX6_piece 41 = .ok (.iload_n 2, 1) := by decide +kernel
theorem dX6_piece_42 : decode cX6_piece 42 = .ok (.iconst 1, 1) := by decide +kernel
theorem dX6_piece_43 : decode cX6_piece 43 = .ok (.if_icmp .ne 14, 3) := by decide +kernel
theorem dX6_piece_46 : decode cX6_piece 46 = .ok (.aload_n 0, 1) := by decide +kernel
theorem dX6_piece_47 : decode cX6_piece 47 = .ok (.getfield 51, 3) := by decide +kernel
theorem dX6_piece_50 : decode cX6_piece 50 = .ok (.iload_n 1, 1) := by decide +kernel
theorem dX6_piece_51 : decode cX6_piece 51 = .ok (.invokevirtual 175, 3) := by decide +kernel
theorem dX6_piece_54 : decode cX6_piece 54 = .ok (.goto 9, 3) := by decide +kernel
theorem dX6_piece_57 : decode cX6_piece 57 = .ok (.aload_n 0, 1) := by decide +kernel
theorem dX6_piece_58 : decode cX6_piece 58 = .ok (.getfield 54, 3) := by decide +kernel
theorem dX6_piece_61 : decode cX6_piece 61 = .ok (.iload_n 1, 1) := by decide +kernel
theorem dX6_piece_62 : decode cX6_piece 62 = .ok (.iaload, 1) := by decide +kernel
theorem dX6_piece_63 : decode cX6_piece 63 = .ok (.ireturn, 1) := by decide +kernel
theorem dX6_way_0 : decode cX6_way 0 = .ok (.iload_n 1, 1) := by decide +kernel
theorem dX6_way_1 : decode cX6_way 1 = .ok (.ifCond .lt 40, 3) := by decide +kernel
theorem dX6_way_4 : decode cX6_way 4 = .ok (.iload_n 1, 1) := by decide +kernel
theorem dX6_way_5 : decode cX6_way 5 = .ok (.aload_n 0, 1) := by decide +kernel
theorem dX6_way_6 : decode cX6_way 6 = .ok (.getfield 61, 3) := by decide +kernel
theorem dX6_way_9 : decode cX6_way 9 = .ok (.getfield 85, 3) := by decide +kernel
theorem dX6_way_12 : decode cX6_way 12 = .ok (.iconst 1, 1) := by decide +kernel
theorem dX6_way_13 : decode cX6_way 13 = .ok (.isub, 1) := by decide +kernel
theorem dX6_way_14 : decode cX6_way 14 = .ok (.if_icmp .ge 27, 3) := by decide +kernel
theorem dX6_way_17 : decode cX6_way 17 = .ok (.aload_n 0, 1) := by decide +kernel
theorem dX6_way_18 : decode cX6_way 18 = .ok (.getfield 61, 3) := by decide +kernel
theorem dX6_way_21 : decode cX6_way 21 = .ok (.getfield 96, 3) := by decide +kernel
theorem dX6_way_24 : decode cX6_way 24 = .ok (.iload_n 1, 1) := by decide +kernel
theorem dX6_way_25 : decode cX6_way 25 = .ok (.iconst 1, 1) := by decide +kernel
theorem dX6_way_26 : decode cX6_way 26 = .ok (.iadd, 1) := by decide +kernel
theorem dX6_way_27 : decode cX6_way 27 = .ok (.iaload, 1) := by decide +kernel
theorem dX6_way_28 : decode cX6_way 28 = .ok (.aload_n 0, 1) := by decide +kernel
theorem dX6_way_29 : decode cX6_way 29 = .ok (.getfield 61, 3) := by decide +kernel
theorem dX6_way_32 : decode cX6_way 32 = .ok (.getfield 96, 3) := by decide +kernel
theorem dX6_way_35 : decode cX6_way 35 = .ok (.iload_n 1, 1) := by decide +kernel
theorem dX6_way_36 : decode cX6_way 36 = .ok (.iaload, 1) := by decide +kernel
theorem dX6_way_37 : decode cX6_way 37 = .ok (.isub, 1) := by decide +kernel
theorem dX6_way_38 : decode cX6_way 38 = .ok (.goto 4, 3) := by decide +kernel
theorem dX6_way_41 : decode cX6_way 41 = .ok (.iconst (-1), 1) := by decide +kernel
theorem dX6_way_42 : decode cX6_way 42 = .ok (.ireturn, 1) := by decide +kernel
theorem dX6_wayNode_0 : decode cX6_wayNode 0 = .ok (.iload_n 2, 1) := by decide +kernel
theorem dX6_wayNode_1 : decode cX6_wayNode 1 = .ok (.ifCond .lt 34, 3) := by decide +kernel
theorem dX6_wayNode_4 : decode cX6_wayNode 4 = .ok (.iload_n 2, 1) := by decide +kernel
theorem dX6_wayNode_5 : decode cX6_wayNode 5 = .ok (.aload_n 0, 1) := by decide +kernel
theorem dX6_wayNode_6 : decode cX6_wayNode 6 = .ok (.iload_n 1, 1) := by decide +kernel
theorem dX6_wayNode_7 : decode cX6_wayNode 7 = .ok (.invokevirtual 195, 3) := by decide +kernel
theorem dX6_wayNode_10 : decode cX6_wayNode 10 = .ok (.if_icmp .ge 25, 3) := by decide +kernel
theorem dX6_wayNode_13 : decode cX6_wayNode 13 = .ok (.aload_n 0, 1) := by decide +kernel
theorem dX6_wayNode_14 : decode cX6_wayNode 14 = .ok (.getfield 58, 3) := by decide +kernel
theorem dX6_wayNode_17 : decode cX6_wayNode 17 = .ok (.getfield 96, 3) := by decide +kernel
theorem dX6_wayNode_20 : decode cX6_wayNode 20 = .ok (.aload_n 0, 1) := by decide +kernel
theorem dX6_wayNode_21 : decode cX6_wayNode 21 = .ok (.getfield 61, 3) := by decide +kernel
theorem dX6_wayNode_24 : decode cX6_wayNode 24 = .ok (.getfield 96, 3) := by decide +kernel
theorem dX6_wayNode_27 : decode cX6_wayNode 27 = .ok (.iload_n 1, 1) := by decide +kernel
theorem dX6_wayNode_28 : decode cX6_wayNode 28 = .ok (.iaload, 1) := by decide +kernel
theorem dX6_wayNode_29 : decode cX6_wayNode 29 = .ok (.iload_n 2, 1) := by decide +kernel
theorem dX6_wayNode_30 : decode cX6_wayNode 30 = .ok (.iadd, 1) := by decide +kernel
theorem dX6_wayNode_31 : decode cX6_wayNode 31 = .ok (.iaload, 1) := by decide +kernel
theorem dX6_wayNode_32 : decode cX6_wayNode 32 = .ok (.goto 4, 3) := by decide +kernel
theorem dX6_wayNode_35 : decode cX6_wayNode 35 = .ok (.iconst (-1), 1) := by decide +kernel
theorem dX6_wayNode_36 : decode cX6_wayNode 36 = .ok (.ireturn, 1) := by decide +kernel
theorem dJ9_floorDiv_f86c9_0 : decode cJ9_floorDiv_f86c9 0 = .ok (.lload_n 0, 1) := by decide +kernel
theorem dJ9_floorDiv_f86c9_1 : decode cJ9_floorDiv_f86c9 1 = .ok (.lload_n 2, 1) := by decide +kernel
theorem dJ9_floorDiv_f86c9_2 : decode cJ9_floorDiv_f86c9 2 = .ok (.ldiv, 1) := by decide +kernel
theorem dJ9_floorDiv_f86c9_3 : decode cJ9_floorDiv_f86c9 3 = .ok (.lstore 4, 2) := by decide +kernel
theorem dJ9_floorDiv_f86c9_5 : decode cJ9_floorDiv_f86c9 5 = .ok (.lload_n 0, 1) := by decide +kernel
theorem dJ9_floorDiv_f86c9_6 : decode cJ9_floorDiv_f86c9 6 = .ok (.lload_n 2, 1) := by decide +kernel
theorem dJ9_floorDiv_f86c9_7 : decode cJ9_floorDiv_f86c9 7 = .ok (.lxor, 1) := by decide +kernel
theorem dJ9_floorDiv_f86c9_8 : decode cJ9_floorDiv_f86c9 8 = .ok (.lconst 0, 1) := by decide +kernel
theorem dJ9_floorDiv_f86c9_9 : decode cJ9_floorDiv_f86c9 9 = .ok (.lcmp, 1) := by decide +kernel
theorem dJ9_floorDiv_f86c9_10 : decode cJ9_floorDiv_f86c9 10 = .ok (.ifCond .ge 17, 3) := by decide +kernel
theorem dJ9_floorDiv_f86c9_13 : decode cJ9_floorDiv_f86c9 13 = .ok (.lload 4, 2) := by decide +kernel
theorem dJ9_floorDiv_f86c9_15 : decode cJ9_floorDiv_f86c9 15 = .ok (.lload_n 2, 1) := by decide +kernel
theorem dJ9_floorDiv_f86c9_16 : decode cJ9_floorDiv_f86c9 16 = .ok (.lmul, 1) := by decide +kernel
theorem dJ9_floorDiv_f86c9_17 : decode cJ9_floorDiv_f86c9 17 = .ok (.lload_n 0, 1) := by decide +kernel
theorem dJ9_floorDiv_f86c9_18 : decode cJ9_floorDiv_f86c9 18 = .ok (.lcmp, 1) := by decide +kernel
theorem dJ9_floorDiv_f86c9_19 : decode cJ9_floorDiv_f86c9 19 = .ok (.ifCond .eq 8, 3) := by decide +kernel
theorem dJ9_floorDiv_f86c9_22 : decode cJ9_floorDiv_f86c9 22 = .ok (.lload 4, 2) := by decide +kernel
theorem dJ9_floorDiv_f86c9_24 : decode cJ9_floorDiv_f86c9 24 = .ok (.lconst 1, 1) := by decide +kernel
theorem dJ9_floorDiv_f86c9_25 : decode cJ9_floorDiv_f86c9 25 = .ok (.lsub, 1) := by decide +kernel
theorem dJ9_floorDiv_f86c9_26 : decode cJ9_floorDiv_f86c9 26 = .ok (.lreturn, 1) := by decide +kernel
theorem dJ9_floorDiv_f86c9_27 : decode cJ9_floorDiv_f86c9 27 = .ok (.lload 4, 2) := by decide +kernel
theorem dJ9_floorDiv_f86c9_29 : decode cJ9_floorDiv_f86c9 29 = .ok (.lreturn, 1) := by decide +kernel
theorem dJ9_abs_067f4_0 : decode cJ9_abs_067f4 0 = .ok (.lload_n 0, 1) := by decide +kernel
theorem dJ9_abs_067f4_1 : decode cJ9_abs_067f4 1 = .ok (.lconst 0, 1) := by decide +kernel
theorem dJ9_abs_067f4_2 : decode cJ9_abs_067f4 2 = .ok (.lcmp, 1) := by decide +kernel
theorem dJ9_abs_067f4_3 : decode cJ9_abs_067f4 3 = .ok (.ifCond .ge 8, 3) := by decide +kernel
theorem dJ9_abs_067f4_6 : decode cJ9_abs_067f4 6 = .ok (.lload_n 0, 1) := by decide +kernel
theorem dJ9_abs_067f4_7 : decode cJ9_abs_067f4 7 = .ok (.lneg, 1) := by decide +kernel
theorem dJ9_abs_067f4_8 : decode cJ9_abs_067f4 8 = .ok (.goto 4, 3) := by decide +kernel
theorem dJ9_abs_067f4_11 : decode cJ9_abs_067f4 11 = .ok (.lload_n 0, 1) := by decide +kernel
theorem dJ9_abs_067f4_12 : decode cJ9_abs_067f4 12 = .ok (.lreturn, 1) := by decide +kernel
theorem dJ9_max_7cf53_0 : decode cJ9_max_7cf53 0 = .ok (.iload_n 0, 1) := by decide +kernel
theorem dJ9_max_7cf53_1 : decode cJ9_max_7cf53 1 = .ok (.iload_n 1, 1) := by decide +kernel
theorem dJ9_max_7cf53_2 : decode cJ9_max_7cf53 2 = .ok (.if_icmp .lt 7, 3) := by decide +kernel
theorem dJ9_max_7cf53_5 : decode cJ9_max_7cf53 5 = .ok (.iload_n 0, 1) := by decide +kernel
theorem dJ9_max_7cf53_6 : decode cJ9_max_7cf53 6 = .ok (.goto 4, 3) := by decide +kernel
theorem dJ9_max_7cf53_9 : decode cJ9_max_7cf53 9 = .ok (.iload_n 1, 1) := by decide +kernel
theorem dJ9_max_7cf53_10 : decode cJ9_max_7cf53 10 = .ok (.ireturn, 1) := by decide +kernel
theorem dJ9_max_f86c9_0 : decode cJ9_max_f86c9 0 = .ok (.lload_n 0, 1) := by decide +kernel
theorem dJ9_max_f86c9_1 : decode cJ9_max_f86c9 1 = .ok (.lload_n 2, 1) := by decide +kernel
theorem dJ9_max_f86c9_2 : decode cJ9_max_f86c9 2 = .ok (.lcmp, 1) := by decide +kernel
theorem dJ9_max_f86c9_3 : decode cJ9_max_f86c9 3 = .ok (.ifCond .lt 7, 3) := by decide +kernel
theorem dJ9_max_f86c9_6 : decode cJ9_max_f86c9 6 = .ok (.lload_n 0, 1) := by decide +kernel
theorem dJ9_max_f86c9_7 : decode cJ9_max_f86c9 7 = .ok (.goto 4, 3) := by decide +kernel
theorem dJ9_max_f86c9_10 : decode cJ9_max_f86c9 10 = .ok (.lload_n 2, 1) := by decide +kernel
theorem dJ9_max_f86c9_11 : decode cJ9_max_f86c9 11 = .ok (.lreturn, 1) := by decide +kernel
theorem dJ9_min_7cf53_0 : decode cJ9_min_7cf53 0 = .ok (.iload_n 0, 1) := by decide +kernel
theorem dJ9_min_7cf53_1 : decode cJ9_min_7cf53 1 = .ok (.iload_n 1, 1) := by decide +kernel
theorem dJ9_min_7cf53_2 : decode cJ9_min_7cf53 2 = .ok (.if_icmp .gt 7, 3) := by decide +kernel
theorem dJ9_min_7cf53_5 : decode cJ9_min_7cf53 5 = .ok (.iload_n 0, 1) := by decide +kernel
theorem dJ9_min_7cf53_6 : decode cJ9_min_7cf53 6 = .ok (.goto 4, 3) := by decide +kernel
theorem dJ9_min_7cf53_9 : decode cJ9_min_7cf53 9 = .ok (.iload_n 1, 1) := by decide +kernel
theorem dJ9_min_7cf53_10 : decode cJ9_min_7cf53 10 = .ok (.ireturn, 1) := by decide +kernel
theorem dJ9_min_f86c9_0 : decode cJ9_min_f86c9 0 = .ok (.lload_n 0, 1) := by decide +kernel
theorem dJ9_min_f86c9_1 : decode cJ9_min_f86c9 1 = .ok (.lload_n 2, 1) := by decide +kernel
theorem dJ9_min_f86c9_2 : decode cJ9_min_f86c9 2 = .ok (.lcmp, 1) := by decide +kernel
theorem dJ9_min_f86c9_3 : decode cJ9_min_f86c9 3 = .ok (.ifCond .gt 7, 3) := by decide +kernel
theorem dJ9_min_f86c9_6 : decode cJ9_min_f86c9 6 = .ok (.lload_n 0, 1) := by decide +kernel
theorem dJ9_min_f86c9_7 : decode cJ9_min_f86c9 7 = .ok (.goto 4, 3) := by decide +kernel
theorem dJ9_min_f86c9_10 : decode cJ9_min_f86c9 10 = .ok (.lload_n 2, 1) := by decide +kernel
theorem dJ9_min_f86c9_11 : decode cJ9_min_f86c9 11 = .ok (.lreturn, 1) := by decide +kernel
theorem dJ7_copyOf_59c91_0 : decode cJ7_copyOf_59c91 0 = .ok (.iload_n 1, 1) := by decide +kernel
theorem dJ7_copyOf_59c91_1 : decode cJ7_copyOf_59c91 1 = .ok (.aload_n 0, 1) := by decide +kernel
theorem dJ7_copyOf_59c91_2 : decode cJ7_copyOf_59c91 2 = .ok (.arraylength, 1) := by decide +kernel
theorem dJ7_copyOf_59c91_3 : decode cJ7_copyOf_59c91 3 = .ok (.if_icmp .ne 11, 3) := by decide +kernel
theorem dJ7_copyOf_59c91_6 : decode cJ7_copyOf_59c91 6 = .ok (.aload_n 0, 1) := by decide +kernel
theorem dJ7_copyOf_59c91_7 : decode cJ7_copyOf_59c91 7 = .ok (.invokevirtual 316, 3) := by decide +kernel
theorem dJ7_copyOf_59c91_10 : decode cJ7_copyOf_59c91 10 = .ok (.checkcast 317, 3) := by decide +kernel
theorem dJ7_copyOf_59c91_13 : decode cJ7_copyOf_59c91 13 = .ok (.areturn, 1) := by decide +kernel
theorem dJ7_copyOf_59c91_14 : decode cJ7_copyOf_59c91 14 = .ok (.iload_n 1, 1) := by decide +kernel
theorem dJ7_copyOf_59c91_15 : decode cJ7_copyOf_59c91 15 = .ok (.newarray .int, 2) := by decide +kernel
theorem dJ7_copyOf_59c91_17 : decode cJ7_copyOf_59c91 17 = .ok (.astore_n 2, 1) := by decide +kernel
theorem dJ7_copyOf_59c91_18 : decode cJ7_copyOf_59c91 18 = .ok (.aload_n 0, 1) := by decide +kernel
theorem dJ7_copyOf_59c91_19 : decode cJ7_copyOf_59c91 19 = .ok (.iconst 0, 1) := by decide +kernel
theorem dJ7_copyOf_59c91_20 : decode cJ7_copyOf_59c91 20 = .ok (.aload_n 2, 1) := by decide +kernel
theorem dJ7_copyOf_59c91_21 : decode cJ7_copyOf_59c91 21 = .ok (.iconst 0, 1) := by decide +kernel
theorem dJ7_copyOf_59c91_22 : decode cJ7_copyOf_59c91 22 = .ok (.aload_n 0, 1) := by decide +kernel
theorem dJ7_copyOf_59c91_23 : decode cJ7_copyOf_59c91 23 = .ok (.arraylength, 1) := by decide +kernel
theorem dJ7_copyOf_59c91_24 : decode cJ7_copyOf_59c91 24 = .ok (.iload_n 1, 1) := by decide +kernel
theorem dJ7_copyOf_59c91_25 : decode cJ7_copyOf_59c91 25 = .ok (.invokestatic 304, 3) := by decide +kernel
theorem dJ7_copyOf_59c91_28 : decode cJ7_copyOf_59c91 28 = .ok (.invokestatic 150, 3) := by decide +kernel
theorem dJ7_copyOf_59c91_31 : decode cJ7_copyOf_59c91 31 = .ok (.aload_n 2, 1) := by decide +kernel
theorem dJ7_copyOf_59c91_32 : decode cJ7_copyOf_59c91 32 = .ok (.areturn, 1) := by decide +kernel
theorem dJ7_copyOf_c38d5_0 : decode cJ7_copyOf_c38d5 0 = .ok (.iload_n 1, 1) := by decide +kernel
theorem dJ7_copyOf_c38d5_1 : decode cJ7_copyOf_c38d5 1 = .ok (.aload_n 0, 1) := by decide +kernel
theorem dJ7_copyOf_c38d5_2 : decode cJ7_copyOf_c38d5 2 = .ok (.arraylength, 1) := by decide +kernel
theorem dJ7_copyOf_c38d5_3 : decode cJ7_copyOf_c38d5 3 = .ok (.if_icmp .ne 11, 3) := by decide +kernel
theorem dJ7_copyOf_c38d5_6 : decode cJ7_copyOf_c38d5 6 = .ok (.aload_n 0, 1) := by decide +kernel
theorem dJ7_copyOf_c38d5_7 : decode cJ7_copyOf_c38d5 7 = .ok (.invokevirtual 319, 3) := by decide +kernel
theorem dJ7_copyOf_c38d5_10 : decode cJ7_copyOf_c38d5 10 = .ok (.checkcast 320, 3) := by decide +kernel
theorem dJ7_copyOf_c38d5_13 : decode cJ7_copyOf_c38d5 13 = .ok (.areturn, 1) := by decide +kernel
theorem dJ7_copyOf_c38d5_14 : decode cJ7_copyOf_c38d5 14 = .ok (.iload_n 1, 1) := by decide +kernel
theorem dJ7_copyOf_c38d5_15 : decode cJ7_copyOf_c38d5 15 = .ok (.newarray .long, 2) := by decide +kernel
theorem dJ7_copyOf_c38d5_17 : decode cJ7_copyOf_c38d5 17 = .ok (.astore_n 2, 1) := by decide +kernel
theorem dJ7_copyOf_c38d5_18 : decode cJ7_copyOf_c38d5 18 = .ok (.aload_n 0, 1) := by decide +kernel
theorem dJ7_copyOf_c38d5_19 : decode cJ7_copyOf_c38d5 19 = .ok (.iconst 0, 1) := by decide +kernel
theorem dJ7_copyOf_c38d5_20 : decode cJ7_copyOf_c38d5 20 = .ok (.aload_n 2, 1) := by decide +kernel
theorem dJ7_copyOf_c38d5_21 : decode cJ7_copyOf_c38d5 21 = .ok (.iconst 0, 1) := by decide +kernel
theorem dJ7_copyOf_c38d5_22 : decode cJ7_copyOf_c38d5 22 = .ok (.aload_n 0, 1) := by decide +kernel
theorem dJ7_copyOf_c38d5_23 : decode cJ7_copyOf_c38d5 23 = .ok (.arraylength, 1) := by decide +kernel
theorem dJ7_copyOf_c38d5_24 : decode cJ7_copyOf_c38d5 24 = .ok (.iload_n 1, 1) := by decide +kernel
theorem dJ7_copyOf_c38d5_25 : decode cJ7_copyOf_c38d5 25 = .ok (.invokestatic 304, 3) := by decide +kernel
theorem dJ7_copyOf_c38d5_28 : decode cJ7_copyOf_c38d5 28 = .ok (.invokestatic 150, 3) := by decide +kernel
theorem dJ7_copyOf_c38d5_31 : decode cJ7_copyOf_c38d5 31 = .ok (.aload_n 2, 1) := by decide +kernel
theorem dJ7_copyOf_c38d5_32 : decode cJ7_copyOf_c38d5 32 = .ok (.areturn, 1) := by decide +kernel
theorem dL_law_0 : decode cL_law 0 = .ok (.new 7, 3) := by decide +kernel
theorem dL_law_3 : decode cL_law 3 = .ok (.dup, 1) := by decide +kernel
theorem dL_law_4 : decode cL_law 4 = .ok (.invokespecial 9, 3) := by decide +kernel
theorem dL_law_7 : decode cL_law 7 = .ok (.astore_n 1, 1) := by decide +kernel
theorem dL_law_8 : decode cL_law 8 = .ok (.new 10, 3) := by decide +kernel
theorem dL_law_11 : decode cL_law 11 = .ok (.dup, 1) := by decide +kernel
theorem dL_law_12 : decode cL_law 12 = .ok (.invokespecial 12, 3) := by decide +kernel
theorem dL_law_15 : decode cL_law 15 = .ok (.astore_n 2, 1) := by decide +kernel
theorem dL_law_16 : decode cL_law 16 = .ok (.iconst 0, 1) := by decide +kernel
theorem dL_law_17 : decode cL_law 17 = .ok (.istore_n 3, 1) := by decide +kernel
theorem dL_law_18 : decode cL_law 18 = .ok (.iload_n 3, 1) := by decide +kernel
theorem dL_law_19 : decode cL_law 19 = .ok (.aload_n 0, 1) := by decide +kernel
theorem dL_law_20 : decode cL_law 20 = .ok (.arraylength, 1) := by decide +kernel
theorem dL_law_21 : decode cL_law 21 = .ok (.iconst 5, 1) := by decide +kernel
theorem dL_law_22 : decode cL_law 22 = .ok (.isub, 1) := by decide +kernel
theorem dL_law_23 : decode cL_law 23 = .ok (.if_icmp .gt 366, 3) := by decide +kernel
theorem dL_law_26 : decode cL_law 26 = .ok (.aload_n 0, 1) := by decide +kernel
theorem dL_law_27 : decode cL_law 27 = .ok (.iload_n 3, 1) := by decide +kernel
theorem dL_law_28 : decode cL_law 28 = .ok (.iaload, 1) := by decide +kernel
theorem dL_law_29 : decode cL_law 29 = .ok (.bipush 15, 2) := by decide +kernel
theorem dL_law_31 : decode cL_law 31 = .ok (.iand, 1) := by decide +kernel
theorem dL_law_32 : decode cL_law 32 = .ok (.tableswitch 351 0 10 #[60, 113, 146, 157, 170, 183, 216, 249, 262, 295, 318], 60) := by decide +kernel
theorem dL_law_92 : decode cL_law 92 = .ok (.aload_n 1, 1) := by decide +kernel
theorem dL_law_93 : decode cL_law 93 = .ok (.aload_n 0, 1) := by decide +kernel
theorem dL_law_94 : decode cL_law 94 = .ok (.iload_n 3, 1) := by decide +kernel
theorem dL_law_95 : decode cL_law 95 = .ok (.iconst 1, 1) := by decide +kernel
theorem dL_law_96 : decode cL_law 96 = .ok (.iadd, 1) := by decide +kernel
theorem dL_law_97 : decode cL_law 97 = .ok (.iaload, 1) := by decide +kernel
theorem dL_law_98 : decode cL_law 98 = .ok (.aload_n 0, 1) := by decide +kernel
theorem dL_law_99 : decode cL_law 99 = .ok (.iload_n 3, 1) := by decide +kernel
theorem dL_law_100 : decode cL_law 100 = .ok (.iconst 2, 1) := by decide +kernel
theorem dL_law_101 : decode cL_law 101 = .ok (.iadd, 1) := by decide +kernel
theorem dL_law_102 : decode cL_law 102 = .ok (.iaload, 1) := by decide +kernel
theorem dL_law_103 : decode cL_law 103 = .ok (.aload_n 0, 1) := by decide +kernel
theorem dL_law_104 : decode cL_law 104 = .ok (.iload_n 3, 1) := by decide +kernel
theorem dL_law_105 : decode cL_law 105 = .ok (.iconst 3, 1) := by decide +kernel
theorem dL_law_106 : decode cL_law 106 = .ok (.iadd, 1) := by decide +kernel
theorem dL_law_107 : decode cL_law 107 = .ok (.iaload, 1) := by decide +kernel
theorem dL_law_108 : decode cL_law 108 = .ok (.aload_n 0, 1) := by decide +kernel
theorem dL_law_109 : decode cL_law 109 = .ok (.iload_n 3, 1) := by decide +kernel
theorem dL_law_110 : decode cL_law 110 = .ok (.iconst 4, 1) := by decide +kernel
theorem dL_law_111 : decode cL_law 111 = .ok (.iadd, 1) := by decide +kernel
theorem dL_law_112 : decode cL_law 112 = .ok (.iaload, 1) := by decide +kernel
theorem dL_law_113 : decode cL_law 113 = .ok (.invokevirtual 13, 3) := by decide +kernel
theorem dL_law_116 : decode cL_law 116 = .ok (.aload_n 2, 1) := by decide +kernel
theorem dL_law_117 : decode cL_law 117 = .ok (.aload_n 0, 1) := by decide +kernel
theorem dL_law_118 : decode cL_law 118 = .ok (.iload_n 3, 1) := by decide +kernel
theorem dL_law_119 : decode cL_law 119 = .ok (.iconst 1, 1) := by decide +kernel
theorem dL_law_120 : decode cL_law 120 = .ok (.iadd, 1) := by decide +kernel
theorem dL_law_121 : decode cL_law 121 = .ok (.iaload, 1) := by decide +kernel
theorem dL_law_122 : decode cL_law 122 = .ok (.aload_n 0, 1) := by decide +kernel
theorem dL_law_123 : decode cL_law 123 = .ok (.iload_n 3, 1) := by decide +kernel
theorem dL_law_124 : decode cL_law 124 = .ok (.iconst 2, 1) := by decide +kernel
theorem dL_law_125 : decode cL_law 125 = .ok (.iadd, 1) := by decide +kernel
theorem dL_law_126 : decode cL_law 126 = .ok (.iaload, 1) := by decide +kernel
theorem dL_law_127 : decode cL_law 127 = .ok (.aload_n 0, 1) := by decide +kernel
theorem dL_law_128 : decode cL_law 128 = .ok (.iload_n 3, 1) := by decide +kernel
theorem dL_law_129 : decode cL_law 129 = .ok (.iconst 3, 1) := by decide +kernel
theorem dL_law_130 : decode cL_law 130 = .ok (.iadd, 1) := by decide +kernel
theorem dL_law_131 : decode cL_law 131 = .ok (.iaload, 1) := by decide +kernel
theorem dL_law_132 : decode cL_law 132 = .ok (.aload_n 0, 1) := by decide +kernel
theorem dL_law_133 : decode cL_law 133 = .ok (.iload_n 3, 1) := by decide +kernel
theorem dL_law_134 : decode cL_law 134 = .ok (.iconst 4, 1) := by decide +kernel
theorem dL_law_135 : decode cL_law 135 = .ok (.iadd, 1) := by decide +kernel
theorem dL_law_136 : decode cL_law 136 = .ok (.iaload, 1) := by decide +kernel
theorem dL_law_137 : decode cL_law 137 = .ok (.invokevirtual 17, 3) := by decide +kernel
theorem dL_law_140 : decode cL_law 140 = .ok (.if_icmp .eq 243, 3) := by decide +kernel
theorem dL_law_143 : decode cL_law 143 = .ok (.iconst 0, 1) := by decide +kernel
theorem dL_law_144 : decode cL_law 144 = .ok (.ireturn, 1) := by decide +kernel
theorem dL_law_145 : decode cL_law 145 = .ok (.aload_n 1, 1) := by decide +kernel
theorem dL_law_146 : decode cL_law 146 = .ok (.aload_n 0, 1) := by decide +kernel
theorem dL_law_147 : decode cL_law 147 = .ok (.iload_n 3, 1) := by decide +kernel
theorem dL_law_148 : decode cL_law 148 = .ok (.iconst 1, 1) := by decide +kernel
theorem dL_law_149 : decode cL_law 149 = .ok (.iadd, 1) := by decide +kernel
theorem dL_law_150 : decode cL_law 150 = .ok (.iaload, 1) := by decide +kernel
theorem dL_law_151 : decode cL_law 151 = .ok (.aload_n 0, 1) := by decide +kernel
theorem dL_law_152 : decode cL_law 152 = .ok (.iload_n 3, 1) := by decide +kernel
theorem dL_law_153 : decode cL_law 153 = .ok (.iconst 2, 1) := by decide +kernel
theorem dL_law_154 : decode cL_law 154 = .ok (.iadd, 1) := by decide +kernel
theorem dL_law_155 : decode cL_law 155 = .ok (.iaload, 1) := by decide +kernel
theorem dL_law_156 : decode cL_law 156 = .ok (.invokevirtual 18, 3) := by decide +kernel
theorem dL_law_159 : decode cL_law 159 = .ok (.aload_n 2, 1) := by decide +kernel
theorem dL_law_160 : decode cL_law 160 = .ok (.aload_n 0, 1) := by decide +kernel
theorem dL_law_161 : decode cL_law 161 = .ok (.iload_n 3, 1) := by decide +kernel
theorem dL_law_162 : decode cL_law 162 = .ok (.iconst 1, 1) := by decide +kernel
theorem dL_law_163 : decode cL_law 163 = .ok (.iadd, 1) := by decide +kernel
theorem dL_law_164 : decode cL_law 164 = .ok (.iaload, 1) := by decide +kernel
theorem dL_law_165 : decode cL_law 165 = .ok (.aload_n 0, 1) := by decide +kernel
theorem dL_law_166 : decode cL_law 166 = .ok (.iload_n 3, 1) := by decide +kernel
theorem dL_law_167 : decode cL_law 167 = .ok (.iconst 2, 1) := by decide +kernel
theorem dL_law_168 : decode cL_law 168 = .ok (.iadd, 1) := by decide +kernel
theorem dL_law_169 : decode cL_law 169 = .ok (.iaload, 1) := by decide +kernel
theorem dL_law_170 : decode cL_law 170 = .ok (.invokevirtual 22, 3) := by decide +kernel
theorem dL_law_173 : decode cL_law 173 = .ok (.if_icmp .eq 210, 3) := by decide +kernel
theorem dL_law_176 : decode cL_law 176 = .ok (.iconst 0, 1) := by decide +kernel
theorem dL_law_177 : decode cL_law 177 = .ok (.ireturn, 1) := by decide +kernel
theorem dL_law_178 : decode cL_law 178 = .ok (.aload_n 1, 1) := by decide +kernel
theorem dL_law_179 : decode cL_law 179 = .ok (.invokevirtual 23, 3) := by decide +kernel
theorem dL_law_182 : decode cL_law 182 = .ok (.aload_n 2, 1) := by decide +kernel
theorem dL_law_183 : decode cL_law 183 = .ok (.invokevirtual 26, 3) := by decide +kernel
theorem dL_law_186 : decode cL_law 186 = .ok (.goto 197, 3) := by decide +kernel
theorem dL_law_189 : decode cL_law 189 = .ok (.aload_n 1, 1) := by decide +kernel
theorem dL_law_190 : decode cL_law 190 = .ok (.invokevirtual 27, 3) := by decide +kernel
theorem dL_law_193 : decode cL_law 193 = .ok (.aload_n 2, 1) := by decide +kernel
theorem dL_law_194 : decode cL_law 194 = .ok (.invokevirtual 31, 3) := by decide +kernel
theorem dL_law_197 : decode cL_law 197 = .ok (.if_icmp .eq 186, 3) := by decide +kernel
theorem dL_law_200 : decode cL_law 200 = .ok (.iconst 0, 1) := by decide +kernel
theorem dL_law_201 : decode cL_law 201 = .ok (.ireturn, 1) := by decide +kernel
theorem dL_law_202 : decode cL_law 202 = .ok (.aload_n 1, 1) := by decide +kernel
theorem dL_law_203 : decode cL_law 203 = .ok (.invokevirtual 32, 3) := by decide +kernel
theorem dL_law_206 : decode cL_law 206 = .ok (.aload_n 2, 1) := by decide +kernel
theorem dL_law_207 : decode cL_law 207 = .ok (.invokevirtual 35, 3) := by decide +kernel
theorem dL_law_210 : decode cL_law 210 = .ok (.if_icmp .eq 173, 3) := by decide +kernel
theorem dL_law_213 : decode cL_law 213 = .ok (.iconst 0, 1) := by decide +kernel
theorem dL_law_214 : decode cL_law 214 = .ok (.ireturn, 1) := by decide +kernel
theorem dL_law_215 : decode cL_law 215 = .ok (.aload_n 1, 1) := by decide +kernel
theorem dL_law_216 : decode cL_law 216 = .ok (.aload_n 0, 1) := by decide +kernel
theorem dL_law_217 : decode cL_law 217 = .ok (.iload_n 3, 1) := by decide +kernel
theorem dL_law_218 : decode cL_law 218 = .ok (.iconst 1, 1) := by decide +kernel
theorem dL_law_219 : decode cL_law 219 = .ok (.iadd, 1) := by decide +kernel
theorem dL_law_220 : decode cL_law 220 = .ok (.iaload, 1) := by decide +kernel
theorem dL_law_221 : decode cL_law 221 = .ok (.aload_n 0, 1) := by decide +kernel
theorem dL_law_222 : decode cL_law 222 = .ok (.iload_n 3, 1) := by decide +kernel
theorem dL_law_223 : decode cL_law 223 = .ok (.iconst 2, 1) := by decide +kernel
theorem dL_law_224 : decode cL_law 224 = .ok (.iadd, 1) := by decide +kernel
theorem dL_law_225 : decode cL_law 225 = .ok (.iaload, 1) := by decide +kernel
theorem dL_law_226 : decode cL_law 226 = .ok (.invokevirtual 36, 3) := by decide +kernel
theorem dL_law_229 : decode cL_law 229 = .ok (.aload_n 2, 1) := by decide +kernel
theorem dL_law_230 : decode cL_law 230 = .ok (.aload_n 0, 1) := by decide +kernel
theorem dL_law_231 : decode cL_law 231 = .ok (.iload_n 3, 1) := by decide +kernel
theorem dL_law_232 : decode cL_law 232 = .ok (.iconst 1, 1) := by decide +kernel
theorem dL_law_233 : decode cL_law 233 = .ok (.iadd, 1) := by decide +kernel
theorem dL_law_234 : decode cL_law 234 = .ok (.iaload, 1) := by decide +kernel
theorem dL_law_235 : decode cL_law 235 = .ok (.aload_n 0, 1) := by decide +kernel
theorem dL_law_236 : decode cL_law 236 = .ok (.iload_n 3, 1) := by decide +kernel
theorem dL_law_237 : decode cL_law 237 = .ok (.iconst 2, 1) := by decide +kernel
theorem dL_law_238 : decode cL_law 238 = .ok (.iadd, 1) := by decide +kernel
theorem dL_law_239 : decode cL_law 239 = .ok (.iaload, 1) := by decide +kernel
theorem dL_law_240 : decode cL_law 240 = .ok (.invokevirtual 39, 3) := by decide +kernel
theorem dL_law_243 : decode cL_law 243 = .ok (.if_icmp .eq 140, 3) := by decide +kernel
theorem dL_law_246 : decode cL_law 246 = .ok (.iconst 0, 1) := by decide +kernel
theorem dL_law_247 : decode cL_law 247 = .ok (.ireturn, 1) := by decide +kernel
theorem dL_law_248 : decode cL_law 248 = .ok (.aload_n 1, 1) := by decide +kernel
theorem dL_law_249 : decode cL_law 249 = .ok (.aload_n 0, 1) := by decide +kernel
theorem dL_law_250 : decode cL_law 250 = .ok (.iload_n 3, 1) := by decide +kernel
theorem dL_law_251 : decode cL_law 251 = .ok (.iconst 1, 1) := by decide +kernel
theorem dL_law_252 : decode cL_law 252 = .ok (.iadd, 1) := by decide +kernel
theorem dL_law_253 : decode cL_law 253 = .ok (.iaload, 1) := by decide +kernel
theorem dL_law_254 : decode cL_law 254 = .ok (.aload_n 0, 1) := by decide +kernel
theorem dL_law_255 : decode cL_law 255 = .ok (.iload_n 3, 1) := by decide +kernel
theorem dL_law_256 : decode cL_law 256 = .ok (.iconst 2, 1) := by decide +kernel
theorem dL_law_257 : decode cL_law 257 = .ok (.iadd, 1) := by decide +kernel
theorem dL_law_258 : decode cL_law 258 = .ok (.iaload, 1) := by decide +kernel
theorem dL_law_259 : decode cL_law 259 = .ok (.invokevirtual 40, 3) := by decide +kernel
theorem dL_law_262 : decode cL_law 262 = .ok (.aload_n 2, 1) := by decide +kernel
theorem dL_law_263 : decode cL_law 263 = .ok (.aload_n 0, 1) := by decide +kernel
theorem dL_law_264 : decode cL_law 264 = .ok (.iload_n 3, 1) := by decide +kernel
theorem dL_law_265 : decode cL_law 265 = .ok (.iconst 1, 1) := by decide +kernel
theorem dL_law_266 : decode cL_law 266 = .ok (.iadd, 1) := by decide +kernel
theorem dL_law_267 : decode cL_law 267 = .ok (.iaload, 1) := by decide +kernel
theorem dL_law_268 : decode cL_law 268 = .ok (.aload_n 0, 1) := by decide +kernel
theorem dL_law_269 : decode cL_law 269 = .ok (.iload_n 3, 1) := by decide +kernel
theorem dL_law_270 : decode cL_law 270 = .ok (.iconst 2, 1) := by decide +kernel
theorem dL_law_271 : decode cL_law 271 = .ok (.iadd, 1) := by decide +kernel
theorem dL_law_272 : decode cL_law 272 = .ok (.iaload, 1) := by decide +kernel
theorem dL_law_273 : decode cL_law 273 = .ok (.invokevirtual 43, 3) := by decide +kernel
theorem dL_law_276 : decode cL_law 276 = .ok (.if_icmp .eq 107, 3) := by decide +kernel
theorem dL_law_279 : decode cL_law 279 = .ok (.iconst 0, 1) := by decide +kernel
theorem dL_law_280 : decode cL_law 280 = .ok (.ireturn, 1) := by decide +kernel
theorem dL_law_281 : decode cL_law 281 = .ok (.aload_n 1, 1) := by decide +kernel
theorem dL_law_282 : decode cL_law 282 = .ok (.invokevirtual 44, 3) := by decide +kernel
theorem dL_law_285 : decode cL_law 285 = .ok (.aload_n 2, 1) := by decide +kernel
theorem dL_law_286 : decode cL_law 286 = .ok (.invokevirtual 47, 3) := by decide +kernel
theorem dL_law_289 : decode cL_law 289 = .ok (.if_icmp .eq 94, 3) := by decide +kernel
theorem dL_law_292 : decode cL_law 292 = .ok (.iconst 0, 1) := by decide +kernel
theorem dL_law_293 : decode cL_law 293 = .ok (.ireturn, 1) := by decide +kernel
theorem dL_law_294 : decode cL_law 294 = .ok (.aload_n 1, 1) := by decide +kernel
theorem dL_law_295 : decode cL_law 295 = .ok (.aload_n 0, 1) := by decide +kernel
theorem dL_law_296 : decode cL_law 296 = .ok (.iload_n 3, 1) := by decide +kernel
theorem dL_law_297 : decode cL_law 297 = .ok (.iconst 1, 1) := by decide +kernel
theorem dL_law_298 : decode cL_law 298 = .ok (.iadd, 1) := by decide +kernel
theorem dL_law_299 : decode cL_law 299 = .ok (.iaload, 1) := by decide +kernel
theorem dL_law_300 : decode cL_law 300 = .ok (.aload_n 0, 1) := by decide +kernel
theorem dL_law_301 : decode cL_law 301 = .ok (.iload_n 3, 1) := by decide +kernel
theorem dL_law_302 : decode cL_law 302 = .ok (.iconst 2, 1) := by decide +kernel
theorem dL_law_303 : decode cL_law 303 = .ok (.iadd, 1) := by decide +kernel
theorem dL_law_304 : decode cL_law 304 = .ok (.iaload, 1) := by decide +kernel
theorem dL_law_305 : decode cL_law 305 = .ok (.invokevirtual 48, 3) := by decide +kernel
theorem dL_law_308 : decode cL_law 308 = .ok (.aload_n 2, 1) := by decide +kernel
theorem dL_law_309 : decode cL_law 309 = .ok (.aload_n 0, 1) := by decide +kernel
theorem dL_law_310 : decode cL_law 310 = .ok (.iload_n 3, 1) := by decide +kernel
theorem dL_law_311 : decode cL_law 311 = .ok (.iconst 1, 1) := by decide +kernel
theorem dL_law_312 : decode cL_law 312 = .ok (.iadd, 1) := by decide +kernel
theorem dL_law_313 : decode cL_law 313 = .ok (.iaload, 1) := by decide +kernel
theorem dL_law_314 : decode cL_law 314 = .ok (.aload_n 0, 1) := by decide +kernel
theorem dL_law_315 : decode cL_law 315 = .ok (.iload_n 3, 1) := by decide +kernel
theorem dL_law_316 : decode cL_law 316 = .ok (.iconst 2, 1) := by decide +kernel
theorem dL_law_317 : decode cL_law 317 = .ok (.iadd, 1) := by decide +kernel
theorem dL_law_318 : decode cL_law 318 = .ok (.iaload, 1) := by decide +kernel
theorem dL_law_319 : decode cL_law 319 = .ok (.invokevirtual 51, 3) := by decide +kernel
theorem dL_law_322 : decode cL_law 322 = .ok (.if_icmp .eq 61, 3) := by decide +kernel
theorem dL_law_325 : decode cL_law 325 = .ok (.iconst 0, 1) := by decide +kernel
theorem dL_law_326 : decode cL_law 326 = .ok (.ireturn, 1) := by decide +kernel
theorem dL_law_327 : decode cL_law 327 = .ok (.aload_n 1, 1) := by decide +kernel
theorem dL_law_328 : decode cL_law 328 = .ok (.aload_n 0, 1) := by decide +kernel
theorem dL_law_329 : decode cL_law 329 = .ok (.iload_n 3, 1) := by decide +kernel
theorem dL_law_330 : decode cL_law 330 = .ok (.iconst 1, 1) := by decide +kernel
theorem dL_law_331 : decode cL_law 331 = .ok (.iadd, 1) := by decide +kernel
theorem dL_law_332 : decode cL_law 332 = .ok (.iaload, 1) := by decide +kernel
theorem dL_law_333 : decode cL_law 333 = .ok (.invokevirtual 52, 3) := by decide +kernel
theorem dL_law_336 : decode cL_law 336 = .ok (.aload_n 2, 1) := by decide +kernel
theorem dL_law_337 : decode cL_law 337 = .ok (.aload_n 0, 1) := by decide +kernel
theorem dL_law_338 : decode cL_law 338 = .ok (.iload_n 3, 1) := by decide +kernel
theorem dL_law_339 : decode cL_law 339 = .ok (.iconst 1, 1) := by decide +kernel
theorem dL_law_340 : decode cL_law 340 = .ok (.iadd, 1) := by decide +kernel
theorem dL_law_341 : decode cL_law 341 = .ok (.iaload, 1) := by decide +kernel
theorem dL_law_342 : decode cL_law 342 = .ok (.invokevirtual 56, 3) := by decide +kernel
theorem dL_law_345 : decode cL_law 345 = .ok (.if_icmp .eq 38, 3) := by decide +kernel
theorem dL_law_348 : decode cL_law 348 = .ok (.iconst 0, 1) := by decide +kernel
theorem dL_law_349 : decode cL_law 349 = .ok (.ireturn, 1) := by decide +kernel
theorem dL_law_350 : decode cL_law 350 = .ok (.aload_n 1, 1) := by decide +kernel
theorem dL_law_351 : decode cL_law 351 = .ok (.aload_n 0, 1) := by decide +kernel
theorem dL_law_352 : decode cL_law 352 = .ok (.iload_n 3, 1) := by decide +kernel
theorem dL_law_353 : decode cL_law 353 = .ok (.iconst 1, 1) := by decide +kernel
theorem dL_law_354 : decode cL_law 354 = .ok (.iadd, 1) := by decide +kernel
theorem dL_law_355 : decode cL_law 355 = .ok (.iaload, 1) := by decide +kernel
theorem dL_law_356 : decode cL_law 356 = .ok (.aload_n 0, 1) := by decide +kernel
theorem dL_law_357 : decode cL_law 357 = .ok (.iload_n 3, 1) := by decide +kernel
theorem dL_law_358 : decode cL_law 358 = .ok (.iconst 2, 1) := by decide +kernel
theorem dL_law_359 : decode cL_law 359 = .ok (.iadd, 1) := by decide +kernel
theorem dL_law_360 : decode cL_law 360 = .ok (.iaload, 1) := by decide +kernel
theorem dL_law_361 : decode cL_law 361 = .ok (.invokevirtual 57, 3) := by decide +kernel
theorem dL_law_364 : decode cL_law 364 = .ok (.aload_n 2, 1) := by decide +kernel
theorem dL_law_365 : decode cL_law 365 = .ok (.aload_n 0, 1) := by decide +kernel
theorem dL_law_366 : decode cL_law 366 = .ok (.iload_n 3, 1) := by decide +kernel
theorem dL_law_367 : decode cL_law 367 = .ok (.iconst 1, 1) := by decide +kernel
theorem dL_law_368 : decode cL_law 368 = .ok (.iadd, 1) := by decide +kernel
theorem dL_law_369 : decode cL_law 369 = .ok (.iaload, 1) := by decide +kernel
theorem dL_law_370 : decode cL_law 370 = .ok (.aload_n 0, 1) := by decide +kernel
theorem dL_law_371 : decode cL_law 371 = .ok (.iload_n 3, 1) := by decide +kernel
theorem dL_law_372 : decode cL_law 372 = .ok (.iconst 2, 1) := by decide +kernel
theorem dL_law_373 : decode cL_law 373 = .ok (.iadd, 1) := by decide +kernel
theorem dL_law_374 : decode cL_law 374 = .ok (.iaload, 1) := by decide +kernel
theorem dL_law_375 : decode cL_law 375 = .ok (.invokevirtual 60, 3) := by decide +kernel
theorem dL_law_378 : decode cL_law 378 = .ok (.if_icmp .eq 5, 3) := by decide +kernel
theorem dL_law_381 : decode cL_law 381 = .ok (.iconst 0, 1) := by decide +kernel
theorem dL_law_382 : decode cL_law 382 = .ok (.ireturn, 1) := by decide +kernel
theorem dL_law_383 : decode cL_law 383 = .ok (.iinc 3 5, 3) := by decide +kernel
theorem dL_law_386 : decode cL_law 386 = .ok (.goto (-368), 3) := by decide +kernel
theorem dL_law_389 : decode cL_law 389 = .ok (.iconst 1, 1) := by decide +kernel
theorem dL_law_390 : decode cL_law 390 = .ok (.ireturn, 1) := by decide +kernel
abbrev vwCl : List vw_C := [(RX0, TX0, 2), (RX1, TX1, 9), (RX2, TX2, 3), (RX3, TX3, 6), (RX4, TX4, 2), (RX5, TX5, 2), (RX6, TX6, 18)]
end
section
/-! THE SMALL MACHINE: the methods' bytecode run over a small heap. An object's number is its place in the order of all cells made (from the law's entry on); an array lies in the field that holds it, at most one new array is in no field. Values: .inl v a value (.ref k object k, .retAddr the script), .inr p an array: of the field p, or the new one. -/
abbrev hc_R : Type := Nat × ((Nat → Int32) ⊕ (Nat → Int64))
abbrev hc_V : Type := Value ⊕ Option (Nat × Nat)
abbrev hc_F : Type := Value ⊕ hc_R
abbrev hc_O : Type := Nat × List hc_F
abbrev hc_H : Type := Nat → Option hc_O
/-- epoch (grows when a path may go stale), cells made, slots made, the new array's place, the places of the fields' arrays -/
abbrev hc_G : Type := Nat × Nat × Nat × Nat × (Nat → Nat → Nat)
abbrev hc_T : Type := Option hc_R
abbrev hc_L : Type := List (Option hc_V)
abbrev hc_Z : Type := hc_G × hc_H × hc_T × Option hc_V
abbrev hc_Q : Type := hc_G → hc_H → hc_T → Option hc_V → Prop
def hc_set (σ : hc_H) (k : Nat) (o : hc_O) : hc_H := fun i => if i = k then some o else σ i
def hc_gA (G : hc_G) (n : Nat) : hc_G := (G.1 + 1, G.2.1 + 1, G.2.2.1 + n, G.2.1, G.2.2.2.2)
def hc_gO (G : hc_G) (n : Nat) : hc_G := (G.1, G.2.1 + 1, G.2.2.1 + n, G.2.2.2.1, G.2.2.2.2)
def hc_gM (G : hc_G) (k j : Nat) : hc_G := (G.1 + 1, G.2.1, G.2.2.1, G.2.2.2.1, fun a b => if a = k ∧ b = j then G.2.2.2.1 else G.2.2.2.2 a b)
def hc_fv (k j : Nat) : hc_F → hc_V
  | .inl v => .inl v
  | .inr _ => .inr (some (k, j))
def hc_two : hc_V → Bool
  | .inl v => v.category == 2
  | .inr _ => false
def hc_pre (ls : hc_L) : Nat → hc_L
  | 0 => ls
  | j + 1 => match ls[j]? with
    | some (some w) => if hc_two w = true then ls.set j none else ls
    | _ => ls
def hc_sto (ls : hc_L) (i : Nat) (v : hc_V) : hc_L := if hc_two v = true then ((hc_pre ls i).set i (some v)).set (i + 1) none else (hc_pre ls i).set i (some v)
def hc_ent : List hc_V → hc_L
  | [] => []
  | v :: t => some v :: (if hc_two v = true then none :: hc_ent t else hc_ent t)
def hc_pad (n : Nat) (l : hc_L) : hc_L := l ++ List.replicate (n - l.length) none
/-- kind of a value: 0 int, 1 long, 2 reference -/
def hc_kd : hc_V → Nat
  | .inl (.int _) => 0
  | .inl (.long _) => 1
  | .inl (.ref _) => 2
  | .inl (.retAddr _) => 2
  | .inr _ => 2
  | _ => 9
def hc_ld (c : Nat) (ls : hc_L) (i : Nat) : Option hc_V := match ls[i]? with
  | some (some v) => if hc_kd v = c then some v else none
  | _ => none
/-- no path in the stack; no new array in the stack; no new array in the locals -/
def hc_np : List hc_V → Bool
  | [] => true
  | .inr _ :: _ => false
  | .inl _ :: t => hc_np t
def hc_k1 : Option hc_V → Option hc_V
  | some (.inr _) => none
  | some (.inl v) => some (.inl v)
  | none => none
def hc_kp (ls : hc_L) : hc_L := ls.map hc_k1
def hc_nt (o : Option hc_V) : Bool := match o with
  | some (.inr none) => false
  | _ => true
def hc_in (i : Int32) (n : Nat) : Prop := ¬ i < 0 ∧ i.toNatClampNeg < n
def hc_inB (i : Int32) (n : Nat) : Bool := decide (¬ i < 0) && decide (i.toNatClampNeg < n)
def hc_row (σ : hc_H) (t : hc_T) : hc_V → Option hc_R
  | .inr none => t
  | .inr (some (k, j)) => match σ k with
    | some (c, fs) => if c < 99 then (match fs[j]? with
      | some (.inr r) => some r
      | _ => none) else none
    | none => none
  | .inl (.retAddr _) => match σ 1000 with
    | some (c, [.inr r]) => if c = 99 then some r else none
    | _ => none
  | _ => none
def hc_wr (σ : hc_H) (t : hc_T) (r : hc_R) : hc_V → Option (hc_H × hc_T)
  | .inr none => match t with
    | some _ => some (σ, some r)
    | none => none
  | .inr (some (k, j)) => match σ k with
    | some (c, fs) => if c < 99 then some (hc_set σ k (c, fs.set j (.inr r)), t) else none
    | none => none
  | _ => none
def hc_psh (r : Option hc_V) (st : List hc_V) : List hc_V := match r with
  | some v => v :: st
  | none => st
def hc_cm (c : Jvm.ClassFile.Cond) (x y : Int32) : Bool := match c with
  | .eq => decide (x = y)
  | .ne => decide (¬ x = y)
  | .lt => decide (x < y)
  | .ge => decide (y ≤ x)
  | .gt => decide (y < x)
  | .le => decide (x ≤ y)
def hc_tg (pc : Nat) (off : Int) : Nat := ((pc : Int) + off).toNat
def hc_fit (ty : FieldType) (w : Value) : Bool := match ty, w with
  | .int, .int _ => true
  | .long, .long _ => true
  | .boolean, .int x => decide (x = 0) || decide (x = 1)
  | .object _, .ref _ => true
  | .object _, .null => true
  | _, _ => false
/-! THE TABLES: methods by number, classes 0..6 the claim's own, 7 Math, 8 Arrays, 9 the law -/
def hc_cn : Nat → String
  | 0 => RX0
  | 1 => RX1
  | 2 => RX2
  | 3 => RX3
  | 4 => RX4
  | 5 => RX5
  | 6 => RX6
  | 7 => RJ9
  | 8 => RJ7
  | 9 => RL
  | _ => ""
def hc_ft : Nat → u_T
  | 0 => TX0
  | 1 => TX1
  | 2 => TX2
  | 3 => TX3
  | 4 => TX4
  | 5 => TX5
  | 6 => TX6
  | _ => TX0
def hc_fn : Nat → Nat
  | 0 => 2
  | 1 => 9
  | 2 => 3
  | 3 => 6
  | 4 => 2
  | 5 => 2
  | 6 => 18
  | _ => 0
def hc_ty : Nat → Nat → FieldType
  | 0 => tyX0
  | 1 => tyX1
  | 2 => tyX2
  | 3 => tyX3
  | 4 => tyX4
  | 5 => tyX5
  | 6 => tyX6
  | _ => fun _ => .int
def hc_fin (c j : Nat) : Bool := (hc_ft c j).2.2.2
def hc_arr (ty : FieldType) (r : hc_R) : Bool := match ty, r.2 with
  | .array .int, .inl _ => true
  | .array .long, .inr _ => true
  | _, _ => false
def hc_own : Nat → Nat
  | 0 => 0
  | 1 => 0
  | 2 => 0
  | 3 => 0
  | 4 => 0
  | 5 => 1
  | 6 => 1
  | 7 => 1
  | 8 => 1
  | 9 => 1
  | 10 => 1
  | 11 => 1
  | 12 => 1
  | 13 => 1
  | 14 => 1
  | 15 => 1
  | 16 => 2
  | 17 => 2
  | 18 => 2
  | 19 => 2
  | 20 => 3
  | 21 => 3
  | 22 => 3
  | 23 => 3
  | 24 => 3
  | 25 => 3
  | 26 => 3
  | 27 => 3
  | 28 => 3
  | 29 => 3
  | 30 => 3
  | 31 => 3
  | 32 => 3
  | 33 => 3
  | 34 => 3
  | 35 => 3
  | 36 => 3
  | 37 => 3
  | 38 => 3
  | 39 => 3
  | 40 => 4
  | 41 => 4
  | 42 => 4
  | 43 => 5
  | 44 => 5
  | 45 => 5
  | 46 => 5
  | 47 => 5
  | 48 => 5
  | 49 => 5
  | 50 => 5
  | 51 => 5
  | 52 => 6
  | 53 => 6
  | 54 => 6
  | 55 => 6
  | 56 => 6
  | 57 => 6
  | 58 => 6
  | 59 => 6
  | 60 => 6
  | 61 => 6
  | 62 => 6
  | 63 => 6
  | 64 => 6
  | 65 => 6
  | 66 => 6
  | 67 => 6
  | 68 => 6
  | 69 => 6
  | 70 => 6
  | 71 => 6
  | 72 => 6
  | 73 => 6
  | 74 => 6
  | 75 => 6
  | 76 => 6
  | 77 => 6
  | 78 => 6
  | 79 => 6
  | 80 => 6
  | 81 => 6
  | 82 => 6
  | 83 => 6
  | 84 => 7
  | 85 => 7
  | 86 => 7
  | 87 => 7
  | 88 => 7
  | 89 => 7
  | 90 => 8
  | 91 => 8
  | 92 => 9
  | _ => 0
def hc_b : Nat → ByteArray
  | 0 => cX0_init
  | 1 => cX0_add
  | 2 => cX0_sort
  | 3 => cX0_sink
  | 4 => cX0_dropDoubles
  | 5 => cX1_init
  | 6 => cX1_takeNodes
  | 7 => cX1_takeWays
  | 8 => cX1_takeWay
  | 9 => cX1_gatherCells
  | 10 => cX1_addToWay
  | 11 => cX1_turnColumns
  | 12 => cX1_turnRow
  | 13 => cX1_listSteps
  | 14 => cX1_takePieces
  | 15 => cX1_countUnlike
  | 16 => cX2_init
  | 17 => cX2_add
  | 18 => cX2_makeRoom
  | 19 => cX2_firstNotBelow
  | 20 => cX3_init
  | 21 => cX3_edge
  | 22 => cX3_point
  | 23 => cX3_clear
  | 24 => cX3_lay
  | 25 => cX3_nodes
  | 26 => cX3_node
  | 27 => cX3_find
  | 28 => cX3_pieces
  | 29 => cX3_piece
  | 30 => cX3_way
  | 31 => cX3_wayNode
  | 32 => cX3_inBounds
  | 33 => cX3_gatherHotPlaces
  | 34 => cX3_settleHotPlaces
  | 35 => cX3_heatAll
  | 36 => cX3_heat
  | 37 => cX3_heatCrossings
  | 38 => cX3_heatCrossing
  | 39 => cX3_withRoom
  | 40 => cX4_init
  | 41 => cX4_clear
  | 42 => cX4_add
  | 43 => cX5_init
  | 44 => cX5_clear
  | 45 => cX5_keyOf
  | 46 => cX5_add
  | 47 => cX5_x
  | 48 => cX5_y
  | 49 => cX5_sort
  | 50 => cX5_sink
  | 51 => cX5_find
  | 52 => cX6_side
  | 53 => cX6_sign
  | 54 => cX6_isBetween
  | 55 => cX6_meeting
  | 56 => cX6_straight
  | 57 => cX6_init
  | 58 => cX6_isIn
  | 59 => cX6_edge
  | 60 => cX6_point
  | 61 => cX6_clear
  | 62 => cX6_end
  | 63 => cX6_lay
  | 64 => cX6_become
  | 65 => cX6_crossings
  | 66 => cX6_areFar
  | 67 => cX6_below
  | 68 => cX6_cross
  | 69 => cX6_atLeast
  | 70 => cX6_atMost
  | 71 => cX6_within
  | 72 => cX6_isThrough
  | 73 => cX6_projection
  | 74 => cX6_bend
  | 75 => cX6_firstFrom
  | 76 => cX6_insert
  | 77 => cX6_nodes
  | 78 => cX6_node
  | 79 => cX6_find
  | 80 => cX6_pieces
  | 81 => cX6_piece
  | 82 => cX6_way
  | 83 => cX6_wayNode
  | 84 => cJ9_floorDiv_f86c9
  | 85 => cJ9_abs_067f4
  | 86 => cJ9_max_7cf53
  | 87 => cJ9_max_f86c9
  | 88 => cJ9_min_7cf53
  | 89 => cJ9_min_f86c9
  | 90 => cJ7_copyOf_59c91
  | 91 => cJ7_copyOf_c38d5
  | 92 => cL_law
  | _ => cX0_init
def hc_y : Nat → MethodName
  | 0 => yX0_init
  | 1 => yX0_add
  | 2 => yX0_sort
  | 3 => yX0_sink
  | 4 => yX0_dropDoubles
  | 5 => yX1_init
  | 6 => yX1_takeNodes
  | 7 => yX1_takeWays
  | 8 => yX1_takeWay
  | 9 => yX1_gatherCells
  | 10 => yX1_addToWay
  | 11 => yX1_turnColumns
  | 12 => yX1_turnRow
  | 13 => yX1_listSteps
  | 14 => yX1_takePieces
  | 15 => yX1_countUnlike
  | 16 => yX2_init
  | 17 => yX2_add
  | 18 => yX2_makeRoom
  | 19 => yX2_firstNotBelow
  | 20 => yX3_init
  | 21 => yX3_edge
  | 22 => yX3_point
  | 23 => yX3_clear
  | 24 => yX3_lay
  | 25 => yX3_nodes
  | 26 => yX3_node
  | 27 => yX3_find
  | 28 => yX3_pieces
  | 29 => yX3_piece
  | 30 => yX3_way
  | 31 => yX3_wayNode
  | 32 => yX3_inBounds
  | 33 => yX3_gatherHotPlaces
  | 34 => yX3_settleHotPlaces
  | 35 => yX3_heatAll
  | 36 => yX3_heat
  | 37 => yX3_heatCrossings
  | 38 => yX3_heatCrossing
  | 39 => yX3_withRoom
  | 40 => yX4_init
  | 41 => yX4_clear
  | 42 => yX4_add
  | 43 => yX5_init
  | 44 => yX5_clear
  | 45 => yX5_keyOf
  | 46 => yX5_add
  | 47 => yX5_x
  | 48 => yX5_y
  | 49 => yX5_sort
  | 50 => yX5_sink
  | 51 => yX5_find
  | 52 => yX6_side
  | 53 => yX6_sign
  | 54 => yX6_isBetween
  | 55 => yX6_meeting
  | 56 => yX6_straight
  | 57 => yX6_init
  | 58 => yX6_isIn
  | 59 => yX6_edge
  | 60 => yX6_point
  | 61 => yX6_clear
  | 62 => yX6_end
  | 63 => yX6_lay
  | 64 => yX6_become
  | 65 => yX6_crossings
  | 66 => yX6_areFar
  | 67 => yX6_below
  | 68 => yX6_cross
  | 69 => yX6_atLeast
  | 70 => yX6_atMost
  | 71 => yX6_within
  | 72 => yX6_isThrough
  | 73 => yX6_projection
  | 74 => yX6_bend
  | 75 => yX6_firstFrom
  | 76 => yX6_insert
  | 77 => yX6_nodes
  | 78 => yX6_node
  | 79 => yX6_find
  | 80 => yX6_pieces
  | 81 => yX6_piece
  | 82 => yX6_way
  | 83 => yX6_wayNode
  | 84 => yJ9_floorDiv_f86c9
  | 85 => yJ9_abs_067f4
  | 86 => yJ9_max_7cf53
  | 87 => yJ9_max_f86c9
  | 88 => yJ9_min_7cf53
  | 89 => yJ9_min_f86c9
  | 90 => yJ7_copyOf_59c91
  | 91 => yJ7_copyOf_c38d5
  | 92 => yL_law
  | _ => yX0_init
def hc_mx : Nat → Nat
  | 0 => 1
  | 1 => 3
  | 2 => 4
  | 3 => 7
  | 4 => 3
  | 5 => 1
  | 6 => 3
  | 7 => 5
  | 8 => 6
  | 9 => 19
  | 10 => 2
  | 11 => 4
  | 12 => 6
  | 13 => 6
  | 14 => 5
  | 15 => 3
  | 16 => 1
  | 17 => 3
  | 18 => 2
  | 19 => 6
  | 20 => 1
  | 21 => 5
  | 22 => 3
  | 23 => 1
  | 24 => 2
  | 25 => 1
  | 26 => 3
  | 27 => 5
  | 28 => 1
  | 29 => 3
  | 30 => 2
  | 31 => 4
  | 32 => 2
  | 33 => 2
  | 34 => 1
  | 35 => 3
  | 36 => 5
  | 37 => 3
  | 38 => 21
  | 39 => 2
  | 40 => 1
  | 41 => 1
  | 42 => 4
  | 43 => 1
  | 44 => 1
  | 45 => 2
  | 46 => 5
  | 47 => 2
  | 48 => 2
  | 49 => 4
  | 50 => 8
  | 51 => 8
  | 52 => 12
  | 53 => 2
  | 54 => 12
  | 55 => 21
  | 56 => 29
  | 57 => 1
  | 58 => 2
  | 59 => 5
  | 60 => 3
  | 61 => 1
  | 62 => 3
  | 63 => 3
  | 64 => 8
  | 65 => 3
  | 66 => 4
  | 67 => 6
  | 68 => 19
  | 69 => 8
  | 70 => 8
  | 71 => 9
  | 72 => 9
  | 73 => 3
  | 74 => 11
  | 75 => 5
  | 76 => 4
  | 77 => 1
  | 78 => 3
  | 79 => 3
  | 80 => 1
  | 81 => 3
  | 82 => 2
  | 83 => 3
  | 84 => 6
  | 85 => 2
  | 86 => 2
  | 87 => 4
  | 88 => 2
  | 89 => 4
  | 90 => 3
  | 91 => 3
  | 92 => 4
  | _ => 0
def hc_na : Nat → Nat
  | 0 => 1
  | 1 => 2
  | 2 => 1
  | 3 => 3
  | 4 => 1
  | 5 => 1
  | 6 => 2
  | 7 => 3
  | 8 => 5
  | 9 => 5
  | 10 => 2
  | 11 => 2
  | 12 => 3
  | 13 => 2
  | 14 => 2
  | 15 => 1
  | 16 => 1
  | 17 => 3
  | 18 => 2
  | 19 => 3
  | 20 => 1
  | 21 => 5
  | 22 => 3
  | 23 => 1
  | 24 => 1
  | 25 => 1
  | 26 => 3
  | 27 => 3
  | 28 => 1
  | 29 => 3
  | 30 => 2
  | 31 => 3
  | 32 => 2
  | 33 => 1
  | 34 => 1
  | 35 => 2
  | 36 => 3
  | 37 => 2
  | 38 => 3
  | 39 => 2
  | 40 => 1
  | 41 => 1
  | 42 => 2
  | 43 => 1
  | 44 => 1
  | 45 => 2
  | 46 => 3
  | 47 => 2
  | 48 => 2
  | 49 => 1
  | 50 => 3
  | 51 => 3
  | 52 => 6
  | 53 => 1
  | 54 => 6
  | 55 => 8
  | 56 => 8
  | 57 => 1
  | 58 => 2
  | 59 => 5
  | 60 => 3
  | 61 => 1
  | 62 => 3
  | 63 => 1
  | 64 => 1
  | 65 => 1
  | 66 => 4
  | 67 => 2
  | 68 => 3
  | 69 => 4
  | 70 => 4
  | 71 => 5
  | 72 => 3
  | 73 => 3
  | 74 => 1
  | 75 => 2
  | 76 => 3
  | 77 => 1
  | 78 => 3
  | 79 => 3
  | 80 => 1
  | 81 => 3
  | 82 => 2
  | 83 => 3
  | 84 => 2
  | 85 => 1
  | 86 => 2
  | 87 => 2
  | 88 => 2
  | 89 => 2
  | 90 => 2
  | 91 => 2
  | 92 => 1
  | _ => 0
def hc_md : Nat → Nat
  | 0 => 1
  | 1 => 0
  | 2 => 0
  | 3 => 0
  | 4 => 0
  | 5 => 1
  | 6 => 0
  | 7 => 0
  | 8 => 0
  | 9 => 0
  | 10 => 0
  | 11 => 0
  | 12 => 0
  | 13 => 0
  | 14 => 0
  | 15 => 2
  | 16 => 1
  | 17 => 0
  | 18 => 0
  | 19 => 0
  | 20 => 1
  | 21 => 0
  | 22 => 0
  | 23 => 0
  | 24 => 0
  | 25 => 0
  | 26 => 0
  | 27 => 0
  | 28 => 0
  | 29 => 0
  | 30 => 0
  | 31 => 0
  | 32 => 2
  | 33 => 0
  | 34 => 0
  | 35 => 0
  | 36 => 0
  | 37 => 0
  | 38 => 0
  | 39 => 2
  | 40 => 1
  | 41 => 0
  | 42 => 0
  | 43 => 1
  | 44 => 0
  | 45 => 2
  | 46 => 0
  | 47 => 0
  | 48 => 0
  | 49 => 0
  | 50 => 0
  | 51 => 0
  | 52 => 2
  | 53 => 2
  | 54 => 2
  | 55 => 2
  | 56 => 2
  | 57 => 1
  | 58 => 2
  | 59 => 0
  | 60 => 0
  | 61 => 0
  | 62 => 0
  | 63 => 0
  | 64 => 0
  | 65 => 0
  | 66 => 0
  | 67 => 2
  | 68 => 0
  | 69 => 0
  | 70 => 0
  | 71 => 0
  | 72 => 0
  | 73 => 0
  | 74 => 0
  | 75 => 0
  | 76 => 0
  | 77 => 0
  | 78 => 0
  | 79 => 0
  | 80 => 0
  | 81 => 0
  | 82 => 0
  | 83 => 0
  | 84 => 2
  | 85 => 2
  | 86 => 2
  | 87 => 2
  | 88 => 2
  | 89 => 2
  | 90 => 2
  | 91 => 2
  | 92 => 2
  | _ => 0
def hc_dp : Nat → Nat
  | 0 => 1
  | 1 => 2
  | 2 => 1
  | 3 => 0
  | 4 => 0
  | 5 => 2
  | 6 => 4
  | 7 => 6
  | 8 => 5
  | 9 => 4
  | 10 => 3
  | 11 => 1
  | 12 => 0
  | 13 => 3
  | 14 => 3
  | 15 => 0
  | 16 => 1
  | 17 => 4
  | 18 => 3
  | 19 => 0
  | 20 => 3
  | 21 => 5
  | 22 => 5
  | 23 => 0
  | 24 => 7
  | 25 => 0
  | 26 => 0
  | 27 => 1
  | 28 => 0
  | 29 => 0
  | 30 => 0
  | 31 => 0
  | 32 => 0
  | 33 => 6
  | 34 => 2
  | 35 => 4
  | 36 => 3
  | 37 => 5
  | 38 => 4
  | 39 => 2
  | 40 => 1
  | 41 => 0
  | 42 => 0
  | 43 => 1
  | 44 => 0
  | 45 => 0
  | 46 => 1
  | 47 => 0
  | 48 => 0
  | 49 => 1
  | 50 => 0
  | 51 => 1
  | 52 => 0
  | 53 => 0
  | 54 => 1
  | 55 => 2
  | 56 => 1
  | 57 => 2
  | 58 => 0
  | 59 => 1
  | 60 => 1
  | 61 => 1
  | 62 => 0
  | 63 => 4
  | 64 => 2
  | 65 => 3
  | 66 => 1
  | 67 => 0
  | 68 => 2
  | 69 => 0
  | 70 => 0
  | 71 => 1
  | 72 => 2
  | 73 => 1
  | 74 => 3
  | 75 => 1
  | 76 => 2
  | 77 => 0
  | 78 => 1
  | 79 => 2
  | 80 => 0
  | 81 => 1
  | 82 => 0
  | 83 => 1
  | 84 => 0
  | 85 => 0
  | 86 => 0
  | 87 => 0
  | 88 => 0
  | 89 => 0
  | 90 => 1
  | 91 => 1
  | 92 => 8
  | _ => 0
def hc_ln : Nat → Nat
  | 0 => 60
  | 1 => 90
  | 2 => 34
  | 3 => 0
  | 4 => 0
  | 5 => 88
  | 6 => 148
  | 7 => 227
  | 8 => 194
  | 9 => 148
  | 10 => 119
  | 11 => 33
  | 12 => 0
  | 13 => 120
  | 14 => 119
  | 15 => 0
  | 16 => 60
  | 17 => 148
  | 18 => 119
  | 19 => 0
  | 20 => 116
  | 21 => 178
  | 22 => 178
  | 23 => 0
  | 24 => 259
  | 25 => 0
  | 26 => 0
  | 27 => 33
  | 28 => 0
  | 29 => 0
  | 30 => 0
  | 31 => 0
  | 32 => 0
  | 33 => 230
  | 34 => 65
  | 35 => 152
  | 36 => 120
  | 37 => 200
  | 38 => 152
  | 39 => 90
  | 40 => 60
  | 41 => 0
  | 42 => 0
  | 43 => 60
  | 44 => 0
  | 45 => 0
  | 46 => 29
  | 47 => 0
  | 48 => 0
  | 49 => 35
  | 50 => 0
  | 51 => 29
  | 52 => 0
  | 53 => 0
  | 54 => 31
  | 55 => 87
  | 56 => 31
  | 57 => 88
  | 58 => 0
  | 59 => 31
  | 60 => 31
  | 61 => 28
  | 62 => 0
  | 63 => 165
  | 64 => 64
  | 65 => 135
  | 66 => 31
  | 67 => 0
  | 68 => 61
  | 69 => 0
  | 70 => 0
  | 71 => 35
  | 72 => 71
  | 73 => 30
  | 74 => 107
  | 75 => 29
  | 76 => 60
  | 77 => 0
  | 78 => 29
  | 79 => 64
  | 80 => 0
  | 81 => 29
  | 82 => 0
  | 83 => 29
  | 84 => 0
  | 85 => 0
  | 86 => 0
  | 87 => 0
  | 88 => 0
  | 89 => 0
  | 90 => 60
  | 91 => 60
  | 92 => 288
  | _ => 0
def hc_rty : Nat → Option FieldType
  | 0 => none
  | 1 => none
  | 2 => none
  | 3 => none
  | 4 => none
  | 5 => none
  | 6 => none
  | 7 => (some .boolean)
  | 8 => (some .boolean)
  | 9 => (some .boolean)
  | 10 => (some .boolean)
  | 11 => none
  | 12 => none
  | 13 => none
  | 14 => (some .boolean)
  | 15 => (some .int)
  | 16 => none
  | 17 => none
  | 18 => none
  | 19 => (some .int)
  | 20 => none
  | 21 => (some .int)
  | 22 => (some .int)
  | 23 => none
  | 24 => (some .int)
  | 25 => (some .int)
  | 26 => (some .int)
  | 27 => (some .int)
  | 28 => (some .int)
  | 29 => (some .int)
  | 30 => (some .int)
  | 31 => (some .int)
  | 32 => (some .boolean)
  | 33 => (some .boolean)
  | 34 => (some .boolean)
  | 35 => none
  | 36 => none
  | 37 => none
  | 38 => none
  | 39 => (some (.array .int))
  | 40 => none
  | 41 => none
  | 42 => none
  | 43 => none
  | 44 => none
  | 45 => (some .long)
  | 46 => none
  | 47 => (some .int)
  | 48 => (some .int)
  | 49 => none
  | 50 => none
  | 51 => (some .int)
  | 52 => (some .long)
  | 53 => (some .int)
  | 54 => (some .boolean)
  | 55 => (some .int)
  | 56 => (some .int)
  | 57 => none
  | 58 => (some .boolean)
  | 59 => (some .int)
  | 60 => (some .int)
  | 61 => none
  | 62 => (some .long)
  | 63 => (some .int)
  | 64 => none
  | 65 => (some .boolean)
  | 66 => (some .boolean)
  | 67 => (some .long)
  | 68 => none
  | 69 => none
  | 70 => none
  | 71 => (some .boolean)
  | 72 => (some .boolean)
  | 73 => (some .long)
  | 74 => (some .boolean)
  | 75 => (some .int)
  | 76 => none
  | 77 => (some .int)
  | 78 => (some .int)
  | 79 => (some .int)
  | 80 => (some .int)
  | 81 => (some .int)
  | 82 => (some .int)
  | 83 => (some .int)
  | 84 => (some .long)
  | 85 => (some .long)
  | 86 => (some .int)
  | 87 => (some .long)
  | 88 => (some .int)
  | 89 => (some .long)
  | 90 => (some (.array .int))
  | 91 => (some (.array .long))
  | 92 => (some .boolean)
  | _ => none
def hc_ini (mi : Nat) : Bool := hc_md mi == 1
def hc_tgl : List (Nat × Nat × Nat) := [(0, 19, 88), (0, 25, 91), (0, 31, 3), (1, 11, 16), (1, 49, 18), (1, 67, 39), (1, 71, 8), (1, 75, 9), (1, 78, 11), (1, 81, 12), (1, 85, 85), (1, 91, 86), (1, 95, 88), (1, 98, 19), (1, 103, 10), (1, 109, 1), (1, 113, 2), (1, 116, 15), (2, 20, 18), (2, 24, 39), (3, 11, 16), (3, 24, 0), (3, 31, 5), (3, 39, 32), (3, 47, 17), (3, 51, 33), (3, 55, 6), (3, 59, 7), (3, 63, 13), (3, 66, 14), (3, 84, 19), (3, 109, 35), (3, 113, 37), (3, 117, 34), (3, 120, 2), (3, 123, 4), (3, 126, 36), (3, 134, 1), (3, 137, 38), (3, 142, 84), (3, 148, 86), (3, 151, 90), (5, 19, 45), (5, 25, 50), (6, 1, 89), (6, 7, 87), (6, 10, 52), (6, 16, 53), (6, 20, 56), (6, 24, 54), (6, 36, 40), (6, 46, 43), (6, 81, 58), (6, 89, 42), (6, 93, 41), (6, 99, 44), (6, 100, 46), (6, 103, 65), (6, 107, 74), (6, 110, 88), (6, 113, 86), (6, 115, 49), (6, 119, 64), (6, 122, 51), (6, 125, 66), (6, 129, 62), (6, 133, 55), (6, 136, 68), (6, 141, 67), (6, 164, 69), (6, 168, 70), (6, 171, 47), (6, 175, 48), (6, 178, 71), (6, 182, 75), (6, 185, 72), (6, 188, 76), (6, 191, 73), (6, 195, 82), (8, 304, 88), (9, 9, 20), (9, 12, 57), (9, 13, 21), (9, 17, 59), (9, 18, 22), (9, 22, 60), (9, 23, 23), (9, 26, 61), (9, 27, 24), (9, 31, 63), (9, 32, 25), (9, 35, 77), (9, 36, 26), (9, 39, 78), (9, 40, 27), (9, 43, 79), (9, 44, 28), (9, 47, 80), (9, 48, 29), (9, 51, 81), (9, 52, 30), (9, 56, 82), (9, 57, 31), (9, 60, 83)]
def hc_fll : List (Nat × Nat × Nat × Nat) := [(0, 9, 0, 0), (0, 15, 0, 1), (1, 12, 1, 0), (1, 18, 1, 1), (1, 22, 1, 2), (1, 25, 1, 3), (1, 29, 1, 4), (1, 32, 1, 5), (1, 35, 1, 6), (1, 38, 1, 7), (1, 41, 1, 8), (1, 44, 0, 0), (1, 53, 2, 0), (1, 54, 2, 1), (1, 57, 0, 1), (1, 64, 2, 2), (2, 7, 2, 0), (2, 13, 2, 1), (2, 17, 2, 2), (3, 12, 3, 0), (3, 16, 3, 1), (3, 19, 3, 2), (3, 25, 3, 3), (3, 32, 3, 4), (3, 36, 3, 5), (3, 43, 2, 0), (3, 70, 1, 5), (3, 73, 1, 0), (3, 77, 2, 1), (3, 81, 2, 2), (3, 88, 1, 6), (3, 91, 1, 7), (3, 94, 1, 8), (3, 97, 1, 1), (3, 100, 1, 3), (3, 103, 1, 4), (3, 108, 0, 0), (4, 7, 4, 0), (4, 13, 4, 1), (5, 7, 5, 0), (5, 13, 5, 1), (6, 37, 6, 0), (6, 41, 6, 1), (6, 47, 6, 2), (6, 51, 6, 3), (6, 54, 6, 4), (6, 58, 6, 5), (6, 61, 6, 6), (6, 64, 6, 7), (6, 67, 6, 8), (6, 70, 6, 9), (6, 73, 6, 10), (6, 76, 6, 11), (6, 85, 4, 1), (6, 96, 4, 0), (6, 118, 5, 1), (6, 144, 6, 13), (6, 148, 6, 12), (6, 151, 6, 16), (6, 155, 6, 15), (6, 158, 6, 14), (6, 161, 6, 17)]
def hc_k3l : List (Nat × Nat × Int32) := [(1, 63, 500000), (3, 76, 1000000), (3, 106, -500000), (3, 107, 500000), (6, 79, -500000), (6, 80, 500000), (6, 194, 1000000)]
def hc_k6l : List (Nat × Nat × Int64) := [(1, 61, 1000001), (1, 101, 2), (1, 107, 6000), (3, 130, 500000), (3, 132, 1000001), (3, 140, 2), (5, 17, 1073741824), (5, 23, 4294967295), (6, 139, 2)]
def hc_cll : List (Nat × Nat × Nat) := [(1, 9, 2), (3, 9, 2), (3, 22, 0), (3, 29, 1), (6, 34, 4), (6, 44, 5), (9, 7, 3), (9, 10, 6)]
def hc_obl : List (Nat × Nat) := [(0, 3), (1, 3), (2, 1), (3, 3), (4, 1), (5, 1), (6, 28)]
def hc_acl : List (Nat × Nat) := [(8, 150)]
def hc_find {α : Type} (l : List (Nat × Nat × α)) (o cp : Nat) : Option α := match l with
  | [] => none
  | (a, b, x) :: t => if a = o ∧ b = cp then some x else hc_find t o cp
theorem hc_find_mem {α : Type} {l : List (Nat × Nat × α)} {o cp : Nat} {x : α} (h : hc_find l o cp = some x) : (o, cp, x) ∈ l := by
  induction l with
  | nil => simp [hc_find] at h
  | cons q t ih =>
    obtain ⟨a, b, y⟩ := q
    unfold hc_find at h
    by_cases c : a = o ∧ b = cp
    · rw [if_pos c] at h
      cases h
      rw [c.1, c.2]
      exact List.mem_cons_self
    · rw [if_neg c] at h
      exact List.mem_cons_of_mem _ (ih h)
def hc_tgt (o cp : Nat) : Option Nat := hc_find hc_tgl o cp
def hc_fld (o cp : Nat) : Option (Nat × Nat) := hc_find hc_fll o cp
def hc_k32 (o cp : Nat) : Option Int32 := hc_find hc_k3l o cp
def hc_k64 (o cp : Nat) : Option Int64 := hc_find hc_k6l o cp
def hc_cls (o cp : Nat) : Option Nat := hc_find hc_cll o cp
def hc_obj (o cp : Nat) : Bool := hc_obl.elem (o, cp)
def hc_acp (o cp : Nat) : Bool := hc_acl.elem (o, cp)
def hc_df (c : Nat) : List hc_F := (List.range (hc_fn c)).map fun j => .inl (match hc_ty c j with
  | .int => .int 0
  | .long => .long 0
  | .boolean => .int 0
  | _ => .null)
/-- an instruction that touches neither heap nor calls: the next place, locals, stack -/
def hc_loc (mi pc : Nat) (ls : hc_L) (st : List hc_V) (i : Instr) (w : Nat) : Option (Nat × hc_L × List hc_V) := match i, w, st with
  | .iconst n, 1, st => some (pc + 1, ls, .inl (.int (Int32.ofInt n)) :: st)
  | .bipush n, 2, st => some (pc + 2, ls, .inl (.int (Int8.ofInt n).toInt32) :: st)
  | .sipush n, 3, st => some (pc + 3, ls, .inl (.int (Int16.ofInt n).toInt32) :: st)
  | .lconst n, 1, st => some (pc + 1, ls, .inl (.long (Int64.ofNat n)) :: st)
  | .ldc cp, 2, st => match hc_k32 (hc_own mi) cp with
    | some v => some (pc + 2, ls, .inl (.int v) :: st)
    | none => none
  | .ldc2_w cp, 3, st => match hc_k64 (hc_own mi) cp with
    | some v => some (pc + 3, ls, .inl (.long v) :: st)
    | none => none
  | .iload_n k, 1, st => match hc_ld 0 ls k with
    | some v => some (pc + 1, ls, v :: st)
    | none => none
  | .iload k, 2, st => match hc_ld 0 ls k with
    | some v => some (pc + 2, ls, v :: st)
    | none => none
  | .lload_n k, 1, st => match hc_ld 1 ls k with
    | some v => some (pc + 1, ls, v :: st)
    | none => none
  | .lload k, 2, st => match hc_ld 1 ls k with
    | some v => some (pc + 2, ls, v :: st)
    | none => none
  | .aload_n k, 1, st => match hc_ld 2 ls k with
    | some v => some (pc + 1, ls, v :: st)
    | none => none
  | .aload k, 2, st => match hc_ld 2 ls k with
    | some v => some (pc + 2, ls, v :: st)
    | none => none
  | .istore_n k, 1, .inl (.int x) :: st => if (k : Nat) < hc_mx mi then some (pc + 1, hc_sto ls k (.inl (.int x)), st) else none
  | .istore k, 2, .inl (.int x) :: st => if (k : Nat) < hc_mx mi then some (pc + 2, hc_sto ls k (.inl (.int x)), st) else none
  | .lstore_n k, 1, .inl (.long x) :: st => if (k : Nat) + 1 < hc_mx mi then some (pc + 1, hc_sto ls k (.inl (.long x)), st) else none
  | .lstore k, 2, .inl (.long x) :: st => if (k : Nat) + 1 < hc_mx mi then some (pc + 2, hc_sto ls k (.inl (.long x)), st) else none
  | .astore_n k, 1, v :: st => if hc_kd v = 2 ∧ (k : Nat) < hc_mx mi then some (pc + 1, hc_sto ls k v, st) else none
  | .astore k, 2, v :: st => if hc_kd v = 2 ∧ (k : Nat) < hc_mx mi then some (pc + 2, hc_sto ls k v, st) else none
  | .iinc k n, 3, st => match ls[k]? with
    | some (some (.inl (.int x))) => some (pc + 3, hc_sto ls k (.inl (.int (x + Int32.ofInt n))), st)
    | _ => none
  | .iadd, 1, .inl (.int y) :: .inl (.int x) :: st => some (pc + 1, ls, .inl (.int (x + y)) :: st)
  | .isub, 1, .inl (.int y) :: .inl (.int x) :: st => some (pc + 1, ls, .inl (.int (x - y)) :: st)
  | .imul, 1, .inl (.int y) :: .inl (.int x) :: st => some (pc + 1, ls, .inl (.int (x * y)) :: st)
  | .iand, 1, .inl (.int y) :: .inl (.int x) :: st => some (pc + 1, ls, .inl (.int (x &&& y)) :: st)
  | .idiv, 1, .inl (.int y) :: .inl (.int x) :: st => if y = 0 then none else some (pc + 1, ls, .inl (.int (x / y)) :: st)
  | .ladd, 1, .inl (.long y) :: .inl (.long x) :: st => some (pc + 1, ls, .inl (.long (x + y)) :: st)
  | .lsub, 1, .inl (.long y) :: .inl (.long x) :: st => some (pc + 1, ls, .inl (.long (x - y)) :: st)
  | .lmul, 1, .inl (.long y) :: .inl (.long x) :: st => some (pc + 1, ls, .inl (.long (x * y)) :: st)
  | .land, 1, .inl (.long y) :: .inl (.long x) :: st => some (pc + 1, ls, .inl (.long (x &&& y)) :: st)
  | .lor, 1, .inl (.long y) :: .inl (.long x) :: st => some (pc + 1, ls, .inl (.long (x ||| y)) :: st)
  | .lxor, 1, .inl (.long y) :: .inl (.long x) :: st => some (pc + 1, ls, .inl (.long (x ^^^ y)) :: st)
  | .ldiv, 1, .inl (.long y) :: .inl (.long x) :: st => if y = 0 then none else some (pc + 1, ls, .inl (.long (x / y)) :: st)
  | .lrem, 1, .inl (.long y) :: .inl (.long x) :: st => if y = 0 then none else some (pc + 1, ls, .inl (.long (x - x / y * y)) :: st)
  | .lneg, 1, .inl (.long x) :: st => some (pc + 1, ls, .inl (.long (-x)) :: st)
  | .lshl, 1, .inl (.int y) :: .inl (.long x) :: st => some (pc + 1, ls, .inl (.long (x <<< (y.toInt64 &&& 63))) :: st)
  | .lshr, 1, .inl (.int y) :: .inl (.long x) :: st => some (pc + 1, ls, .inl (.long (x >>> (y.toInt64 &&& 63))) :: st)
  | .lcmp, 1, .inl (.long y) :: .inl (.long x) :: st => some (pc + 1, ls, .inl (.int (lg_cmp x y)) :: st)
  | .i2l, 1, .inl (.int x) :: st => some (pc + 1, ls, .inl (.long x.toInt64) :: st)
  | .l2i, 1, .inl (.long x) :: st => some (pc + 1, ls, .inl (.int x.toInt32) :: st)
  | .dup, 1, v :: st => if hc_two v = true then none else some (pc + 1, ls, v :: v :: st)
  | .dup2, 1, v :: u :: st => if hc_two v = true ∨ hc_two u = true then none else some (pc + 1, ls, v :: u :: v :: u :: st)
  | .goto off, 3, st => if 0 ≤ (pc : Int) + off then some (hc_tg pc off, ls, st) else none
  | .ifCond c off, 3, .inl (.int x) :: st => if 0 ≤ (pc : Int) + off then some (if hc_cm c x 0 = true then hc_tg pc off else pc + 3, ls, st) else none
  | .if_icmp c off, 3, .inl (.int y) :: .inl (.int x) :: st => if 0 ≤ (pc : Int) + off then some (if hc_cm c x y = true then hc_tg pc off else pc + 3, ls, st) else none
  | .tableswitch d lo hi offs, _, .inl (.int x) :: st => if x.toInt < lo ∨ hi < x.toInt then (if 0 ≤ (pc : Int) + d then some (hc_tg pc d, ls, st) else none) else (match offs[(x.toInt - lo).toNat]? with
    | some off => if 0 ≤ (pc : Int) + off then some (hc_tg pc off, ls, st) else none
    | none => none)
  | _, _, _ => none
/-- an instruction that reads or writes the heap -/
def hc_hep (mi : Nat) (G : hc_G) (σ : hc_H) (t : hc_T) (ls : hc_L) (st : List hc_V) (i : Instr) (w : Nat) : Option (hc_G × hc_H × hc_T × hc_L × List hc_V) := match i, w, st with
  | .getfield cp, 3, .inl (.ref k) :: st => match hc_fld (hc_own mi) cp, σ k with
    | some (c, j), some (c', fs) => if c' = c then (match fs[j]? with
      | some f => some (G, σ, t, ls, hc_fv k j f :: st)
      | none => none) else none
    | _, _ => none
  | .putfield cp, 3, .inl v :: .inl (.ref k) :: st => match hc_fld (hc_own mi) cp, σ k with
    | some (c, j), some (c', fs) => if c' = c ∧ hc_fit (hc_ty c j) v = true ∧ (hc_fin c j = true → hc_ini mi = true ∧ hc_own mi = c) then (match fs[j]? with
      | some (.inl _) => some (G, hc_set σ k (c, fs.set j (.inl v)), t, ls, st)
      | _ => none) else none
    | _, _ => none
  | .putfield cp, 3, .inr none :: .inl (.ref k) :: st => match hc_fld (hc_own mi) cp, σ k, t with
    | some (c, j), some (c', fs), some r => if c' = c ∧ hc_arr (hc_ty c j) r = true ∧ hc_fin c j = false ∧ hc_np st = true ∧ j < fs.length then some (hc_gM G k j, hc_set σ k (c, fs.set j (.inr r)), none, hc_kp ls, st) else none
    | _, _, _ => none
  | .putfield cp, 3, .inr (some (k', j')) :: .inl (.ref k) :: st => match hc_fld (hc_own mi) cp, σ k with
    | some (c, j), some (c', fs) => if c' = c ∧ hc_fin c j = false ∧ k' = k ∧ j' = j then (match fs[j]? with
      | some (.inr r) => if hc_arr (hc_ty c j) r = true then some (G, σ, t, ls, st) else none
      | _ => none) else none
    | _, _ => none
  | .iaload, 1, .inl (.int i) :: a :: st => match hc_row σ t a with
    | some (n, .inl f) => if hc_inB i n = true then some (G, σ, t, ls, .inl (.int (f i.toNatClampNeg)) :: st) else none
    | _ => none
  | .laload, 1, .inl (.int i) :: a :: st => match hc_row σ t a with
    | some (n, .inr f) => if hc_inB i n = true then some (G, σ, t, ls, .inl (.long (f i.toNatClampNeg)) :: st) else none
    | _ => none
  | .iastore, 1, .inl (.int x) :: .inl (.int i) :: .inr a :: st => match hc_row σ t (.inr a) with
    | some (n, .inl f) => if hc_inB i n = true then (match hc_wr σ t (n, .inl (upd f i.toNatClampNeg x)) (.inr a) with
      | some (σ', t') => some (G, σ', t', ls, st)
      | none => none) else none
    | _ => none
  | .lastore, 1, .inl (.long x) :: .inl (.int i) :: .inr a :: st => match hc_row σ t (.inr a) with
    | some (n, .inr f) => if hc_inB i n = true then (match hc_wr σ t (n, .inr (vp_updL f i.toNatClampNeg x)) (.inr a) with
      | some (σ', t') => some (G, σ', t', ls, st)
      | none => none) else none
    | _ => none
  | .arraylength, 1, a :: st => match hc_row σ t a with
    | some (n, _) => some (G, σ, t, ls, .inl (.int (Int32.ofNat n)) :: st)
    | none => none
  | .newarray ty, 2, .inl (.int n) :: st => if ¬ n < 0 ∧ n.toNatClampNeg ≤ 60000000 ∧ hc_np st = true ∧ ls.all hc_nt = true then (match ty with
    | .int => some (hc_gA G n.toNatClampNeg, σ, some (n.toNatClampNeg, .inl fun _ => 0), ls, .inr none :: st)
    | .long => some (hc_gA G n.toNatClampNeg, σ, some (n.toNatClampNeg, .inr fun _ => 0), ls, .inr none :: st)
    | _ => none) else none
  | .new cp, 3, st => match hc_cls (hc_own mi) cp with
    | some c => if G.2.1 < 900 then some (hc_gO G (hc_fn c), hc_set σ G.2.1 (c, hc_df c), t, ls, .inl (.ref G.2.1) :: st) else none
    | none => none
  | .invokespecial cp, 3, .inl (.ref _) :: st => if hc_obj (hc_own mi) cp = true ∧ st.length ≤ 8 ∧ 1 ≤ hc_dp mi ∧ 60 ≤ hc_ln mi then some (G, σ, t, ls, st) else none
  | .invokestatic cp, 3, .inl (.int n) :: .inl (.int dp) :: .inr none :: .inl (.int sp) :: .inr (some (k, j)) :: st => if hc_acp (hc_own mi) cp = true ∧ st.length ≤ 8 ∧ 1 ≤ hc_dp mi ∧ 60 ≤ hc_ln mi ∧ ¬ sp < 0 ∧ ¬ dp < 0 ∧ ¬ n < 0 then (match hc_row σ t (.inr (some (k, j))), t with
    | some (n0, .inl f), some (n1, .inl g) => if sp.toNatClampNeg + n.toNatClampNeg ≤ n0 ∧ dp.toNatClampNeg + n.toNatClampNeg ≤ n1 then some (G, σ, some (n1, .inl (va_cpy f g sp.toNatClampNeg dp.toNatClampNeg n.toNatClampNeg)), ls, st) else none
    | some (n0, .inr f), some (n1, .inr g) => if sp.toNatClampNeg + n.toNatClampNeg ≤ n0 ∧ dp.toNatClampNeg + n.toNatClampNeg ≤ n1 then some (G, σ, some (n1, .inr (va_cpy f g sp.toNatClampNeg dp.toNatClampNeg n.toNatClampNeg)), ls, st) else none
    | _, _ => none) else none
  | _, _, _ => none
/-- a return: the answer -/
def hc_rtn (mi : Nat) (st : List hc_V) (i : Instr) (w : Nat) : Option (Option hc_V) := match i, w, st with
  | .ireturn, 1, [.inl (.int v)] => match hc_rty mi with
    | some .int => some (some (.inl (.int v)))
    | some .boolean => if v = 0 ∨ v = 1 then some (some (.inl (.int v))) else none
    | _ => none
  | .lreturn, 1, [.inl (.long v)] => match hc_rty mi with
    | some .long => some (some (.inl (.long v)))
    | _ => none
  | .areturn, 1, [.inr p] => match hc_rty mi with
    | some (.array _) => some (some (.inr p))
    | _ => none
  | .return_, 1, [] => match hc_rty mi with
    | none => some none
    | _ => none
  | _, _, _ => none
def hc_rcv (kd : Nat) (σ : hc_H) (c2 : Nat) : Option hc_V → Bool
  | some (.inl (.ref k)) => kd == 1 || (match σ k with
    | some (c, _) => c == c2
    | none => false)
  | _ => false
/-- a call: the method called, its locals, the stack below the arguments -/
def hc_cal (mi : Nat) (σ : hc_H) (st : List hc_V) (i : Instr) (w : Nat) : Option (Nat × hc_L × List hc_V) :=
  match (match i with
    | .invokevirtual cp => some (0, cp)
    | .invokespecial cp => some (1, cp)
    | .invokestatic cp => some (2, cp)
    | _ => none) with
  | some (kd, cp) => match hc_tgt (hc_own mi) cp with
    | some m2 =>
      if w = 3 ∧ hc_md m2 = kd ∧ hc_dp m2 < hc_dp mi ∧ hc_ln m2 + hc_mx m2 + 27 ≤ hc_ln mi ∧ hc_na m2 ≤ st.length ∧ (st.drop (hc_na m2)).length ≤ 8 ∧ (hc_ent (st.take (hc_na m2)).reverse).length ≤ hc_mx m2 ∧
        (kd = 2 ∨ hc_rcv kd σ (hc_own m2) (st.take (hc_na m2)).reverse.head? = true) then some (m2, hc_pad (hc_mx m2) (hc_ent (st.take (hc_na m2)).reverse), st.drop (hc_na m2)) else none
    | none => none
  | none => none
/-- the machine: n the steps that it may take at most -/
def hc_ex : Nat → hc_G → hc_H → hc_T → Nat → Nat → hc_L → List hc_V → Option hc_Z
  | 0, _, _, _, _, _, _, _ => none
  | n + 1, G, σ, t, mi, pc, ls, st => match decode (hc_b mi) pc with
    | .ok (i, w) => match hc_loc mi pc ls st i w with
      | some (pc', ls', st') => hc_ex n G σ t mi pc' ls' st'
      | none => match hc_hep mi G σ t ls st i w with
        | some (G', σ', t', ls', st') => hc_ex n G' σ' t' mi (pc + w) ls' st'
        | none => match hc_rtn mi st i w with
          | some r => some (G, σ, t, r)
          | none => match hc_cal mi σ st i w with
            | some (m2, l2, st2) => match hc_ex n G σ t m2 0 l2 [] with
              | some (G', σ', t', r) => if G'.1 = G.1 then hc_ex n G' σ' t' mi (pc + w) ls (hc_psh r st2) else (if hc_np st2 = true then hc_ex n G' σ' t' mi (pc + w) (hc_kp ls) (hc_psh r st2) else none)
              | none => none
            | none => none
    | .error _ => none
end
section
/-! THE SMALL MACHINE AND THE LARGE ONE: values, locals, and the instructions that touch neither heap nor calls -/
def hc_con (B b : Nat) (G : hc_G) : hc_V → Value
  | .inl (.ref k) => .ref (B + k)
  | .inl (.retAddr _) => .ref b
  | .inl v => v
  | .inr none => .ref (B + G.2.2.2.1)
  | .inr (some (k, j)) => .ref (B + G.2.2.2.2 k j)
theorem hc_con_cat (B b : Nat) (G : hc_G) (v : hc_V) : (hc_con B b G v).category = 2 ↔ hc_two v = true := by
  rcases v with v | (_ | ⟨k, j⟩)
  · cases v <;> simp [hc_con, hc_two, Value.category]
  · simp [hc_con, hc_two, Value.category]
  · simp [hc_con, hc_two, Value.category]
theorem hc_con_cat1 (B b : Nat) (G : hc_G) (v : hc_V) (h : hc_two v = false) : (hc_con B b G v).category = 1 := by
  rcases lv_cat (hc_con B b G v) with h1 | h1
  · exact h1
  · rw [hc_con_cat, h] at h1
    cases h1
def hc_LR (B b : Nat) (G : hc_G) (ls : hc_L) (sl : Array Slot) : Prop := sl.size = ls.length ∧ lv_wf sl ∧ ∀ (i : Nat) (v : hc_V), ls[i]? = some (some v) → sl[i]? = some (.val (hc_con B b G v))
def hc_prs (B b : Nat) (G : hc_G) (ls : hc_L) : List (Nat × Value) := (List.range ls.length).filterMap fun i => match ls[i]? with
  | some (some v) => some (i, hc_con B b G v)
  | _ => none
theorem hc_prs_mem {B b : Nat} {G : hc_G} {ls : hc_L} {i : Nat} {v : hc_V} (h : ls[i]? = some (some v)) : (i, hc_con B b G v) ∈ hc_prs B b G ls := by
  refine List.mem_filterMap.mpr ⟨i, List.mem_range.mpr (List.getElem?_eq_some_iff.mp h).1, ?_⟩
  simp only [h]
theorem hc_prs_of {B b : Nat} {G : hc_G} {ls : hc_L} {q : Nat × Value} (h : q ∈ hc_prs B b G ls) : ∃ v, ls[q.1]? = some (some v) ∧ q.2 = hc_con B b G v := by
  obtain ⟨i, -, hi⟩ := List.mem_filterMap.mp h
  split at hi
  · rename_i v hv
    cases hi
    exact ⟨v, hv, rfl⟩
  · cases hi
theorem hc_LR.has {B b : Nat} {G : hc_G} {ls : hc_L} {sl : Array Slot} (h : hc_LR B b G ls sl) : lv_has sl ls.length (hc_prs B b G ls) := by
  refine ⟨h.1, h.2.1, fun q hq => ?_⟩
  obtain ⟨v, h1, h2⟩ := hc_prs_of hq
  rw [h2]
  exact h.2.2 _ _ h1
theorem hc_pre_len (ls : hc_L) (i : Nat) : (hc_pre ls i).length = ls.length := by
  cases i with
  | zero => rfl
  | succ j =>
    simp only [hc_pre]
    split
    · split
      · simp
      · rfl
    · rfl
theorem hc_sto_len (ls : hc_L) (i : Nat) (v : hc_V) : (hc_sto ls i v).length = ls.length := by
  unfold hc_sto
  split <;> simp [hc_pre_len]
theorem hc_kp_len (ls : hc_L) : (hc_kp ls).length = ls.length := by simp [hc_kp]
theorem hc_pre_get {ls : hc_L} {i j : Nat} {w : hc_V} (h : (hc_pre ls i)[j]? = some (some w)) : ls[j]? = some (some w) ∧ ¬ (j + 1 = i ∧ hc_two w = true) := by
  cases i with
  | zero => exact ⟨h, by omega⟩
  | succ i =>
    simp only [hc_pre] at h
    split at h
    · rename_i u hu
      split at h
      · rename_i h2
        by_cases hji : j = i
        · subst hji
          rw [List.getElem?_set_self (List.getElem?_eq_some_iff.mp hu).1] at h
          cases h
        · rw [List.getElem?_set_ne (Ne.symm hji)] at h
          exact ⟨h, by omega⟩
      · rename_i h2
        refine ⟨h, fun q => ?_⟩
        have hji : j = i := by omega
        subst hji
        rw [hu] at h
        cases h
        exact h2 q.2
    · rename_i hn
      refine ⟨h, fun q => ?_⟩
      have hji : j = i := by omega
      subst hji
      exact hn _ h
theorem hc_sto_get {ls : hc_L} {i j : Nat} {v w : hc_V} (h : (hc_sto ls i v)[j]? = some (some w)) : (j = i ∧ w = v) ∨ (j ≠ i ∧ ls[j]? = some (some w) ∧ ¬ (j + 1 = i ∧ hc_two w = true) ∧ (hc_two v = true → j ≠ i + 1)) := by
  have key : ((hc_pre ls i).set i (some v))[j]? = some (some w) → (j = i ∧ w = v) ∨ (j ≠ i ∧ ls[j]? = some (some w) ∧ ¬ (j + 1 = i ∧ hc_two w = true)) := by
    intro h
    by_cases hji : j = i
    · subst hji
      left
      have hl : j < (hc_pre ls j).length := by
        have := (List.getElem?_eq_some_iff.mp h).1
        simpa using this
      rw [List.getElem?_set_self hl] at h
      cases h
      exact ⟨rfl, rfl⟩
    · right
      rw [List.getElem?_set_ne (Ne.symm hji)] at h
      exact ⟨hji, hc_pre_get h⟩
  unfold hc_sto at h
  split at h
  · rename_i h2
    by_cases hj : j = i + 1
    · subst hj
      exfalso
      have hl := (List.getElem?_eq_some_iff.mp h).1
      rw [List.length_set] at hl
      rw [List.getElem?_set_self hl] at h
      cases h
    · rw [List.getElem?_set_ne (Ne.symm hj)] at h
      rcases key h with q | ⟨q1, q2, q3⟩
      · exact Or.inl q
      · exact Or.inr ⟨q1, q2, q3, fun _ => hj⟩
  · rename_i h2
    rcases key h with q | ⟨q1, q2, q3⟩
    · exact Or.inl q
    · exact Or.inr ⟨q1, q2, q3, fun z => absurd z h2⟩
theorem hc_LR_sto1 {B b : Nat} {G : hc_G} {ls : hc_L} {sl : Array Slot} {i : Nat} {v : hc_V} (hv : hc_two v = false) (h : lv_has sl ls.length ((i, hc_con B b G v) :: (hc_prs B b G ls).filter (fun q => !(q.1 == i) && !(q.1 + 1 == i && q.2.category == 2)))) : hc_LR B b G (hc_sto ls i v) sl := by
  refine ⟨by rw [hc_sto_len]; exact h.1, h.2.1, fun j w hj => ?_⟩
  rcases hc_sto_get hj with ⟨rfl, rfl⟩ | ⟨q1, q2, q3, -⟩
  · exact h.2.2 _ List.mem_cons_self
  · refine h.2.2 (j, hc_con B b G w) (List.mem_cons_of_mem _ (List.mem_filter.mpr ⟨hc_prs_mem q2, ?_⟩))
    have q4 : (hc_con B b G w).category = 2 ↔ hc_two w = true := hc_con_cat B b G w
    by_cases e : j + 1 = i
    · have : ¬ hc_two w = true := fun z => q3 ⟨e, z⟩
      have : ¬ (hc_con B b G w).category = 2 := fun z => this (q4.mp z)
      simp [q1, this]
    · simp [q1, e]
theorem hc_LR_sto2 {B b : Nat} {G : hc_G} {ls : hc_L} {sl : Array Slot} {i : Nat} {v : hc_V} (hv : hc_two v = true) (h : lv_has sl ls.length ((i, hc_con B b G v) :: (hc_prs B b G ls).filter (fun q => !(q.1 == i) && (!(q.1 == i + 1) && !(q.1 + 1 == i && q.2.category == 2))))) : hc_LR B b G (hc_sto ls i v) sl := by
  refine ⟨by rw [hc_sto_len]; exact h.1, h.2.1, fun j w hj => ?_⟩
  rcases hc_sto_get hj with ⟨rfl, rfl⟩ | ⟨q1, q2, q3, q5⟩
  · exact h.2.2 _ List.mem_cons_self
  · refine h.2.2 (j, hc_con B b G w) (List.mem_cons_of_mem _ (List.mem_filter.mpr ⟨hc_prs_mem q2, ?_⟩))
    have q4 : (hc_con B b G w).category = 2 ↔ hc_two w = true := hc_con_cat B b G w
    have q6 := q5 hv
    by_cases e : j + 1 = i
    · have : ¬ hc_two w = true := fun z => q3 ⟨e, z⟩
      have : ¬ (hc_con B b G w).category = 2 := fun z => this (q4.mp z)
      simp [q1, q6, this]
    · simp [q1, q6, e]
theorem hc_LR_kp {B b : Nat} {G G' : hc_G} {ls : hc_L} {sl : Array Slot} (h : hc_LR B b G ls sl) : hc_LR B b G' (hc_kp ls) sl := by
  refine ⟨by rw [hc_kp_len]; exact h.1, h.2.1, fun j w hj => ?_⟩
  rw [hc_kp, List.getElem?_map] at hj
  cases hx : ls[j]? with
  | none => rw [hx] at hj; cases hj
  | some x =>
    rw [hx] at hj
    rcases x with _ | (v | p)
    · cases hj
    · have hw : w = .inl v := by
        have := Option.some.inj hj
        simpa [hc_k1] using this.symm
      rw [hw]
      have := h.2.2 j _ hx
      cases v <;> exact this
    · cases hj
theorem hc_con_G {B b : Nat} {G G' : hc_G} (h : G'.2.2.2 = G.2.2.2) (v : hc_V) : hc_con B b G' v = hc_con B b G v := by
  rcases v with v | (_ | ⟨k, j⟩)
  · cases v <;> rfl
  · simp only [hc_con, h]
  · simp only [hc_con, h]
theorem hc_LR_G {B b : Nat} {G G' : hc_G} {ls : hc_L} {sl : Array Slot} (hG : G'.2.2.2 = G.2.2.2) (h : hc_LR B b G ls sl) : hc_LR B b G' ls sl := ⟨h.1, h.2.1, fun j w hj => by rw [hc_con_G hG]; exact h.2.2 j w hj⟩
theorem hc_ld_of {c : Nat} {ls : hc_L} {i : Nat} {v : hc_V} (h : hc_ld c ls i = some v) : ls[i]? = some (some v) ∧ hc_kd v = c := by
  unfold hc_ld at h
  split at h
  · rename_i w hw
    split at h
    · rename_i hk
      cases h
      exact ⟨hw, hk⟩
    · cases h
  · cases h
theorem hc_kd0 {v : hc_V} (h : hc_kd v = 0) : ∃ x, v = .inl (.int x) := by
  rcases v with v | p
  · cases v <;> first | exact ⟨_, rfl⟩ | (simp [hc_kd] at h)
  · simp [hc_kd] at h
theorem hc_kd1 {v : hc_V} (h : hc_kd v = 1) : ∃ x, v = .inl (.long x) := by
  rcases v with v | p
  · cases v <;> first | exact ⟨_, rfl⟩ | (simp [hc_kd] at h)
  · simp [hc_kd] at h
theorem hc_kd2 {v : hc_V} (B b : Nat) (G : hc_G) (h : hc_kd v = 2) : (∃ a, hc_con B b G v = .ref a) ∧ hc_two v = false := by
  rcases v with v | (_ | ⟨k, j⟩)
  · cases v <;> first | (simp [hc_kd] at h; done) | exact ⟨⟨_, rfl⟩, rfl⟩
  · exact ⟨⟨_, rfl⟩, rfl⟩
  · exact ⟨⟨_, rfl⟩, rfl⟩
theorem hc_two_not {v : hc_V} (h : ¬ hc_two v = true) : hc_two v = false := by
  cases h2 : hc_two v with
  | true => exact absurd h2 h
  | false => rfl
theorem hc_tg_eq {pc : Nat} {off : Int} (h : 0 ≤ (pc : Int) + off) : (pc : Int) + off = (hc_tg pc off : Int) := by
  unfold hc_tg
  omega
/-- the words of the tables that hold in every callee too -/
def hc_ALL : List Cond := lw_tbl.filter goodWord
theorem hc_w {w : Cond} (i : Nat) (h : lw_tbl[i]? = some w) (hg : goodWord w = true) : w ∈ hc_ALL := List.mem_filter.mpr ⟨List.mem_of_getElem? h, hg⟩
theorem hc_all_tbl {w : Cond} (h : w ∈ hc_ALL) : w ∈ lw_tbl := (List.mem_filter.mp h).1
theorem hc_all_good : GoodIn hc_ALL hc_ALL := fun _ h => ⟨h, good_of_word (List.mem_filter.mp h).2⟩
/-- what stays the same in a frame: the machine, the code, the owner, the tables' words, the classes; the room for calls -/
def hc_C (D : va_G) (cI cJ : ClassId) (NW : List Cond) (p : Program) (R : Room) (s : State) (m : MethodId) (args : Array Value) (meth : Method) (c : Code) (mi : Nat) : Prop :=
  p.tables.exec = Jvm.exec ∧ c.code = hc_b mi ∧ c.maxLocals = hc_mx mi ∧ s.vm.findClass (hc_cn (hc_own mi)) = some m.cls ∧ (∀ w ∈ hc_ALL, w.before args s = true) ∧ va_K D vwCl [(cI, .int), (cJ, .long)] s ∧ (∀ w ∈ NW, va_Nw w s) ∧ hc_dp mi ≤ R.frames ∧ hc_ln mi ≤ R.locals ∧ (hc_ini mi = true → meth.name = "<init>")
end
section
theorem hc_k3w : ∀ q ∈ hc_k3l, Cond.constant (hc_cn q.1) q.2.1 q.2.2 ∈ hc_ALL := by
  refine List.forall_mem_cons.mpr ⟨?_, List.forall_mem_cons.mpr ⟨?_, List.forall_mem_cons.mpr ⟨?_, List.forall_mem_cons.mpr ⟨?_, List.forall_mem_cons.mpr ⟨?_, List.forall_mem_cons.mpr ⟨?_, List.forall_mem_cons.mpr ⟨?_, fun _ h => absurd h List.not_mem_nil⟩⟩⟩⟩⟩⟩⟩
  · exact hc_w 260 (by decide +kernel) (by decide +kernel)
  · exact hc_w 318 (by decide +kernel) (by decide +kernel)
  · exact hc_w 155 (by decide +kernel) (by decide +kernel)
  · exact hc_w 156 (by decide +kernel) (by decide +kernel)
  · exact hc_w 437 (by decide +kernel) (by decide +kernel)
  · exact hc_w 438 (by decide +kernel) (by decide +kernel)
  · exact hc_w 579 (by decide +kernel) (by decide +kernel)
theorem hc_k6w : ∀ q ∈ hc_k6l, Cond.constantLong (hc_cn q.1) q.2.1 q.2.2 ∈ hc_ALL := by
  refine List.forall_mem_cons.mpr ⟨?_, List.forall_mem_cons.mpr ⟨?_, List.forall_mem_cons.mpr ⟨?_, List.forall_mem_cons.mpr ⟨?_, List.forall_mem_cons.mpr ⟨?_, List.forall_mem_cons.mpr ⟨?_, List.forall_mem_cons.mpr ⟨?_, List.forall_mem_cons.mpr ⟨?_, List.forall_mem_cons.mpr ⟨?_, fun _ h => absurd h List.not_mem_nil⟩⟩⟩⟩⟩⟩⟩⟩⟩
  · exact hc_w 259 (by decide +kernel) (by decide +kernel)
  · exact hc_w 283 (by decide +kernel) (by decide +kernel)
  · exact hc_w 300 (by decide +kernel) (by decide +kernel)
  · exact hc_w 211 (by decide +kernel) (by decide +kernel)
  · exact hc_w 212 (by decide +kernel) (by decide +kernel)
  · exact hc_w 234 (by decide +kernel) (by decide +kernel)
  · exact hc_w 470 (by decide +kernel) (by decide +kernel)
  · exact hc_w 536 (by decide +kernel) (by decide +kernel)
  · exact hc_w 516 (by decide +kernel) (by decide +kernel)
theorem hc_flw : ∀ q ∈ hc_fll, Cond.fieldLink (hc_cn q.1) q.2.1 (hc_ft q.2.2.1 q.2.2.2).1 (hc_ft q.2.2.1 q.2.2.2).2.1 (hc_ft q.2.2.1 q.2.2.2).2.2.1 ∈ hc_ALL ∧ q.2.2.2 < hc_fn q.2.2.1 ∧ q.2.2.1 < 7 := by
  refine List.forall_mem_cons.mpr ⟨?_, List.forall_mem_cons.mpr ⟨?_, List.forall_mem_cons.mpr ⟨?_, List.forall_mem_cons.mpr ⟨?_, List.forall_mem_cons.mpr ⟨?_, List.forall_mem_cons.mpr ⟨?_, List.forall_mem_cons.mpr ⟨?_, List.forall_mem_cons.mpr ⟨?_, List.forall_mem_cons.mpr ⟨?_, List.forall_mem_cons.mpr ⟨?_, List.forall_mem_cons.mpr ⟨?_, List.forall_mem_cons.mpr ⟨?_, List.forall_mem_cons.mpr ⟨?_, List.forall_mem_cons.mpr ⟨?_, List.forall_mem_cons.mpr ⟨?_, List.forall_mem_cons.mpr ⟨?_, List.forall_mem_cons.mpr ⟨?_, List.forall_mem_cons.mpr ⟨?_, List.forall_mem_cons.mpr ⟨?_, List.forall_mem_cons.mpr ⟨?_, List.forall_mem_cons.mpr ⟨?_, List.forall_mem_cons.mpr ⟨?_, List.forall_mem_cons.mpr ⟨?_, List.forall_mem_cons.mpr ⟨?_, List.forall_mem_cons.mpr ⟨?_, List.forall_mem_cons.mpr ⟨?_, List.forall_mem_cons.mpr ⟨?_, List.forall_mem_cons.mpr ⟨?_, List.forall_mem_cons.mpr ⟨?_, List.forall_mem_cons.mpr ⟨?_, List.forall_mem_cons.mpr ⟨?_, List.forall_mem_cons.mpr ⟨?_, List.forall_mem_cons.mpr ⟨?_, List.forall_mem_cons.mpr ⟨?_, List.forall_mem_cons.mpr ⟨?_, List.forall_mem_cons.mpr ⟨?_, List.forall_mem_cons.mpr ⟨?_, List.forall_mem_cons.mpr ⟨?_, List.forall_mem_cons.mpr ⟨?_, List.forall_mem_cons.mpr ⟨?_, List.forall_mem_cons.mpr ⟨?_, List.forall_mem_cons.mpr ⟨?_, List.forall_mem_cons.mpr ⟨?_, List.forall_mem_cons.mpr ⟨?_, List.forall_mem_cons.mpr ⟨?_, List.forall_mem_cons.mpr ⟨?_, List.forall_mem_cons.mpr ⟨?_, List.forall_mem_cons.mpr ⟨?_, List.forall_mem_cons.mpr ⟨?_, List.forall_mem_cons.mpr ⟨?_, List.forall_mem_cons.mpr ⟨?_, List.forall_mem_cons.mpr ⟨?_, List.forall_mem_cons.mpr ⟨?_, List.forall_mem_cons.mpr ⟨?_, List.forall_mem_cons.mpr ⟨?_, List.forall_mem_cons.mpr ⟨?_, List.forall_mem_cons.mpr ⟨?_, List.forall_mem_cons.mpr ⟨?_, List.forall_mem_cons.mpr ⟨?_, List.forall_mem_cons.mpr ⟨?_, List.forall_mem_cons.mpr ⟨?_, List.forall_mem_cons.mpr ⟨?_, fun _ h => absurd h List.not_mem_nil⟩⟩⟩⟩⟩⟩⟩⟩⟩⟩⟩⟩⟩⟩⟩⟩⟩⟩⟩⟩⟩⟩⟩⟩⟩⟩⟩⟩⟩⟩⟩⟩⟩⟩⟩⟩⟩⟩⟩⟩⟩⟩⟩⟩⟩⟩⟩⟩⟩⟩⟩⟩⟩⟩⟩⟩⟩⟩⟩⟩⟩⟩
  · exact ⟨hc_w 74 (by decide +kernel) (by decide +kernel), by decide +kernel, by decide +kernel⟩
  · exact ⟨hc_w 77 (by decide +kernel) (by decide +kernel), by decide +kernel, by decide +kernel⟩
  · exact ⟨hc_w 93 (by decide +kernel) (by decide +kernel), by decide +kernel, by decide +kernel⟩
  · exact ⟨hc_w 95 (by decide +kernel) (by decide +kernel), by decide +kernel, by decide +kernel⟩
  · exact ⟨hc_w 97 (by decide +kernel) (by decide +kernel), by decide +kernel, by decide +kernel⟩
  · exact ⟨hc_w 98 (by decide +kernel) (by decide +kernel), by decide +kernel, by decide +kernel⟩
  · exact ⟨hc_w 100 (by decide +kernel) (by decide +kernel), by decide +kernel, by decide +kernel⟩
  · exact ⟨hc_w 102 (by decide +kernel) (by decide +kernel), by decide +kernel, by decide +kernel⟩
  · exact ⟨hc_w 104 (by decide +kernel) (by decide +kernel), by decide +kernel, by decide +kernel⟩
  · exact ⟨hc_w 106 (by decide +kernel) (by decide +kernel), by decide +kernel, by decide +kernel⟩
  · exact ⟨hc_w 108 (by decide +kernel) (by decide +kernel), by decide +kernel, by decide +kernel⟩
  · exact ⟨hc_w 75 (by decide +kernel) (by decide +kernel), by decide +kernel, by decide +kernel⟩
  · exact ⟨hc_w 52 (by decide +kernel) (by decide +kernel), by decide +kernel, by decide +kernel⟩
  · exact ⟨hc_w 55 (by decide +kernel) (by decide +kernel), by decide +kernel, by decide +kernel⟩
  · exact ⟨hc_w 78 (by decide +kernel) (by decide +kernel), by decide +kernel, by decide +kernel⟩
  · exact ⟨hc_w 58 (by decide +kernel) (by decide +kernel), by decide +kernel, by decide +kernel⟩
  · exact ⟨hc_w 51 (by decide +kernel) (by decide +kernel), by decide +kernel, by decide +kernel⟩
  · exact ⟨hc_w 54 (by decide +kernel) (by decide +kernel), by decide +kernel, by decide +kernel⟩
  · exact ⟨hc_w 57 (by decide +kernel) (by decide +kernel), by decide +kernel, by decide +kernel⟩
  · exact ⟨hc_w 129 (by decide +kernel) (by decide +kernel), by decide +kernel, by decide +kernel⟩
  · exact ⟨hc_w 130 (by decide +kernel) (by decide +kernel), by decide +kernel, by decide +kernel⟩
  · exact ⟨hc_w 131 (by decide +kernel) (by decide +kernel), by decide +kernel, by decide +kernel⟩
  · exact ⟨hc_w 132 (by decide +kernel) (by decide +kernel), by decide +kernel, by decide +kernel⟩
  · exact ⟨hc_w 133 (by decide +kernel) (by decide +kernel), by decide +kernel, by decide +kernel⟩
  · exact ⟨hc_w 134 (by decide +kernel) (by decide +kernel), by decide +kernel, by decide +kernel⟩
  · exact ⟨hc_w 53 (by decide +kernel) (by decide +kernel), by decide +kernel, by decide +kernel⟩
  · exact ⟨hc_w 103 (by decide +kernel) (by decide +kernel), by decide +kernel, by decide +kernel⟩
  · exact ⟨hc_w 94 (by decide +kernel) (by decide +kernel), by decide +kernel, by decide +kernel⟩
  · exact ⟨hc_w 56 (by decide +kernel) (by decide +kernel), by decide +kernel, by decide +kernel⟩
  · exact ⟨hc_w 59 (by decide +kernel) (by decide +kernel), by decide +kernel, by decide +kernel⟩
  · exact ⟨hc_w 105 (by decide +kernel) (by decide +kernel), by decide +kernel, by decide +kernel⟩
  · exact ⟨hc_w 107 (by decide +kernel) (by decide +kernel), by decide +kernel, by decide +kernel⟩
  · exact ⟨hc_w 109 (by decide +kernel) (by decide +kernel), by decide +kernel, by decide +kernel⟩
  · exact ⟨hc_w 96 (by decide +kernel) (by decide +kernel), by decide +kernel, by decide +kernel⟩
  · exact ⟨hc_w 99 (by decide +kernel) (by decide +kernel), by decide +kernel, by decide +kernel⟩
  · exact ⟨hc_w 101 (by decide +kernel) (by decide +kernel), by decide +kernel, by decide +kernel⟩
  · exact ⟨hc_w 76 (by decide +kernel) (by decide +kernel), by decide +kernel, by decide +kernel⟩
  · exact ⟨hc_w 352 (by decide +kernel) (by decide +kernel), by decide +kernel, by decide +kernel⟩
  · exact ⟨hc_w 354 (by decide +kernel) (by decide +kernel), by decide +kernel, by decide +kernel⟩
  · exact ⟨hc_w 367 (by decide +kernel) (by decide +kernel), by decide +kernel, by decide +kernel⟩
  · exact ⟨hc_w 368 (by decide +kernel) (by decide +kernel), by decide +kernel, by decide +kernel⟩
  · exact ⟨hc_w 375 (by decide +kernel) (by decide +kernel), by decide +kernel, by decide +kernel⟩
  · exact ⟨hc_w 376 (by decide +kernel) (by decide +kernel), by decide +kernel, by decide +kernel⟩
  · exact ⟨hc_w 377 (by decide +kernel) (by decide +kernel), by decide +kernel, by decide +kernel⟩
  · exact ⟨hc_w 378 (by decide +kernel) (by decide +kernel), by decide +kernel, by decide +kernel⟩
  · exact ⟨hc_w 379 (by decide +kernel) (by decide +kernel), by decide +kernel, by decide +kernel⟩
  · exact ⟨hc_w 380 (by decide +kernel) (by decide +kernel), by decide +kernel, by decide +kernel⟩
  · exact ⟨hc_w 381 (by decide +kernel) (by decide +kernel), by decide +kernel, by decide +kernel⟩
  · exact ⟨hc_w 382 (by decide +kernel) (by decide +kernel), by decide +kernel, by decide +kernel⟩
  · exact ⟨hc_w 383 (by decide +kernel) (by decide +kernel), by decide +kernel, by decide +kernel⟩
  · exact ⟨hc_w 384 (by decide +kernel) (by decide +kernel), by decide +kernel, by decide +kernel⟩
  · exact ⟨hc_w 385 (by decide +kernel) (by decide +kernel), by decide +kernel, by decide +kernel⟩
  · exact ⟨hc_w 386 (by decide +kernel) (by decide +kernel), by decide +kernel, by decide +kernel⟩
  · exact ⟨hc_w 355 (by decide +kernel) (by decide +kernel), by decide +kernel, by decide +kernel⟩
  · exact ⟨hc_w 353 (by decide +kernel) (by decide +kernel), by decide +kernel, by decide +kernel⟩
  · exact ⟨hc_w 369 (by decide +kernel) (by decide +kernel), by decide +kernel, by decide +kernel⟩
  · exact ⟨hc_w 388 (by decide +kernel) (by decide +kernel), by decide +kernel, by decide +kernel⟩
  · exact ⟨hc_w 387 (by decide +kernel) (by decide +kernel), by decide +kernel, by decide +kernel⟩
  · exact ⟨hc_w 391 (by decide +kernel) (by decide +kernel), by decide +kernel, by decide +kernel⟩
  · exact ⟨hc_w 390 (by decide +kernel) (by decide +kernel), by decide +kernel, by decide +kernel⟩
  · exact ⟨hc_w 389 (by decide +kernel) (by decide +kernel), by decide +kernel, by decide +kernel⟩
  · exact ⟨hc_w 392 (by decide +kernel) (by decide +kernel), by decide +kernel, by decide +kernel⟩
theorem hc_clw : ∀ q ∈ hc_cll, Cond.classLink (hc_cn q.1) q.2.1 (hc_cn q.2.2) ∈ hc_ALL ∧ Cond.instantiable (hc_cn q.2.2) (hc_fn q.2.2) ∈ hc_ALL ∧ Cond.initialized (hc_cn q.2.2) ∈ hc_ALL ∧ q.2.2 < 7 := by
  refine List.forall_mem_cons.mpr ⟨?_, List.forall_mem_cons.mpr ⟨?_, List.forall_mem_cons.mpr ⟨?_, List.forall_mem_cons.mpr ⟨?_, List.forall_mem_cons.mpr ⟨?_, List.forall_mem_cons.mpr ⟨?_, List.forall_mem_cons.mpr ⟨?_, List.forall_mem_cons.mpr ⟨?_, fun _ h => absurd h List.not_mem_nil⟩⟩⟩⟩⟩⟩⟩⟩
  · exact ⟨hc_w 91 (by decide +kernel) (by decide +kernel), hc_w 46 (by decide +kernel) (by decide +kernel), hc_w 28 (by decide +kernel) (by decide +kernel), by decide +kernel⟩
  · exact ⟨hc_w 45 (by decide +kernel) (by decide +kernel), hc_w 46 (by decide +kernel) (by decide +kernel), hc_w 28 (by decide +kernel) (by decide +kernel), by decide +kernel⟩
  · exact ⟨hc_w 68 (by decide +kernel) (by decide +kernel), hc_w 69 (by decide +kernel) (by decide +kernel), hc_w 29 (by decide +kernel) (by decide +kernel), by decide +kernel⟩
  · exact ⟨hc_w 85 (by decide +kernel) (by decide +kernel), hc_w 86 (by decide +kernel) (by decide +kernel), hc_w 30 (by decide +kernel) (by decide +kernel), by decide +kernel⟩
  · exact ⟨hc_w 346 (by decide +kernel) (by decide +kernel), hc_w 347 (by decide +kernel) (by decide +kernel), hc_w 32 (by decide +kernel) (by decide +kernel), by decide +kernel⟩
  · exact ⟨hc_w 361 (by decide +kernel) (by decide +kernel), hc_w 362 (by decide +kernel) (by decide +kernel), hc_w 33 (by decide +kernel) (by decide +kernel), by decide +kernel⟩
  · exact ⟨hc_w 37 (by decide +kernel) (by decide +kernel), hc_w 38 (by decide +kernel) (by decide +kernel), hc_w 27 (by decide +kernel) (by decide +kernel), by decide +kernel⟩
  · exact ⟨hc_w 340 (by decide +kernel) (by decide +kernel), hc_w 341 (by decide +kernel) (by decide +kernel), hc_w 31 (by decide +kernel) (by decide +kernel), by decide +kernel⟩
theorem hc_obw : ∀ q ∈ hc_obl, Cond.methodLink (hc_cn q.1) q.2 objectInit ∈ hc_ALL := by
  refine List.forall_mem_cons.mpr ⟨?_, List.forall_mem_cons.mpr ⟨?_, List.forall_mem_cons.mpr ⟨?_, List.forall_mem_cons.mpr ⟨?_, List.forall_mem_cons.mpr ⟨?_, List.forall_mem_cons.mpr ⟨?_, List.forall_mem_cons.mpr ⟨?_, fun _ h => absurd h List.not_mem_nil⟩⟩⟩⟩⟩⟩⟩
  · exact hc_w 73 (by decide +kernel) (by decide +kernel)
  · exact hc_w 90 (by decide +kernel) (by decide +kernel)
  · exact hc_w 50 (by decide +kernel) (by decide +kernel)
  · exact hc_w 42 (by decide +kernel) (by decide +kernel)
  · exact hc_w 351 (by decide +kernel) (by decide +kernel)
  · exact hc_w 366 (by decide +kernel) (by decide +kernel)
  · exact hc_w 345 (by decide +kernel) (by decide +kernel)
theorem hc_acw : ∀ q ∈ hc_acl, Cond.methodLink (hc_cn q.1) q.2 arraycopyName ∈ hc_ALL := by
  refine List.forall_mem_cons.mpr ⟨?_, fun _ h => absurd h List.not_mem_nil⟩
  · exact hc_w 184 (by decide +kernel) (by decide +kernel)
theorem hc_oiw : Cond.instanceMethod objectInit ∈ hc_ALL ∧ Cond.code objectInit ⟨#[0xb1]⟩ 1 none ∈ hc_ALL := ⟨hc_w 43 (by decide +kernel) (by decide +kernel), hc_w 44 (by decide +kernel) (by decide +kernel)⟩
theorem hc_ayw : Cond.native arraycopyName ∈ hc_ALL ∧ Cond.static arraycopyName ∈ hc_ALL ∧ Cond.initialized "java/lang/System" ∈ hc_ALL := ⟨hc_w 186 (by decide +kernel) (by decide +kernel), hc_w 185 (by decide +kernel) (by decide +kernel), hc_w 36 (by decide +kernel) (by decide +kernel)⟩
theorem hc_arw : Cond.arrayClass .int ∈ hc_ALL ∧ Cond.arrayClass .long ∈ hc_ALL := ⟨hc_w 67 (by decide +kernel) (by decide +kernel), hc_w 84 (by decide +kernel) (by decide +kernel)⟩
theorem hc_lyw0 : ∀ w ∈ u_ws RX0 TX0 2, w ∈ hc_ALL := by
  refine List.forall_mem_cons.mpr ⟨?_, List.forall_mem_cons.mpr ⟨?_, fun _ h => absurd h List.not_mem_nil⟩⟩
  · exact hc_w 79 (by decide +kernel) (by decide +kernel)
  · exact hc_w 81 (by decide +kernel) (by decide +kernel)
theorem hc_lyw1 : ∀ w ∈ u_ws RX1 TX1 9, w ∈ hc_ALL := by
  refine List.forall_mem_cons.mpr ⟨?_, List.forall_mem_cons.mpr ⟨?_, List.forall_mem_cons.mpr ⟨?_, List.forall_mem_cons.mpr ⟨?_, List.forall_mem_cons.mpr ⟨?_, List.forall_mem_cons.mpr ⟨?_, List.forall_mem_cons.mpr ⟨?_, List.forall_mem_cons.mpr ⟨?_, List.forall_mem_cons.mpr ⟨?_, fun _ h => absurd h List.not_mem_nil⟩⟩⟩⟩⟩⟩⟩⟩⟩
  · exact hc_w 110 (by decide +kernel) (by decide +kernel)
  · exact hc_w 112 (by decide +kernel) (by decide +kernel)
  · exact hc_w 114 (by decide +kernel) (by decide +kernel)
  · exact hc_w 116 (by decide +kernel) (by decide +kernel)
  · exact hc_w 118 (by decide +kernel) (by decide +kernel)
  · exact hc_w 120 (by decide +kernel) (by decide +kernel)
  · exact hc_w 122 (by decide +kernel) (by decide +kernel)
  · exact hc_w 124 (by decide +kernel) (by decide +kernel)
  · exact hc_w 126 (by decide +kernel) (by decide +kernel)
theorem hc_lyw2 : ∀ w ∈ u_ws RX2 TX2 3, w ∈ hc_ALL := by
  refine List.forall_mem_cons.mpr ⟨?_, List.forall_mem_cons.mpr ⟨?_, List.forall_mem_cons.mpr ⟨?_, fun _ h => absurd h List.not_mem_nil⟩⟩⟩
  · exact hc_w 60 (by decide +kernel) (by decide +kernel)
  · exact hc_w 62 (by decide +kernel) (by decide +kernel)
  · exact hc_w 64 (by decide +kernel) (by decide +kernel)
theorem hc_lyw3 : ∀ w ∈ u_ws RX3 TX3 6, w ∈ hc_ALL := by
  refine List.forall_mem_cons.mpr ⟨?_, List.forall_mem_cons.mpr ⟨?_, List.forall_mem_cons.mpr ⟨?_, List.forall_mem_cons.mpr ⟨?_, List.forall_mem_cons.mpr ⟨?_, List.forall_mem_cons.mpr ⟨?_, fun _ h => absurd h List.not_mem_nil⟩⟩⟩⟩⟩⟩
  · exact hc_w 135 (by decide +kernel) (by decide +kernel)
  · exact hc_w 137 (by decide +kernel) (by decide +kernel)
  · exact hc_w 139 (by decide +kernel) (by decide +kernel)
  · exact hc_w 141 (by decide +kernel) (by decide +kernel)
  · exact hc_w 143 (by decide +kernel) (by decide +kernel)
  · exact hc_w 145 (by decide +kernel) (by decide +kernel)
theorem hc_lyw4 : ∀ w ∈ u_ws RX4 TX4 2, w ∈ hc_ALL := by
  refine List.forall_mem_cons.mpr ⟨?_, List.forall_mem_cons.mpr ⟨?_, fun _ h => absurd h List.not_mem_nil⟩⟩
  · exact hc_w 356 (by decide +kernel) (by decide +kernel)
  · exact hc_w 358 (by decide +kernel) (by decide +kernel)
theorem hc_lyw5 : ∀ w ∈ u_ws RX5 TX5 2, w ∈ hc_ALL := by
  refine List.forall_mem_cons.mpr ⟨?_, List.forall_mem_cons.mpr ⟨?_, fun _ h => absurd h List.not_mem_nil⟩⟩
  · exact hc_w 370 (by decide +kernel) (by decide +kernel)
  · exact hc_w 372 (by decide +kernel) (by decide +kernel)
theorem hc_lyw6 : ∀ w ∈ u_ws RX6 TX6 18, w ∈ hc_ALL := by
  refine List.forall_mem_cons.mpr ⟨?_, List.forall_mem_cons.mpr ⟨?_, List.forall_mem_cons.mpr ⟨?_, List.forall_mem_cons.mpr ⟨?_, List.forall_mem_cons.mpr ⟨?_, List.forall_mem_cons.mpr ⟨?_, List.forall_mem_cons.mpr ⟨?_, List.forall_mem_cons.mpr ⟨?_, List.forall_mem_cons.mpr ⟨?_, List.forall_mem_cons.mpr ⟨?_, List.forall_mem_cons.mpr ⟨?_, List.forall_mem_cons.mpr ⟨?_, List.forall_mem_cons.mpr ⟨?_, List.forall_mem_cons.mpr ⟨?_, List.forall_mem_cons.mpr ⟨?_, List.forall_mem_cons.mpr ⟨?_, List.forall_mem_cons.mpr ⟨?_, List.forall_mem_cons.mpr ⟨?_, fun _ h => absurd h List.not_mem_nil⟩⟩⟩⟩⟩⟩⟩⟩⟩⟩⟩⟩⟩⟩⟩⟩⟩⟩
  · exact hc_w 393 (by decide +kernel) (by decide +kernel)
  · exact hc_w 395 (by decide +kernel) (by decide +kernel)
  · exact hc_w 397 (by decide +kernel) (by decide +kernel)
  · exact hc_w 399 (by decide +kernel) (by decide +kernel)
  · exact hc_w 401 (by decide +kernel) (by decide +kernel)
  · exact hc_w 403 (by decide +kernel) (by decide +kernel)
  · exact hc_w 405 (by decide +kernel) (by decide +kernel)
  · exact hc_w 407 (by decide +kernel) (by decide +kernel)
  · exact hc_w 409 (by decide +kernel) (by decide +kernel)
  · exact hc_w 411 (by decide +kernel) (by decide +kernel)
  · exact hc_w 413 (by decide +kernel) (by decide +kernel)
  · exact hc_w 415 (by decide +kernel) (by decide +kernel)
  · exact hc_w 417 (by decide +kernel) (by decide +kernel)
  · exact hc_w 419 (by decide +kernel) (by decide +kernel)
  · exact hc_w 421 (by decide +kernel) (by decide +kernel)
  · exact hc_w 423 (by decide +kernel) (by decide +kernel)
  · exact hc_w 425 (by decide +kernel) (by decide +kernel)
  · exact hc_w 427 (by decide +kernel) (by decide +kernel)
/-- the links between nest mates -/
def hc_NW : List Cond := [.methodLinkNest (hc_cn 1) 11 (hc_y 16) "HotCells", .methodLinkNest (hc_cn 1) 67 (hc_y 39) "HotCells", .methodLinkNest (hc_cn 2) 24 (hc_y 39) "HotCells", .methodLinkNest (hc_cn 3) 11 (hc_y 16) "HotCells", .methodLinkNest (hc_cn 3) 24 (hc_y 0) "HotCells", .methodLinkNest (hc_cn 3) 31 (hc_y 5) "HotCells", .methodLinkNest (hc_cn 6) 36 (hc_y 40) "HotCellsModel", .methodLinkNest (hc_cn 6) 46 (hc_y 43) "HotCellsModel"]
theorem hc_nww : ∀ w ∈ hc_NW, w ∈ lw_tbl := by
  refine List.forall_mem_cons.mpr ⟨?_, List.forall_mem_cons.mpr ⟨?_, List.forall_mem_cons.mpr ⟨?_, List.forall_mem_cons.mpr ⟨?_, List.forall_mem_cons.mpr ⟨?_, List.forall_mem_cons.mpr ⟨?_, List.forall_mem_cons.mpr ⟨?_, List.forall_mem_cons.mpr ⟨?_, fun _ h => absurd h List.not_mem_nil⟩⟩⟩⟩⟩⟩⟩⟩
  · exact List.mem_of_getElem? (i := 92) (by decide +kernel)
  · exact List.mem_of_getElem? (i := 265) (by decide +kernel)
  · exact List.mem_of_getElem? (i := 165) (by decide +kernel)
  · exact List.mem_of_getElem? (i := 47) (by decide +kernel)
  · exact List.mem_of_getElem? (i := 70) (by decide +kernel)
  · exact List.mem_of_getElem? (i := 87) (by decide +kernel)
  · exact List.mem_of_getElem? (i := 348) (by decide +kernel)
  · exact List.mem_of_getElem? (i := 363) (by decide +kernel)
/-- what the tables say of a method that is called -/
def hc_Pm (m2 : Nat) : Prop := Cond.code (hc_y m2) (hc_b m2) (hc_mx m2) (hc_rty m2) ∈ hc_ALL ∧ Cond.initialized (hc_y m2).cls ∈ hc_ALL ∧ ((hc_y m2).cls ≠ "java/lang/invoke/MethodHandle" ∧ (hc_y m2).cls ≠ "java/lang/invoke/VarHandle") ∧ (parseMethodDescriptor (hc_y m2).desc).map (fun d => d.parameters.length) = some (if hc_md m2 = 2 then hc_na m2 else hc_na m2 - 1) ∧ plainFor (hc_y m2) = true ∧ (hc_y m2).cls = hc_cn (hc_own m2) ∧ (hc_md m2 = 2 → Cond.static (hc_y m2) ∈ hc_ALL) ∧ (hc_md m2 ≠ 2 → Cond.instanceMethod (hc_y m2) ∈ hc_ALL ∧ 1 ≤ hc_na m2 ∧ hc_own m2 < 7) ∧ (hc_md m2 = 0 → Cond.selects (hc_cn (hc_own m2)) (hc_y m2) (hc_y m2) ∈ hc_ALL) ∧ (hc_md m2 = 1 → (hc_y m2).name = "<init>" ∧ hc_rty m2 = none)
theorem hc_pm0 : hc_Pm 0 := ⟨hc_w 72 (by decide +kernel) (by decide +kernel), hc_w 29 (by decide +kernel) (by decide +kernel), ⟨by decide +kernel, by decide +kernel⟩, by decide +kernel, by decide +kernel, rfl, fun h => absurd h (by decide), fun _ => ⟨hc_w 71 (by decide +kernel) (by decide +kernel), by decide, by decide⟩, fun h => absurd h (by decide), fun _ => ⟨rfl, rfl⟩⟩
theorem hc_pm1 : hc_Pm 1 := ⟨hc_w 216 (by decide +kernel) (by decide +kernel), hc_w 29 (by decide +kernel) (by decide +kernel), ⟨by decide +kernel, by decide +kernel⟩, by decide +kernel, by decide +kernel, rfl, fun h => absurd h (by decide), fun _ => ⟨hc_w 214 (by decide +kernel) (by decide +kernel), by decide, by decide⟩, fun _ => hc_w 215 (by decide +kernel) (by decide +kernel), fun h => absurd h (by decide)⟩
theorem hc_pm2 : hc_Pm 2 := ⟨hc_w 245 (by decide +kernel) (by decide +kernel), hc_w 29 (by decide +kernel) (by decide +kernel), ⟨by decide +kernel, by decide +kernel⟩, by decide +kernel, by decide +kernel, rfl, fun h => absurd h (by decide), fun _ => ⟨hc_w 243 (by decide +kernel) (by decide +kernel), by decide, by decide⟩, fun _ => hc_w 244 (by decide +kernel) (by decide +kernel), fun h => absurd h (by decide)⟩
theorem hc_pm3 : hc_Pm 3 := ⟨hc_w 249 (by decide +kernel) (by decide +kernel), hc_w 29 (by decide +kernel) (by decide +kernel), ⟨by decide +kernel, by decide +kernel⟩, by decide +kernel, by decide +kernel, rfl, fun h => absurd h (by decide), fun _ => ⟨hc_w 248 (by decide +kernel) (by decide +kernel), by decide, by decide⟩, fun _ => hc_w 6 (by decide +kernel) (by decide +kernel), fun h => absurd h (by decide)⟩
theorem hc_pm4 : hc_Pm 4 := ⟨hc_w 253 (by decide +kernel) (by decide +kernel), hc_w 29 (by decide +kernel) (by decide +kernel), ⟨by decide +kernel, by decide +kernel⟩, by decide +kernel, by decide +kernel, rfl, fun h => absurd h (by decide), fun _ => ⟨hc_w 251 (by decide +kernel) (by decide +kernel), by decide, by decide⟩, fun _ => hc_w 252 (by decide +kernel) (by decide +kernel), fun h => absurd h (by decide)⟩
theorem hc_pm5 : hc_Pm 5 := ⟨hc_w 89 (by decide +kernel) (by decide +kernel), hc_w 30 (by decide +kernel) (by decide +kernel), ⟨by decide +kernel, by decide +kernel⟩, by decide +kernel, by decide +kernel, rfl, fun h => absurd h (by decide), fun _ => ⟨hc_w 88 (by decide +kernel) (by decide +kernel), by decide, by decide⟩, fun h => absurd h (by decide), fun _ => ⟨rfl, rfl⟩⟩
theorem hc_pm6 : hc_Pm 6 := ⟨hc_w 257 (by decide +kernel) (by decide +kernel), hc_w 30 (by decide +kernel) (by decide +kernel), ⟨by decide +kernel, by decide +kernel⟩, by decide +kernel, by decide +kernel, rfl, fun h => absurd h (by decide), fun _ => ⟨hc_w 255 (by decide +kernel) (by decide +kernel), by decide, by decide⟩, fun _ => hc_w 256 (by decide +kernel) (by decide +kernel), fun h => absurd h (by decide)⟩
theorem hc_pm7 : hc_Pm 7 := ⟨hc_w 264 (by decide +kernel) (by decide +kernel), hc_w 30 (by decide +kernel) (by decide +kernel), ⟨by decide +kernel, by decide +kernel⟩, by decide +kernel, by decide +kernel, rfl, fun h => absurd h (by decide), fun _ => ⟨hc_w 262 (by decide +kernel) (by decide +kernel), by decide, by decide⟩, fun _ => hc_w 263 (by decide +kernel) (by decide +kernel), fun h => absurd h (by decide)⟩
theorem hc_pm8 : hc_Pm 8 := ⟨hc_w 269 (by decide +kernel) (by decide +kernel), hc_w 30 (by decide +kernel) (by decide +kernel), ⟨by decide +kernel, by decide +kernel⟩, by decide +kernel, by decide +kernel, rfl, fun h => absurd h (by decide), fun _ => ⟨hc_w 268 (by decide +kernel) (by decide +kernel), by decide, by decide⟩, fun _ => hc_w 7 (by decide +kernel) (by decide +kernel), fun h => absurd h (by decide)⟩
theorem hc_pm9 : hc_Pm 9 := ⟨hc_w 273 (by decide +kernel) (by decide +kernel), hc_w 30 (by decide +kernel) (by decide +kernel), ⟨by decide +kernel, by decide +kernel⟩, by decide +kernel, by decide +kernel, rfl, fun h => absurd h (by decide), fun _ => ⟨hc_w 272 (by decide +kernel) (by decide +kernel), by decide, by decide⟩, fun _ => hc_w 8 (by decide +kernel) (by decide +kernel), fun h => absurd h (by decide)⟩
theorem hc_pm10 : hc_Pm 10 := ⟨hc_w 287 (by decide +kernel) (by decide +kernel), hc_w 30 (by decide +kernel) (by decide +kernel), ⟨by decide +kernel, by decide +kernel⟩, by decide +kernel, by decide +kernel, rfl, fun h => absurd h (by decide), fun _ => ⟨hc_w 286 (by decide +kernel) (by decide +kernel), by decide, by decide⟩, fun _ => hc_w 9 (by decide +kernel) (by decide +kernel), fun h => absurd h (by decide)⟩
theorem hc_pm11 : hc_Pm 11 := ⟨hc_w 291 (by decide +kernel) (by decide +kernel), hc_w 30 (by decide +kernel) (by decide +kernel), ⟨by decide +kernel, by decide +kernel⟩, by decide +kernel, by decide +kernel, rfl, fun h => absurd h (by decide), fun _ => ⟨hc_w 290 (by decide +kernel) (by decide +kernel), by decide, by decide⟩, fun _ => hc_w 10 (by decide +kernel) (by decide +kernel), fun h => absurd h (by decide)⟩
theorem hc_pm12 : hc_Pm 12 := ⟨hc_w 295 (by decide +kernel) (by decide +kernel), hc_w 30 (by decide +kernel) (by decide +kernel), ⟨by decide +kernel, by decide +kernel⟩, by decide +kernel, by decide +kernel, rfl, fun h => absurd h (by decide), fun _ => ⟨hc_w 294 (by decide +kernel) (by decide +kernel), by decide, by decide⟩, fun _ => hc_w 11 (by decide +kernel) (by decide +kernel), fun h => absurd h (by decide)⟩
theorem hc_pm13 : hc_Pm 13 := ⟨hc_w 299 (by decide +kernel) (by decide +kernel), hc_w 30 (by decide +kernel) (by decide +kernel), ⟨by decide +kernel, by decide +kernel⟩, by decide +kernel, by decide +kernel, rfl, fun h => absurd h (by decide), fun _ => ⟨hc_w 297 (by decide +kernel) (by decide +kernel), by decide, by decide⟩, fun _ => hc_w 298 (by decide +kernel) (by decide +kernel), fun h => absurd h (by decide)⟩
theorem hc_pm14 : hc_Pm 14 := ⟨hc_w 306 (by decide +kernel) (by decide +kernel), hc_w 30 (by decide +kernel) (by decide +kernel), ⟨by decide +kernel, by decide +kernel⟩, by decide +kernel, by decide +kernel, rfl, fun h => absurd h (by decide), fun _ => ⟨hc_w 304 (by decide +kernel) (by decide +kernel), by decide, by decide⟩, fun _ => hc_w 305 (by decide +kernel) (by decide +kernel), fun h => absurd h (by decide)⟩
theorem hc_pm15 : hc_Pm 15 := ⟨hc_w 309 (by decide +kernel) (by decide +kernel), hc_w 30 (by decide +kernel) (by decide +kernel), ⟨by decide +kernel, by decide +kernel⟩, by decide +kernel, by decide +kernel, rfl, fun _ => hc_w 308 (by decide +kernel) (by decide +kernel), fun h => absurd rfl h, fun h => absurd h (by decide), fun h => absurd h (by decide)⟩
theorem hc_pm16 : hc_Pm 16 := ⟨hc_w 49 (by decide +kernel) (by decide +kernel), hc_w 28 (by decide +kernel) (by decide +kernel), ⟨by decide +kernel, by decide +kernel⟩, by decide +kernel, by decide +kernel, rfl, fun h => absurd h (by decide), fun _ => ⟨hc_w 48 (by decide +kernel) (by decide +kernel), by decide, by decide⟩, fun h => absurd h (by decide), fun _ => ⟨rfl, rfl⟩⟩
theorem hc_pm17 : hc_Pm 17 := ⟨hc_w 160 (by decide +kernel) (by decide +kernel), hc_w 28 (by decide +kernel) (by decide +kernel), ⟨by decide +kernel, by decide +kernel⟩, by decide +kernel, by decide +kernel, rfl, fun h => absurd h (by decide), fun _ => ⟨hc_w 158 (by decide +kernel) (by decide +kernel), by decide, by decide⟩, fun _ => hc_w 159 (by decide +kernel) (by decide +kernel), fun h => absurd h (by decide)⟩
theorem hc_pm18 : hc_Pm 18 := ⟨hc_w 164 (by decide +kernel) (by decide +kernel), hc_w 28 (by decide +kernel) (by decide +kernel), ⟨by decide +kernel, by decide +kernel⟩, by decide +kernel, by decide +kernel, rfl, fun h => absurd h (by decide), fun _ => ⟨hc_w 162 (by decide +kernel) (by decide +kernel), by decide, by decide⟩, fun _ => hc_w 163 (by decide +kernel) (by decide +kernel), fun h => absurd h (by decide)⟩
theorem hc_pm19 : hc_Pm 19 := ⟨hc_w 282 (by decide +kernel) (by decide +kernel), hc_w 28 (by decide +kernel) (by decide +kernel), ⟨by decide +kernel, by decide +kernel⟩, by decide +kernel, by decide +kernel, rfl, fun h => absurd h (by decide), fun _ => ⟨hc_w 280 (by decide +kernel) (by decide +kernel), by decide, by decide⟩, fun _ => hc_w 281 (by decide +kernel) (by decide +kernel), fun h => absurd h (by decide)⟩
theorem hc_pm20 : hc_Pm 20 := ⟨hc_w 41 (by decide +kernel) (by decide +kernel), hc_w 27 (by decide +kernel) (by decide +kernel), ⟨by decide +kernel, by decide +kernel⟩, by decide +kernel, by decide +kernel, rfl, fun h => absurd h (by decide), fun _ => ⟨hc_w 40 (by decide +kernel) (by decide +kernel), by decide, by decide⟩, fun h => absurd h (by decide), fun _ => ⟨rfl, rfl⟩⟩
theorem hc_pm21 : hc_Pm 21 := ⟨hc_w 151 (by decide +kernel) (by decide +kernel), hc_w 27 (by decide +kernel) (by decide +kernel), ⟨by decide +kernel, by decide +kernel⟩, by decide +kernel, by decide +kernel, rfl, fun h => absurd h (by decide), fun _ => ⟨hc_w 149 (by decide +kernel) (by decide +kernel), by decide, by decide⟩, fun _ => hc_w 150 (by decide +kernel) (by decide +kernel), fun h => absurd h (by decide)⟩
theorem hc_pm22 : hc_Pm 22 := ⟨hc_w 190 (by decide +kernel) (by decide +kernel), hc_w 27 (by decide +kernel) (by decide +kernel), ⟨by decide +kernel, by decide +kernel⟩, by decide +kernel, by decide +kernel, rfl, fun h => absurd h (by decide), fun _ => ⟨hc_w 188 (by decide +kernel) (by decide +kernel), by decide, by decide⟩, fun _ => hc_w 189 (by decide +kernel) (by decide +kernel), fun h => absurd h (by decide)⟩
theorem hc_pm23 : hc_Pm 23 := ⟨hc_w 194 (by decide +kernel) (by decide +kernel), hc_w 27 (by decide +kernel) (by decide +kernel), ⟨by decide +kernel, by decide +kernel⟩, by decide +kernel, by decide +kernel, rfl, fun h => absurd h (by decide), fun _ => ⟨hc_w 192 (by decide +kernel) (by decide +kernel), by decide, by decide⟩, fun _ => hc_w 193 (by decide +kernel) (by decide +kernel), fun h => absurd h (by decide)⟩
theorem hc_pm24 : hc_Pm 24 := ⟨hc_w 198 (by decide +kernel) (by decide +kernel), hc_w 27 (by decide +kernel) (by decide +kernel), ⟨by decide +kernel, by decide +kernel⟩, by decide +kernel, by decide +kernel, rfl, fun h => absurd h (by decide), fun _ => ⟨hc_w 196 (by decide +kernel) (by decide +kernel), by decide, by decide⟩, fun _ => hc_w 197 (by decide +kernel) (by decide +kernel), fun h => absurd h (by decide)⟩
theorem hc_pm25 : hc_Pm 25 := ⟨hc_w 313 (by decide +kernel) (by decide +kernel), hc_w 27 (by decide +kernel) (by decide +kernel), ⟨by decide +kernel, by decide +kernel⟩, by decide +kernel, by decide +kernel, rfl, fun h => absurd h (by decide), fun _ => ⟨hc_w 311 (by decide +kernel) (by decide +kernel), by decide, by decide⟩, fun _ => hc_w 312 (by decide +kernel) (by decide +kernel), fun h => absurd h (by decide)⟩
theorem hc_pm26 : hc_Pm 26 := ⟨hc_w 317 (by decide +kernel) (by decide +kernel), hc_w 27 (by decide +kernel) (by decide +kernel), ⟨by decide +kernel, by decide +kernel⟩, by decide +kernel, by decide +kernel, rfl, fun h => absurd h (by decide), fun _ => ⟨hc_w 315 (by decide +kernel) (by decide +kernel), by decide, by decide⟩, fun _ => hc_w 316 (by decide +kernel) (by decide +kernel), fun h => absurd h (by decide)⟩
theorem hc_pm27 : hc_Pm 27 := ⟨hc_w 322 (by decide +kernel) (by decide +kernel), hc_w 27 (by decide +kernel) (by decide +kernel), ⟨by decide +kernel, by decide +kernel⟩, by decide +kernel, by decide +kernel, rfl, fun h => absurd h (by decide), fun _ => ⟨hc_w 320 (by decide +kernel) (by decide +kernel), by decide, by decide⟩, fun _ => hc_w 321 (by decide +kernel) (by decide +kernel), fun h => absurd h (by decide)⟩
theorem hc_pm28 : hc_Pm 28 := ⟨hc_w 327 (by decide +kernel) (by decide +kernel), hc_w 27 (by decide +kernel) (by decide +kernel), ⟨by decide +kernel, by decide +kernel⟩, by decide +kernel, by decide +kernel, rfl, fun h => absurd h (by decide), fun _ => ⟨hc_w 325 (by decide +kernel) (by decide +kernel), by decide, by decide⟩, fun _ => hc_w 326 (by decide +kernel) (by decide +kernel), fun h => absurd h (by decide)⟩
theorem hc_pm29 : hc_Pm 29 := ⟨hc_w 331 (by decide +kernel) (by decide +kernel), hc_w 27 (by decide +kernel) (by decide +kernel), ⟨by decide +kernel, by decide +kernel⟩, by decide +kernel, by decide +kernel, rfl, fun h => absurd h (by decide), fun _ => ⟨hc_w 329 (by decide +kernel) (by decide +kernel), by decide, by decide⟩, fun _ => hc_w 330 (by decide +kernel) (by decide +kernel), fun h => absurd h (by decide)⟩
theorem hc_pm30 : hc_Pm 30 := ⟨hc_w 335 (by decide +kernel) (by decide +kernel), hc_w 27 (by decide +kernel) (by decide +kernel), ⟨by decide +kernel, by decide +kernel⟩, by decide +kernel, by decide +kernel, rfl, fun h => absurd h (by decide), fun _ => ⟨hc_w 333 (by decide +kernel) (by decide +kernel), by decide, by decide⟩, fun _ => hc_w 334 (by decide +kernel) (by decide +kernel), fun h => absurd h (by decide)⟩
theorem hc_pm31 : hc_Pm 31 := ⟨hc_w 339 (by decide +kernel) (by decide +kernel), hc_w 27 (by decide +kernel) (by decide +kernel), ⟨by decide +kernel, by decide +kernel⟩, by decide +kernel, by decide +kernel, rfl, fun h => absurd h (by decide), fun _ => ⟨hc_w 337 (by decide +kernel) (by decide +kernel), by decide, by decide⟩, fun _ => hc_w 338 (by decide +kernel) (by decide +kernel), fun h => absurd h (by decide)⟩
theorem hc_pm32 : hc_Pm 32 := ⟨hc_w 154 (by decide +kernel) (by decide +kernel), hc_w 27 (by decide +kernel) (by decide +kernel), ⟨by decide +kernel, by decide +kernel⟩, by decide +kernel, by decide +kernel, rfl, fun _ => hc_w 153 (by decide +kernel) (by decide +kernel), fun h => absurd rfl h, fun h => absurd h (by decide), fun h => absurd h (by decide)⟩
theorem hc_pm33 : hc_Pm 33 := ⟨hc_w 202 (by decide +kernel) (by decide +kernel), hc_w 27 (by decide +kernel) (by decide +kernel), ⟨by decide +kernel, by decide +kernel⟩, by decide +kernel, by decide +kernel, rfl, fun h => absurd h (by decide), fun _ => ⟨hc_w 201 (by decide +kernel) (by decide +kernel), by decide, by decide⟩, fun _ => hc_w 0 (by decide +kernel) (by decide +kernel), fun h => absurd h (by decide)⟩
theorem hc_pm34 : hc_Pm 34 := ⟨hc_w 241 (by decide +kernel) (by decide +kernel), hc_w 27 (by decide +kernel) (by decide +kernel), ⟨by decide +kernel, by decide +kernel⟩, by decide +kernel, by decide +kernel, rfl, fun h => absurd h (by decide), fun _ => ⟨hc_w 240 (by decide +kernel) (by decide +kernel), by decide, by decide⟩, fun _ => hc_w 5 (by decide +kernel) (by decide +kernel), fun h => absurd h (by decide)⟩
theorem hc_pm35 : hc_Pm 35 := ⟨hc_w 206 (by decide +kernel) (by decide +kernel), hc_w 27 (by decide +kernel) (by decide +kernel), ⟨by decide +kernel, by decide +kernel⟩, by decide +kernel, by decide +kernel, rfl, fun h => absurd h (by decide), fun _ => ⟨hc_w 205 (by decide +kernel) (by decide +kernel), by decide, by decide⟩, fun _ => hc_w 1 (by decide +kernel) (by decide +kernel), fun h => absurd h (by decide)⟩
theorem hc_pm36 : hc_Pm 36 := ⟨hc_w 210 (by decide +kernel) (by decide +kernel), hc_w 27 (by decide +kernel) (by decide +kernel), ⟨by decide +kernel, by decide +kernel⟩, by decide +kernel, by decide +kernel, rfl, fun h => absurd h (by decide), fun _ => ⟨hc_w 209 (by decide +kernel) (by decide +kernel), by decide, by decide⟩, fun _ => hc_w 2 (by decide +kernel) (by decide +kernel), fun h => absurd h (by decide)⟩
theorem hc_pm37 : hc_Pm 37 := ⟨hc_w 229 (by decide +kernel) (by decide +kernel), hc_w 27 (by decide +kernel) (by decide +kernel), ⟨by decide +kernel, by decide +kernel⟩, by decide +kernel, by decide +kernel, rfl, fun h => absurd h (by decide), fun _ => ⟨hc_w 228 (by decide +kernel) (by decide +kernel), by decide, by decide⟩, fun _ => hc_w 3 (by decide +kernel) (by decide +kernel), fun h => absurd h (by decide)⟩
theorem hc_pm38 : hc_Pm 38 := ⟨hc_w 233 (by decide +kernel) (by decide +kernel), hc_w 27 (by decide +kernel) (by decide +kernel), ⟨by decide +kernel, by decide +kernel⟩, by decide +kernel, by decide +kernel, rfl, fun h => absurd h (by decide), fun _ => ⟨hc_w 232 (by decide +kernel) (by decide +kernel), by decide, by decide⟩, fun _ => hc_w 4 (by decide +kernel) (by decide +kernel), fun h => absurd h (by decide)⟩
theorem hc_pm39 : hc_Pm 39 := ⟨hc_w 167 (by decide +kernel) (by decide +kernel), hc_w 27 (by decide +kernel) (by decide +kernel), ⟨by decide +kernel, by decide +kernel⟩, by decide +kernel, by decide +kernel, rfl, fun _ => hc_w 166 (by decide +kernel) (by decide +kernel), fun h => absurd rfl h, fun h => absurd h (by decide), fun h => absurd h (by decide)⟩
theorem hc_pm40 : hc_Pm 40 := ⟨hc_w 350 (by decide +kernel) (by decide +kernel), hc_w 32 (by decide +kernel) (by decide +kernel), ⟨by decide +kernel, by decide +kernel⟩, by decide +kernel, by decide +kernel, rfl, fun h => absurd h (by decide), fun _ => ⟨hc_w 349 (by decide +kernel) (by decide +kernel), by decide, by decide⟩, fun h => absurd h (by decide), fun _ => ⟨rfl, rfl⟩⟩
theorem hc_pm41 : hc_Pm 41 := ⟨hc_w 454 (by decide +kernel) (by decide +kernel), hc_w 32 (by decide +kernel) (by decide +kernel), ⟨by decide +kernel, by decide +kernel⟩, by decide +kernel, by decide +kernel, rfl, fun h => absurd h (by decide), fun _ => ⟨hc_w 452 (by decide +kernel) (by decide +kernel), by decide, by decide⟩, fun _ => hc_w 453 (by decide +kernel) (by decide +kernel), fun h => absurd h (by decide)⟩
theorem hc_pm42 : hc_Pm 42 := ⟨hc_w 442 (by decide +kernel) (by decide +kernel), hc_w 32 (by decide +kernel) (by decide +kernel), ⟨by decide +kernel, by decide +kernel⟩, by decide +kernel, by decide +kernel, rfl, fun h => absurd h (by decide), fun _ => ⟨hc_w 440 (by decide +kernel) (by decide +kernel), by decide, by decide⟩, fun _ => hc_w 441 (by decide +kernel) (by decide +kernel), fun h => absurd h (by decide)⟩
theorem hc_pm43 : hc_Pm 43 := ⟨hc_w 365 (by decide +kernel) (by decide +kernel), hc_w 33 (by decide +kernel) (by decide +kernel), ⟨by decide +kernel, by decide +kernel⟩, by decide +kernel, by decide +kernel, rfl, fun h => absurd h (by decide), fun _ => ⟨hc_w 364 (by decide +kernel) (by decide +kernel), by decide, by decide⟩, fun h => absurd h (by decide), fun _ => ⟨rfl, rfl⟩⟩
theorem hc_pm44 : hc_Pm 44 := ⟨hc_w 462 (by decide +kernel) (by decide +kernel), hc_w 33 (by decide +kernel) (by decide +kernel), ⟨by decide +kernel, by decide +kernel⟩, by decide +kernel, by decide +kernel, rfl, fun h => absurd h (by decide), fun _ => ⟨hc_w 460 (by decide +kernel) (by decide +kernel), by decide, by decide⟩, fun _ => hc_w 461 (by decide +kernel) (by decide +kernel), fun h => absurd h (by decide)⟩
theorem hc_pm45 : hc_Pm 45 := ⟨hc_w 469 (by decide +kernel) (by decide +kernel), hc_w 33 (by decide +kernel) (by decide +kernel), ⟨by decide +kernel, by decide +kernel⟩, by decide +kernel, by decide +kernel, rfl, fun _ => hc_w 468 (by decide +kernel) (by decide +kernel), fun h => absurd rfl h, fun h => absurd h (by decide), fun h => absurd h (by decide)⟩
theorem hc_pm46 : hc_Pm 46 := ⟨hc_w 466 (by decide +kernel) (by decide +kernel), hc_w 33 (by decide +kernel) (by decide +kernel), ⟨by decide +kernel, by decide +kernel⟩, by decide +kernel, by decide +kernel, rfl, fun h => absurd h (by decide), fun _ => ⟨hc_w 464 (by decide +kernel) (by decide +kernel), by decide, by decide⟩, fun _ => hc_w 465 (by decide +kernel) (by decide +kernel), fun h => absurd h (by decide)⟩
theorem hc_pm47 : hc_Pm 47 := ⟨hc_w 531 (by decide +kernel) (by decide +kernel), hc_w 33 (by decide +kernel) (by decide +kernel), ⟨by decide +kernel, by decide +kernel⟩, by decide +kernel, by decide +kernel, rfl, fun h => absurd h (by decide), fun _ => ⟨hc_w 529 (by decide +kernel) (by decide +kernel), by decide, by decide⟩, fun _ => hc_w 530 (by decide +kernel) (by decide +kernel), fun h => absurd h (by decide)⟩
theorem hc_pm48 : hc_Pm 48 := ⟨hc_w 535 (by decide +kernel) (by decide +kernel), hc_w 33 (by decide +kernel) (by decide +kernel), ⟨by decide +kernel, by decide +kernel⟩, by decide +kernel, by decide +kernel, rfl, fun h => absurd h (by decide), fun _ => ⟨hc_w 533 (by decide +kernel) (by decide +kernel), by decide, by decide⟩, fun _ => hc_w 534 (by decide +kernel) (by decide +kernel), fun h => absurd h (by decide)⟩
theorem hc_pm49 : hc_Pm 49 := ⟨hc_w 478 (by decide +kernel) (by decide +kernel), hc_w 33 (by decide +kernel) (by decide +kernel), ⟨by decide +kernel, by decide +kernel⟩, by decide +kernel, by decide +kernel, rfl, fun h => absurd h (by decide), fun _ => ⟨hc_w 476 (by decide +kernel) (by decide +kernel), by decide, by decide⟩, fun _ => hc_w 477 (by decide +kernel) (by decide +kernel), fun h => absurd h (by decide)⟩
theorem hc_pm50 : hc_Pm 50 := ⟨hc_w 482 (by decide +kernel) (by decide +kernel), hc_w 33 (by decide +kernel) (by decide +kernel), ⟨by decide +kernel, by decide +kernel⟩, by decide +kernel, by decide +kernel, rfl, fun h => absurd h (by decide), fun _ => ⟨hc_w 481 (by decide +kernel) (by decide +kernel), by decide, by decide⟩, fun _ => hc_w 13 (by decide +kernel) (by decide +kernel), fun h => absurd h (by decide)⟩
theorem hc_pm51 : hc_Pm 51 := ⟨hc_w 570 (by decide +kernel) (by decide +kernel), hc_w 33 (by decide +kernel) (by decide +kernel), ⟨by decide +kernel, by decide +kernel⟩, by decide +kernel, by decide +kernel, rfl, fun h => absurd h (by decide), fun _ => ⟨hc_w 568 (by decide +kernel) (by decide +kernel), by decide, by decide⟩, fun _ => hc_w 569 (by decide +kernel) (by decide +kernel), fun h => absurd h (by decide)⟩
theorem hc_pm52 : hc_Pm 52 := ⟨hc_w 502 (by decide +kernel) (by decide +kernel), hc_w 31 (by decide +kernel) (by decide +kernel), ⟨by decide +kernel, by decide +kernel⟩, by decide +kernel, by decide +kernel, rfl, fun _ => hc_w 501 (by decide +kernel) (by decide +kernel), fun h => absurd rfl h, fun h => absurd h (by decide), fun h => absurd h (by decide)⟩
theorem hc_pm53 : hc_Pm 53 := ⟨hc_w 505 (by decide +kernel) (by decide +kernel), hc_w 31 (by decide +kernel) (by decide +kernel), ⟨by decide +kernel, by decide +kernel⟩, by decide +kernel, by decide +kernel, rfl, fun _ => hc_w 504 (by decide +kernel) (by decide +kernel), fun h => absurd rfl h, fun h => absurd h (by decide), fun h => absurd h (by decide)⟩
theorem hc_pm54 : hc_Pm 54 := ⟨hc_w 511 (by decide +kernel) (by decide +kernel), hc_w 31 (by decide +kernel) (by decide +kernel), ⟨by decide +kernel, by decide +kernel⟩, by decide +kernel, by decide +kernel, rfl, fun _ => hc_w 510 (by decide +kernel) (by decide +kernel), fun h => absurd rfl h, fun h => absurd h (by decide), fun h => absurd h (by decide)⟩
theorem hc_pm55 : hc_Pm 55 := ⟨hc_w 499 (by decide +kernel) (by decide +kernel), hc_w 31 (by decide +kernel) (by decide +kernel), ⟨by decide +kernel, by decide +kernel⟩, by decide +kernel, by decide +kernel, rfl, fun _ => hc_w 498 (by decide +kernel) (by decide +kernel), fun h => absurd rfl h, fun h => absurd h (by decide), fun h => absurd h (by decide)⟩
theorem hc_pm56 : hc_Pm 56 := ⟨hc_w 508 (by decide +kernel) (by decide +kernel), hc_w 31 (by decide +kernel) (by decide +kernel), ⟨by decide +kernel, by decide +kernel⟩, by decide +kernel, by decide +kernel, rfl, fun _ => hc_w 507 (by decide +kernel) (by decide +kernel), fun h => absurd rfl h, fun h => absurd h (by decide), fun h => absurd h (by decide)⟩
theorem hc_pm57 : hc_Pm 57 := ⟨hc_w 344 (by decide +kernel) (by decide +kernel), hc_w 31 (by decide +kernel) (by decide +kernel), ⟨by decide +kernel, by decide +kernel⟩, by decide +kernel, by decide +kernel, rfl, fun h => absurd h (by decide), fun _ => ⟨hc_w 343 (by decide +kernel) (by decide +kernel), by decide, by decide⟩, fun h => absurd h (by decide), fun _ => ⟨rfl, rfl⟩⟩
theorem hc_pm58 : hc_Pm 58 := ⟨hc_w 436 (by decide +kernel) (by decide +kernel), hc_w 31 (by decide +kernel) (by decide +kernel), ⟨by decide +kernel, by decide +kernel⟩, by decide +kernel, by decide +kernel, rfl, fun _ => hc_w 435 (by decide +kernel) (by decide +kernel), fun h => absurd rfl h, fun h => absurd h (by decide), fun h => absurd h (by decide)⟩
theorem hc_pm59 : hc_Pm 59 := ⟨hc_w 433 (by decide +kernel) (by decide +kernel), hc_w 31 (by decide +kernel) (by decide +kernel), ⟨by decide +kernel, by decide +kernel⟩, by decide +kernel, by decide +kernel, rfl, fun h => absurd h (by decide), fun _ => ⟨hc_w 431 (by decide +kernel) (by decide +kernel), by decide, by decide⟩, fun _ => hc_w 432 (by decide +kernel) (by decide +kernel), fun h => absurd h (by decide)⟩
theorem hc_pm60 : hc_Pm 60 := ⟨hc_w 446 (by decide +kernel) (by decide +kernel), hc_w 31 (by decide +kernel) (by decide +kernel), ⟨by decide +kernel, by decide +kernel⟩, by decide +kernel, by decide +kernel, rfl, fun h => absurd h (by decide), fun _ => ⟨hc_w 444 (by decide +kernel) (by decide +kernel), by decide, by decide⟩, fun _ => hc_w 445 (by decide +kernel) (by decide +kernel), fun h => absurd h (by decide)⟩
theorem hc_pm61 : hc_Pm 61 := ⟨hc_w 450 (by decide +kernel) (by decide +kernel), hc_w 31 (by decide +kernel) (by decide +kernel), ⟨by decide +kernel, by decide +kernel⟩, by decide +kernel, by decide +kernel, rfl, fun h => absurd h (by decide), fun _ => ⟨hc_w 448 (by decide +kernel) (by decide +kernel), by decide, by decide⟩, fun _ => hc_w 449 (by decide +kernel) (by decide +kernel), fun h => absurd h (by decide)⟩
theorem hc_pm62 : hc_Pm 62 := ⟨hc_w 490 (by decide +kernel) (by decide +kernel), hc_w 31 (by decide +kernel) (by decide +kernel), ⟨by decide +kernel, by decide +kernel⟩, by decide +kernel, by decide +kernel, rfl, fun h => absurd h (by decide), fun _ => ⟨hc_w 489 (by decide +kernel) (by decide +kernel), by decide, by decide⟩, fun _ => hc_w 15 (by decide +kernel) (by decide +kernel), fun h => absurd h (by decide)⟩
theorem hc_pm63 : hc_Pm 63 := ⟨hc_w 458 (by decide +kernel) (by decide +kernel), hc_w 31 (by decide +kernel) (by decide +kernel), ⟨by decide +kernel, by decide +kernel⟩, by decide +kernel, by decide +kernel, rfl, fun h => absurd h (by decide), fun _ => ⟨hc_w 456 (by decide +kernel) (by decide +kernel), by decide, by decide⟩, fun _ => hc_w 457 (by decide +kernel) (by decide +kernel), fun h => absurd h (by decide)⟩
theorem hc_pm64 : hc_Pm 64 := ⟨hc_w 566 (by decide +kernel) (by decide +kernel), hc_w 31 (by decide +kernel) (by decide +kernel), ⟨by decide +kernel, by decide +kernel⟩, by decide +kernel, by decide +kernel, rfl, fun h => absurd h (by decide), fun _ => ⟨hc_w 565 (by decide +kernel) (by decide +kernel), by decide, by decide⟩, fun _ => hc_w 25 (by decide +kernel) (by decide +kernel), fun h => absurd h (by decide)⟩
theorem hc_pm65 : hc_Pm 65 := ⟨hc_w 474 (by decide +kernel) (by decide +kernel), hc_w 31 (by decide +kernel) (by decide +kernel), ⟨by decide +kernel, by decide +kernel⟩, by decide +kernel, by decide +kernel, rfl, fun h => absurd h (by decide), fun _ => ⟨hc_w 473 (by decide +kernel) (by decide +kernel), by decide, by decide⟩, fun _ => hc_w 12 (by decide +kernel) (by decide +kernel), fun h => absurd h (by decide)⟩
theorem hc_pm66 : hc_Pm 66 := ⟨hc_w 486 (by decide +kernel) (by decide +kernel), hc_w 31 (by decide +kernel) (by decide +kernel), ⟨by decide +kernel, by decide +kernel⟩, by decide +kernel, by decide +kernel, rfl, fun h => absurd h (by decide), fun _ => ⟨hc_w 485 (by decide +kernel) (by decide +kernel), by decide, by decide⟩, fun _ => hc_w 14 (by decide +kernel) (by decide +kernel), fun h => absurd h (by decide)⟩
theorem hc_pm67 : hc_Pm 67 := ⟨hc_w 519 (by decide +kernel) (by decide +kernel), hc_w 31 (by decide +kernel) (by decide +kernel), ⟨by decide +kernel, by decide +kernel⟩, by decide +kernel, by decide +kernel, rfl, fun _ => hc_w 518 (by decide +kernel) (by decide +kernel), fun h => absurd rfl h, fun h => absurd h (by decide), fun h => absurd h (by decide)⟩
theorem hc_pm68 : hc_Pm 68 := ⟨hc_w 515 (by decide +kernel) (by decide +kernel), hc_w 31 (by decide +kernel) (by decide +kernel), ⟨by decide +kernel, by decide +kernel⟩, by decide +kernel, by decide +kernel, rfl, fun h => absurd h (by decide), fun _ => ⟨hc_w 514 (by decide +kernel) (by decide +kernel), by decide, by decide⟩, fun _ => hc_w 16 (by decide +kernel) (by decide +kernel), fun h => absurd h (by decide)⟩
theorem hc_pm69 : hc_Pm 69 := ⟨hc_w 548 (by decide +kernel) (by decide +kernel), hc_w 31 (by decide +kernel) (by decide +kernel), ⟨by decide +kernel, by decide +kernel⟩, by decide +kernel, by decide +kernel, rfl, fun h => absurd h (by decide), fun _ => ⟨hc_w 547 (by decide +kernel) (by decide +kernel), by decide, by decide⟩, fun _ => hc_w 21 (by decide +kernel) (by decide +kernel), fun h => absurd h (by decide)⟩
theorem hc_pm70 : hc_Pm 70 := ⟨hc_w 552 (by decide +kernel) (by decide +kernel), hc_w 31 (by decide +kernel) (by decide +kernel), ⟨by decide +kernel, by decide +kernel⟩, by decide +kernel, by decide +kernel, rfl, fun h => absurd h (by decide), fun _ => ⟨hc_w 551 (by decide +kernel) (by decide +kernel), by decide, by decide⟩, fun _ => hc_w 22 (by decide +kernel) (by decide +kernel), fun h => absurd h (by decide)⟩
theorem hc_pm71 : hc_Pm 71 := ⟨hc_w 544 (by decide +kernel) (by decide +kernel), hc_w 31 (by decide +kernel) (by decide +kernel), ⟨by decide +kernel, by decide +kernel⟩, by decide +kernel, by decide +kernel, rfl, fun h => absurd h (by decide), fun _ => ⟨hc_w 543 (by decide +kernel) (by decide +kernel), by decide, by decide⟩, fun _ => hc_w 20 (by decide +kernel) (by decide +kernel), fun h => absurd h (by decide)⟩
theorem hc_pm72 : hc_Pm 72 := ⟨hc_w 540 (by decide +kernel) (by decide +kernel), hc_w 31 (by decide +kernel) (by decide +kernel), ⟨by decide +kernel, by decide +kernel⟩, by decide +kernel, by decide +kernel, rfl, fun h => absurd h (by decide), fun _ => ⟨hc_w 539 (by decide +kernel) (by decide +kernel), by decide, by decide⟩, fun _ => hc_w 19 (by decide +kernel) (by decide +kernel), fun h => absurd h (by decide)⟩
theorem hc_pm73 : hc_Pm 73 := ⟨hc_w 560 (by decide +kernel) (by decide +kernel), hc_w 31 (by decide +kernel) (by decide +kernel), ⟨by decide +kernel, by decide +kernel⟩, by decide +kernel, by decide +kernel, rfl, fun h => absurd h (by decide), fun _ => ⟨hc_w 559 (by decide +kernel) (by decide +kernel), by decide, by decide⟩, fun _ => hc_w 24 (by decide +kernel) (by decide +kernel), fun h => absurd h (by decide)⟩
theorem hc_pm74 : hc_Pm 74 := ⟨hc_w 523 (by decide +kernel) (by decide +kernel), hc_w 31 (by decide +kernel) (by decide +kernel), ⟨by decide +kernel, by decide +kernel⟩, by decide +kernel, by decide +kernel, rfl, fun h => absurd h (by decide), fun _ => ⟨hc_w 522 (by decide +kernel) (by decide +kernel), by decide, by decide⟩, fun _ => hc_w 17 (by decide +kernel) (by decide +kernel), fun h => absurd h (by decide)⟩
theorem hc_pm75 : hc_Pm 75 := ⟨hc_w 527 (by decide +kernel) (by decide +kernel), hc_w 31 (by decide +kernel) (by decide +kernel), ⟨by decide +kernel, by decide +kernel⟩, by decide +kernel, by decide +kernel, rfl, fun h => absurd h (by decide), fun _ => ⟨hc_w 526 (by decide +kernel) (by decide +kernel), by decide, by decide⟩, fun _ => hc_w 18 (by decide +kernel) (by decide +kernel), fun h => absurd h (by decide)⟩
theorem hc_pm76 : hc_Pm 76 := ⟨hc_w 556 (by decide +kernel) (by decide +kernel), hc_w 31 (by decide +kernel) (by decide +kernel), ⟨by decide +kernel, by decide +kernel⟩, by decide +kernel, by decide +kernel, rfl, fun h => absurd h (by decide), fun _ => ⟨hc_w 555 (by decide +kernel) (by decide +kernel), by decide, by decide⟩, fun _ => hc_w 23 (by decide +kernel) (by decide +kernel), fun h => absurd h (by decide)⟩
theorem hc_pm77 : hc_Pm 77 := ⟨hc_w 574 (by decide +kernel) (by decide +kernel), hc_w 31 (by decide +kernel) (by decide +kernel), ⟨by decide +kernel, by decide +kernel⟩, by decide +kernel, by decide +kernel, rfl, fun h => absurd h (by decide), fun _ => ⟨hc_w 572 (by decide +kernel) (by decide +kernel), by decide, by decide⟩, fun _ => hc_w 573 (by decide +kernel) (by decide +kernel), fun h => absurd h (by decide)⟩
theorem hc_pm78 : hc_Pm 78 := ⟨hc_w 578 (by decide +kernel) (by decide +kernel), hc_w 31 (by decide +kernel) (by decide +kernel), ⟨by decide +kernel, by decide +kernel⟩, by decide +kernel, by decide +kernel, rfl, fun h => absurd h (by decide), fun _ => ⟨hc_w 576 (by decide +kernel) (by decide +kernel), by decide, by decide⟩, fun _ => hc_w 577 (by decide +kernel) (by decide +kernel), fun h => absurd h (by decide)⟩
theorem hc_pm79 : hc_Pm 79 := ⟨hc_w 583 (by decide +kernel) (by decide +kernel), hc_w 31 (by decide +kernel) (by decide +kernel), ⟨by decide +kernel, by decide +kernel⟩, by decide +kernel, by decide +kernel, rfl, fun h => absurd h (by decide), fun _ => ⟨hc_w 581 (by decide +kernel) (by decide +kernel), by decide, by decide⟩, fun _ => hc_w 582 (by decide +kernel) (by decide +kernel), fun h => absurd h (by decide)⟩
theorem hc_pm80 : hc_Pm 80 := ⟨hc_w 587 (by decide +kernel) (by decide +kernel), hc_w 31 (by decide +kernel) (by decide +kernel), ⟨by decide +kernel, by decide +kernel⟩, by decide +kernel, by decide +kernel, rfl, fun h => absurd h (by decide), fun _ => ⟨hc_w 585 (by decide +kernel) (by decide +kernel), by decide, by decide⟩, fun _ => hc_w 586 (by decide +kernel) (by decide +kernel), fun h => absurd h (by decide)⟩
theorem hc_pm81 : hc_Pm 81 := ⟨hc_w 591 (by decide +kernel) (by decide +kernel), hc_w 31 (by decide +kernel) (by decide +kernel), ⟨by decide +kernel, by decide +kernel⟩, by decide +kernel, by decide +kernel, rfl, fun h => absurd h (by decide), fun _ => ⟨hc_w 589 (by decide +kernel) (by decide +kernel), by decide, by decide⟩, fun _ => hc_w 590 (by decide +kernel) (by decide +kernel), fun h => absurd h (by decide)⟩
theorem hc_pm82 : hc_Pm 82 := ⟨hc_w 595 (by decide +kernel) (by decide +kernel), hc_w 31 (by decide +kernel) (by decide +kernel), ⟨by decide +kernel, by decide +kernel⟩, by decide +kernel, by decide +kernel, rfl, fun h => absurd h (by decide), fun _ => ⟨hc_w 593 (by decide +kernel) (by decide +kernel), by decide, by decide⟩, fun _ => hc_w 594 (by decide +kernel) (by decide +kernel), fun h => absurd h (by decide)⟩
theorem hc_pm83 : hc_Pm 83 := ⟨hc_w 599 (by decide +kernel) (by decide +kernel), hc_w 31 (by decide +kernel) (by decide +kernel), ⟨by decide +kernel, by decide +kernel⟩, by decide +kernel, by decide +kernel, rfl, fun h => absurd h (by decide), fun _ => ⟨hc_w 597 (by decide +kernel) (by decide +kernel), by decide, by decide⟩, fun _ => hc_w 598 (by decide +kernel) (by decide +kernel), fun h => absurd h (by decide)⟩
theorem hc_pm84 : hc_Pm 84 := ⟨hc_w 237 (by decide +kernel) (by decide +kernel), hc_w 34 (by decide +kernel) (by decide +kernel), ⟨by decide +kernel, by decide +kernel⟩, by decide +kernel, by decide +kernel, rfl, fun _ => hc_w 236 (by decide +kernel) (by decide +kernel), fun h => absurd rfl h, fun h => absurd h (by decide), fun h => absurd h (by decide)⟩
theorem hc_pm85 : hc_Pm 85 := ⟨hc_w 276 (by decide +kernel) (by decide +kernel), hc_w 34 (by decide +kernel) (by decide +kernel), ⟨by decide +kernel, by decide +kernel⟩, by decide +kernel, by decide +kernel, rfl, fun _ => hc_w 275 (by decide +kernel) (by decide +kernel), fun h => absurd rfl h, fun h => absurd h (by decide), fun h => absurd h (by decide)⟩
theorem hc_pm86 : hc_Pm 86 := ⟨hc_w 170 (by decide +kernel) (by decide +kernel), hc_w 34 (by decide +kernel) (by decide +kernel), ⟨by decide +kernel, by decide +kernel⟩, by decide +kernel, by decide +kernel, rfl, fun _ => hc_w 169 (by decide +kernel) (by decide +kernel), fun h => absurd rfl h, fun h => absurd h (by decide), fun h => absurd h (by decide)⟩
theorem hc_pm87 : hc_Pm 87 := ⟨hc_w 493 (by decide +kernel) (by decide +kernel), hc_w 34 (by decide +kernel) (by decide +kernel), ⟨by decide +kernel, by decide +kernel⟩, by decide +kernel, by decide +kernel, rfl, fun _ => hc_w 492 (by decide +kernel) (by decide +kernel), fun h => absurd rfl h, fun h => absurd h (by decide), fun h => absurd h (by decide)⟩
theorem hc_pm88 : hc_Pm 88 := ⟨hc_w 183 (by decide +kernel) (by decide +kernel), hc_w 34 (by decide +kernel) (by decide +kernel), ⟨by decide +kernel, by decide +kernel⟩, by decide +kernel, by decide +kernel, rfl, fun _ => hc_w 182 (by decide +kernel) (by decide +kernel), fun h => absurd rfl h, fun h => absurd h (by decide), fun h => absurd h (by decide)⟩
theorem hc_pm89 : hc_Pm 89 := ⟨hc_w 496 (by decide +kernel) (by decide +kernel), hc_w 34 (by decide +kernel) (by decide +kernel), ⟨by decide +kernel, by decide +kernel⟩, by decide +kernel, by decide +kernel, rfl, fun _ => hc_w 495 (by decide +kernel) (by decide +kernel), fun h => absurd rfl h, fun h => absurd h (by decide), fun h => absurd h (by decide)⟩
theorem hc_pm90 : hc_Pm 90 := ⟨hc_w 173 (by decide +kernel) (by decide +kernel), hc_w 35 (by decide +kernel) (by decide +kernel), ⟨by decide +kernel, by decide +kernel⟩, by decide +kernel, by decide +kernel, rfl, fun _ => hc_w 172 (by decide +kernel) (by decide +kernel), fun h => absurd rfl h, fun h => absurd h (by decide), fun h => absurd h (by decide)⟩
theorem hc_pm91 : hc_Pm 91 := ⟨hc_w 220 (by decide +kernel) (by decide +kernel), hc_w 35 (by decide +kernel) (by decide +kernel), ⟨by decide +kernel, by decide +kernel⟩, by decide +kernel, by decide +kernel, rfl, fun _ => hc_w 219 (by decide +kernel) (by decide +kernel), fun h => absurd rfl h, fun h => absurd h (by decide), fun h => absurd h (by decide)⟩
theorem hc_tgw : ∀ q ∈ hc_tgl, hc_Pm q.2.2 ∧ (Cond.methodLink (hc_cn q.1) q.2.1 (hc_y q.2.2) ∈ hc_ALL ∨ ∃ h, Cond.methodLinkNest (hc_cn q.1) q.2.1 (hc_y q.2.2) h ∈ hc_NW) := by
  refine List.forall_mem_cons.mpr ⟨?_, List.forall_mem_cons.mpr ⟨?_, List.forall_mem_cons.mpr ⟨?_, List.forall_mem_cons.mpr ⟨?_, List.forall_mem_cons.mpr ⟨?_, List.forall_mem_cons.mpr ⟨?_, List.forall_mem_cons.mpr ⟨?_, List.forall_mem_cons.mpr ⟨?_, List.forall_mem_cons.mpr ⟨?_, List.forall_mem_cons.mpr ⟨?_, List.forall_mem_cons.mpr ⟨?_, List.forall_mem_cons.mpr ⟨?_, List.forall_mem_cons.mpr ⟨?_, List.forall_mem_cons.mpr ⟨?_, List.forall_mem_cons.mpr ⟨?_, List.forall_mem_cons.mpr ⟨?_, List.forall_mem_cons.mpr ⟨?_, List.forall_mem_cons.mpr ⟨?_, List.forall_mem_cons.mpr ⟨?_, List.forall_mem_cons.mpr ⟨?_, List.forall_mem_cons.mpr ⟨?_, List.forall_mem_cons.mpr ⟨?_, List.forall_mem_cons.mpr ⟨?_, List.forall_mem_cons.mpr ⟨?_, List.forall_mem_cons.mpr ⟨?_, List.forall_mem_cons.mpr ⟨?_, List.forall_mem_cons.mpr ⟨?_, List.forall_mem_cons.mpr ⟨?_, List.forall_mem_cons.mpr ⟨?_, List.forall_mem_cons.mpr ⟨?_, List.forall_mem_cons.mpr ⟨?_, List.forall_mem_cons.mpr ⟨?_, List.forall_mem_cons.mpr ⟨?_, List.forall_mem_cons.mpr ⟨?_, List.forall_mem_cons.mpr ⟨?_, List.forall_mem_cons.mpr ⟨?_, List.forall_mem_cons.mpr ⟨?_, List.forall_mem_cons.mpr ⟨?_, List.forall_mem_cons.mpr ⟨?_, List.forall_mem_cons.mpr ⟨?_, List.forall_mem_cons.mpr ⟨?_, List.forall_mem_cons.mpr ⟨?_, List.forall_mem_cons.mpr ⟨?_, List.forall_mem_cons.mpr ⟨?_, List.forall_mem_cons.mpr ⟨?_, List.forall_mem_cons.mpr ⟨?_, List.forall_mem_cons.mpr ⟨?_, List.forall_mem_cons.mpr ⟨?_, List.forall_mem_cons.mpr ⟨?_, List.forall_mem_cons.mpr ⟨?_, List.forall_mem_cons.mpr ⟨?_, List.forall_mem_cons.mpr ⟨?_, List.forall_mem_cons.mpr ⟨?_, List.forall_mem_cons.mpr ⟨?_, List.forall_mem_cons.mpr ⟨?_, List.forall_mem_cons.mpr ⟨?_, List.forall_mem_cons.mpr ⟨?_, List.forall_mem_cons.mpr ⟨?_, List.forall_mem_cons.mpr ⟨?_, List.forall_mem_cons.mpr ⟨?_, List.forall_mem_cons.mpr ⟨?_, List.forall_mem_cons.mpr ⟨?_, List.forall_mem_cons.mpr ⟨?_, List.forall_mem_cons.mpr ⟨?_, List.forall_mem_cons.mpr ⟨?_, List.forall_mem_cons.mpr ⟨?_, List.forall_mem_cons.mpr ⟨?_, List.forall_mem_cons.mpr ⟨?_, List.forall_mem_cons.mpr ⟨?_, List.forall_mem_cons.mpr ⟨?_, List.forall_mem_cons.mpr ⟨?_, List.forall_mem_cons.mpr ⟨?_, List.forall_mem_cons.mpr ⟨?_, List.forall_mem_cons.mpr ⟨?_, List.forall_mem_cons.mpr ⟨?_, List.forall_mem_cons.mpr ⟨?_, List.forall_mem_cons.mpr ⟨?_, List.forall_mem_cons.mpr ⟨?_, List.forall_mem_cons.mpr ⟨?_, List.forall_mem_cons.mpr ⟨?_, List.forall_mem_cons.mpr ⟨?_, List.forall_mem_cons.mpr ⟨?_, List.forall_mem_cons.mpr ⟨?_, List.forall_mem_cons.mpr ⟨?_, List.forall_mem_cons.mpr ⟨?_, List.forall_mem_cons.mpr ⟨?_, List.forall_mem_cons.mpr ⟨?_, List.forall_mem_cons.mpr ⟨?_, List.forall_mem_cons.mpr ⟨?_, List.forall_mem_cons.mpr ⟨?_, List.forall_mem_cons.mpr ⟨?_, List.forall_mem_cons.mpr ⟨?_, List.forall_mem_cons.mpr ⟨?_, List.forall_mem_cons.mpr ⟨?_, List.forall_mem_cons.mpr ⟨?_, List.forall_mem_cons.mpr ⟨?_, List.forall_mem_cons.mpr ⟨?_, List.forall_mem_cons.mpr ⟨?_, List.forall_mem_cons.mpr ⟨?_, List.forall_mem_cons.mpr ⟨?_, List.forall_mem_cons.mpr ⟨?_, List.forall_mem_cons.mpr ⟨?_, List.forall_mem_cons.mpr ⟨?_, List.forall_mem_cons.mpr ⟨?_, fun _ h => absurd h List.not_mem_nil⟩⟩⟩⟩⟩⟩⟩⟩⟩⟩⟩⟩⟩⟩⟩⟩⟩⟩⟩⟩⟩⟩⟩⟩⟩⟩⟩⟩⟩⟩⟩⟩⟩⟩⟩⟩⟩⟩⟩⟩⟩⟩⟩⟩⟩⟩⟩⟩⟩⟩⟩⟩⟩⟩⟩⟩⟩⟩⟩⟩⟩⟩⟩⟩⟩⟩⟩⟩⟩⟩⟩⟩⟩⟩⟩⟩⟩⟩⟩⟩⟩⟩⟩⟩⟩⟩⟩⟩⟩⟩⟩⟩⟩⟩⟩⟩⟩⟩⟩⟩⟩⟩⟩⟩
  · exact ⟨hc_pm88, Or.inl (hc_w 217 (by decide +kernel) (by decide +kernel))⟩
  · exact ⟨hc_pm91, Or.inl (hc_w 218 (by decide +kernel) (by decide +kernel))⟩
  · exact ⟨hc_pm3, Or.inl (hc_w 246 (by decide +kernel) (by decide +kernel))⟩
  · exact ⟨hc_pm16, Or.inr ⟨"HotCells", by decide +kernel⟩⟩
  · exact ⟨hc_pm18, Or.inl (hc_w 258 (by decide +kernel) (by decide +kernel))⟩
  · exact ⟨hc_pm39, Or.inr ⟨"HotCells", by decide +kernel⟩⟩
  · exact ⟨hc_pm8, Or.inl (hc_w 266 (by decide +kernel) (by decide +kernel))⟩
  · exact ⟨hc_pm9, Or.inl (hc_w 270 (by decide +kernel) (by decide +kernel))⟩
  · exact ⟨hc_pm11, Or.inl (hc_w 288 (by decide +kernel) (by decide +kernel))⟩
  · exact ⟨hc_pm12, Or.inl (hc_w 292 (by decide +kernel) (by decide +kernel))⟩
  · exact ⟨hc_pm85, Or.inl (hc_w 274 (by decide +kernel) (by decide +kernel))⟩
  · exact ⟨hc_pm86, Or.inl (hc_w 277 (by decide +kernel) (by decide +kernel))⟩
  · exact ⟨hc_pm88, Or.inl (hc_w 278 (by decide +kernel) (by decide +kernel))⟩
  · exact ⟨hc_pm19, Or.inl (hc_w 279 (by decide +kernel) (by decide +kernel))⟩
  · exact ⟨hc_pm10, Or.inl (hc_w 284 (by decide +kernel) (by decide +kernel))⟩
  · exact ⟨hc_pm1, Or.inl (hc_w 301 (by decide +kernel) (by decide +kernel))⟩
  · exact ⟨hc_pm2, Or.inl (hc_w 302 (by decide +kernel) (by decide +kernel))⟩
  · exact ⟨hc_pm15, Or.inl (hc_w 307 (by decide +kernel) (by decide +kernel))⟩
  · exact ⟨hc_pm18, Or.inl (hc_w 161 (by decide +kernel) (by decide +kernel))⟩
  · exact ⟨hc_pm39, Or.inr ⟨"HotCells", by decide +kernel⟩⟩
  · exact ⟨hc_pm16, Or.inr ⟨"HotCells", by decide +kernel⟩⟩
  · exact ⟨hc_pm0, Or.inr ⟨"HotCells", by decide +kernel⟩⟩
  · exact ⟨hc_pm5, Or.inr ⟨"HotCells", by decide +kernel⟩⟩
  · exact ⟨hc_pm32, Or.inl (hc_w 152 (by decide +kernel) (by decide +kernel))⟩
  · exact ⟨hc_pm17, Or.inl (hc_w 157 (by decide +kernel) (by decide +kernel))⟩
  · exact ⟨hc_pm33, Or.inl (hc_w 199 (by decide +kernel) (by decide +kernel))⟩
  · exact ⟨hc_pm6, Or.inl (hc_w 254 (by decide +kernel) (by decide +kernel))⟩
  · exact ⟨hc_pm7, Or.inl (hc_w 261 (by decide +kernel) (by decide +kernel))⟩
  · exact ⟨hc_pm13, Or.inl (hc_w 296 (by decide +kernel) (by decide +kernel))⟩
  · exact ⟨hc_pm14, Or.inl (hc_w 303 (by decide +kernel) (by decide +kernel))⟩
  · exact ⟨hc_pm19, Or.inl (hc_w 323 (by decide +kernel) (by decide +kernel))⟩
  · exact ⟨hc_pm35, Or.inl (hc_w 203 (by decide +kernel) (by decide +kernel))⟩
  · exact ⟨hc_pm37, Or.inl (hc_w 226 (by decide +kernel) (by decide +kernel))⟩
  · exact ⟨hc_pm34, Or.inl (hc_w 238 (by decide +kernel) (by decide +kernel))⟩
  · exact ⟨hc_pm2, Or.inl (hc_w 242 (by decide +kernel) (by decide +kernel))⟩
  · exact ⟨hc_pm4, Or.inl (hc_w 250 (by decide +kernel) (by decide +kernel))⟩
  · exact ⟨hc_pm36, Or.inl (hc_w 207 (by decide +kernel) (by decide +kernel))⟩
  · exact ⟨hc_pm1, Or.inl (hc_w 213 (by decide +kernel) (by decide +kernel))⟩
  · exact ⟨hc_pm38, Or.inl (hc_w 230 (by decide +kernel) (by decide +kernel))⟩
  · exact ⟨hc_pm84, Or.inl (hc_w 235 (by decide +kernel) (by decide +kernel))⟩
  · exact ⟨hc_pm86, Or.inl (hc_w 168 (by decide +kernel) (by decide +kernel))⟩
  · exact ⟨hc_pm90, Or.inl (hc_w 171 (by decide +kernel) (by decide +kernel))⟩
  · exact ⟨hc_pm45, Or.inl (hc_w 467 (by decide +kernel) (by decide +kernel))⟩
  · exact ⟨hc_pm50, Or.inl (hc_w 479 (by decide +kernel) (by decide +kernel))⟩
  · exact ⟨hc_pm89, Or.inl (hc_w 494 (by decide +kernel) (by decide +kernel))⟩
  · exact ⟨hc_pm87, Or.inl (hc_w 491 (by decide +kernel) (by decide +kernel))⟩
  · exact ⟨hc_pm52, Or.inl (hc_w 500 (by decide +kernel) (by decide +kernel))⟩
  · exact ⟨hc_pm53, Or.inl (hc_w 503 (by decide +kernel) (by decide +kernel))⟩
  · exact ⟨hc_pm56, Or.inl (hc_w 506 (by decide +kernel) (by decide +kernel))⟩
  · exact ⟨hc_pm54, Or.inl (hc_w 509 (by decide +kernel) (by decide +kernel))⟩
  · exact ⟨hc_pm40, Or.inr ⟨"HotCellsModel", by decide +kernel⟩⟩
  · exact ⟨hc_pm43, Or.inr ⟨"HotCellsModel", by decide +kernel⟩⟩
  · exact ⟨hc_pm58, Or.inl (hc_w 434 (by decide +kernel) (by decide +kernel))⟩
  · exact ⟨hc_pm42, Or.inl (hc_w 439 (by decide +kernel) (by decide +kernel))⟩
  · exact ⟨hc_pm41, Or.inl (hc_w 451 (by decide +kernel) (by decide +kernel))⟩
  · exact ⟨hc_pm44, Or.inl (hc_w 459 (by decide +kernel) (by decide +kernel))⟩
  · exact ⟨hc_pm46, Or.inl (hc_w 463 (by decide +kernel) (by decide +kernel))⟩
  · exact ⟨hc_pm65, Or.inl (hc_w 471 (by decide +kernel) (by decide +kernel))⟩
  · exact ⟨hc_pm74, Or.inl (hc_w 520 (by decide +kernel) (by decide +kernel))⟩
  · exact ⟨hc_pm88, Or.inl (hc_w 561 (by decide +kernel) (by decide +kernel))⟩
  · exact ⟨hc_pm86, Or.inl (hc_w 562 (by decide +kernel) (by decide +kernel))⟩
  · exact ⟨hc_pm49, Or.inl (hc_w 475 (by decide +kernel) (by decide +kernel))⟩
  · exact ⟨hc_pm64, Or.inl (hc_w 563 (by decide +kernel) (by decide +kernel))⟩
  · exact ⟨hc_pm51, Or.inl (hc_w 567 (by decide +kernel) (by decide +kernel))⟩
  · exact ⟨hc_pm66, Or.inl (hc_w 483 (by decide +kernel) (by decide +kernel))⟩
  · exact ⟨hc_pm62, Or.inl (hc_w 487 (by decide +kernel) (by decide +kernel))⟩
  · exact ⟨hc_pm55, Or.inl (hc_w 497 (by decide +kernel) (by decide +kernel))⟩
  · exact ⟨hc_pm68, Or.inl (hc_w 512 (by decide +kernel) (by decide +kernel))⟩
  · exact ⟨hc_pm67, Or.inl (hc_w 517 (by decide +kernel) (by decide +kernel))⟩
  · exact ⟨hc_pm69, Or.inl (hc_w 545 (by decide +kernel) (by decide +kernel))⟩
  · exact ⟨hc_pm70, Or.inl (hc_w 549 (by decide +kernel) (by decide +kernel))⟩
  · exact ⟨hc_pm47, Or.inl (hc_w 528 (by decide +kernel) (by decide +kernel))⟩
  · exact ⟨hc_pm48, Or.inl (hc_w 532 (by decide +kernel) (by decide +kernel))⟩
  · exact ⟨hc_pm71, Or.inl (hc_w 541 (by decide +kernel) (by decide +kernel))⟩
  · exact ⟨hc_pm75, Or.inl (hc_w 524 (by decide +kernel) (by decide +kernel))⟩
  · exact ⟨hc_pm72, Or.inl (hc_w 537 (by decide +kernel) (by decide +kernel))⟩
  · exact ⟨hc_pm76, Or.inl (hc_w 553 (by decide +kernel) (by decide +kernel))⟩
  · exact ⟨hc_pm73, Or.inl (hc_w 557 (by decide +kernel) (by decide +kernel))⟩
  · exact ⟨hc_pm82, Or.inl (hc_w 600 (by decide +kernel) (by decide +kernel))⟩
  · exact ⟨hc_pm88, Or.inl (hc_w 181 (by decide +kernel) (by decide +kernel))⟩
  · exact ⟨hc_pm20, Or.inl (hc_w 39 (by decide +kernel) (by decide +kernel))⟩
  · exact ⟨hc_pm57, Or.inl (hc_w 342 (by decide +kernel) (by decide +kernel))⟩
  · exact ⟨hc_pm21, Or.inl (hc_w 148 (by decide +kernel) (by decide +kernel))⟩
  · exact ⟨hc_pm59, Or.inl (hc_w 430 (by decide +kernel) (by decide +kernel))⟩
  · exact ⟨hc_pm22, Or.inl (hc_w 187 (by decide +kernel) (by decide +kernel))⟩
  · exact ⟨hc_pm60, Or.inl (hc_w 443 (by decide +kernel) (by decide +kernel))⟩
  · exact ⟨hc_pm23, Or.inl (hc_w 191 (by decide +kernel) (by decide +kernel))⟩
  · exact ⟨hc_pm61, Or.inl (hc_w 447 (by decide +kernel) (by decide +kernel))⟩
  · exact ⟨hc_pm24, Or.inl (hc_w 195 (by decide +kernel) (by decide +kernel))⟩
  · exact ⟨hc_pm63, Or.inl (hc_w 455 (by decide +kernel) (by decide +kernel))⟩
  · exact ⟨hc_pm25, Or.inl (hc_w 310 (by decide +kernel) (by decide +kernel))⟩
  · exact ⟨hc_pm77, Or.inl (hc_w 571 (by decide +kernel) (by decide +kernel))⟩
  · exact ⟨hc_pm26, Or.inl (hc_w 314 (by decide +kernel) (by decide +kernel))⟩
  · exact ⟨hc_pm78, Or.inl (hc_w 575 (by decide +kernel) (by decide +kernel))⟩
  · exact ⟨hc_pm27, Or.inl (hc_w 319 (by decide +kernel) (by decide +kernel))⟩
  · exact ⟨hc_pm79, Or.inl (hc_w 580 (by decide +kernel) (by decide +kernel))⟩
  · exact ⟨hc_pm28, Or.inl (hc_w 324 (by decide +kernel) (by decide +kernel))⟩
  · exact ⟨hc_pm80, Or.inl (hc_w 584 (by decide +kernel) (by decide +kernel))⟩
  · exact ⟨hc_pm29, Or.inl (hc_w 328 (by decide +kernel) (by decide +kernel))⟩
  · exact ⟨hc_pm81, Or.inl (hc_w 588 (by decide +kernel) (by decide +kernel))⟩
  · exact ⟨hc_pm30, Or.inl (hc_w 332 (by decide +kernel) (by decide +kernel))⟩
  · exact ⟨hc_pm82, Or.inl (hc_w 592 (by decide +kernel) (by decide +kernel))⟩
  · exact ⟨hc_pm31, Or.inl (hc_w 336 (by decide +kernel) (by decide +kernel))⟩
  · exact ⟨hc_pm83, Or.inl (hc_w 596 (by decide +kernel) (by decide +kernel))⟩
end
section
/-! the instructions that touch neither heap nor calls, on the large machine -/
theorem hc_k32_w {ow cp : Nat} {v : Int32} (h : hc_k32 ow cp = some v) : Cond.constant (hc_cn ow) cp v ∈ hc_ALL := hc_k3w _ (hc_find_mem h)
theorem hc_k64_w {ow cp : Nat} {v : Int64} (h : hc_k64 ow cp = some v) : Cond.constantLong (hc_cn ow) cp v ∈ hc_ALL := hc_k6w _ (hc_find_mem h)
theorem hc_loc_len {mi pc w pc' : Nat} {ls ls' : hc_L} {st st' : List hc_V} {i : Instr} (h : hc_loc mi pc ls st i w = some (pc', ls', st')) : ls'.length = ls.length := by
  unfold hc_loc at h
  split at h <;> (try (split at h)) <;> (try (split at h)) <;> (try (split at h)) <;> (try (split at h)) <;> first | (cases h; done) | (cases h; rfl) | (cases h; exact hc_sto_len _ _ _)
section HCL
variable {p : Program} {l : Launch} {e : Env} {R : Room} {s : State} {m : MethodId} {args : Array Value} {below : List Frame} {meth : Method} {c : Code} {H : Heap} {locs : List Loc} {cells slots : Nat} {Q : State → Prop}
variable {D : va_G} {cI cJ : ClassId} {NW : List Cond} {B b : Nat} {G : hc_G}
set_option maxHeartbeats 4000000 in
theorem hc_loc_s {mi pc w pc' : Nat} {ls ls' : hc_L} {st st' : List hc_V} {i : Instr} {sl : Array Slot} (C : hc_C D cI cJ NW p R s m args meth c mi) (hd : decode (hc_b mi) pc = .ok (i, w)) (h : hc_loc mi pc ls st i w = some (pc', ls', st')) (hlen : ls.length = hc_mx mi) (hL : hc_LR B b G ls sl)
    (k : ∀ sl' : Array Slot, hc_LR B b G ls' sl' → W p l e R s m args below meth c H locs cells slots Q (F0 m pc' sl' (st'.map (hc_con B b G)))) : W p l e R s m args below meth c H locs cells slots Q (F0 m pc sl (st.map (hc_con B b G))) := by
  obtain ⟨hx, hb, hml, hown, hts, -⟩ := C
  unfold hc_loc at h
  split at h
  · rename_i n st
    cases h
    exact lv_iconst hx hb hd rfl (k sl hL)
  · rename_i n st
    cases h
    exact lv_bipush hx hb hd rfl (k sl hL)
  · rename_i n st
    cases h
    exact lv_sipush hx hb hd rfl (k sl hL)
  · rename_i n st
    cases h
    exact lv_lconst hx hb hd rfl (k sl hL)
  · rename_i cp st
    split at h
    · rename_i v hv
      cases h
      exact W.ldc hx hb hown (hts _ (hc_k32_w hv)) rfl hd (k sl hL)
    · cases h
  · rename_i cp st
    split at h
    · rename_i v hv
      cases h
      exact W.ldc2 hx hb hown (hts _ (hc_k64_w hv)) rfl hd (k sl hL)
    · cases h
  · rename_i q st
    split at h
    · rename_i v hv
      cases h
      obtain ⟨h1, h2⟩ := hc_ld_of hv
      obtain ⟨x, rfl⟩ := hc_kd0 h2
      exact lv_iload_n hx hb hd rfl (hL.2.2 _ _ h1) (k sl hL)
    · cases h
  · rename_i q st
    split at h
    · rename_i v hv
      cases h
      obtain ⟨h1, h2⟩ := hc_ld_of hv
      obtain ⟨x, rfl⟩ := hc_kd0 h2
      exact lv_iload hx hb hd (hL.2.2 _ _ h1) (k sl hL)
    · cases h
  · rename_i q st
    split at h
    · rename_i v hv
      cases h
      obtain ⟨h1, h2⟩ := hc_ld_of hv
      obtain ⟨x, rfl⟩ := hc_kd1 h2
      exact lv_lload_n hx hb hd rfl (hL.2.2 _ _ h1) (k sl hL)
    · cases h
  · rename_i q st
    split at h
    · rename_i v hv
      cases h
      obtain ⟨h1, h2⟩ := hc_ld_of hv
      obtain ⟨x, rfl⟩ := hc_kd1 h2
      exact lv_lload hx hb hd (hL.2.2 _ _ h1) (k sl hL)
    · cases h
  · rename_i q st
    split at h
    · rename_i v hv
      cases h
      obtain ⟨h1, h2⟩ := hc_ld_of hv
      obtain ⟨⟨a, ha⟩, -⟩ := hc_kd2 B b G h2
      have h3 := hL.2.2 _ _ h1
      rw [ha] at h3
      refine lv_aload_n hx hb hd rfl h3 ?_
      have h4 := k sl hL
      rw [List.map_cons, ha] at h4
      exact h4
    · cases h
  · rename_i q st
    split at h
    · rename_i v hv
      cases h
      obtain ⟨h1, h2⟩ := hc_ld_of hv
      obtain ⟨⟨a, ha⟩, -⟩ := hc_kd2 B b G h2
      have h3 := hL.2.2 _ _ h1
      rw [ha] at h3
      refine lv_aload hx hb hd h3 ?_
      have h4 := k sl hL
      rw [List.map_cons, ha] at h4
      exact h4
    · cases h
  · rename_i q x st
    split at h
    · rename_i hq
      cases h
      exact lv_istore_n (nL := ls.length) hx hb hd rfl hL.has (by rw [hlen]; exact hq) rfl (fun sl2 h2 => k sl2 (hc_LR_sto1 (v := .inl (.int x)) rfl h2))
    · cases h
  · rename_i q x st
    split at h
    · rename_i hq
      cases h
      exact lv_istore (nL := ls.length) hx hb hd hL.has (by rw [hlen]; exact hq) rfl (fun sl2 h2 => k sl2 (hc_LR_sto1 (v := .inl (.int x)) rfl h2))
    · cases h
  · rename_i q x st
    split at h
    · rename_i hq
      cases h
      exact lv_lstore_n (nL := ls.length) hx hb hd rfl hL.has (by rw [hlen]; exact hq) rfl (fun sl2 h2 => k sl2 (hc_LR_sto2 (v := .inl (.long x)) rfl h2))
    · cases h
  · rename_i q x st
    split at h
    · rename_i hq
      cases h
      exact lv_lstore (nL := ls.length) hx hb hd hL.has (by rw [hlen]; exact hq) rfl (fun sl2 h2 => k sl2 (hc_LR_sto2 (v := .inl (.long x)) rfl h2))
    · cases h
  · rename_i q v st
    split at h
    · rename_i hq
      cases h
      obtain ⟨⟨a, ha⟩, h2⟩ := hc_kd2 B b G hq.1
      rw [List.map_cons, ha]
      refine lv_astore_n (nL := ls.length) hx hb hd rfl hL.has (by rw [hlen]; exact hq.2) rfl (fun sl2 h3 => k sl2 ?_)
      rw [← ha] at h3
      exact hc_LR_sto1 h2 h3
    · cases h
  · rename_i q v st
    split at h
    · rename_i hq
      cases h
      obtain ⟨⟨a, ha⟩, h2⟩ := hc_kd2 B b G hq.1
      rw [List.map_cons, ha]
      refine lv_astore (nL := ls.length) hx hb hd hL.has (by rw [hlen]; exact hq.2) rfl (fun sl2 h3 => k sl2 ?_)
      rw [← ha] at h3
      exact hc_LR_sto1 h2 h3
    · cases h
  · rename_i q n
    split at h
    · rename_i x hq
      cases h
      obtain ⟨kk, hkk⟩ := List.getElem?_of_mem (hc_prs_mem (B := B) (b := b) (G := G) hq)
      exact lv_iinc (nL := ls.length) hx hb hd hL.has hkk rfl (List.getElem?_eq_some_iff.mp hq).1 rfl (fun sl2 h2 => k sl2 (hc_LR_sto1 (v := .inl (.int (x + Int32.ofInt n))) rfl h2))
    · cases h
  · rename_i y x st
    cases h
    exact lv_iadd hx hb hd (k sl hL)
  · rename_i y x st
    cases h
    exact lv_isub hx hb hd (k sl hL)
  · rename_i y x st
    cases h
    exact lv_imul hx hb hd (k sl hL)
  · rename_i y x st
    cases h
    exact lv_iand hx hb hd (k sl hL)
  · rename_i y x st
    split at h
    · cases h
    · rename_i hy
      cases h
      exact lv_idiv hx hb hd hy (k sl hL)
  · rename_i y x st
    cases h
    exact lv_ladd hx hb hd (k sl hL)
  · rename_i y x st
    cases h
    exact lv_lsub hx hb hd (k sl hL)
  · rename_i y x st
    cases h
    exact lv_lmul hx hb hd (k sl hL)
  · rename_i y x st
    cases h
    exact lv_land hx hb hd (k sl hL)
  · rename_i y x st
    cases h
    exact lv_lor hx hb hd (k sl hL)
  · rename_i y x st
    cases h
    exact lv_lxor hx hb hd (k sl hL)
  · rename_i y x st
    split at h
    · cases h
    · rename_i hy
      cases h
      exact lv_ldiv hx hb hd hy (k sl hL)
  · rename_i y x st
    split at h
    · cases h
    · rename_i hy
      cases h
      exact lv_lrem hx hb hd hy (k sl hL)
  · rename_i x st
    cases h
    exact lv_lneg hx hb hd (k sl hL)
  · rename_i y x st
    cases h
    exact lv_lshl hx hb hd rfl (k sl hL)
  · rename_i y x st
    cases h
    exact lv_lshr hx hb hd rfl (k sl hL)
  · rename_i y x st
    cases h
    exact W.lcmp hx hb hd (k sl hL)
  · rename_i x st
    cases h
    exact lv_i2l hx hb hd rfl (k sl hL)
  · rename_i x st
    cases h
    exact lv_l2i hx hb hd rfl (k sl hL)
  · rename_i v st
    split at h
    · cases h
    · rename_i hv
      cases h
      exact lv_dup hx hb hd (hc_con_cat1 B b G v (hc_two_not hv)) (k sl hL)
  · rename_i v u st
    split at h
    · cases h
    · rename_i hv
      cases h
      exact lv_dup2_11 hx hb hd (hc_con_cat1 B b G v (hc_two_not (fun z => hv (Or.inl z)))) (hc_con_cat1 B b G u (hc_two_not (fun z => hv (Or.inr z)))) (k sl hL)
  · rename_i off st
    split at h
    · rename_i hz
      cases h
      exact lv_goto hx hb hd (hc_tg_eq hz) (k sl hL)
    · cases h
  · rename_i q off x st
    split at h
    · rename_i hz
      cases h
      cases q
      · exact lv_if_eq hx hb hd (hc_tg_eq hz) (fun hc => by have h4 := k sl hL; rw [if_pos (by simpa [hc_cm] using hc)] at h4; exact h4) (fun hc => by have h4 := k sl hL; rw [if_neg (by simpa [hc_cm] using hc)] at h4; exact h4)
      · exact lv_if_ne hx hb hd (hc_tg_eq hz) (fun hc => by have h4 := k sl hL; rw [if_pos (by simpa [hc_cm] using hc)] at h4; exact h4) (fun hc => by have h4 := k sl hL; rw [if_neg (by simpa [hc_cm] using hc)] at h4; exact h4)
      · exact lv_if_lt hx hb hd (hc_tg_eq hz) (fun hc => by have h4 := k sl hL; rw [if_pos (by simpa [hc_cm] using hc)] at h4; exact h4) (fun hc => by have h4 := k sl hL; rw [if_neg (by simpa [hc_cm] using hc)] at h4; exact h4)
      · exact lv_if_ge hx hb hd (hc_tg_eq hz) (fun hc => by have h4 := k sl hL; rw [if_pos (by simpa [hc_cm] using hc)] at h4; exact h4) (fun hc => by have h4 := k sl hL; rw [if_neg (by simpa [hc_cm] using hc)] at h4; exact h4)
      · exact lv_if_gt hx hb hd (hc_tg_eq hz) (fun hc => by have h4 := k sl hL; rw [if_pos (by simpa [hc_cm] using hc)] at h4; exact h4) (fun hc => by have h4 := k sl hL; rw [if_neg (by simpa [hc_cm] using hc)] at h4; exact h4)
      · exact lv_if_le hx hb hd (hc_tg_eq hz) (fun hc => by have h4 := k sl hL; rw [if_pos (by simpa [hc_cm] using hc)] at h4; exact h4) (fun hc => by have h4 := k sl hL; rw [if_neg (by simpa [hc_cm] using hc)] at h4; exact h4)
    · cases h
  · rename_i q off y x st
    split at h
    · rename_i hz
      cases h
      cases q
      · exact lv_icmp_eq hx hb hd (hc_tg_eq hz) (fun hc => by have h4 := k sl hL; rw [if_pos (by simpa [hc_cm] using hc)] at h4; exact h4) (fun hc => by have h4 := k sl hL; rw [if_neg (by simpa [hc_cm] using hc)] at h4; exact h4)
      · exact lv_icmp_ne hx hb hd (hc_tg_eq hz) (fun hc => by have h4 := k sl hL; rw [if_pos (by simpa [hc_cm] using hc)] at h4; exact h4) (fun hc => by have h4 := k sl hL; rw [if_neg (by simpa [hc_cm] using hc)] at h4; exact h4)
      · exact lv_icmp_lt hx hb hd (hc_tg_eq hz) (fun hc => by have h4 := k sl hL; rw [if_pos (by simpa [hc_cm] using hc)] at h4; exact h4) (fun hc => by have h4 := k sl hL; rw [if_neg (by simpa [hc_cm] using hc)] at h4; exact h4)
      · exact lv_icmp_ge hx hb hd (hc_tg_eq hz) (fun hc => by have h4 := k sl hL; rw [if_pos (by simpa [hc_cm] using hc)] at h4; exact h4) (fun hc => by have h4 := k sl hL; rw [if_neg (by simpa [hc_cm] using hc)] at h4; exact h4)
      · exact lv_icmp_gt hx hb hd (hc_tg_eq hz) (fun hc => by have h4 := k sl hL; rw [if_pos (by simpa [hc_cm] using hc)] at h4; exact h4) (fun hc => by have h4 := k sl hL; rw [if_neg (by simpa [hc_cm] using hc)] at h4; exact h4)
      · exact lv_icmp_le hx hb hd (hc_tg_eq hz) (fun hc => by have h4 := k sl hL; rw [if_pos (by simpa [hc_cm] using hc)] at h4; exact h4) (fun hc => by have h4 := k sl hL; rw [if_neg (by simpa [hc_cm] using hc)] at h4; exact h4)
    · cases h
  · rename_i d lo hi offs x st
    split at h
    · rename_i hz
      split at h
      · rename_i hq
        cases h
        exact lv_tableOut hx hb hd hz (hc_tg_eq hq) (k sl hL)
      · cases h
    · rename_i hz
      split at h
      · rename_i off ho
        split at h
        · rename_i hq
          cases h
          exact lv_tableIn hx hb hd (fun z => hz (Or.inl z)) (fun z => hz (Or.inr z)) ho (hc_tg_eq hq) (k sl hL)
        · cases h
      · cases h
  ·
    cases h
end HCL
end
section
/-! THE SMALL HEAP IN THE LARGE ONE -/
def hc_vof (B b : Nat) (G : hc_G) (k : Nat) (fs : List hc_F) (j : Nat) : Value := match fs[j]? with
  | some f => hc_con B b G (hc_fv k j f)
  | none => .null
def hc_rc (cI cJ : ClassId) (r : hc_R) : Cell := match r.2 with
  | .inl f => vp_cell cI (r.1, .inl f)
  | .inr f => vp_cell cJ (r.1, .inr (.inl f))
def hc_liv (σ : hc_H) (k j : Nat) (r : hc_R) : Prop := ∃ c fs, σ k = some (c, fs) ∧ c < 99 ∧ fs[j]? = some (.inr r)
def hc_olv (σ : hc_H) (k : Nat) : Prop := ∃ c fs, σ k = some (c, fs) ∧ c < 99
/-- the objects; the fields' arrays; the new array; all apart; the script -/
def hc_Rel (D : va_G) (cI cJ : ClassId) (B b : Nat) (U : State) (G : hc_G) (σ : hc_H) (t : hc_T) (H : Heap) : Prop :=
  (H.size = B + G.2.1 ∧ b < B) ∧
  (∀ k c fs, σ k = some (c, fs) → c < 99 → c < 7 ∧ k < G.2.1 ∧ fs.length = hc_fn c ∧ t_OB (B + k) (D.1 c) (hc_fn c) (D.2 c) H (hc_vof B b G k fs)) ∧
  (∀ k j r, hc_liv σ k j r → G.2.2.2.2 k j < G.2.1 ∧ H[B + G.2.2.2.2 k j]? = some (hc_rc cI cJ r)) ∧
  (∀ r, t = some r → G.2.2.2.1 < G.2.1 ∧ H[B + G.2.2.2.1]? = some (hc_rc cI cJ r)) ∧
  (∀ k j r k', hc_liv σ k j r → hc_olv σ k' → G.2.2.2.2 k j ≠ k') ∧
  (∀ k j r k' j' r', hc_liv σ k j r → hc_liv σ k' j' r' → G.2.2.2.2 k j = G.2.2.2.2 k' j' → k = k' ∧ j = j') ∧
  (∀ r, t = some r → (∀ k, hc_olv σ k → G.2.2.2.1 ≠ k) ∧ ∀ k j r', hc_liv σ k j r' → G.2.2.2.2 k j ≠ G.2.2.2.1) ∧
  (∀ r, σ 1000 = some (99, [.inr r]) → ∃ xs, r.2 = .inl xs ∧ va_X b r.1 xs U H)
theorem hc_set_at (σ : hc_H) (k : Nat) (o : hc_O) : hc_set σ k o k = some o := by simp [hc_set]
theorem hc_set_ne (σ : hc_H) {k k' : Nat} (o : hc_O) (h : k' ≠ k) : hc_set σ k o k' = σ k' := by simp [hc_set, h]
theorem hc_olv_set {σ : hc_H} {k c : Nat} {fs fs' : List hc_F} (h : σ k = some (c, fs)) (hc : c < 99) {k' : Nat} : hc_olv (hc_set σ k (c, fs')) k' ↔ hc_olv σ k' := by
  by_cases e : k' = k
  · subst e
    exact ⟨fun _ => ⟨c, fs, h, hc⟩, fun _ => ⟨c, fs', hc_set_at _ _ _, hc⟩⟩
  · unfold hc_olv
    rw [hc_set_ne _ _ e]
theorem hc_liv_set {σ : hc_H} {k c j : Nat} {fs : List hc_F} {f : hc_F} (h : σ k = some (c, fs)) (hc : c < 99) (hj : j < fs.length) {k' j' : Nat} {r : hc_R} : hc_liv (hc_set σ k (c, fs.set j f)) k' j' r ↔ (k' = k ∧ j' = j ∧ f = .inr r) ∨ (¬ (k' = k ∧ j' = j) ∧ hc_liv σ k' j' r) := by
  by_cases e : k' = k
  · subst e
    by_cases e2 : j' = j
    · subst e2
      constructor
      · rintro ⟨c2, f2, h1, h2, h3⟩
        rw [hc_set_at] at h1
        cases h1
        rw [List.getElem?_set_self hj] at h3
        exact Or.inl ⟨rfl, rfl, Option.some.inj h3⟩
      · rintro (⟨-, -, h3⟩ | ⟨h3, -⟩)
        · exact ⟨c, _, hc_set_at _ _ _, hc, by rw [List.getElem?_set_self hj, h3]⟩
        · exact absurd ⟨rfl, rfl⟩ h3
    · constructor
      · rintro ⟨c2, f2, h1, h2, h3⟩
        rw [hc_set_at] at h1
        cases h1
        rw [List.getElem?_set_ne (Ne.symm e2)] at h3
        exact Or.inr ⟨fun z => e2 z.2, c, fs, h, hc, h3⟩
      · rintro (⟨-, h3, -⟩ | ⟨-, c2, f2, h1, h2, h3⟩)
        · exact absurd h3 e2
        · rw [h] at h1
          cases h1
          exact ⟨c, _, hc_set_at _ _ _, hc, by rw [List.getElem?_set_ne (Ne.symm e2)]; exact h3⟩
  · constructor
    · rintro ⟨c2, f2, h1, h2, h3⟩
      rw [hc_set_ne _ _ e] at h1
      exact Or.inr ⟨fun z => e z.1, c2, f2, h1, h2, h3⟩
    · rintro (⟨h3, -, -⟩ | ⟨-, c2, f2, h1, h2, h3⟩)
      · exact absurd h3 e
      · exact ⟨c2, f2, by rw [hc_set_ne _ _ e]; exact h1, h2, h3⟩
theorem hc_vof_set {B b : Nat} {G : hc_G} {k j : Nat} {fs : List hc_F} {f : hc_F} (hj : j < fs.length) (i : Nat) : hc_vof B b G k (fs.set j f) i = if i = j then hc_con B b G (hc_fv k j f) else hc_vof B b G k fs i := by
  unfold hc_vof
  by_cases e : i = j
  · subst e
    rw [List.getElem?_set_self hj, if_pos rfl]
  · rw [List.getElem?_set_ne (Ne.symm e), if_neg e]
theorem hc_script_set {σ : hc_H} {k c : Nat} {fs : List hc_F} (hc : c < 99) {r : hc_R} (h : hc_set σ k (c, fs) 1000 = some (99, [.inr r])) : σ 1000 = some (99, [.inr r]) := by
  by_cases e : 1000 = k
  · subst e
    rw [hc_set_at] at h
    cases h
    omega
  · rw [hc_set_ne _ _ e] at h
    exact h
section HREL
variable {D : va_G} {cI cJ : ClassId} {B b : Nat} {U : State} {G : hc_G} {σ : hc_H} {t : hc_T} {H H' : Heap}
/-- a value that is no array goes into a field -/
theorem hc_Rel.put (h : hc_Rel D cI cJ B b U G σ t H) {k c j : Nat} {fs : List hc_F} {v0 v : Value} (hk : σ k = some (c, fs)) (hc : c < 99) (hj : fs[j]? = some (.inl v0)) (hz : H'.size = H.size) (ho : ∀ q : Nat, q ≠ B + k → H'[q]? = H[q]?)
    (hn : t_OB (B + k) (D.1 c) (hc_fn c) (D.2 c) H' (updV (hc_vof B b G k fs) j (hc_con B b G (.inl v)))) : hc_Rel D cI cJ B b U G (hc_set σ k (c, fs.set j (.inl v))) t H' := by
  obtain ⟨⟨r0, r0'⟩, r1, r2, r3, r4, r5, r6, r7⟩ := h
  have hl : j < fs.length := (List.getElem?_eq_some_iff.mp hj).1
  have lv : ∀ {k' j' : Nat} {r : hc_R}, hc_liv (hc_set σ k (c, fs.set j (.inl v))) k' j' r → hc_liv σ k' j' r := by
    intro k' j' r q
    rcases (hc_liv_set hk hc hl).mp q with ⟨-, -, q⟩ | ⟨-, q⟩
    · cases q
    · exact q
  have ok : hc_olv σ k := ⟨c, fs, hk, hc⟩
  refine ⟨⟨by rw [hz]; exact r0, r0'⟩, fun k' c' fs' h1 h2 => ?_, fun k' j' r q => ?_, fun r q => ?_, fun k' j' r k2 q q2 => r4 k' j' r k2 (lv q) ((hc_olv_set hk hc).mp q2), fun k' j' r k2 j2 r2' q q2 => r5 _ _ _ _ _ _ (lv q) (lv q2), fun r q => ⟨fun k' q2 => (r6 r q).1 k' ((hc_olv_set hk hc).mp q2), fun k' j' r' q2 => (r6 r q).2 k' j' r' (lv q2)⟩, fun r q => ?_⟩
  · by_cases e : k' = k
    · subst e
      rw [hc_set_at] at h1
      cases h1
      obtain ⟨a1, a2, a3, -⟩ := r1 k' _ _ hk hc
      refine ⟨a1, a2, by rw [List.length_set]; exact a3, hn.to fun i _ => ?_⟩
      rw [hc_vof_set hl]
      rfl
    · rw [hc_set_ne _ _ e] at h1
      obtain ⟨a1, a2, a3, a4⟩ := r1 k' _ _ h1 h2
      exact ⟨a1, a2, a3, a4.kept (ho _ (by omega))⟩
  · obtain ⟨a1, a2⟩ := r2 _ _ _ (lv q)
    have := r4 _ _ _ _ (lv q) ok
    exact ⟨a1, by rw [ho _ (by omega)]; exact a2⟩
  · obtain ⟨a1, a2⟩ := r3 _ q
    have := (r6 _ q).1 _ ok
    exact ⟨a1, by rw [ho _ (by omega)]; exact a2⟩
  · obtain ⟨xs, q1, q2⟩ := r7 r (hc_script_set hc q)
    exact ⟨xs, q1, q2.kept (ho _ (by omega))⟩
/-- an array that lies in a field is written -/
theorem hc_Rel.ast (h : hc_Rel D cI cJ B b U G σ t H) {k c j : Nat} {fs : List hc_F} {r0 r1 : hc_R} (hk : σ k = some (c, fs)) (hc : c < 99) (hj : fs[j]? = some (.inr r0)) (hz : H'.size = H.size) (ho : ∀ q : Nat, q ≠ B + G.2.2.2.2 k j → H'[q]? = H[q]?)
    (hn : H'[B + G.2.2.2.2 k j]? = some (hc_rc cI cJ r1)) : hc_Rel D cI cJ B b U G (hc_set σ k (c, fs.set j (.inr r1))) t H' := by
  obtain ⟨⟨z0, z0'⟩, z1, z2, z3, z4, z5, z6, z7⟩ := h
  have hl : j < fs.length := (List.getElem?_eq_some_iff.mp hj).1
  have l0 : hc_liv σ k j r0 := ⟨c, fs, hk, hc, hj⟩
  have lv : ∀ {k' j' : Nat} {r : hc_R}, hc_liv (hc_set σ k (c, fs.set j (.inr r1))) k' j' r → ∃ r', hc_liv σ k' j' r' := by
    intro k' j' r q
    rcases (hc_liv_set hk hc hl).mp q with ⟨q1, q2, q⟩ | ⟨-, q⟩
    · subst q1; subst q2
      exact ⟨_, l0⟩
    · exact ⟨_, q⟩
  refine ⟨⟨by rw [hz]; exact z0, z0'⟩, fun k' c' fs' h1 h2 => ?_, fun k' j' r q => ?_, fun r q => ?_, fun k' j' r k2 q q2 => ?_, fun k' j' r k2 j2 r2' q q2 => ?_, fun r q => ⟨fun k' q2 => (z6 r q).1 k' ((hc_olv_set hk hc).mp q2), fun k' j' r' q2 => ?_⟩, fun r q => ?_⟩
  · by_cases e : k' = k
    · subst e
      rw [hc_set_at] at h1
      cases h1
      obtain ⟨a1, a2, a3, a4⟩ := z1 k' _ _ hk hc
      have := z4 _ _ _ k' l0 ⟨_, _, hk, hc⟩
      refine ⟨a1, a2, by rw [List.length_set]; exact a3, (a4.kept (ho _ (by omega))).to fun i _ => ?_⟩
      rw [hc_vof_set hl]
      by_cases e2 : i = j
      · subst e2
        rw [if_pos rfl]
        simp only [hc_vof, hj]
        rfl
      · rw [if_neg e2]
    · rw [hc_set_ne _ _ e] at h1
      obtain ⟨a1, a2, a3, a4⟩ := z1 k' _ _ h1 h2
      have := z4 _ _ _ k' l0 ⟨_, _, h1, h2⟩
      exact ⟨a1, a2, a3, a4.kept (ho _ (by omega))⟩
  · rcases (hc_liv_set hk hc hl).mp q with ⟨q1, q2, q9⟩ | ⟨q1, q⟩
    · subst q1; subst q2
      rw [← Sum.inr.inj q9]
      exact ⟨(z2 _ _ _ l0).1, hn⟩
    · obtain ⟨a1, a2⟩ := z2 _ _ _ q
      have hne : G.2.2.2.2 k' j' ≠ G.2.2.2.2 k j := fun e => q1 (z5 _ _ _ _ _ _ q l0 e)
      exact ⟨a1, by rw [ho _ (by omega)]; exact a2⟩
  · obtain ⟨a1, a2⟩ := z3 _ q
    have := (z6 _ q).2 _ _ _ l0
    exact ⟨a1, by rw [ho _ (by omega)]; exact a2⟩
  · obtain ⟨r', q'⟩ := lv q
    exact z4 _ _ _ _ q' ((hc_olv_set hk hc).mp q2)
  · obtain ⟨r', q'⟩ := lv q
    obtain ⟨r3, q3⟩ := lv q2
    exact z5 _ _ _ _ _ _ q' q3
  · obtain ⟨r3, q3⟩ := lv q2
    exact (z6 r q).2 _ _ _ q3
  · obtain ⟨xs, q1, q2⟩ := z7 r (hc_script_set hc q)
    exact ⟨xs, q1, q2.kept (ho _ (by omega))⟩
/-- the new array is written -/
theorem hc_Rel.tst (h : hc_Rel D cI cJ B b U G σ t H) {r0 r1 : hc_R} (ht : t = some r0) (hz : H'.size = H.size) (ho : ∀ q : Nat, q ≠ B + G.2.2.2.1 → H'[q]? = H[q]?)
    (hn : H'[B + G.2.2.2.1]? = some (hc_rc cI cJ r1)) : hc_Rel D cI cJ B b U G σ (some r1) H' := by
  obtain ⟨⟨z0, z0'⟩, z1, z2, z3, z4, z5, z6, z7⟩ := h
  obtain ⟨y1, y2⟩ := z6 _ ht
  refine ⟨⟨by rw [hz]; exact z0, z0'⟩, fun k' c' fs' h1 h2 => ?_, fun k' j' r q => ?_, fun r q => ?_, z4, z5, fun r q => ⟨y1, y2⟩, fun r q => ?_⟩
  · obtain ⟨a1, a2, a3, a4⟩ := z1 k' _ _ h1 h2
    have := y1 k' ⟨_, _, h1, h2⟩
    exact ⟨a1, a2, a3, a4.kept (ho _ (by omega))⟩
  · obtain ⟨a1, a2⟩ := z2 _ _ _ q
    have := y2 _ _ _ q
    exact ⟨a1, by rw [ho _ (by omega)]; exact a2⟩
  · cases q
    exact ⟨(z3 _ ht).1, hn⟩
  · obtain ⟨xs, q1, q2⟩ := z7 r q
    exact ⟨xs, q1, q2.kept (ho _ (by omega))⟩
/-- what lies under all that is there is what it was -/
theorem hc_vof_G {G' : hc_G} {k j : Nat} {fs : List hc_F} (ha : ∀ r, fs[j]? = some (.inr r) → G'.2.2.2.2 k j = G.2.2.2.2 k j) : hc_vof B b G' k fs j = hc_vof B b G k fs j := by
  unfold hc_vof
  cases hx : fs[j]? with
  | none => rfl
  | some f =>
    rcases f with v | r
    · cases v <;> rfl
    · simp only [hc_fv, hc_con, ha r hx]
/-- a new array is made -/
theorem hc_Rel.newa (h : hc_Rel D cI cJ B b U G σ t H) {n : Nat} {r1 : hc_R} (hz : H'.size = H.size + 1) (ho : ∀ q : Nat, q < H.size → H'[q]? = H[q]?)
    (hn : H'[H.size]? = some (hc_rc cI cJ r1)) : hc_Rel D cI cJ B b U (hc_gA G n) σ (some r1) H' := by
  obtain ⟨⟨z0, z0'⟩, z1, z2, z3, z4, z5, z6, z7⟩ := h
  refine ⟨⟨by rw [hz, z0]; rfl, z0'⟩, fun k' c' fs' h1 h2 => ?_, fun k' j' r q => ?_, fun r q => ?_, z4, z5, fun r q => ⟨fun k' q2 => ?_, fun k' j' r' q2 => ?_⟩, fun r q => ?_⟩
  · obtain ⟨a1, a2, a3, a4⟩ := z1 k' _ _ h1 h2
    exact ⟨a1, Nat.lt_succ_of_lt a2, a3, (a4.kept (ho _ (by omega))).to fun i _ => (hc_vof_G (G := G) (G' := hc_gA G n) fun _ _ => rfl).symm⟩
  · obtain ⟨a1, a2⟩ := z2 _ _ _ q
    exact ⟨Nat.lt_succ_of_lt a1, by show H'[B + G.2.2.2.2 k' j']? = _; rw [ho _ (by omega)]; exact a2⟩
  · cases q
    exact ⟨Nat.lt_succ_self _, by show H'[B + G.2.1]? = _; rw [← z0]; exact hn⟩
  · obtain ⟨c, fs, h1, h2⟩ := q2
    have := (z1 _ _ _ h1 h2).2.1
    show G.2.1 ≠ k'
    omega
  · have := (z2 _ _ _ q2).1
    show G.2.2.2.2 k' j' ≠ G.2.1
    omega
  · obtain ⟨xs, q1, q2⟩ := z7 r q
    exact ⟨xs, q1, q2.kept (ho _ (by omega))⟩
/-- a new object is made -/
theorem hc_Rel.newo (h : hc_Rel D cI cJ B b U G σ t H) {n c : Nat} {fs : List hc_F} (hlt : G.2.1 < 900) (hc : c < 7) (hfs : fs.length = hc_fn c) (hno : ∀ (j : Nat) (r : hc_R), fs[j]? ≠ some (Sum.inr r)) (hz : H'.size = H.size + 1) (ho : ∀ q : Nat, q < H.size → H'[q]? = H[q]?)
    (hn : t_OB H.size (D.1 c) (hc_fn c) (D.2 c) H' (hc_vof B b G G.2.1 fs)) : hc_Rel D cI cJ B b U (hc_gO G n) (hc_set σ G.2.1 (c, fs)) t H' := by
  obtain ⟨⟨z0, z0'⟩, z1, z2, z3, z4, z5, z6, z7⟩ := h
  have fresh : ¬ hc_olv σ G.2.1 := by
    rintro ⟨c', fs', h1, h2⟩
    have := (z1 _ _ _ h1 h2).2.1
    omega
  have lv : ∀ {k' j' : Nat} {r : hc_R}, hc_liv (hc_set σ G.2.1 (c, fs)) k' j' r → hc_liv σ k' j' r := by
    rintro k' j' r ⟨c', fs', h1, h2, h3⟩
    by_cases e : k' = G.2.1
    · rw [e, hc_set_at] at h1
      cases h1
      exact absurd h3 (hno _ _)
    · rw [hc_set_ne _ _ e] at h1
      exact ⟨c', fs', h1, h2, h3⟩
  refine ⟨⟨by rw [hz, z0]; rfl, z0'⟩, fun k' c' fs' h1 h2 => ?_, fun k' j' r q => ?_, fun r q => ?_, fun k' j' r k2 q q2 => ?_, fun k' j' r k2 j2 r2' q q2 => z5 _ _ _ _ _ _ (lv q) (lv q2), fun r q => ⟨fun k' q2 => ?_, fun k' j' r' q2 => (z6 r q).2 _ _ _ (lv q2)⟩, fun r q => ?_⟩
  · by_cases e : k' = G.2.1
    · subst e
      rw [hc_set_at] at h1
      cases h1
      refine ⟨hc, Nat.lt_succ_self _, hfs, ?_⟩
      rw [z0] at hn
      exact hn.to fun i _ => (hc_vof_G (G := G) (G' := hc_gO G n) fun _ _ => rfl).symm
    · rw [hc_set_ne _ _ e] at h1
      obtain ⟨a1, a2, a3, a4⟩ := z1 k' _ _ h1 h2
      exact ⟨a1, Nat.lt_succ_of_lt a2, a3, (a4.kept (ho _ (by omega))).to fun i _ => (hc_vof_G (G := G) (G' := hc_gO G n) fun _ _ => rfl).symm⟩
  · obtain ⟨a1, a2⟩ := z2 _ _ _ (lv q)
    exact ⟨Nat.lt_succ_of_lt a1, by show H'[B + G.2.2.2.2 k' j']? = _; rw [ho _ (by omega)]; exact a2⟩
  · obtain ⟨a1, a2⟩ := z3 _ q
    exact ⟨Nat.lt_succ_of_lt a1, by show H'[B + G.2.2.2.1]? = _; rw [ho _ (by omega)]; exact a2⟩
  · have a1 := (z2 _ _ _ (lv q)).1
    show G.2.2.2.2 k' j' ≠ k2
    by_cases e : k2 = G.2.1
    · omega
    · obtain ⟨c', fs', h1, h2⟩ := q2
      rw [hc_set_ne _ _ e] at h1
      exact z4 _ _ _ _ (lv q) ⟨c', fs', h1, h2⟩
  · have a1 := (z3 _ q).1
    show G.2.2.2.1 ≠ k'
    by_cases e : k' = G.2.1
    · omega
    · obtain ⟨c', fs', h1, h2⟩ := q2
      rw [hc_set_ne _ _ e] at h1
      exact (z6 _ q).1 _ ⟨c', fs', h1, h2⟩
  · have e : 1000 ≠ G.2.1 := by omega
    rw [hc_set_ne _ _ e] at q
    obtain ⟨xs, q1, q2⟩ := z7 r q
    exact ⟨xs, q1, q2.kept (ho _ (by omega))⟩
/-- the new array goes into a field -/
theorem hc_Rel.move (h : hc_Rel D cI cJ B b U G σ t H) {k c j : Nat} {fs : List hc_F} {r1 : hc_R} (ht : t = some r1) (hk : σ k = some (c, fs)) (hc : c < 99) (hj : j < fs.length) (hz : H'.size = H.size) (ho : ∀ q : Nat, q ≠ B + k → H'[q]? = H[q]?)
    (hn : t_OB (B + k) (D.1 c) (hc_fn c) (D.2 c) H' (updV (hc_vof B b G k fs) j (.ref (B + G.2.2.2.1)))) : hc_Rel D cI cJ B b U (hc_gM G k j) (hc_set σ k (c, fs.set j (.inr r1))) none H' := by
  obtain ⟨⟨z0, z0'⟩, z1, z2, z3, z4, z5, z6, z7⟩ := h
  obtain ⟨y1, y2⟩ := z6 _ ht
  obtain ⟨x1, x2⟩ := z3 _ ht
  have ok : hc_olv σ k := ⟨c, fs, hk, hc⟩
  have hadr : ∀ k' j', (hc_gM G k j).2.2.2.2 k' j' = if k' = k ∧ j' = j then G.2.2.2.1 else G.2.2.2.2 k' j' := fun _ _ => rfl
  have h21 : (hc_gM G k j).2.1 = G.2.1 := rfl
  refine ⟨⟨by rw [hz]; exact z0, z0'⟩, fun k' c' fs' h1 h2 => ?_, fun k' j' r q => ?_, fun r q => absurd q (by simp), fun k' j' r k2 q q2 => ?_, fun k' j' r k2 j2 r2' q q2 => ?_, fun r q => absurd q (by simp), fun r q => ?_⟩
  · by_cases e : k' = k
    · subst e
      rw [hc_set_at] at h1
      cases h1
      obtain ⟨a1, a2, a3, -⟩ := z1 k' _ _ hk hc
      refine ⟨a1, a2, by rw [List.length_set]; exact a3, hn.to fun i _ => ?_⟩
      rw [hc_vof_set hj]
      by_cases e2 : i = j
      · subst e2
        rw [if_pos rfl]
        simp [updV, hc_fv, hc_con, hadr]
      · rw [if_neg e2]
        simp only [updV, if_neg e2]
        exact (hc_vof_G (G := G) (G' := hc_gM G _ j) fun r _ => by rw [hadr, if_neg fun z => e2 z.2]).symm
    · rw [hc_set_ne _ _ e] at h1
      obtain ⟨a1, a2, a3, a4⟩ := z1 k' _ _ h1 h2
      exact ⟨a1, a2, a3, (a4.kept (ho _ (by omega))).to fun i _ => (hc_vof_G (G := G) (G' := hc_gM G k j) fun r _ => by rw [hadr, if_neg fun z => e z.1]).symm⟩
  · rw [hadr, h21]
    rcases (hc_liv_set hk hc hj).mp q with ⟨q1, q2, q9⟩ | ⟨q1, q⟩
    · subst q1; subst q2
      rw [← Sum.inr.inj q9]
      have := y1 _ ok
      rw [if_pos ⟨rfl, rfl⟩]
      exact ⟨x1, by rw [ho _ (by omega)]; exact x2⟩
    · rw [if_neg q1]
      obtain ⟨a1, a2⟩ := z2 _ _ _ q
      have := z4 _ _ _ _ q ok
      exact ⟨a1, by rw [ho _ (by omega)]; exact a2⟩
  · rw [hadr]
    have q2' := (hc_olv_set hk hc).mp q2
    rcases (hc_liv_set hk hc hj).mp q with ⟨q1, q3, q⟩ | ⟨q1, q⟩
    · rw [if_pos ⟨q1, q3⟩]
      exact y1 _ q2'
    · rw [if_neg q1]
      exact z4 _ _ _ _ q q2'
  · rw [hadr, hadr]
    rcases (hc_liv_set hk hc hj).mp q with ⟨q1, q3, q⟩ | ⟨q1, q⟩ <;> rcases (hc_liv_set hk hc hj).mp q2 with ⟨p1, p3, p⟩ | ⟨p1, p⟩
    · exact fun _ => ⟨q1.trans p1.symm, q3.trans p3.symm⟩
    · rw [if_pos ⟨q1, q3⟩, if_neg p1]
      exact fun e => absurd e.symm (y2 _ _ _ p)
    · rw [if_neg q1, if_pos ⟨p1, p3⟩]
      exact fun e => absurd e (y2 _ _ _ q)
    · rw [if_neg q1, if_neg p1]
      exact z5 _ _ _ _ _ _ q p
  · obtain ⟨xs, q1, q2⟩ := z7 r (hc_script_set hc q)
    exact ⟨xs, q1, q2.kept (ho _ (by omega))⟩
theorem hc_Rel.moved {U' : State} (hvm : U.vm.Alike U'.vm) (h : hc_Rel D cI cJ B b U G σ t H) : hc_Rel D cI cJ B b U' G σ t H := by
  obtain ⟨z0, z1, z2, z3, z4, z5, z6, z7⟩ := h
  refine ⟨z0, z1, z2, z3, z4, z5, z6, fun r q => ?_⟩
  obtain ⟨xs, q1, q2⟩ := z7 r q
  exact ⟨xs, q1, q2.moved hvm⟩
end HREL
end
section
/-! the heap's instructions, a row each, with all that stays said -/
theorem hc_cls_ok {c : Nat} (h : c < 7) : vwCl[c]? = some (hc_cn c, hc_ft c, hc_fn c) ∧ (∀ w ∈ u_ws (hc_cn c) (hc_ft c) (hc_fn c), w ∈ hc_ALL) ∧ (∀ k, k < hc_fn c → parseFieldDescriptor (hc_ft c k).2.2.1 = some (hc_ty c k)) ∧ (∀ a, a < hc_fn c → ∀ b, b < hc_fn c → a ≠ b → (hc_ft c a).2.1 ≠ (hc_ft c b).2.1) ∧ (∀ k, k < hc_fn c → (hc_ft c k).1 = hc_cn c) := by
  match c, h with
  | 0, _ => exact ⟨rfl, hc_lyw0, tyX0_ok, nmX0, by decide +kernel⟩
  | 1, _ => exact ⟨rfl, hc_lyw1, tyX1_ok, nmX1, by decide +kernel⟩
  | 2, _ => exact ⟨rfl, hc_lyw2, tyX2_ok, nmX2, by decide +kernel⟩
  | 3, _ => exact ⟨rfl, hc_lyw3, tyX3_ok, nmX3, by decide +kernel⟩
  | 4, _ => exact ⟨rfl, hc_lyw4, tyX4_ok, nmX4, by decide +kernel⟩
  | 5, _ => exact ⟨rfl, hc_lyw5, tyX5_ok, nmX5, by decide +kernel⟩
  | 6, _ => exact ⟨rfl, hc_lyw6, tyX6_ok, nmX6, by decide +kernel⟩
theorem hc_fit_ok (B b : Nat) (G : hc_G) {ty : FieldType} {v : Value} (h : hc_fit ty v = true) : narrow ty (hc_con B b G (.inl v)) = hc_con B b G (.inl v) ∧ fits ty (hc_con B b G (.inl v)) = true := by
  cases ty <;> cases v <;> first | (simp [hc_fit] at h; done) | exact ⟨rfl, rfl⟩ | skip
  rename_i x
  simp only [hc_fit, Bool.or_eq_true, decide_eq_true_eq] at h
  rcases h with rfl | rfl
  · exact (by decide +kernel : narrow .boolean (.int 0) = .int 0 ∧ fits .boolean (.int 0) = true)
  · exact (by decide +kernel : narrow .boolean (.int 1) = .int 1 ∧ fits .boolean (.int 1) = true)
theorem hc_arr_ok {ty : FieldType} {r : hc_R} (a : Nat) (h : hc_arr ty r = true) : narrow ty (.ref a) = .ref a ∧ fits ty (.ref a) = true := by
  obtain ⟨n, f | f⟩ := r <;> (cases ty <;> first | (simp [hc_arr] at h; done) | exact ⟨rfl, rfl⟩)
section HCH
variable {p : Program} {l : Launch} {e : Env} {R : Room} {s : State} {m : MethodId} {args : Array Value} {below : List Frame} {meth : Method} {c : Code} {H : Heap} {locs : List Loc} {cells slots : Nat} {Q : State → Prop}
variable {D : va_G} {cI cJ : ClassId} {NW : List Cond} {B b : Nat} {G : hc_G} {σ : hc_H} {t : hc_T} {mi pc : Nat} {sl : Array Slot} {rest : List Value}
theorem hc_w_get (C : hc_C D cI cJ NW p R s m args meth c mi) (hR : hc_Rel D cI cJ B b s G σ t H) {cp k cc j : Nat} {fs : List hc_F} {f : hc_F} (hf : hc_fld (hc_own mi) cp = some (cc, j)) (hk : σ k = some (cc, fs)) (hj : fs[j]? = some f) (hd : decode (hc_b mi) pc = .ok (.getfield cp, 3))
    (kk : W p l e R s m args below meth c H locs cells slots Q (F0 m (pc + 3) sl (hc_con B b G (hc_fv k j f) :: rest))) : W p l e R s m args below meth c H locs cells slots Q (F0 m pc sl (.ref (B + k) :: rest)) := by
  obtain ⟨hx, hb, hml, hown, hts, hK, -⟩ := C
  obtain ⟨hlink, hjn, hc7⟩ := hc_flw _ (hc_find_mem hf)
  dsimp only at hlink hjn hc7
  obtain ⟨q1, q2, q3, q4, q5⟩ := hc_cls_ok hc7
  obtain ⟨-, -, -, hob⟩ := hR.2.1 k cc fs hk (by omega)
  have hP : va_P D vwCl [(B + k, .inr (cc, (List.range (hc_fn cc)).map (hc_vof B b G k fs)))] H := by
    intro i q hq
    have hz : i < 1 := (List.getElem?_eq_some_iff.mp hq).1
    rw [show i = 0 by omega] at hq
    cases hq
    refine ⟨_, q1, hob.to fun i hi => ?_⟩
    simp [vp_V, hi]
  refine va_get (D := D) (ci := cc) (fs := (List.range (hc_fn cc)).map (hc_vof B b G k fs)) hx hb hts q2 hown hK hP 0 rfl q1 j hjn (hts _ hlink) (fun _ h9 => h9) ?_ hd kk
  rw [List.getElem?_map, List.getElem?_range hjn]
  simp [hc_vof, hj]
theorem hc_w_put (C : hc_C D cI cJ NW p R s m args meth c mi) {cp k cc j : Nat} {V : Nat → Value} {v : Value} (hf : hc_fld (hc_own mi) cp = some (cc, j)) (hob : t_OB (B + k) (D.1 cc) (hc_fn cc) (D.2 cc) H V) (hfin : hc_fin cc j = true → hc_ini mi = true ∧ hc_own mi = cc) (hn : narrow (hc_ty cc j) v = v) (hfit : fits (hc_ty cc j) v = true) (hd : decode (hc_b mi) pc = .ok (.putfield cp, 3))
    (kk : ∀ (H' : Heap) (x : Nat), H'.size = H.size → (∀ q : Nat, q ≠ B + k → H'[q]? = H[q]?) → t_OB (B + k) (D.1 cc) (hc_fn cc) (D.2 cc) H' (updV V j v) → W p l e R s m args below meth c H' (locs ++ [⟨B + k, x⟩]) cells slots Q (F0 m (pc + 3) sl rest)) : W p l e R s m args below meth c H locs cells slots Q (F0 m pc sl (v :: .ref (B + k) :: rest)) := by
  obtain ⟨hx, hb, hml, hown, hts, hK, -, -, -, hini⟩ := C
  obtain ⟨hlink, hjn, hc7⟩ := hc_flw _ (hc_find_mem hf)
  dsimp only at hlink hjn hc7
  obtain ⟨q1, q2, q3, q4, q5⟩ := hc_cls_ok hc7
  have hap := va_apart (own := hc_cn (hc_own mi)) hts q2 (hc_ty cc) q3 q4 hK q1
  obtain ⟨cell, o1, o2, o3, o4⟩ := hob
  obtain ⟨hS, hfc, kC, hkC, hkind⟩ := hK.1 cc _ q1
  obtain ⟨cf, kf, fi, f, hi, hsl⟩ := hS j hjn
  have hlay := hts _ (q2 _ (u_in_lay hjn))
  unfold u_lay at hlay
  have hst := (u_facts hfc hkC (u_lays hts q2 hjn) hi).1
  by_cases hfn : (hc_ft cc j).2.2.2 = true
  · rw [if_pos hfn] at hlay
    obtain ⟨g1, g2⟩ := hfin hfn
    have hcf : m.cls = cf := by
      obtain ⟨_, _, c', _, _, _, -, -, hf', -, -, -, hown2, -⟩ := Cond.laysFinal_spec hlay
      have e1 : c' = cf := by
        have := hi.symm.trans hf'
        simp at this
        exact this.1.symm
      rw [q5 j hjn, ← g2] at hown2
      rw [← e1]
      exact Option.some.inj (hown.symm.trans hown2)
    have h6 := u_fits hfc hkC hkind (Or.inr hlay) hi (q3 j hjn) hn hfit
    refine W.putFinK hx hb hown (hts _ hlink) hi hst hcf (hini g1) (by rw [o2]; exact h6) o1 o3 (by rw [hsl]; exact k2_hasslot (o4 j hjn)) rfl rfl hd fun H' e1 e2 e3 => ?_
    rw [hsl] at e1 ⊢
    exact kk H' _ e2 e3 ⟨_, e1, o2, o3, t_set o4 hap hjn v⟩
  · rw [if_neg hfn] at hlay
    have h6 := u_store hfc hkC hkind hlay hi (q3 j hjn) hn hfit
    refine W.putK hx hb (f := f) ⟨hown, hts _ hlink, ⟨_, _, _, hi⟩, hst⟩ (by rw [o2]; exact h6) o1 o3 (by rw [hsl]; exact k2_hasslot (o4 j hjn)) rfl rfl hd fun H' e1 e2 e3 => ?_
    rw [hsl] at e1 ⊢
    exact kk H' _ e2 e3 ⟨_, e1, o2, o3, t_set o4 hap hjn v⟩
/-- a row lies where its value says -/
theorem hc_row_at (hR : hc_Rel D cI cJ B b s G σ t H) {o : Option (Nat × Nat)} {r : hc_R} (h : hc_row σ t (.inr o) = some r) : ∃ a, hc_con B b G (.inr o) = .ref (B + a) ∧ H[B + a]? = some (hc_rc cI cJ r) := by
  obtain ⟨-, r1, r2, r3, -⟩ := hR
  rcases o with _ | ⟨k, j⟩
  · exact ⟨_, rfl, (r3 _ h).2⟩
  · refine ⟨_, rfl, (r2 k j r ?_).2⟩
    simp only [hc_row] at h
    split at h
    · rename_i c' fs hk
      split at h
      · rename_i hc
        split at h
        · rename_i r' hj
          cases h
          exact ⟨c', fs, hk, hc, hj⟩
        · cases h
      · cases h
    · cases h
theorem hc_row_scr (hR : hc_Rel D cI cJ B b s G σ t H) {v : hc_V} {r : hc_R} (h : hc_row σ t v = some r) : (∃ o, v = .inr o) ∨ (∃ x, v = .inl (.retAddr x) ∧ ∃ xs, r.2 = .inl xs ∧ va_X b r.1 xs s H) := by
  obtain ⟨-, -, -, -, -, -, -, r7⟩ := hR
  rcases v with v | o
  · right
    cases v <;> first | (cases h; done) | skip
    rename_i x
    refine ⟨x, rfl, r7 r ?_⟩
    simp only [hc_row] at h
    split at h
    · rename_i cc r' hk
      split at h
      · rename_i h99
        cases h
        rw [hk, h99]
      · cases h
    · cases h
  · exact Or.inl ⟨o, rfl⟩
theorem hc_in_of {i : Int32} {n : Nat} (h : hc_inB i n = true) : ¬ (i < 0 ∨ n ≤ i.toNatClampNeg) ∧ i.toNatClampNeg < n := by
  simp only [hc_inB, Bool.and_eq_true, decide_eq_true_eq] at h
  exact ⟨by rintro (q | q); exact h.1 q; omega, h.2⟩
theorem hc_w_iald (C : hc_C D cI cJ NW p R s m args meth c mi) (hR : hc_Rel D cI cJ B b s G σ t H) {i : Int32} {v : hc_V} {n : Nat} {f : Nat → Int32} (hv : hc_row σ t v = some (n, .inl f)) (hin : hc_inB i n = true) (hd : decode (hc_b mi) pc = .ok (.iaload, 1))
    (kk : W p l e R s m args below meth c H locs cells slots Q (F0 m (pc + 1) sl (.int (f i.toNatClampNeg) :: rest))) : W p l e R s m args below meth c H locs cells slots Q (F0 m pc sl (.int i :: hc_con B b G v :: rest)) := by
  obtain ⟨hx, hb, hml, hown, hts, hK, -⟩ := C
  obtain ⟨g1, g2⟩ := hc_in_of hin
  rcases hc_row_scr hR hv with ⟨o, rfl⟩ | ⟨x, rfl, xs, e1, scr, y1, y2, y3, y4, y5⟩
  · obtain ⟨a, ha, hc⟩ := hc_row_at hR hv
    rw [ha]
    refine va_iald (D := D) (cl := vwCl) (ws := [(B + a, .inl (cI, n, .inl f))]) hx hb hK (fun i q hq => ?_) 0 0 rfl rfl g1 hd kk
    have hz : i < 1 := (List.getElem?_eq_some_iff.mp hq).1
    rw [show i = 0 by omega] at hq
    cases hq
    exact hc
  · have e2 : f = xs := Sum.inl.inj e1
    rw [e2] at kk
    exact W.iald hx hb y1 y2 y3 (by rw [y4]; exact g1) (y5 _ g2) rfl rfl hd kk
theorem hc_w_lald (C : hc_C D cI cJ NW p R s m args meth c mi) (hR : hc_Rel D cI cJ B b s G σ t H) {i : Int32} {v : hc_V} {n : Nat} {f : Nat → Int64} (hv : hc_row σ t v = some (n, .inr f)) (hin : hc_inB i n = true) (hd : decode (hc_b mi) pc = .ok (.laload, 1))
    (kk : W p l e R s m args below meth c H locs cells slots Q (F0 m (pc + 1) sl (.long (f i.toNatClampNeg) :: rest))) : W p l e R s m args below meth c H locs cells slots Q (F0 m pc sl (.int i :: hc_con B b G v :: rest)) := by
  obtain ⟨hx, hb, hml, hown, hts, hK, -⟩ := C
  obtain ⟨g1, g2⟩ := hc_in_of hin
  rcases hc_row_scr hR hv with ⟨o, rfl⟩ | ⟨x, rfl, xs, e1, -⟩
  · obtain ⟨a, ha, hc⟩ := hc_row_at hR hv
    rw [ha]
    refine va_lald (D := D) (cl := vwCl) (ws := [(B + a, .inl (cJ, n, .inr (.inl f)))]) hx hb hK (fun i q hq => ?_) 0 1 rfl rfl g1 hd kk
    have hz : i < 1 := (List.getElem?_eq_some_iff.mp hq).1
    rw [show i = 0 by omega] at hq
    cases hq
    exact hc
  · cases e1
theorem hc_w_alen (C : hc_C D cI cJ NW p R s m args meth c mi) (hR : hc_Rel D cI cJ B b s G σ t H) {v : hc_V} {r : hc_R} (hv : hc_row σ t v = some r) (hd : decode (hc_b mi) pc = .ok (.arraylength, 1))
    (kk : W p l e R s m args below meth c H locs cells slots Q (F0 m (pc + 1) sl (.int (Int32.ofNat r.1) :: rest))) : W p l e R s m args below meth c H locs cells slots Q (F0 m pc sl (hc_con B b G v :: rest)) := by
  obtain ⟨hx, hb, hml, hown, hts, hK, -⟩ := C
  rcases hc_row_scr hR hv with ⟨o, rfl⟩ | ⟨x, rfl, xs, e1, scr, y1, y2, y3, y4, y5⟩
  · obtain ⟨a, ha, hc⟩ := hc_row_at hR hv
    rw [ha]
    obtain ⟨n, f | f⟩ := r
    · exact W.alen (n := Int32.ofNat n) hx hb hc ((hK.2 0 _ rfl).1 n (fun j => .int (f j))) (by simp only [hc_rc]; rw [vp_cell_i, arrV_size] <;> rfl) rfl rfl hd kk
    · exact W.alen (n := Int32.ofNat n) hx hb hc ((hK.2 1 _ rfl).1 n (fun j => .long (f j))) (by simp only [hc_rc]; rw [vp_cell_l, arrV_size] <;> rfl) rfl rfl hd kk
  · exact W.alen (n := Int32.ofNat r.1) hx hb y1 y2 (by rw [y4] <;> rfl) rfl rfl hd kk
theorem hc_w_iast (C : hc_C D cI cJ NW p R s m args meth c mi) {i x : Int32} {a n : Nat} {f : Nat → Int32} (hc : H[B + a]? = some (hc_rc cI cJ (n, .inl f))) (hin : hc_inB i n = true) (hd : decode (hc_b mi) pc = .ok (.iastore, 1))
    (kk : ∀ (H' : Heap) (y : Nat), H'.size = H.size → (∀ q : Nat, q ≠ B + a → H'[q]? = H[q]?) → H'[B + a]? = some (hc_rc cI cJ (n, .inl (upd f i.toNatClampNeg x))) → W p l e R s m args below meth c H' (locs ++ [⟨B + a, y⟩]) cells slots Q (F0 m (pc + 1) sl rest)) : W p l e R s m args below meth c H locs cells slots Q (F0 m pc sl (.int x :: .int i :: .ref (B + a) :: rest)) := by
  obtain ⟨hx, hb, hml, hown, hts, hK, -⟩ := C
  obtain ⟨g1, g2⟩ := hc_in_of hin
  refine W.iast hx hb hc ((hK.2 0 _ rfl).1 n (fun j => .int (f j))) (fun q => by cases q) (by show ¬ (i < 0 ∨ (arrV _ _ _).slots.size ≤ _); rw [arrV_size]; exact g1) rfl rfl hd fun H1 e1 e2 e3 => kk H1 _ e2 e3 ?_
  rw [e1]
  simp only [hc_rc]
  rw [vp_cell_i, vp_cell_i, arrV_store]
  congr 2
  funext q
  by_cases hq : q = i.toNatClampNeg
  · subst hq
    simp [updV, upd]
  · simp [updV, upd, hq]
theorem hc_w_last (C : hc_C D cI cJ NW p R s m args meth c mi) {i : Int32} {x : Int64} {a n : Nat} {f : Nat → Int64} (hc : H[B + a]? = some (hc_rc cI cJ (n, .inr f))) (hin : hc_inB i n = true) (hd : decode (hc_b mi) pc = .ok (.lastore, 1))
    (kk : ∀ (H' : Heap) (y : Nat), H'.size = H.size → (∀ q : Nat, q ≠ B + a → H'[q]? = H[q]?) → H'[B + a]? = some (hc_rc cI cJ (n, .inr (vp_updL f i.toNatClampNeg x))) → W p l e R s m args below meth c H' (locs ++ [⟨B + a, y⟩]) cells slots Q (F0 m (pc + 1) sl rest)) : W p l e R s m args below meth c H locs cells slots Q (F0 m pc sl (.long x :: .int i :: .ref (B + a) :: rest)) := by
  obtain ⟨hx, hb, hml, hown, hts, hK, -⟩ := C
  obtain ⟨g1, g2⟩ := hc_in_of hin
  refine W.last hx hb hc ((hK.2 1 _ rfl).1 n (fun j => .long (f j))) (fun q => by cases q) (by show ¬ (i < 0 ∨ (arrV _ _ _).slots.size ≤ _); rw [arrV_size]; exact g1) rfl rfl hd fun H1 e1 e2 e3 => kk H1 _ e2 e3 ?_
  rw [e1]
  simp only [hc_rc]
  rw [vp_cell_l, vp_cell_l, arrV_store]
  congr 2
  funext q
  by_cases hq : q = i.toNatClampNeg
  · subst hq
    simp [updV, vp_updL]
  · simp [updV, vp_updL, hq]
theorem hc_w_newi (C : hc_C D cI cJ NW p R s m args meth c mi) {n : Int32} (hn : ¬ n < 0) (hb2 : n.toNatClampNeg ≤ 60000000) (hcells : cells + 1 ≤ R.cells) (hslots : slots + n.toNatClampNeg ≤ R.slots) (hd : decode (hc_b mi) pc = .ok (.newarray .int, 2))
    (kk : ∀ (H' : Heap), H'.size = H.size + 1 → (∀ q : Nat, q < H.size → H'[q]? = H[q]?) → H'[H.size]? = some (hc_rc cI cJ (n.toNatClampNeg, .inl fun _ => 0)) → W p l e R s m args below meth c H' locs (cells + 1) (slots + n.toNatClampNeg) Q (F0 m (pc + 2) sl (.ref H.size :: rest))) : W p l e R s m args below meth c H locs cells slots Q (F0 m pc sl (.int n :: rest)) := by
  obtain ⟨hx, hb, hml, hown, hts, hK, -⟩ := C
  refine va_newaK (atype := .int) hx hb (hts _ hc_arw.1) rfl hd rfl hn rfl (by simp only [newarray.typeOf, componentBytes]; omega) hcells hslots rfl fun H1 cA e1 e2 e3 e4 e5 => kk H1 e2 e3 ?_
  have h2 : s.vm.findClass ("[" ++ FieldType.int.toString) = some cI := (hK.2 0 _ rfl).2
  rw [show newarray.typeOf .int = FieldType.int from rfl, h2] at e5
  cases e5
  exact e1
theorem hc_w_newl (C : hc_C D cI cJ NW p R s m args meth c mi) {n : Int32} (hn : ¬ n < 0) (hb2 : n.toNatClampNeg ≤ 60000000) (hcells : cells + 1 ≤ R.cells) (hslots : slots + n.toNatClampNeg ≤ R.slots) (hd : decode (hc_b mi) pc = .ok (.newarray .long, 2))
    (kk : ∀ (H' : Heap), H'.size = H.size + 1 → (∀ q : Nat, q < H.size → H'[q]? = H[q]?) → H'[H.size]? = some (hc_rc cI cJ (n.toNatClampNeg, .inr fun _ => 0)) → W p l e R s m args below meth c H' locs (cells + 1) (slots + n.toNatClampNeg) Q (F0 m (pc + 2) sl (.ref H.size :: rest))) : W p l e R s m args below meth c H locs cells slots Q (F0 m pc sl (.int n :: rest)) := by
  obtain ⟨hx, hb, hml, hown, hts, hK, -⟩ := C
  refine va_newaK (atype := .long) hx hb (hts _ hc_arw.2) rfl hd rfl hn rfl (by simp only [newarray.typeOf, componentBytes]; omega) hcells hslots rfl fun H1 cA e1 e2 e3 e4 e5 => kk H1 e2 e3 ?_
  have h2 : s.vm.findClass ("[" ++ FieldType.long.toString) = some cJ := (hK.2 1 _ rfl).2
  rw [show newarray.typeOf .long = FieldType.long from rfl, h2] at e5
  cases e5
  exact e1
theorem hc_w_new (C : hc_C D cI cJ NW p R s m args meth c mi) {cp cc : Nat} (hf : hc_cls (hc_own mi) cp = some cc) (hcells : cells + 1 ≤ R.cells) (hslots : slots + hc_fn cc ≤ R.slots) (hd : decode (hc_b mi) pc = .ok (.new cp, 3))
    (kk : ∀ (H' : Heap), H'.size = H.size + 1 → (∀ q : Nat, q < H.size → H'[q]? = H[q]?) → t_OB H.size (D.1 cc) (hc_fn cc) (D.2 cc) H' (fun j => defaultValue (hc_ty cc j)) → W p l e R s m args below meth c H' locs (cells + 1) (slots + hc_fn cc) Q (F0 m (pc + 3) sl (.ref H.size :: rest))) : W p l e R s m args below meth c H locs cells slots Q (F0 m pc sl rest) := by
  obtain ⟨hx, hb, hml, hown, hts, hK, -⟩ := C
  obtain ⟨w1, w2, w3, hc7⟩ := hc_clw _ (hc_find_mem hf)
  dsimp only at w1 w2 w3 hc7
  obtain ⟨q1, q2, q3, q4, q5⟩ := hc_cls_ok hc7
  have hKn := hK.1 cc _ q1
  refine W.newcK hx hb hown (hts _ w1) (hts _ w2) (hts _ w3) rfl hd hcells hslots hKn.2.1 rfl fun H1 kC hkC e1 z1 o1 => ?_
  exact kk H1 z1 o1 (u_born (hc_ty cc) hts q2 hKn hkC e1 q3)
end HCH
end
section
/-! arraycopy, Object's constructor, and all of the heap's instructions together -/
section HCI
variable {p : Program} {l : Launch} {e : Env} {R : Room} {s : State} {m : MethodId} {args : Array Value} {below : List Frame} {meth : Method} {c : Code} {H : Heap} {locs : List Loc} {cells slots : Nat} {Q : State → Prop}
variable {D : va_G} {cI cJ : ClassId} {NW : List Cond} {B b : Nat} {G : hc_G} {σ : hc_H} {t : hc_T} {mi pc : Nat} {sl : Array Slot} {rest : List Value}
theorem hc_nn {z : Int32} (hz : ¬ z < 0) : z.toInt = (z.toNatClampNeg : Int) := by
  have hz0 : (0 : Int) ≤ z.toInt := by
    have := Int32.not_lt.mp hz
    simpa using Int32.le_iff_toInt_le.mp this
  show z.toInt = ((z.toInt.toNat : Nat) : Int)
  omega
theorem hc_w_cpyi (C : hc_C D cI cJ NW p R s m args meth c mi) (hsz : sl.size = hc_mx mi) {cp : Nat} (hac : hc_acp (hc_own mi) cp = true) {a0 a n0 n1 : Nat} {f g : Nat → Int32} (hc0 : H[B + a0]? = some (hc_rc cI cJ (n0, .inl f))) (hc1 : H[B + a]? = some (hc_rc cI cJ (n1, .inl g)))
    {sp dp n : Int32} (h1 : ¬ sp < 0) (h2 : ¬ dp < 0) (h3 : ¬ n < 0) (h4 : sp.toNatClampNeg + n.toNatClampNeg ≤ n0) (h5 : dp.toNatClampNeg + n.toNatClampNeg ≤ n1) (hframes : 1 ≤ R.frames) (hlocals : (rest.map fun v => v.category).sum + 18 ≤ R.locals) (hd : decode (hc_b mi) pc = .ok (.invokestatic cp, 3))
    (kk : ∀ (H' : Heap) (L : List Loc), (∀ q ∈ L, q.base = B + a) → H'.size = H.size → (∀ q : Nat, q ≠ B + a → H'[q]? = H[q]?) → H'[B + a]? = some (hc_rc cI cJ (n1, .inl (va_cpy f g sp.toNatClampNeg dp.toNatClampNeg n.toNatClampNeg))) → W p l e R s m args below meth c H' (locs ++ L) cells slots Q (F0 m (pc + 3) sl rest)) : W p l e R s m args below meth c H locs cells slots Q (F0 m pc sl (.int n :: .int dp :: .ref (B + a) :: .int sp :: .ref (B + a0) :: rest)) := by
  obtain ⟨hx, hb, hml, hown, hts, hK, -⟩ := C
  have hlink := hc_acw (hc_own mi, cp) (by simpa [hc_acp] using hac)
  dsimp only at hlink
  intro T hT X
  obtain ⟨-, k0, hk0, cm0, hkk0⟩ := (hK.2 0 _ rfl).1 n0 (fun j => .int (f j))
  obtain ⟨-, k1, hk1, cm1, hkk1⟩ := (hK.2 0 _ rfl).1 n1 (fun j => .int (g j))
  have hl : B + a < H.size := (Array.getElem?_eq_some_iff.mp hc1).1
  obtain ⟨vm', X', step⟩ := X.arraycopy hx hown (hts _ hlink) (hts _ hc_ayw.1) (hts _ hc_ayw.2.1) (hts _ hc_ayw.2.2) (src := B + a0) (dst := B + a) (cs := vp_cell cI (n0, .inl (f))) (cd := vp_cell cI (n1, .inl (g))) (srcPos := sp) (destPos := dp) (n := n) (by rw [hT]; exact hc0) (by rw [hT]; exact hc1)
    (fun _ h => by cases h) (fun _ h => by cases h) (fun h => by cases h) (fun h => by cases h) hk0 hk1 hkk0 hkk1 (by simp [refKind]) h1 h2 h3
    (by rw [hc_nn h1, hc_nn h3]; show ¬ _ > ((arrV cI n0 (fun j => .int (f j))).slots.size : Int); rw [arrV_size]; omega)
    (by rw [hc_nn h2, hc_nn h3]; show ¬ _ > ((arrV cI n1 (fun j => .int (g j))).slots.size : Int); rw [arrV_size]; omega)
    (fun vm₁ _ i hi => by
      have e : (vp_cell cI (n0, .inl (f))).slots.getD (sp.toNatClampNeg + i) .null = .int (f (sp.toNatClampNeg + i)) := by
        show (arrV cI n0 (fun j => .int (f j))).slots.getD _ _ = _
        rw [Array.getD_eq_getD_getElem?, arrV_read _ _ (by omega)]
        rfl
      refine ⟨?_, ?_⟩
      · rw [e]
        rfl
      · rw [e]
        exact trivial)
    (g := F0 m pc sl (.int n :: .int dp :: .ref (B + a) :: .int sp :: .ref (B + a0) :: rest)) rfl (by rw [hml]; exact hsz) (rest := rest) rfl (by rw [hb]; exact hd) hframes (by show 2 * 0 + _ + (nativeFrameWords "java/lang/System" "arraycopy" 5 + 11) ≤ _; rw [show nativeFrameWords "java/lang/System" "arraycopy" 5 = 7 by decide +kernel]; omega)
  have e1 : copied (vp_cell cI (n0, .inl (f))) (vp_cell cI (n1, .inl (g))) sp dp n = vp_cell cI (n1, .inl (va_cpy f g sp.toNatClampNeg dp.toNatClampNeg n.toNatClampNeg)) := va_copied (fun z => .int z) cI cI f g h4
  rw [e1] at X' step
  have hheap : ((T.setVm vm').setCell (B + a) (vp_cell cI (n1, .inl (va_cpy f g sp.toNatClampNeg dp.toNatClampNeg n.toNatClampNeg)))).heap = H.setIfInBounds (B + a) (vp_cell cI (n1, .inl (va_cpy f g sp.toNatClampNeg dp.toNatClampNeg n.toNatClampNeg))) := by rw [← hT]; rfl
  have k1' := fun (LL : List Loc) hLL => kk (H.setIfInBounds (B + a) (vp_cell cI (n1, .inl (va_cpy f g sp.toNatClampNeg dp.toNatClampNeg n.toNatClampNeg)))) LL hLL (by simp) (fun q hq => by simp [Array.getElem?_setIfInBounds, Ne.symm hq]) (by simp [Array.getElem?_setIfInBounds, hl]; rfl)
  obtain ⟨t, a1, b1⟩ := k1' _ (fun q hq => by
    obtain ⟨z, -, hz⟩ := List.mem_map.mp hq
    rw [← hz]) _ hheap X'
  exact ⟨t, step t a1, b1⟩
theorem hc_w_cpyl (C : hc_C D cI cJ NW p R s m args meth c mi) (hsz : sl.size = hc_mx mi) {cp : Nat} (hac : hc_acp (hc_own mi) cp = true) {a0 a n0 n1 : Nat} {f g : Nat → Int64} (hc0 : H[B + a0]? = some (hc_rc cI cJ (n0, .inr f))) (hc1 : H[B + a]? = some (hc_rc cI cJ (n1, .inr g)))
    {sp dp n : Int32} (h1 : ¬ sp < 0) (h2 : ¬ dp < 0) (h3 : ¬ n < 0) (h4 : sp.toNatClampNeg + n.toNatClampNeg ≤ n0) (h5 : dp.toNatClampNeg + n.toNatClampNeg ≤ n1) (hframes : 1 ≤ R.frames) (hlocals : (rest.map fun v => v.category).sum + 18 ≤ R.locals) (hd : decode (hc_b mi) pc = .ok (.invokestatic cp, 3))
    (kk : ∀ (H' : Heap) (L : List Loc), (∀ q ∈ L, q.base = B + a) → H'.size = H.size → (∀ q : Nat, q ≠ B + a → H'[q]? = H[q]?) → H'[B + a]? = some (hc_rc cI cJ (n1, .inr (va_cpy f g sp.toNatClampNeg dp.toNatClampNeg n.toNatClampNeg))) → W p l e R s m args below meth c H' (locs ++ L) cells slots Q (F0 m (pc + 3) sl rest)) : W p l e R s m args below meth c H locs cells slots Q (F0 m pc sl (.int n :: .int dp :: .ref (B + a) :: .int sp :: .ref (B + a0) :: rest)) := by
  obtain ⟨hx, hb, hml, hown, hts, hK, -⟩ := C
  have hlink := hc_acw (hc_own mi, cp) (by simpa [hc_acp] using hac)
  dsimp only at hlink
  intro T hT X
  obtain ⟨-, k0, hk0, cm0, hkk0⟩ := (hK.2 1 _ rfl).1 n0 (fun j => .long (f j))
  obtain ⟨-, k1, hk1, cm1, hkk1⟩ := (hK.2 1 _ rfl).1 n1 (fun j => .long (g j))
  have hl : B + a < H.size := (Array.getElem?_eq_some_iff.mp hc1).1
  obtain ⟨vm', X', step⟩ := X.arraycopy hx hown (hts _ hlink) (hts _ hc_ayw.1) (hts _ hc_ayw.2.1) (hts _ hc_ayw.2.2) (src := B + a0) (dst := B + a) (cs := vp_cell cJ (n0, .inr (.inl (f)))) (cd := vp_cell cJ (n1, .inr (.inl (g)))) (srcPos := sp) (destPos := dp) (n := n) (by rw [hT]; exact hc0) (by rw [hT]; exact hc1)
    (fun _ h => by cases h) (fun _ h => by cases h) (fun h => by cases h) (fun h => by cases h) hk0 hk1 hkk0 hkk1 (by simp [refKind]) h1 h2 h3
    (by rw [hc_nn h1, hc_nn h3]; show ¬ _ > ((arrV cJ n0 (fun j => .long (f j))).slots.size : Int); rw [arrV_size]; omega)
    (by rw [hc_nn h2, hc_nn h3]; show ¬ _ > ((arrV cJ n1 (fun j => .long (g j))).slots.size : Int); rw [arrV_size]; omega)
    (fun vm₁ _ i hi => by
      have e : (vp_cell cJ (n0, .inr (.inl (f)))).slots.getD (sp.toNatClampNeg + i) .null = .long (f (sp.toNatClampNeg + i)) := by
        show (arrV cJ n0 (fun j => .long (f j))).slots.getD _ _ = _
        rw [Array.getD_eq_getD_getElem?, arrV_read _ _ (by omega)]
        rfl
      refine ⟨?_, ?_⟩
      · rw [e]
        rfl
      · rw [e]
        exact trivial)
    (g := F0 m pc sl (.int n :: .int dp :: .ref (B + a) :: .int sp :: .ref (B + a0) :: rest)) rfl (by rw [hml]; exact hsz) (rest := rest) rfl (by rw [hb]; exact hd) hframes (by show 2 * 0 + _ + (nativeFrameWords "java/lang/System" "arraycopy" 5 + 11) ≤ _; rw [show nativeFrameWords "java/lang/System" "arraycopy" 5 = 7 by decide +kernel]; omega)
  have e1 : copied (vp_cell cJ (n0, .inr (.inl (f)))) (vp_cell cJ (n1, .inr (.inl (g)))) sp dp n = vp_cell cJ (n1, .inr (.inl (va_cpy f g sp.toNatClampNeg dp.toNatClampNeg n.toNatClampNeg))) := va_copied (fun z => .long z) cJ cJ f g h4
  rw [e1] at X' step
  have hheap : ((T.setVm vm').setCell (B + a) (vp_cell cJ (n1, .inr (.inl (va_cpy f g sp.toNatClampNeg dp.toNatClampNeg n.toNatClampNeg))))).heap = H.setIfInBounds (B + a) (vp_cell cJ (n1, .inr (.inl (va_cpy f g sp.toNatClampNeg dp.toNatClampNeg n.toNatClampNeg)))) := by rw [← hT]; rfl
  have k1' := fun (LL : List Loc) hLL => kk (H.setIfInBounds (B + a) (vp_cell cJ (n1, .inr (.inl (va_cpy f g sp.toNatClampNeg dp.toNatClampNeg n.toNatClampNeg))))) LL hLL (by simp) (fun q hq => by simp [Array.getElem?_setIfInBounds, Ne.symm hq]) (by simp [Array.getElem?_setIfInBounds, hl]; rfl)
  obtain ⟨t, a1, b1⟩ := k1' _ (fun q hq => by
    obtain ⟨z, -, hz⟩ := List.mem_map.mp hq
    rw [← hz]) _ hheap X'
  exact ⟨t, step t a1, b1⟩
theorem hc_w_obj (C : hc_C D cI cJ NW p R s m args meth c mi) (hsz : sl.size = hc_mx mi) {cp a : Nat} (hob : hc_obj (hc_own mi) cp = true) (hframes : 1 ≤ R.frames) (hlocals : (rest.map fun v => v.category).sum + 12 ≤ R.locals) (hd : decode (hc_b mi) pc = .ok (.invokespecial cp, 3))
    (kk : W p l e R s m args below meth c H locs cells slots Q (F0 m (pc + 3) sl rest)) : W p l e R s m args below meth c H locs cells slots Q (F0 m pc sl (.ref a :: rest)) := by
  obtain ⟨hx, hb, hml, hown, hts, hK, -⟩ := C
  have hlink := hc_obw (hc_own mi, cp) (by simpa [hc_obj] using hob)
  dsimp only at hlink
  refine W.objInit hx hb hown (hts _ hlink) (hts _ hc_oiw.1) (hts _ hc_oiw.2) rfl (by rw [hml]; exact hsz) rfl hd hframes (by show 2 * 0 + _ + 12 ≤ _; omega) ?_
  exact kk
theorem hc_wt_le (B b : Nat) (G : hc_G) (st : List hc_V) : ((st.map (hc_con B b G)).map fun v => v.category).sum ≤ 2 * st.length := by
  induction st with
  | nil => exact Nat.le_refl _
  | cons v st ih =>
    have : (hc_con B b G v).category ≤ 2 := by rcases lv_cat (hc_con B b G v) with q | q <;> omega
    simp only [List.map_cons, List.sum_cons, List.length_cons]
    omega
theorem hc_np_map {B b : Nat} {G G' : hc_G} {st : List hc_V} (h : hc_np st = true) : st.map (hc_con B b G') = st.map (hc_con B b G) := by
  induction st with
  | nil => rfl
  | cons v st ih =>
    rcases v with v | p
    · rw [List.map_cons, List.map_cons, ih h]
      congr 1
      cases v <;> rfl
    · cases h
theorem hc_nt_LR {B b : Nat} {G G' : hc_G} {ls : hc_L} {sl : Array Slot} (hG : G'.2.2.2.2 = G.2.2.2.2) (hn : ls.all hc_nt = true) (h : hc_LR B b G ls sl) : hc_LR B b G' ls sl := by
  refine ⟨h.1, h.2.1, fun j w hj => ?_⟩
  rw [h.2.2 j w hj]
  have := List.all_eq_true.mp hn _ (List.mem_of_getElem? hj)
  rcases w with v | (_ | ⟨k, j⟩)
  · cases v <;> rfl
  · cases this
  · simp only [hc_con, hG]
theorem hc_Rel.same {U : State} {H' : Heap} (h : hc_Rel D cI cJ B b U G σ t H) {k cc : Nat} {fs : List hc_F} (hk : σ k = some (cc, fs)) (hc : cc < 99) (hz : H'.size = H.size) (ho : ∀ q : Nat, q ≠ B + k → H'[q]? = H[q]?)
    (hn : t_OB (B + k) (D.1 cc) (hc_fn cc) (D.2 cc) H' (hc_vof B b G k fs)) : hc_Rel D cI cJ B b U G σ t H' := by
  obtain ⟨⟨r0, r0'⟩, r1, r2, r3, r4, r5, r6, r7⟩ := h
  have ok : hc_olv σ k := ⟨cc, fs, hk, hc⟩
  refine ⟨⟨by rw [hz]; exact r0, r0'⟩, fun k' c' fs' h1 h2 => ?_, fun k' j' r q => ?_, fun r q => ?_, r4, r5, r6, fun r q => ?_⟩
  · obtain ⟨a1, a2, a3, a4⟩ := r1 k' _ _ h1 h2
    by_cases e : k' = k
    · subst e
      rw [hk] at h1
      cases h1
      exact ⟨a1, a2, a3, hn⟩
    · exact ⟨a1, a2, a3, a4.kept (ho _ (by omega))⟩
  · obtain ⟨a1, a2⟩ := r2 _ _ _ q
    have := r4 _ _ _ _ q ok
    exact ⟨a1, by rw [ho _ (by omega)]; exact a2⟩
  · obtain ⟨a1, a2⟩ := r3 _ q
    have := (r6 _ q).1 _ ok
    exact ⟨a1, by rw [ho _ (by omega)]; exact a2⟩
  · obtain ⟨xs, q1, q2⟩ := r7 r q
    exact ⟨xs, q1, q2.kept (ho _ (by omega))⟩
theorem hc_lo_add {B : Nat} {locs L : List Loc} (h : ∀ q ∈ locs, B ≤ q.base) (hL : ∀ q ∈ L, B ≤ q.base) : ∀ q ∈ locs ++ L, B ≤ q.base := fun q hq => (List.mem_append.mp hq).elim (h q) (hL q)
theorem hc_df_get {c j : Nat} : (hc_df c)[j]? = if j < hc_fn c then some (.inl (match hc_ty c j with
  | .int => .int 0
  | .long => .long 0
  | .boolean => .int 0
  | _ => .null)) else none := by
  unfold hc_df
  rw [List.getElem?_map]
  by_cases h : j < hc_fn c
  · rw [List.getElem?_range h, if_pos h]
    rfl
  · rw [if_neg h, List.getElem?_eq_none (by simp; omega)]
    rfl
theorem hc_df_def {c : Nat} (hc : c < 7) : ∀ j, j < hc_fn c → (match hc_ty c j with
  | .int => Value.int 0
  | .long => .long 0
  | .boolean => .int 0
  | _ => .null) = defaultValue (hc_ty c j) := by
  match c, hc with
  | 0, _ => decide +kernel
  | 1, _ => decide +kernel
  | 2, _ => decide +kernel
  | 3, _ => decide +kernel
  | 4, _ => decide +kernel
  | 5, _ => decide +kernel
  | 6, _ => decide +kernel
theorem hc_wr_ok {o : Option (Nat × Nat)} {r0 r1 : hc_R} {σ' : hc_H} {t' : hc_T} (h0 : hc_row σ t (.inr o) = some r0) (h : hc_wr σ t r1 (.inr o) = some (σ', t')) :
    (o = none ∧ t = some r0 ∧ σ' = σ ∧ t' = some r1) ∨ (∃ k j cc fs, o = some (k, j) ∧ σ k = some (cc, fs) ∧ cc < 99 ∧ fs[j]? = some (.inr r0) ∧ σ' = hc_set σ k (cc, fs.set j (.inr r1)) ∧ t' = t) := by
  rcases o with _ | ⟨k, j⟩
  · left
    simp only [hc_row] at h0
    simp only [hc_wr, h0] at h
    cases h
    exact ⟨rfl, h0, rfl, rfl⟩
  · right
    simp only [hc_row] at h0
    split at h0
    · rename_i cc fs hk
      simp only [hc_wr, hk] at h
      split at h0
      · rename_i hc
        rw [if_pos hc] at h
        split at h0
        · rename_i r hj
          cases h0
          cases h
          exact ⟨k, j, cc, fs, rfl, hk, hc, hj, rfl, rfl⟩
        · cases h0
      · cases h0
    · cases h0
end HCI
end
section
section HCJ
variable {p : Program} {l : Launch} {e : Env} {R : Room} {s : State} {m : MethodId} {args : Array Value} {below : List Frame} {meth : Method} {c : Code} {H : Heap} {locs : List Loc} {Q : State → Prop}
variable {D : va_G} {cI cJ : ClassId} {NW : List Cond} {B b : Nat} {G : hc_G} {σ : hc_H} {t : hc_T} {mi pc : Nat} {sl : Array Slot}
theorem hc_fld7 {o cp cc j : Nat} (h : hc_fld o cp = some (cc, j)) : cc < 7 ∧ j < hc_fn cc := by
  obtain ⟨-, q1, q2⟩ := hc_flw _ (hc_find_mem h)
  exact ⟨q2, q1⟩
set_option maxHeartbeats 4000000 in
theorem hc_hep_s {w : Nat} {ls ls' : hc_L} {st st' : List hc_V} {i : Instr} {G' : hc_G} {σ' : hc_H} {t' : hc_T} (C : hc_C D cI cJ NW p R s m args meth c mi) (hd : decode (hc_b mi) pc = .ok (i, w)) (h : hc_hep mi G σ t ls st i w = some (G', σ', t', ls', st')) (hlen : ls.length = hc_mx mi) (hR : hc_Rel D cI cJ B b s G σ t H) (hL : hc_LR B b G ls sl) (hlo : ∀ q ∈ locs, B ≤ q.base) {n0 s0 : Nat} (h0 : n0 ≤ G.2.1) (h1 : s0 ≤ G.2.2.1) (hrc : G'.2.1 - n0 ≤ R.cells) (hrs : G'.2.2.1 - s0 ≤ R.slots)
    (k : ∀ (H' : Heap) (locs' : List Loc) (sl' : Array Slot), hc_Rel D cI cJ B b s G' σ' t' H' → hc_LR B b G' ls' sl' → (∀ q ∈ locs', B ≤ q.base) → W p l e R s m args below meth c H' locs' (G'.2.1 - n0) (G'.2.2.1 - s0) Q (F0 m (pc + w) sl' (st'.map (hc_con B b G')))) : W p l e R s m args below meth c H locs (G.2.1 - n0) (G.2.2.1 - s0) Q (F0 m pc sl (st.map (hc_con B b G))) := by
  have hsz : sl.size = hc_mx mi := hL.1.trans hlen
  have hHs : H.size = B + G.2.1 := hR.1.1
  unfold hc_hep at h
  split at h
  · rename_i cp kk st
    split at h
    · rename_i cc j c' fs hf hk
      split at h
      · rename_i hcc
        subst hcc
        split at h
        · rename_i f hj
          cases h
          exact hc_w_get C hR hf hk hj hd (k H locs sl hR hL hlo)
        · cases h
      · cases h
    · cases h
  · rename_i cp v kk st
    split at h
    · rename_i cc j c' fs hf hk
      split at h
      · rename_i hcc
        obtain ⟨hcc, hft, hfn⟩ := hcc
        subst hcc
        split at h
        · rename_i v0 hj
          cases h
          have hc7 := (hc_fld7 hf).1
          obtain ⟨-, -, -, hob⟩ := hR.2.1 kk _ fs hk (by omega)
          obtain ⟨g1, g2⟩ := hc_fit_ok B b G hft
          exact hc_w_put C hf hob hfn g1 g2 hd fun H' x e1 e2 e3 => k H' _ sl (hR.put hk (by omega) hj e1 e2 e3) hL (hc_lo_add hlo fun q hq => by rw [List.mem_singleton.mp hq]; show B ≤ B + kk; omega)
        · cases h
      · cases h
    · cases h
  · rename_i cp kk st
    split at h
    · rename_i cc j c' fs r hf hk
      split at h
      · rename_i hcc
        obtain ⟨hcc, har, hfn, hnp, hjl⟩ := hcc
        subst hcc
        cases h
        have hc7 := (hc_fld7 hf).1
        obtain ⟨-, -, -, hob⟩ := hR.2.1 kk _ fs hk (by omega)
        obtain ⟨g1, g2⟩ := hc_arr_ok (B + G.2.2.2.1) har
        refine hc_w_put C hf hob (fun z => by rw [hfn] at z; cases z) g1 g2 hd fun H' x e1 e2 e3 => ?_
        have h4 := k H' (locs ++ [⟨B + kk, x⟩]) sl (hR.move rfl hk (by omega) hjl e1 e2 e3) (hc_LR_kp hL) (hc_lo_add hlo fun q hq => by rw [List.mem_singleton.mp hq]; show B ≤ B + kk; omega)
        rw [hc_np_map (G := G) hnp] at h4
        exact h4
      · cases h
    · cases h
  · rename_i cp k' j' kk st
    split at h
    · rename_i cc j c' fs hf hk
      split at h
      · rename_i hcc
        obtain ⟨hcc, hfn, hk', hj'⟩ := hcc
        subst hcc; subst hk'; subst hj'
        split at h
        · rename_i r hj
          split at h
          · rename_i har
            cases h
            have hc7 := (hc_fld7 hf).1
            obtain ⟨-, -, -, hob⟩ := hR.2.1 k' _ fs hk (by omega)
            obtain ⟨g1, g2⟩ := hc_arr_ok (B + G.2.2.2.2 k' j') har
            refine hc_w_put C hf hob (fun z => by rw [hfn] at z; cases z) g1 g2 hd fun H' x e1 e2 e3 => ?_
            refine k H' _ sl (hR.same hk (by omega) e1 e2 (e3.to fun i _ => ?_)) hL (hc_lo_add hlo fun q hq => by rw [List.mem_singleton.mp hq]; show B ≤ B + k'; omega)
            simp only [updV]
            split
            · rename_i hi
              rw [hi]
              simp only [hc_vof, hj, hc_fv, hc_con]
            · rfl
          · cases h
        · cases h
      · cases h
    · cases h
  · rename_i ii a st
    split at h
    · rename_i n f hv
      split at h
      · rename_i hin
        cases h
        exact hc_w_iald C hR hv hin hd (k H locs sl hR hL hlo)
      · cases h
    · cases h
  · rename_i ii a st
    split at h
    · rename_i n f hv
      split at h
      · rename_i hin
        cases h
        exact hc_w_lald C hR hv hin hd (k H locs sl hR hL hlo)
      · cases h
    · cases h
  · rename_i x ii a st
    split at h
    · rename_i n f hv
      split at h
      · rename_i hin
        split at h
        · rename_i s2 t2 hw
          cases h
          obtain ⟨aa, ha, hc⟩ := hc_row_at hR hv
          rw [List.map_cons, List.map_cons, List.map_cons, ha]
          refine hc_w_iast C hc hin hd fun H' y e1 e2 e3 => ?_
          have hlo' := hc_lo_add (L := [⟨B + aa, y⟩]) hlo fun q hq => by rw [List.mem_singleton.mp hq]; show B ≤ B + aa; omega
          rcases hc_wr_ok hv hw with ⟨rfl, ht, rfl, rfl⟩ | ⟨k', j', cc, fs, rfl, hk, hcc, hj, rfl, rfl⟩
          · have haa : aa = G.2.2.2.1 := Nat.add_left_cancel (Value.ref.inj (show Value.ref (B + aa) = .ref (B + G.2.2.2.1) from ha.symm))
            rw [haa] at e2 e3
            exact k H' _ sl (hR.tst ht e1 e2 e3) hL hlo'
          · have haa : aa = G.2.2.2.2 k' j' := Nat.add_left_cancel (Value.ref.inj (show Value.ref (B + aa) = .ref (B + G.2.2.2.2 k' j') from ha.symm))
            rw [haa] at e2 e3
            exact k H' _ sl (hR.ast hk hcc hj e1 e2 e3) hL hlo'
        · cases h
      · cases h
    · cases h
  · rename_i x ii a st
    split at h
    · rename_i n f hv
      split at h
      · rename_i hin
        split at h
        · rename_i s2 t2 hw
          cases h
          obtain ⟨aa, ha, hc⟩ := hc_row_at hR hv
          rw [List.map_cons, List.map_cons, List.map_cons, ha]
          refine hc_w_last C hc hin hd fun H' y e1 e2 e3 => ?_
          have hlo' := hc_lo_add (L := [⟨B + aa, y⟩]) hlo fun q hq => by rw [List.mem_singleton.mp hq]; show B ≤ B + aa; omega
          rcases hc_wr_ok hv hw with ⟨rfl, ht, rfl, rfl⟩ | ⟨k', j', cc, fs, rfl, hk, hcc, hj, rfl, rfl⟩
          · have haa : aa = G.2.2.2.1 := Nat.add_left_cancel (Value.ref.inj (show Value.ref (B + aa) = .ref (B + G.2.2.2.1) from ha.symm))
            rw [haa] at e2 e3
            exact k H' _ sl (hR.tst ht e1 e2 e3) hL hlo'
          · have haa : aa = G.2.2.2.2 k' j' := Nat.add_left_cancel (Value.ref.inj (show Value.ref (B + aa) = .ref (B + G.2.2.2.2 k' j') from ha.symm))
            rw [haa] at e2 e3
            exact k H' _ sl (hR.ast hk hcc hj e1 e2 e3) hL hlo'
        · cases h
      · cases h
    · cases h
  · rename_i a st
    split at h
    · rename_i n r2 hv
      cases h
      exact hc_w_alen C hR hv hd (k H locs sl hR hL hlo)
    · cases h
  · rename_i ty n st
    split at h
    · rename_i hcn
      obtain ⟨hn, hb2, hnp, hnt⟩ := hcn
      split at h
      · cases h
        have g1 : G.2.1 - n0 + 1 = G.2.1 + 1 - n0 := by omega
        have g2 : G.2.2.1 - s0 + n.toNatClampNeg = G.2.2.1 + n.toNatClampNeg - s0 := by omega
        refine hc_w_newi C hn hb2 (by rw [g1]; exact hrc) (by rw [g2]; exact hrs) hd fun H' e1 e2 e3 => ?_
        have h4 := k H' locs sl (hR.newa (n := n.toNatClampNeg) e1 e2 e3) (hc_nt_LR (G := G) rfl hnt hL) hlo
        rw [List.map_cons, hc_np_map (G := G) hnp] at h4
        rw [g1, g2, hHs]
        exact h4
      · cases h
        have g1 : G.2.1 - n0 + 1 = G.2.1 + 1 - n0 := by omega
        have g2 : G.2.2.1 - s0 + n.toNatClampNeg = G.2.2.1 + n.toNatClampNeg - s0 := by omega
        refine hc_w_newl C hn hb2 (by rw [g1]; exact hrc) (by rw [g2]; exact hrs) hd fun H' e1 e2 e3 => ?_
        have h4 := k H' locs sl (hR.newa (n := n.toNatClampNeg) e1 e2 e3) (hc_nt_LR (G := G) rfl hnt hL) hlo
        rw [List.map_cons, hc_np_map (G := G) hnp] at h4
        rw [g1, g2, hHs]
        exact h4
      · cases h
    · cases h
  · rename_i cp
    split at h
    · rename_i cc hf
      split at h
      · rename_i hlt
        cases h
        obtain ⟨-, -, -, hc7⟩ := hc_clw _ (hc_find_mem hf)
        dsimp only at hc7
        have g1 : G.2.1 - n0 + 1 = G.2.1 + 1 - n0 := by omega
        have g2 : G.2.2.1 - s0 + hc_fn cc = G.2.2.1 + hc_fn cc - s0 := by omega
        refine hc_w_new C hf (by rw [g1]; exact hrc) (by rw [g2]; exact hrs) hd fun H' e1 e2 e3 => ?_
        have h4 := k H' locs sl (hR.newo (n := hc_fn cc) (fs := hc_df cc) hlt hc7 (by simp [hc_df]) (fun j r => by
          rw [hc_df_get]
          split
          · intro z; cases z
          · intro z; cases z) e1 e2 (e3.to fun j hj => by
            simp only [hc_vof, hc_df_get, if_pos hj, hc_fv]
            rw [← hc_df_def hc7 j hj]
            cases hc_ty cc j <;> rfl)) (hc_LR_G (G := G) rfl hL) hlo
        rw [List.map_cons, List.map_congr_left (fun v _ => hc_con_G (B := B) (b := b) (G := G) (G' := hc_gO G (hc_fn cc)) rfl v)] at h4
        rw [g1, g2, hHs]
        exact h4
      · cases h
    · cases h
  · rename_i cp kk st
    split at h
    · rename_i hcn
      obtain ⟨hob, hst, hdp, hln⟩ := hcn
      have hC := C
      obtain ⟨-, -, -, -, -, -, -, r1, r2, -⟩ := hC
      have := hc_wt_le B b G st
      cases h
      exact hc_w_obj C hsz hob (by omega) (by omega) hd (k H locs sl hR hL hlo)
    · cases h
  · rename_i cp n dp sp k' j' st
    split at h
    · rename_i hcn
      obtain ⟨hac, hst, hdp, hln, g1, g2, g3⟩ := hcn
      have hC := C
      obtain ⟨-, -, -, -, -, -, -, r1, r2, -⟩ := hC
      have hwt := hc_wt_le B b G st
      split at h
      · rename_i n0' f n1 g hv
        split at h
        · rename_i hle
          cases h
          obtain ⟨aa, ha, hc⟩ := hc_row_at hR hv
          obtain ⟨a2, ha2, hc2⟩ := hc_row_at (o := none) hR rfl
          rw [List.map_cons, List.map_cons, List.map_cons, List.map_cons, List.map_cons, ha, ha2]
          have haa : a2 = G.2.2.2.1 := Nat.add_left_cancel (Value.ref.inj (show Value.ref (B + a2) = .ref (B + G.2.2.2.1) from ha2.symm))
          refine hc_w_cpyi C hsz hac hc hc2 g1 g2 g3 hle.1 hle.2 (by omega) (by omega) hd fun H' L e0 e1 e2 e3 => ?_
          rw [haa] at e2 e3
          exact k H' _ sl (hR.tst rfl e1 e2 e3) hL (hc_lo_add hlo fun q hq => by rw [e0 q hq]; omega)
        · cases h
      · rename_i n0' f n1 g hv
        split at h
        · rename_i hle
          cases h
          obtain ⟨aa, ha, hc⟩ := hc_row_at hR hv
          obtain ⟨a2, ha2, hc2⟩ := hc_row_at (o := none) hR rfl
          rw [List.map_cons, List.map_cons, List.map_cons, List.map_cons, List.map_cons, ha, ha2]
          have haa : a2 = G.2.2.2.1 := Nat.add_left_cancel (Value.ref.inj (show Value.ref (B + a2) = .ref (B + G.2.2.2.1) from ha2.symm))
          refine hc_w_cpyl C hsz hac hc hc2 g1 g2 g3 hle.1 hle.2 (by omega) (by omega) hd fun H' L e0 e1 e2 e3 => ?_
          rw [haa] at e2 e3
          exact k H' _ sl (hR.tst rfl e1 e2 e3) hL (hc_lo_add hlo fun q hq => by rw [e0 q hq]; omega)
        · cases h
      · cases h
    · cases h
  · cases h
end HCJ
end
section
/-! THE SMALL MACHINE IS SOUND -/
theorem hc_hep_len {mi w : Nat} {G G' : hc_G} {σ σ' : hc_H} {t t' : hc_T} {ls ls' : hc_L} {st st' : List hc_V} {i : Instr} (h : hc_hep mi G σ t ls st i w = some (G', σ', t', ls', st')) : ls'.length = ls.length := by
  unfold hc_hep at h
  split at h <;> (try (split at h)) <;> (try (split at h)) <;> (try (split at h)) <;> (try (split at h)) <;> first | (cases h; done) | (cases h; rfl) | (cases h; exact hc_kp_len _)
def hc_le (G G' : hc_G) : Prop := G.2.1 ≤ G'.2.1 ∧ G.2.2.1 ≤ G'.2.2.1 ∧ G.1 ≤ G'.1 ∧ (G'.1 = G.1 → G'.2.2.2 = G.2.2.2)
theorem hc_le.rf (G : hc_G) : hc_le G G := ⟨Nat.le_refl _, Nat.le_refl _, Nat.le_refl _, fun _ => rfl⟩
theorem hc_le.tr {G1 G2 G3 : hc_G} (h : hc_le G1 G2) (h2 : hc_le G2 G3) : hc_le G1 G3 := by
  obtain ⟨a1, a2, a3, a4⟩ := h
  obtain ⟨b1, b2, b3, b4⟩ := h2
  exact ⟨by omega, by omega, by omega, fun e => (b4 (by omega)).trans (a4 (by omega))⟩
theorem hc_le.gA (G : hc_G) (n : Nat) : hc_le G (hc_gA G n) := ⟨Nat.le_succ _, Nat.le_add_right _ _, Nat.le_succ _, fun e => by have : G.1 + 1 = G.1 := e; omega⟩
theorem hc_le.gO (G : hc_G) (n : Nat) : hc_le G (hc_gO G n) := ⟨Nat.le_succ _, Nat.le_add_right _ _, Nat.le_refl _, fun _ => rfl⟩
theorem hc_le.gM (G : hc_G) (k j : Nat) : hc_le G (hc_gM G k j) := ⟨Nat.le_refl _, Nat.le_refl _, Nat.le_succ _, fun e => by have : G.1 + 1 = G.1 := e; omega⟩
theorem hc_hep_mono {mi w : Nat} {G G' : hc_G} {σ σ' : hc_H} {t t' : hc_T} {ls ls' : hc_L} {st st' : List hc_V} {i : Instr} (h : hc_hep mi G σ t ls st i w = some (G', σ', t', ls', st')) : hc_le G G' := by
  unfold hc_hep at h
  split at h <;> (try (split at h)) <;> (try (split at h)) <;> (try (split at h)) <;> (try (split at h)) <;> first | (cases h; done) | (cases h; exact hc_le.rf _) | (cases h; exact hc_le.gA _ _) | (cases h; exact hc_le.gO _ _) | (cases h; exact hc_le.gM _ _ _)
theorem hc_ex_mono : ∀ (n : Nat) {mi pc : Nat} {G G' : hc_G} {σ σ' : hc_H} {t t' : hc_T} {ls : hc_L} {st : List hc_V} {r : Option hc_V}, hc_ex n G σ t mi pc ls st = some (G', σ', t', r) → hc_le G G' := by
  intro n
  induction n with
  | zero =>
    intro mi pc G G' σ σ' t t' ls st r h
    cases h
  | succ n ih =>
    intro mi pc G G' σ σ' t t' ls st r h
    simp only [hc_ex] at h
    split at h
    · split at h
      · exact ih h
      · split at h
        · rename_i hh
          exact (hc_hep_mono hh).tr (ih h)
        · split at h
          · cases h
            exact hc_le.rf _
          · split at h
            · split at h
              · rename_i h1
                split at h
                · exact (ih h1).tr (ih h)
                · split at h
                  · exact (ih h1).tr (ih h)
                  · cases h
              · cases h
            · cases h
    · cases h
theorem hc_met_of {l : Launch} {y : MethodName} {ws ws' : List Cond} {rm : Room} {Pc : Array Value → State → Prop} {Qc : Array Value → State → Outcome → State → Prop} {mc ms : Nat} {free : Addr → Prop} {cc : ByteArray} {maxL : Nat} {ret : Option FieldType}
    (hy : plainFor y = true) (hw : ws = Cond.code y cc maxL ret :: ws')
    (body : ∀ p e s m args below meth c s₁, BodyLoose p l y (headSpec ws rm) cc maxL ret e s m args below meth c s₁ → c.maxLocals = maxL → Pc args s →
      W p l e (headSpec ws rm).room s m args below meth c s.heap [] 0 0 (MQ below Qc args s mc ms free) (entryFrame m args maxL)) : Met l y ws rm Pc Qc mc ms free := by
  refine MetFree.of_bodySF (code := cc) (maxLocals := maxL) (ret := ret) hy ?_ ?_
  · intro args s m h hn
    obtain ⟨meth, c, h1, h2, h3, h4, h5, h6, -, -⟩ := Cond.code_spec hn (atoms_spec (ws := ws) h _ (by rw [hw]; exact List.mem_cons_self))
    exact ⟨meth, c, h1, h2, h3, h4, h5, h6⟩
  · intro p e s m args below meth c s₁ B hml hP _
    have hh0 : s₁.heap = s.heap := by rw [B.state]; rfl
    obtain ⟨t, a1, o, b1, b2, b3⟩ := body p e s m args below meth c s₁ B hml hP s₁ hh0 (Stand.of_body B)
    exact ⟨t, o, a1, b1, b2, ⟨b3.1, b3.2⟩⟩
theorem hc_ent_mem {B b : Nat} {G : hc_G} : ∀ (vs : List hc_V) (off i : Nat) (v : hc_V), (hc_ent vs)[i]? = some (some v) → (off + i, hc_con B b G v) ∈ lv_args off (vs.map (hc_con B b G)) := by
  intro vs
  induction vs with
  | nil =>
    intro off i v h
    simp [hc_ent] at h
  | cons w vs ih =>
    intro off i v h
    simp only [hc_ent] at h
    simp only [List.map_cons, lv_args]
    cases i with
    | zero =>
      rw [List.getElem?_cons_zero] at h
      cases h
      exact List.mem_cons_self
    | succ i =>
      rw [List.getElem?_cons_succ] at h
      refine List.mem_cons_of_mem _ ?_
      by_cases h2 : hc_two w = true
      · rw [if_pos h2] at h
        rw [if_pos ((hc_con_cat B b G w).mpr h2)]
        cases i with
        | zero =>
          rw [List.getElem?_cons_zero] at h
          cases h
        | succ i =>
          rw [List.getElem?_cons_succ] at h
          have := ih (off + 2) i v h
          rw [show off + (i + 1 + 1) = off + 2 + i by omega]
          exact this
      · rw [if_neg h2] at h
        rw [if_neg (fun z => h2 ((hc_con_cat B b G w).mp z))]
        have := ih (off + 1) i v h
        rw [show off + (i + 1) = off + 1 + i by omega]
        exact this
theorem hc_ent_len (B b : Nat) (G : hc_G) (vs : List hc_V) : (lg_sl (vs.map (hc_con B b G))).length = (hc_ent vs).length := by
  induction vs with
  | nil => rfl
  | cons w vs ih =>
    have e : lg_sl ((w :: vs).map (hc_con B b G)) = lg_sl [hc_con B b G w] ++ lg_sl (vs.map (hc_con B b G)) := by
      simp [lg_sl]
    rw [e, List.length_append, ih]
    simp only [hc_ent]
    by_cases h2 : hc_two w = true
    · have := (hc_con_cat B b G w).mpr h2
      simp [lg_sl, this, h2]
      omega
    · have : ¬ (hc_con B b G w).category = 2 := fun z => h2 ((hc_con_cat B b G w).mp z)
      simp [lg_sl, this, h2]
      omega
theorem hc_pad_len {n : Nat} {l : hc_L} (h : l.length ≤ n) : (hc_pad n l).length = n := by
  simp [hc_pad]
  omega
theorem hc_pad_get {n i : Nat} {l : hc_L} {v : hc_V} (h : (hc_pad n l)[i]? = some (some v)) : l[i]? = some (some v) := by
  unfold hc_pad at h
  by_cases hi : i < l.length
  · rw [List.getElem?_append_left hi] at h
    exact h
  · rw [List.getElem?_append_right (by omega)] at h
    have := List.eq_of_mem_replicate (List.mem_of_getElem? h)
    cases this
theorem hc_LR_entry (B b : Nat) (G : hc_G) (vs : List hc_V) {n : Nat} (h : (hc_ent vs).length ≤ n) : hc_LR B b G (hc_pad n (hc_ent vs)) (lg_sl (vs.map (hc_con B b G)) ++ List.replicate (n - (lg_sl (vs.map (hc_con B b G))).length) Slot.unset).toArray := by
  have h1 := lv_entry (vs.map (hc_con B b G)) (n := n) (by rw [hc_ent_len]; exact h)
  refine ⟨by rw [hc_pad_len h]; exact h1.1, h1.2.1, fun i v hi => ?_⟩
  have := hc_ent_mem (B := B) (b := b) (G := G) vs 0 i v (hc_pad_get hi)
  rw [Nat.zero_add] at this
  exact h1.2.2 _ this
/-- what a frame of the small machine means on the large one, for runs of at most n steps -/
def hc_Sound (n : Nat) : Prop := ∀ {mi pc : Nat} {ls : hc_L} {st : List hc_V} {G G' : hc_G} {σ σ' : hc_H} {t t' : hc_T} {r : Option hc_V}, hc_ex n G σ t mi pc ls st = some (G', σ', t', r) → ls.length = hc_mx mi →
  ∀ {D : va_G} {cI cJ : ClassId} {B b : Nat} {p : Program} {l : Launch} {e : Env} {R : Room} {s : State} {m : MethodId} {args : Array Value} {below : List Frame} {meth : Method} {c : Code} {H : Heap} {locs : List Loc} {Q : State → Prop} {sl : Array Slot} {n0 s0 : Nat},
    hc_C D cI cJ hc_NW p R s m args meth c mi → hc_Rel D cI cJ B b s G σ t H → hc_LR B b G ls sl → (∀ q ∈ locs, B ≤ q.base) → n0 ≤ G.2.1 → s0 ≤ G.2.2.1 → G'.2.1 - n0 ≤ R.cells → G'.2.2.1 - s0 ≤ R.slots →
    (∀ (pc1 w : Nat) (i : Instr) (st1 : List hc_V) (sl1 : Array Slot) (H1 : Heap) (locs1 : List Loc), decode (hc_b mi) pc1 = .ok (i, w) → hc_rtn mi st1 i w = some r → hc_Rel D cI cJ B b s G' σ' t' H1 → (∀ q ∈ locs1, B ≤ q.base) → W p l e R s m args below meth c H1 locs1 (G'.2.1 - n0) (G'.2.2.1 - s0) Q (F0 m pc1 sl1 (st1.map (hc_con B b G')))) →
    W p l e R s m args below meth c H locs (G.2.1 - n0) (G.2.2.1 - s0) Q (F0 m pc sl (st.map (hc_con B b G)))
def hc_Pc (D : va_G) (cI cJ : ClassId) (B b : Nat) (G : hc_G) (σ : hc_H) (t : hc_T) (vs : List hc_V) : Array Value → State → Prop := fun a U => a = (vs.map (hc_con B b G)).toArray ∧ hc_Rel D cI cJ B b U G σ t U.heap ∧ va_K D vwCl [(cI, .int), (cJ, .long)] U ∧ ∀ w ∈ hc_NW, va_Nw w U
def hc_Qc (D : va_G) (cI cJ : ClassId) (B b : Nat) (G : hc_G) (σ : hc_H) (t : hc_T) (r : Option hc_V) : Array Value → State → Outcome → State → Prop := fun _ _ o u => o = .returned (r.map (hc_con B b G)) ∧ hc_Rel D cI cJ B b u G σ t u.heap
theorem hc_nw_form {w : Cond} (h : w ∈ hc_NW) : ∃ a i x q, w = .methodLinkNest a i x q := by
  simp only [hc_NW, List.mem_cons, List.not_mem_nil, or_false] at h
  rcases h with h | h | h | h | h | h | h | h <;> exact ⟨_, _, _, _, h⟩
theorem hc_Pc_blind {D : va_G} {cI cJ : ClassId} {B b : Nat} {G : hc_G} {σ : hc_H} {t : hc_T} {vs : List hc_V} : FrameBlind (hc_Pc D cI cJ B b G σ t vs) := by
  intro a U g mk q
  obtain ⟨q0, q1, q2, q3⟩ := q
  refine ⟨q0, hc_Rel.moved (U := U) (U' := U.calling g mk a) (Vm.Alike.refl U.vm) q1, va_K.moved (u := U) (U := U.calling g mk a) (Vm.Alike.refl U.vm) q2, fun w hw => ?_⟩
  obtain ⟨x1, x2, x3, x4, rfl⟩ := hc_nw_form hw
  exact va_Nw.same (u := U) (U := U.calling g mk a) rfl rfl (q3 _ hw)
set_option maxHeartbeats 4000000 in
theorem hc_met_sound {n : Nat} (ih : hc_Sound n) (l : Launch) {m2 : Nat} {vs : List hc_V} {G G' : hc_G} {σ σ' : hc_H} {t t' : hc_T} {r : Option hc_V} (D : va_G) (cI cJ : ClassId) (B b : Nat) (hP : hc_Pm m2) (hex : hc_ex n G σ t m2 0 (hc_pad (hc_mx m2) (hc_ent vs)) [] = some (G', σ', t', r)) (hlen : (hc_ent vs).length ≤ hc_mx m2) :
    Met l (hc_y m2) (Cond.code (hc_y m2) (hc_b m2) (hc_mx m2) (hc_rty m2) :: hc_ALL) ({ frames := hc_dp m2, cells := G'.2.1 - G.2.1, slots := G'.2.2.1 - G.2.2.1, locals := hc_ln m2 } : Room) (hc_Pc D cI cJ B b G σ t vs) (hc_Qc D cI cJ B b G' σ' t' r) (G'.2.1 - G.2.1) (G'.2.2.1 - G.2.2.1) (fun q => B ≤ q) := by
  obtain ⟨p1, p2, p3, p4, p5, p6, p7, p8, p9, p10⟩ := hP
  refine hc_met_of (cc := hc_b m2) (maxL := hc_mx m2) (ret := hc_rty m2) p5 rfl ?_
  intro p e s m args below meth c s₁ Bd hml hv
  obtain ⟨rfl, hR, hK, hN⟩ := hv
  have hts := atoms_spec (ws := Cond.code (hc_y m2) (hc_b m2) (hc_mx m2) (hc_rty m2) :: hc_ALL) Bd.pre
  have hown : s.vm.findClass (hc_y m2).cls = some m.cls := findClass_of_methodNamed Bd.named
  rw [p6] at hown
  have hr := Bd.returns
  have hlocks := Bd.notSynchronized
  rw [lg_entry_eq]
  have hC : hc_C D cI cJ hc_NW p (headSpec (Cond.code (hc_y m2) (hc_b m2) (hc_mx m2) (hc_rty m2) :: hc_ALL) ({ frames := hc_dp m2, cells := G'.2.1 - G.2.1, slots := G'.2.2.1 - G.2.2.1, locals := hc_ln m2 } : Room)).room s m (vs.map (hc_con B b G)).toArray meth c m2 := by
    refine ⟨Bd.exec, Bd.bytes, hml, hown, fun w hw => hts w (List.mem_cons_of_mem _ hw), hK, hN, Nat.le_refl _, Nat.le_refl _, fun hi => ?_⟩
    have h1 : hc_md m2 = 1 := by simpa [hc_ini] using hi
    rw [(name_of_methodNamed Bd.named Bd.method).1]
    exact (p10 h1).1
  have K := ih hex (hc_pad_len hlen) (n0 := G.2.1) (s0 := G.2.2.1) (locs := []) (l := l) (e := e) (below := below) (Q := MQ below (hc_Qc D cI cJ B b G' σ' t' r) (vs.map (hc_con B b G)).toArray s (G'.2.1 - G.2.1) (G'.2.2.1 - G.2.2.1) (fun q => B ≤ q)) hC hR (hc_LR_entry B b G vs hlen) (fun _ h => by cases h) (Nat.le_refl _) (Nat.le_refl _) (Nat.le_refl _) (Nat.le_refl _) ?_
  · rw [Nat.sub_self, Nat.sub_self] at K
    exact K
  · intro pc1 w i st1 sl1 H1 locs1 hd hrt hR1 hlo
    have hq : ∀ (o : Outcome), o = .returned (r.map (hc_con B b G')) → ∀ u : State, u.heap = H1 → s.WarmedH u.vm → hc_Qc D cI cJ B b G' σ' t' r (vs.map (hc_con B b G)).toArray s o u := fun o ho u hu hW => ⟨ho, by rw [hu]; exact hR1.moved hW.alike⟩
    unfold hc_rtn at hrt
    split at hrt
    · rename_i v
      split at hrt
      · rename_i hty
        cases hrt
        exact W.zret Bd.exec Bd.bytes (hr.trans hty) rfl (hq _ rfl) hlo hd
      · rename_i hty
        split at hrt
        · rename_i hv
          cases hrt
          refine W.zret Bd.exec Bd.bytes (hr.trans hty) ?_ (hq _ rfl) hlo hd
          rcases hv with rfl | rfl <;> decide +kernel
        · cases hrt
      · cases hrt
    · rename_i v
      split at hrt
      · rename_i hty
        cases hrt
        exact W.lret Bd.exec Bd.bytes (hr.trans hty) (hq _ rfl) hlo hd
      · cases hrt
    · rename_i q
      split at hrt
      · rename_i ty hty
        cases hrt
        obtain ⟨a, ha⟩ : ∃ a, hc_con B b G' (.inr q) = .ref a := by
          rcases q with _ | ⟨k, j⟩ <;> exact ⟨_, rfl⟩
        rw [List.map_cons, List.map_nil, ha]
        exact W.aret Bd.exec Bd.bytes (hr.trans hty) (Or.inr ⟨_, rfl⟩) (Or.inr ⟨a, rfl⟩) (hq _ (by rw [Option.map_some, ha])) hlo hd
      · cases hrt
    · split at hrt
      · rename_i hty
        cases hrt
        exact W.vret Bd.exec Bd.bytes (hr.trans hty) (hq _ rfl) hlo hd
      · cases hrt
    · cases hrt
end
section
/-! calls; the small machine is sound -/
theorem hc_map_rev {B b : Nat} {G : hc_G} {st : List hc_V} (n : Nat) : st.map (hc_con B b G) = ((st.take n).reverse.map (hc_con B b G)).reverse ++ (st.drop n).map (hc_con B b G) := by
  rw [← List.map_reverse, List.reverse_reverse, ← List.map_append, List.take_append_drop]
theorem hc_len_args {m2 : Nat} (hP : hc_Pm m2) : ∀ sig, parseMethodDescriptor (hc_y m2).desc = some sig → (if hc_md m2 = 2 then hc_na m2 else hc_na m2 - 1) = sig.parameters.length := by
  intro sig h
  have h2 := hP.2.2.2.1
  rw [h] at h2
  exact (Option.some.inj h2).symm
set_option maxHeartbeats 4000000 in
theorem hc_sound : ∀ n : Nat, hc_Sound n := by
  intro n
  induction n with
  | zero =>
    intro mi pc ls st G G' σ σ' t t' r h
    cases h
  | succ n ih =>
    intro mi pc ls st G G' σ σ' t t' r h hlen D cI cJ B b p l e R s m args below meth c H locs Q sl n0 s0 C hR hL hlo h0 h1 hrc hrs fin
    simp only [hc_ex] at h
    split at h
    · rename_i i w hd
      split at h
      · rename_i pc' ls' st' hh
        refine hc_loc_s C hd hh hlen hL fun sl' hL' => ?_
        exact ih h ((hc_loc_len hh).trans hlen) C hR hL' hlo h0 h1 hrc hrs fin
      · split at h
        · rename_i G1 σ1 t1 ls1 st1 hh
          have mo := hc_hep_mono hh
          have mo2 := hc_ex_mono n h
          refine hc_hep_s C hd hh hlen hR hL hlo h0 h1 (Nat.le_trans (Nat.sub_le_sub_right mo2.1 _) hrc) (Nat.le_trans (Nat.sub_le_sub_right mo2.2.1 _) hrs) fun H' locs' sl' hR' hL' hlo' => ?_
          exact ih h ((hc_hep_len hh).trans hlen) C hR' hL' hlo' (Nat.le_trans h0 mo.1) (Nat.le_trans h1 mo.2.1) hrc hrs fin
        · split at h
          · rename_i r1 hh
            cases h
            exact fin pc w i st sl H locs hd hh hR hlo
          · split at h
            · rename_i m2 l2 st2 hh
              split at h
              · rename_i G1 σ1 t1 r1 hx1
                have mo := hc_ex_mono n hx1
                -- what is left behind the call
                have K : ∀ (H1 : Heap) (locs1 : List Loc), hc_Rel D cI cJ B b s G1 σ1 t1 H1 → (∀ q ∈ locs1, B ≤ q.base) → w = 3 → hc_le G1 G' ∧ W p l e R s m args below meth c H1 locs1 (G1.2.1 - n0) (G1.2.2.1 - s0) Q (F0 m (pc + 3) sl ((r1.map (hc_con B b G1)).toList ++ st2.map (hc_con B b G))) := by
                  intro H1 locs1 hR1 hlo1 hw3
                  subst hw3
                  have hps : ∀ st3 : List Value, (st2.map (hc_con B b G1) = st3) → (hc_psh r1 st2).map (hc_con B b G1) = (r1.map (hc_con B b G1)).toList ++ st3 := by
                    intro st3 e3
                    rw [← e3]
                    cases r1 <;> rfl
                  split at h
                  · rename_i hep
                    have mo2 := hc_ex_mono n h
                    refine ⟨mo2, ?_⟩
                    have hGG := mo.2.2.2 hep
                    have := ih h hlen C hR1 (hc_LR_G hGG hL) hlo1 (Nat.le_trans h0 mo.1) (Nat.le_trans h1 mo.2.1) hrc hrs fin
                    rw [hps _ (List.map_congr_left fun v _ => hc_con_G hGG v)] at this
                    exact this
                  · split at h
                    · rename_i hnp
                      have mo2 := hc_ex_mono n h
                      refine ⟨mo2, ?_⟩
                      have := ih h ((hc_kp_len ls).trans hlen) C hR1 (hc_LR_kp hL) hlo1 (Nat.le_trans h0 mo.1) (Nat.le_trans h1 mo.2.1) hrc hrs fin
                      rw [hps _ (hc_np_map hnp)] at this
                      exact this
                    · cases h
                clear fin
                unfold hc_cal at hh
                split at hh
                · rename_i kd cp hik
                  split at hh
                  · rename_i m2' htg
                    split at hh
                    · rename_i hcn
                      cases hh
                      obtain ⟨hw, hmd, hdp, hln, hna, hst2, hel, hrv⟩ := hcn
                      subst hw
                      obtain ⟨hP, hlk⟩ := hc_tgw _ (hc_find_mem htg)
                      dsimp only at hP hlk
                      have hM := hc_met_sound ih l D cI cJ B b hP hx1 hel
                      have hlens := hc_len_args hP
                      obtain ⟨p1, p2, p3, p4, p5, p6, p7, p8, p9, p10⟩ := hP
                      have hCC := C
                      obtain ⟨hx, hb, hml, hown, hts, hK, hN, hfr, hlo2, hini⟩ := hCC
                      have hsz : sl.size = c.maxLocals := by rw [hml, ← hlen]; exact hL.1
                      have hwt := hc_wt_le B b G (st.drop (hc_na m2))
                      have hgood : GoodIn hc_ALL (Cond.code (hc_y m2) (hc_b m2) (hc_mx m2) (hc_rty m2) :: hc_ALL) := fun w hw => hc_all_good w (by
                        rcases List.mem_cons.mp hw with rfl | hw
                        · exact p1
                        · exact hw)
                      have hBk : Back l R p e below s args (hc_y m2) 3 16 (PreOf R (G1.2.1 - G.2.1) (G1.2.2.1 - G.2.2.1) (hc_Pc D cI cJ B b G σ t (st.take (hc_na m2)).reverse)) (PostOf (hc_Qc D cI cJ B b G1 σ1 t1 r1) (G1.2.1 - G.2.1) (G1.2.2.1 - G.2.2.1) (fun q => B ≤ q)) :=
                        back_of (bytes := hc_b m2) (maxL := hc_mx m2) (ret := hc_rty m2) hM hc_Pc_blind rfl rfl (Nat.le_trans (Nat.succ_le_of_lt hdp) hfr) (by show 16 + (hc_mx m2 + 11) + hc_ln m2 ≤ _; omega) (pay_in hts hgood) List.mem_cons_self (fun a' U hW => word_at hW (Or.inl (by first | rfl | simp [Cond.onTables, Cond.keeps, Cond.steady])) (hts _ p2))
                      have hpre : ∀ T : State, T.heap = H → ∀ (vm₁ : Vm), s.WarmedH vm₁ → PreOf R (G1.2.1 - G.2.1) (G1.2.2.1 - G.2.2.1) (hc_Pc D cI cJ B b G σ t (st.take (hc_na m2)).reverse) ⟨T.setVm vm₁, locs, G.2.1 - n0, G.2.2.1 - s0⟩ ((st.take (hc_na m2)).reverse.map (hc_con B b G)).toArray := by
                        intro T hT vm₁ hW₁
                        have q1 : hc_le G1 G' := by
                          split at h
                          · exact hc_ex_mono n h
                          · split at h
                            · exact hc_ex_mono n h
                            · cases h
                        have hal : s.vm.Alike (T.setVm vm₁).vm := hW₁.alike
                        refine ⟨?_, ?_, rfl, ?_, va_K.moved hal hK, fun w hw => ?_⟩
                        · show G.2.1 - n0 + (G1.2.1 - G.2.1) ≤ R.cells
                          have := mo.1
                          have := q1.1
                          omega
                        · show G.2.2.1 - s0 + (G1.2.2.1 - G.2.2.1) ≤ R.slots
                          have := mo.2.1
                          have := q1.2.1
                          omega
                        · show hc_Rel D cI cJ B b (T.setVm vm₁) G σ t T.heap
                          rw [hT]
                          exact hR.moved hal
                        · obtain ⟨x1, x2, x3, x4, rfl⟩ := hc_nw_form hw
                          exact va_Nw.warmM (s := s) (U := T.setVm vm₁) hW₁ (hN _ hw)
                      have hroom : 2 * (F0 m pc sl (st.map (hc_con B b G))).monitorRoom + (((st.drop (hc_na m2)).map (hc_con B b G)).map fun v => v.category).sum ≤ 16 := by
                        show 2 * 0 + _ ≤ 16
                        omega
                      have hstk : (F0 m pc sl (st.map (hc_con B b G))).stack = ((st.take (hc_na m2)).reverse.map (hc_con B b G)).reverse ++ (st.drop (hc_na m2)).map (hc_con B b G) := hc_map_rev (hc_na m2)
                      have hnl : (st.take (hc_na m2)).reverse.length = hc_na m2 := by
                        rw [List.length_reverse, List.length_take]
                        omega
                      -- the end of each kind of call
                      have endK : ∀ (T : State), T.heap = H → (∃ (v : Option Value) (vm₁ : Vm) (Bp : Pt), s.WarmedH vm₁ ∧ Stand p l e R s m args below meth c Bp.U Bp.locs Bp.cells Bp.slots ∧ PostOf (hc_Qc D cI cJ B b G1 σ1 t1 r1) (G1.2.1 - G.2.1) (G1.2.2.1 - G.2.2.1) (fun q => B ≤ q) ⟨T.setVm vm₁, locs, G.2.1 - n0, G.2.2.1 - s0⟩ ((st.take (hc_na m2)).reverse.map (hc_con B b G)).toArray v Bp ∧
                          ∀ target, Steps p.tables e below (Bp.U.setTop { F0 m pc sl (st.map (hc_con B b G)) with pc := pc + 3, stack := v.toList ++ (st.drop (hc_na m2)).map (hc_con B b G) }) target → Steps p.tables e below (T.setTop (F0 m pc sl (st.map (hc_con B b G)))) target) → ∃ u, Steps p.tables e below (T.setTop (F0 m pc sl (st.map (hc_con B b G)))) u ∧ Q u := by
                        intro T hT hcall
                        obtain ⟨v, vm₁, ⟨U', l2', c2', s2'⟩, hW₁, X', ⟨g', mk, u, L, e1, e2, hq, z1, hL2, z2, z3⟩, stp⟩ := hcall
                        dsimp only [Pt.U, Pt.locs, Pt.cells, Pt.slots] at X' e1 e2 z1 z2 z3 stp
                        subst z1; subst z2; subst z3
                        obtain ⟨hov, hR1⟩ := hq
                        cases hov
                        have hal : s.vm.Alike u.vm := by rw [← e2]; exact X'.warmed.alike
                        have hR2 := hR1.moved hal.symm
                        rw [← e1] at hR2
                        obtain ⟨-, KW⟩ := K U'.heap (locs ++ L) hR2 (hc_lo_add hlo hL2) rfl
                        obtain ⟨u2, a1, b1⟩ := KW U' rfl (stand_widen X' (by have := mo.1; omega) (by have := mo.2.1; omega))
                        exact ⟨u2, stp u2 a1, b1⟩
                      intro T hT X
                      refine endK T hT ?_
                      cases i <;> simp only [Option.some.injEq, Prod.mk.injEq, reduceCtorEq] at hik
                      · -- invokespecial
                        obtain ⟨hk1, rfl⟩ := hik
                        subst hk1
                        obtain ⟨n1, hret⟩ := p10 hmd
                        obtain ⟨pi, pn, p7'⟩ := p8 (by omega)
                        have hrv2 : hc_rcv 1 σ (hc_own m2) (st.take (hc_na m2)).reverse.head? = true := by
                          rcases hrv with q | q
                          · cases q
                          · exact q
                        cases hvs : (st.take (hc_na m2)).reverse with
                        | nil => rw [hvs] at hrv2; cases hrv2
                        | cons v0 As =>
                          rw [hvs] at hrv2 hnl
                          obtain ⟨k, rfl⟩ : ∃ k, v0 = .inl (.ref k) := by
                            rcases v0 with v0 | v0
                            · cases v0 <;> first | exact ⟨_, rfl⟩ | (cases hrv2)
                            · cases hrv2
                          have hAs : (As.map (hc_con B b G)).length = hc_na m2 - 1 := by
                            rw [List.length_map]
                            rw [List.length_cons] at hnl
                            omega
                          have hlens' : ∀ sig, parseMethodDescriptor (hc_y m2).desc = some sig → (As.map (hc_con B b G)).length = sig.parameters.length := by
                            intro sig hs
                            rw [hAs, ← hlens sig hs, if_neg (by omega)]
                          have hcd : (Cond.code (hc_y m2) (hc_b m2) (hc_mx m2) none).before args s = true := by
                            have := hts _ p1
                            rw [hret] at this
                            exact this
                          rw [hvs] at hBk hpre
                          rcases hlk with hlk | ⟨hh', hlk⟩
                          · exact callI X hx (bytes := hc_b m2) (maxL := hc_mx m2) hown n1 (hts _ hlk) (hts _ pi) hcd p3 hBk (g := F0 m pc sl (st.map (hc_con B b G))) rfl hsz (a := B + k) (argsL := As.map (hc_con B b G)) (rest := (st.drop (hc_na m2)).map (hc_con B b G)) hlens' (by rw [hstk, hvs]; simp [hc_con]) hroom (by rw [hb]; exact hd) (hpre T hT)
                          · exact va_callIN X hx (bytes := hc_b m2) (maxL := hc_mx m2) hown n1 (va_Nw.use rfl (hN _ hlk)) (hts _ pi) hcd p3 hBk (g := F0 m pc sl (st.map (hc_con B b G))) rfl hsz (a := B + k) (argsL := As.map (hc_con B b G)) (rest := (st.drop (hc_na m2)).map (hc_con B b G)) hlens' (by rw [hstk, hvs]; simp [hc_con]) hroom (by rw [hb]; exact hd) (hpre T hT)
                      · -- invokestatic
                        obtain ⟨hk1, rfl⟩ := hik
                        subst hk1
                        have hlens' : ∀ sig, parseMethodDescriptor (hc_y m2).desc = some sig → ((st.take (hc_na m2)).reverse.map (hc_con B b G)).length = sig.parameters.length := by
                          intro sig hs
                          rw [List.length_map, hnl, ← hlens sig hs, if_pos hmd]
                        rcases hlk with hlk | ⟨hh', hlk⟩
                        · exact callS X hx (bytes := hc_b m2) (maxL := hc_mx m2) (ret := hc_rty m2) hown (hts _ hlk) (hts _ (p7 hmd)) (hts _ p2) (hts _ p1) p3 hBk (g := F0 m pc sl (st.map (hc_con B b G))) rfl hsz (argsL := (st.take (hc_na m2)).reverse.map (hc_con B b G)) (rest := (st.drop (hc_na m2)).map (hc_con B b G)) hlens' hstk hroom (by rw [hb]; exact hd) (hpre T hT)
                        · exact va_callSN X hx (bytes := hc_b m2) (maxL := hc_mx m2) (ret := hc_rty m2) hown (va_Nw.use rfl (hN _ hlk)) (hts _ (p7 hmd)) (hts _ p2) (hts _ p1) p3 hBk (g := F0 m pc sl (st.map (hc_con B b G))) rfl hsz (argsL := (st.take (hc_na m2)).reverse.map (hc_con B b G)) (rest := (st.drop (hc_na m2)).map (hc_con B b G)) hlens' hstk hroom (by rw [hb]; exact hd) (hpre T hT)
                      · -- invokevirtual
                        obtain ⟨hk1, rfl⟩ := hik
                        subst hk1
                        obtain ⟨pi, pn, p7'⟩ := p8 (by omega)
                        have hrv2 : hc_rcv 0 σ (hc_own m2) (st.take (hc_na m2)).reverse.head? = true := by
                          rcases hrv with q | q
                          · cases q
                          · exact q
                        cases hvs : (st.take (hc_na m2)).reverse with
                        | nil => rw [hvs] at hrv2; cases hrv2
                        | cons v0 As =>
                          rw [hvs] at hrv2 hnl
                          obtain ⟨k, rfl⟩ : ∃ k, v0 = .inl (.ref k) := by
                            rcases v0 with v0 | v0
                            · cases v0 <;> first | exact ⟨_, rfl⟩ | (cases hrv2)
                            · cases hrv2
                          have hAs : (As.map (hc_con B b G)).length = hc_na m2 - 1 := by
                            rw [List.length_map]
                            rw [List.length_cons] at hnl
                            omega
                          have hlens' : ∀ sig, parseMethodDescriptor (hc_y m2).desc = some sig → (As.map (hc_con B b G)).length = sig.parameters.length := by
                            intro sig hs
                            rw [hAs, ← hlens sig hs, if_neg (by omega)]
                          obtain ⟨fs, hk⟩ : ∃ fs, σ k = some (hc_own m2, fs) := by
                            simp only [List.head?_cons, hc_rcv] at hrv2
                            cases hsk : σ k with
                            | none => rw [hsk] at hrv2; simp at hrv2
                            | some o =>
                              obtain ⟨cc, fs⟩ := o
                              rw [hsk] at hrv2
                              simp at hrv2
                              exact ⟨fs, by rw [hrv2]⟩
                          obtain ⟨-, -, -, cell, o1, o2, o3, -⟩ := hR.2.1 k _ fs hk (by omega)
                          have hfc := (hK.1 (hc_own m2) _ (hc_cls_ok p7').1).2.1
                          rw [hvs] at hBk hpre
                          rcases hlk with hlk | ⟨hh', hlk⟩
                          · exact callV X hx (C := hc_cn (hc_own m2)) (bytes := hc_b m2) (maxL := hc_mx m2) (ret := hc_rty m2) hown (hts _ hlk) (hts _ pi) (hts _ (p9 hmd)) (hts _ p1) p3 hBk (b := B + k) (by rw [hT]; exact o1) (by rw [o3]; rfl) (by rw [o2]; exact hfc) (g := F0 m pc sl (st.map (hc_con B b G))) rfl hsz (argsL := As.map (hc_con B b G)) (rest := (st.drop (hc_na m2)).map (hc_con B b G)) hlens' (by rw [hstk, hvs]; simp [hc_con]) hroom (by rw [hb]; exact hd) (hpre T hT)
                          · exact va_callVN X hx (C := hc_cn (hc_own m2)) (bytes := hc_b m2) (maxL := hc_mx m2) (ret := hc_rty m2) hown (va_Nw.use rfl (hN _ hlk)) (hts _ pi) (hts _ (p9 hmd)) (hts _ p1) p3 hBk (b := B + k) (by rw [hT]; exact o1) (by rw [o3]; rfl) (by rw [o2]; exact hfc) (g := F0 m pc sl (st.map (hc_con B b G))) rfl hsz (argsL := As.map (hc_con B b G)) (rest := (st.drop (hc_na m2)).map (hc_con B b G)) hlens' (by rw [hstk, hvs]; simp [hc_con]) hroom (by rw [hb]; exact hd) (hpre T hT)
                    · cases hh
                  · cases hh
                · cases hh
              · cases h
            · cases h
    · cases h
end
section
def R_law : String := "HotCellsLaw"
def lw_P (b : Addr) (xs : List Int32) (args : Array Value) (s : State) : Prop := args = #[.ref b] ∧ s.IntsAt b xs ∧ xs.length ≤ 2560 ∧ (Jvm.Cond.and given_1 narrow_1).before args s = true
def lw_Q (_ : Array Value) (s : State) (o : Outcome) (t : State) : Prop := o = .returned (some (.int 1)) ∧ Framed s o t [] 600000 7302250
def lw_Z (below : List Frame) (a : Array Value) (s : State) : State → Prop := fun t => ∃ o, t.status = .running ∧ Ended t below o ∧ lw_Q a s o t
/-- the law's own end, with 1 on the stack, nothing written that was there before, its room as the claim has it -/
theorem lw_ret {p : Program} {l : Launch} {e : Env} {s : State} {m : MethodId} {below : List Frame} {meth : Method} {c : Code} {b : Nat} (hx : p.tables.exec = Jvm.exec) (hb : c.code = code) (hr : meth.sig.returnType = ret) (hlocks : meth.locks = false) {pc : Nat} {H : Heap} {ls : Array Slot} (hdg : decode code pc = .ok (.ireturn, 1)) : W p l e room_1 s m #[Value.ref b] below meth c H [] 600000 7302250 (lw_Z below #[Value.ref b] s) (F0 m pc ls [.int 1]) := by
  intro T hT X
  obtain ⟨fs, hret, hrun, hended, hW, hframe⟩ := X.leave (v := some (.int 1)) (hlocks := hlocks) (fun h => by rw [hr] at h; cases h)
  have hmeth' : T.vm.method? m = some meth := X.method'
  refine ⟨T.setFrames fs, ?_, .returned (some (.int 1)), hrun, hended, rfl, ⟨_, rfl⟩, hW, hframe⟩
  jvm_step X.here [X.here.top, hx, hb, hdg, hmeth', hr, ret, narrow_b1]
  (try refine ⟨rfl, ?_⟩); (try refine ⟨rfl, ?_⟩)
  first | (intro acts; rw [hret _ acts rfl rfl rfl]) | rw [hret _ _ rfl rfl rfl]
  exact Steps.refl _
/-- what holds at the law's entry: the machine, the code, the tables' words (any of lw_tbl by 'hts w (by decide +kernel)'), the script of L ints xs at the cell b, what the Statement gives of the start (any of its parts by flat_of_before) -/
def lw_At (p : Program) (s : State) (m : MethodId) (meth : Method) (c : Code) (b L : Nat) (xs : Nat → Int32) : Prop :=
  p.tables.exec = Jvm.exec ∧ c.code = code ∧ meth.sig.returnType = ret ∧ c.maxLocals = 4 ∧ s.vm.findClass R_law = some m.cls ∧ (∀ w ∈ lw_tbl, w.before #[Value.ref b] s = true) ∧ va_X b L xs s s.heap ∧ b < s.heap.size ∧ meth.locks = false ∧ (Jvm.Cond.and given_1 narrow_1).before #[Value.ref b] s = true

def hc_G0 : hc_G := (0, 0, 0, 0, fun _ _ => 0)
def hc_σ0 (L : Nat) (xs : Nat → Int32) : hc_H := fun k => if k = 1000 then some (99, [.inr (L, .inl xs)]) else none
theorem hc_start_LR (B b : Nat) : hc_LR B b hc_G0 [some (.inl (.retAddr 0)), none, none, none] (lg_sl ([.ref b] : List Value) ++ List.replicate (4 - (lg_sl ([.ref b] : List Value)).length) Slot.unset).toArray := hc_LR_entry B b hc_G0 [.inl (.retAddr 0)] (n := 4) (by decide)
set_option maxHeartbeats 4000000 in
theorem hc_whole {p : Program} {e : Env} {s : State} {m : MethodId} {below : List Frame} {meth : Method} {c : Code} (l : Launch) {b L : Nat} {xs : Nat → Int32} (C0 : lw_At p s m meth c b L xs)
    (hrun : ∃ n G' σ' t', hc_ex n hc_G0 (hc_σ0 L xs) none 92 0 [some (.inl (.retAddr 0)), none, none, none] [] = some (G', σ', t', some (.inl (.int 1))) ∧ G'.2.1 ≤ 600000 ∧ G'.2.2.1 ≤ 7302250) :
    W p l e room_1 s m #[Value.ref b] below meth c s.heap [] 0 0 (lw_Z below #[Value.ref b] s) (entryFrame m ([Value.ref b] : List Value).toArray 4) := by
  obtain ⟨n, G', σ', t', hex, hcl, hsl⟩ := hrun
  obtain ⟨hx, hb, hr, hml, hown, hts, hX, hbl, hlocks, hgv⟩ := id C0
  have hall : ∀ w ∈ hc_ALL, w.before #[Value.ref b] s = true := fun w hw => hts w (hc_all_tbl hw)
  obtain ⟨c0, i0, k0⟩ := u_known (C := hc_cn 0) (T := hc_ft 0) (N := hc_fn 0) (n := hc_fn 0) hall hc_lyw0 (hall _ (hc_w 69 (by decide +kernel) (by decide +kernel)))
  obtain ⟨c1, i1, k1⟩ := u_known (C := hc_cn 1) (T := hc_ft 1) (N := hc_fn 1) (n := hc_fn 1) hall hc_lyw1 (hall _ (hc_w 86 (by decide +kernel) (by decide +kernel)))
  obtain ⟨c2, i2, k2⟩ := u_known (C := hc_cn 2) (T := hc_ft 2) (N := hc_fn 2) (n := hc_fn 2) hall hc_lyw2 (hall _ (hc_w 46 (by decide +kernel) (by decide +kernel)))
  obtain ⟨c3, i3, k3⟩ := u_known (C := hc_cn 3) (T := hc_ft 3) (N := hc_fn 3) (n := hc_fn 3) hall hc_lyw3 (hall _ (hc_w 38 (by decide +kernel) (by decide +kernel)))
  obtain ⟨c4, i4, k4⟩ := u_known (C := hc_cn 4) (T := hc_ft 4) (N := hc_fn 4) (n := hc_fn 4) hall hc_lyw4 (hall _ (hc_w 347 (by decide +kernel) (by decide +kernel)))
  obtain ⟨c5, i5, k5⟩ := u_known (C := hc_cn 5) (T := hc_ft 5) (N := hc_fn 5) (n := hc_fn 5) hall hc_lyw5 (hall _ (hc_w 362 (by decide +kernel) (by decide +kernel)))
  obtain ⟨c6, i6, k6⟩ := u_known (C := hc_cn 6) (T := hc_ft 6) (N := hc_fn 6) (n := hc_fn 6) hall hc_lyw6 (hall _ (hc_w 341 (by decide +kernel) (by decide +kernel)))
  obtain ⟨D, hD⟩ : ∃ D : va_G, ∀ (k : Nat) (q : vw_C), vwCl[k]? = some q → u_Kn s q.1 q.2.1 q.2.2 (D.1 k) (D.2 k) := by
    refine ⟨(fun k => match k with | 0 => c0 | 1 => c1 | 2 => c2 | 3 => c3 | 4 => c4 | 5 => c5 | _ => c6, fun k => match k with | 0 => i0 | 1 => i1 | 2 => i2 | 3 => i3 | 4 => i4 | 5 => i5 | _ => i6), ?_⟩
    intro k q hq
    match k, hq with
    | 0, hq => cases hq; exact k0
    | 1, hq => cases hq; exact k1
    | 2, hq => cases hq; exact k2
    | 3, hq => cases hq; exact k3
    | 4, hq => cases hq; exact k4
    | 5, hq => cases hq; exact k5
    | 6, hq => cases hq; exact k6
    | k + 7, hq => simp [vwCl] at hq
  obtain ⟨cI, kI, compI, hfI, hkI, hkindI⟩ := Cond.arrayClass_spec (hall _ hc_arw.1)
  obtain ⟨cJ, kJ, compJ, hfJ, hkJ, hkindJ⟩ := Cond.arrayClass_spec (hall _ hc_arw.2)
  have hK : va_K D vwCl [(cI, .int), (cJ, .long)] s := by
    refine ⟨hD, fun k q hq => ?_⟩
    match k, hq with
    | 0, hq => cases hq; exact ⟨fun n z => ⟨fun k h => (by cases h), kI, hkI, compI, hkindI⟩, hfI⟩
    | 1, hq => cases hq; exact ⟨fun n z => ⟨fun k h => (by cases h), kJ, hkJ, compJ, hkindJ⟩, hfJ⟩
    | k + 2, hq => simp at hq
  have hC : hc_C D cI cJ hc_NW p room_1 s m #[Value.ref b] meth c 92 := ⟨hx, hb, hml, hown, hall, hK, fun w hw => by
    have h1 := hts _ (hc_nww w hw)
    obtain ⟨x1, x2, x3, x4, rfl⟩ := hc_nw_form hw
    exact va_Nw.of rfl h1, by decide, by decide, fun h => by cases h⟩
  have hR : hc_Rel D cI cJ s.heap.size b s hc_G0 (hc_σ0 L xs) none s.heap := by
    have no : ∀ {k c fs}, hc_σ0 L xs k = some (c, fs) → ¬ c < 99 := by
      intro k c fs h
      unfold hc_σ0 at h
      split at h
      · cases h
        omega
      · cases h
    refine ⟨⟨rfl, hbl⟩, fun k c fs h1 h2 => absurd h2 (no h1), ?_, fun r h => absurd h (by simp), ?_, ?_, fun r h => absurd h (by simp), fun r h => ?_⟩
    · rintro k j r ⟨c, fs, h1, h2, -⟩
      exact absurd h2 (no h1)
    · rintro k j r k' ⟨c, fs, h1, h2, -⟩
      exact absurd h2 (no h1)
    · rintro k j r k' j' r' ⟨c, fs, h1, h2, -⟩
      exact absurd h2 (no h1)
    · have h3 : hc_σ0 L xs 1000 = some (99, [.inr (L, .inl xs)]) := by simp [hc_σ0]
      rw [h3] at h
      cases h
      exact ⟨xs, rfl, hX⟩
  rw [lg_entry_eq]
  have K := hc_sound n hex rfl (n0 := 0) (s0 := 0) (locs := []) (l := l) (e := e) (below := below) (Q := lw_Z below #[Value.ref b] s) hC hR (hc_start_LR s.heap.size b) (fun _ h => by cases h) (Nat.le_refl _) (Nat.le_refl _) (by show G'.2.1 - 0 ≤ 600000; omega) (by show G'.2.2.1 - 0 ≤ 7302250; omega) ?_
  · exact K
  · intro pc1 w i st1 sl1 H1 locs1 hd hrt hR1 hlo
    unfold hc_rtn at hrt
    split at hrt
    · rename_i v
      split at hrt
      · rename_i hty
        cases hty
      · rename_i hty
        split at hrt
        · rename_i hv
          cases hrt
          refine va_forget (fun q hq => hlo q hq) ?_
          refine W.widen (k := 600000) (n := 7302250) (by omega) (by omega) ?_
          exact lw_ret hx hb hr hlocks hd
        · cases hrt
      · cases hrt
    · split at hrt
      · cases hrt
      · cases hrt
    · split at hrt
      · cases hrt
      · cases hrt
    · split at hrt
      · cases hrt
      · cases hrt
    · cases hrt
end
section
/-! WEAKEST PRECONDITIONS of the small machine -/
theorem hc_ex_succ : ∀ (n : Nat) {mi pc : Nat} {ls : hc_L} {st : List hc_V} {G : hc_G} {σ : hc_H} {t : hc_T} {x : hc_Z}, hc_ex n G σ t mi pc ls st = some x → hc_ex (n + 1) G σ t mi pc ls st = some x := by
  intro n
  induction n with
  | zero =>
    intro mi pc ls st G σ t x h
    cases h
  | succ n ih =>
    intro mi pc ls st G σ t x
    rw [hc_ex, hc_ex]
    cases decode (hc_b mi) pc with
    | error _ => exact id
    | ok iw =>
      obtain ⟨i, w⟩ := iw
      dsimp only
      cases hc_loc mi pc ls st i w with
      | some y => exact ih
      | none =>
        dsimp only
        cases hc_hep mi G σ t ls st i w with
        | some y => exact ih
        | none =>
          dsimp only
          cases hc_rtn mi st i w with
          | some y => exact id
          | none =>
            dsimp only
            cases hc_cal mi σ st i w with
            | none => exact id
            | some y =>
              obtain ⟨m2, l2, st2⟩ := y
              dsimp only
              cases h1 : hc_ex n G σ t m2 0 l2 [] with
              | none => intro h; cases h
              | some z =>
                rw [ih h1]
                obtain ⟨G', σ', t', r⟩ := z
                dsimp only
                split
                · exact ih
                · split
                  · exact ih
                  · exact id
theorem hc_ex_more {n k : Nat} {mi pc : Nat} {ls : hc_L} {st : List hc_V} {G : hc_G} {σ : hc_H} {t : hc_T} {x : hc_Z} (h : hc_ex n G σ t mi pc ls st = some x) (hk : n ≤ k) : hc_ex k G σ t mi pc ls st = some x := by
  obtain ⟨d, rfl⟩ := Nat.exists_eq_add_of_le hk
  induction d with
  | zero => exact h
  | succ d ih => exact hc_ex_succ _ (ih (by omega))
def hc_wp (G : hc_G) (σ : hc_H) (t : hc_T) (mi pc : Nat) (ls : hc_L) (st : List hc_V) (Q : hc_Q) : Prop := ∃ n G' σ' t' r, hc_ex n G σ t mi pc ls st = some (G', σ', t', r) ∧ Q G' σ' t' r
theorem hc_wp_mono {G : hc_G} {σ : hc_H} {t : hc_T} {mi pc : Nat} {ls : hc_L} {st : List hc_V} {Q Q' : hc_Q} (h : hc_wp G σ t mi pc ls st Q) (hq : ∀ G' σ' t' r, Q G' σ' t' r → Q' G' σ' t' r) : hc_wp G σ t mi pc ls st Q' := by
  obtain ⟨n, G', σ', t', r, h1, h2⟩ := h
  exact ⟨n, G', σ', t', r, h1, hq _ _ _ _ h2⟩
def hc_bk (G G' : hc_G) (ls : hc_L) (st : List hc_V) (K : hc_L → Prop) : Prop := if G'.1 = G.1 then K ls else hc_np st = true ∧ K (hc_kp ls)
theorem hc_bk_rf (G : hc_G) (ls : hc_L) (st : List hc_V) (K : hc_L → Prop) : hc_bk G G ls st K = K ls := by simp [hc_bk]
theorem hc_bk_np {G G' : hc_G} {ls : hc_L} {st : List hc_V} {K : hc_L → Prop} (h1 : hc_np st = true) (h2 : hc_kp ls = ls) : hc_bk G G' ls st K = K ls := by
  unfold hc_bk
  rw [h1, h2]
  by_cases h : G'.1 = G.1
  · rw [if_pos h]
  · rw [if_neg h]
    simp
theorem hcw_gen {G : hc_G} {σ : hc_H} {t : hc_T} {mi pc w : Nat} {cc : ByteArray} {i : Instr} {ls : hc_L} {st : List hc_V} {Q : hc_Q} (hb : hc_b mi = cc) (hd : decode cc pc = .ok (i, w)) : hc_wp G σ t mi pc ls st Q = (match hc_loc mi pc ls st i w with
    | some (pc', ls', st') => hc_wp G σ t mi pc' ls' st' Q
    | none => match hc_hep mi G σ t ls st i w with
      | some (G', σ', t', ls', st') => hc_wp G' σ' t' mi (pc + w) ls' st' Q
      | none => match hc_rtn mi st i w with
        | some r => Q G σ t r
        | none => match hc_cal mi σ st i w with
          | some (m2, l2, st2) => hc_wp G σ t m2 0 l2 [] (fun G' σ' t' r => hc_bk G G' ls st2 (fun ls' => hc_wp G' σ' t' mi (pc + w) ls' (hc_psh r st2) Q))
          | none => False) := by
  have one : ∀ (x : hc_Z), (∃ n, hc_ex n G σ t mi pc ls st = some x) ↔ (∃ n, hc_ex (n + 1) G σ t mi pc ls st = some x) := by
    intro x
    constructor
    · rintro ⟨n, h⟩
      exact ⟨n, hc_ex_succ _ h⟩
    · rintro ⟨n, h⟩
      exact ⟨n + 1, h⟩
  have two : hc_wp G σ t mi pc ls st Q ↔ ∃ n G' σ' t' r, hc_ex (n + 1) G σ t mi pc ls st = some (G', σ', t', r) ∧ Q G' σ' t' r := by
    constructor
    · rintro ⟨n, G', σ', t', r, h, hq⟩
      exact ⟨n, G', σ', t', r, hc_ex_succ _ h, hq⟩
    · rintro ⟨n, G', σ', t', r, h, hq⟩
      exact ⟨n + 1, G', σ', t', r, h, hq⟩
  apply propext
  rw [two]
  simp only [hc_ex, hb, hd]
  cases hc_loc mi pc ls st i w with
  | some y => exact Iff.rfl
  | none =>
    dsimp only
    cases hc_hep mi G σ t ls st i w with
    | some y => exact Iff.rfl
    | none =>
      dsimp only
      cases hc_rtn mi st i w with
      | some y =>
        constructor
        · rintro ⟨n, G', σ', t', r, h, hq⟩
          cases h
          exact hq
        · intro h
          exact ⟨0, _, _, _, _, rfl, h⟩
      | none =>
        dsimp only
        cases hc_cal mi σ st i w with
        | none =>
          constructor
          · rintro ⟨n, G', σ', t', r, h, hq⟩
            cases h
          · exact False.elim
        | some y =>
          obtain ⟨m2, l2, st2⟩ := y
          dsimp only
          constructor
          · rintro ⟨n, G', σ', t', r, h, hq⟩
            cases h1 : hc_ex n G σ t m2 0 l2 [] with
            | none => rw [h1] at h; cases h
            | some z =>
              rw [h1] at h
              obtain ⟨G1, σ1, t1, r1⟩ := z
              dsimp only at h
              refine ⟨n, G1, σ1, t1, r1, h1, ?_⟩
              simp only [hc_bk]
              split
              · rename_i he
                rw [if_pos he] at h
                exact ⟨n, _, _, _, _, h, hq⟩
              · rename_i he
                rw [if_neg he] at h
                split at h
                · rename_i hn
                  exact ⟨hn, n, _, _, _, _, h, hq⟩
                · cases h
          · rintro ⟨n, G1, σ1, t1, r1, h1, hk⟩
            simp only [hc_bk] at hk
            split at hk
            · rename_i he
              obtain ⟨n2, G', σ', t', r, h2, hq⟩ := hk
              refine ⟨n + n2, G', σ', t', r, ?_, hq⟩
              rw [hc_ex_more h1 (Nat.le_add_right n n2)]
              dsimp only
              rw [if_pos he]
              exact hc_ex_more h2 (Nat.le_add_left n2 n)
            · rename_i he
              obtain ⟨hn, n2, G', σ', t', r, h2, hq⟩ := hk
              refine ⟨n + n2, G', σ', t', r, ?_, hq⟩
              rw [hc_ex_more h1 (Nat.le_add_right n n2)]
              dsimp only
              rw [if_neg he, if_pos hn]
              exact hc_ex_more h2 (Nat.le_add_left n2 n)

section HCW
variable {G : hc_G} {σ : hc_H} {t : hc_T} {mi pc np : Nat} {cc : ByteArray} {ls : hc_L} {st : List hc_V} {Q : hc_Q}
/-- an option's value goes on -/
def hc_on {α : Type} (o : Option α) (K : α → Prop) : Prop := match o with
  | some a => K a
  | none => False
theorem hc_on_some {α : Type} (a : α) (K : α → Prop) : hc_on (some a) K = K a := rfl
def hc_get (σ : hc_H) (k c j : Nat) (K : hc_V → Prop) : Prop := match σ k with
  | some (c', fs) => c' = c ∧ hc_on fs[j]? (fun f => K (hc_fv k j f))
  | none => False
def hc_put (σ : hc_H) (k c j : Nat) (v : Value) (K : hc_H → Prop) : Prop := match σ k with
  | some (c', fs) => c' = c ∧ (match fs[j]? with
    | some (.inl _) => K (hc_set σ k (c, fs.set j (.inl v)))
    | _ => False)
  | none => False
def hc_mov (σ : hc_H) (k c j : Nat) (r : hc_R) (st : List hc_V) (K : hc_H → Prop) : Prop := match σ k with
  | some (c', fs) => c' = c ∧ hc_np st = true ∧ j < fs.length ∧ K (hc_set σ k (c, fs.set j (.inr r)))
  | none => False
def hc_ri (σ : hc_H) (t : hc_T) (v : hc_V) (K : Nat → (Nat → Int32) → Prop) : Prop := match hc_row σ t v with
  | some (n, .inl f) => K n f
  | _ => False
def hc_rl (σ : hc_H) (t : hc_T) (v : hc_V) (K : Nat → (Nat → Int64) → Prop) : Prop := match hc_row σ t v with
  | some (n, .inr f) => K n f
  | _ => False
def hc_is (σ : hc_H) (k c : Nat) : Prop := match σ k with
  | some (c', _) => c' = c
  | none => False
def hc_inn (i : Int32) (n : Nat) : Prop := ¬ i < 0 ∧ i.toNatClampNeg < n
theorem hc_inB_iff {i : Int32} {n : Nat} : hc_inB i n = true ↔ hc_inn i n := by simp [hc_inB, hc_inn]
theorem hcw_iconst {n : Int} {v : Int32} (hb : hc_b mi = cc) (hd : decode cc pc = .ok (.iconst n, 1)) (hp : pc + 1 = np) (hv : Int32.ofInt n = v) : hc_wp G σ t mi pc ls (st) Q = hc_wp G σ t mi np ls (.inl (.int v) :: st) Q := by
  subst hp
  subst hv
  rw [hcw_gen hb hd]
  rfl
theorem hcw_bipush {n : Int} {v : Int32} (hb : hc_b mi = cc) (hd : decode cc pc = .ok (.bipush n, 2)) (hp : pc + 2 = np) (hv : (Int8.ofInt n).toInt32 = v) : hc_wp G σ t mi pc ls (st) Q = hc_wp G σ t mi np ls (.inl (.int v) :: st) Q := by
  subst hp
  subst hv
  rw [hcw_gen hb hd]
  rfl
theorem hcw_sipush {n : Int} {v : Int32} (hb : hc_b mi = cc) (hd : decode cc pc = .ok (.sipush n, 3)) (hp : pc + 3 = np) (hv : (Int16.ofInt n).toInt32 = v) : hc_wp G σ t mi pc ls (st) Q = hc_wp G σ t mi np ls (.inl (.int v) :: st) Q := by
  subst hp
  subst hv
  rw [hcw_gen hb hd]
  rfl
theorem hcw_lconst {n : Fin 2} {v : Int64} (hb : hc_b mi = cc) (hd : decode cc pc = .ok (.lconst n, 1)) (hp : pc + 1 = np) (hv : Int64.ofNat (n : Nat) = v) : hc_wp G σ t mi pc ls (st) Q = hc_wp G σ t mi np ls (.inl (.long v) :: st) Q := by
  subst hp
  subst hv
  rw [hcw_gen hb hd]
  rfl
theorem hcw_ldc {ow cp : Nat} {v : Int32} (hb : hc_b mi = cc) (hd : decode cc pc = .ok (.ldc cp, 2)) (hp : pc + 2 = np) (ho : hc_own mi = ow) (hv : hc_k32 ow cp = some v) : hc_wp G σ t mi pc ls (st) Q = hc_wp G σ t mi np ls (.inl (.int v) :: st) Q := by
  subst hp
  subst ho
  rw [hcw_gen hb hd]
  simp only [hc_loc, hv]
theorem hcw_ldc2 {ow cp : Nat} {v : Int64} (hb : hc_b mi = cc) (hd : decode cc pc = .ok (.ldc2_w cp, 3)) (hp : pc + 3 = np) (ho : hc_own mi = ow) (hv : hc_k64 ow cp = some v) : hc_wp G σ t mi pc ls (st) Q = hc_wp G σ t mi np ls (.inl (.long v) :: st) Q := by
  subst hp
  subst ho
  rw [hcw_gen hb hd]
  simp only [hc_loc, hv]
theorem hcw_iload_n {k : Fin 4} {kk : Nat} (hb : hc_b mi = cc) (hd : decode cc pc = .ok (.iload_n k, 1)) (hp : pc + 1 = np) (hk : (k : Nat) = kk) : hc_wp G σ t mi pc ls st Q = hc_on (hc_ld 0 ls kk) (fun v => hc_wp G σ t mi np ls (v :: st) Q) := by
  subst hp; subst hk
  rw [hcw_gen hb hd]
  simp only [hc_loc]
  cases hc_ld 0 ls (k : Nat) <;> rfl
theorem hcw_iload {k : Nat} {kk : Nat} (hb : hc_b mi = cc) (hd : decode cc pc = .ok (.iload k, 2)) (hp : pc + 2 = np) (hk : k = kk) : hc_wp G σ t mi pc ls st Q = hc_on (hc_ld 0 ls kk) (fun v => hc_wp G σ t mi np ls (v :: st) Q) := by
  subst hp; subst hk
  rw [hcw_gen hb hd]
  simp only [hc_loc]
  cases hc_ld 0 ls k <;> rfl
theorem hcw_lload_n {k : Fin 4} {kk : Nat} (hb : hc_b mi = cc) (hd : decode cc pc = .ok (.lload_n k, 1)) (hp : pc + 1 = np) (hk : (k : Nat) = kk) : hc_wp G σ t mi pc ls st Q = hc_on (hc_ld 1 ls kk) (fun v => hc_wp G σ t mi np ls (v :: st) Q) := by
  subst hp; subst hk
  rw [hcw_gen hb hd]
  simp only [hc_loc]
  cases hc_ld 1 ls (k : Nat) <;> rfl
theorem hcw_lload {k : Nat} {kk : Nat} (hb : hc_b mi = cc) (hd : decode cc pc = .ok (.lload k, 2)) (hp : pc + 2 = np) (hk : k = kk) : hc_wp G σ t mi pc ls st Q = hc_on (hc_ld 1 ls kk) (fun v => hc_wp G σ t mi np ls (v :: st) Q) := by
  subst hp; subst hk
  rw [hcw_gen hb hd]
  simp only [hc_loc]
  cases hc_ld 1 ls k <;> rfl
theorem hcw_aload_n {k : Fin 4} {kk : Nat} (hb : hc_b mi = cc) (hd : decode cc pc = .ok (.aload_n k, 1)) (hp : pc + 1 = np) (hk : (k : Nat) = kk) : hc_wp G σ t mi pc ls st Q = hc_on (hc_ld 2 ls kk) (fun v => hc_wp G σ t mi np ls (v :: st) Q) := by
  subst hp; subst hk
  rw [hcw_gen hb hd]
  simp only [hc_loc]
  cases hc_ld 2 ls (k : Nat) <;> rfl
theorem hcw_aload {k : Nat} {kk : Nat} (hb : hc_b mi = cc) (hd : decode cc pc = .ok (.aload k, 2)) (hp : pc + 2 = np) (hk : k = kk) : hc_wp G σ t mi pc ls st Q = hc_on (hc_ld 2 ls kk) (fun v => hc_wp G σ t mi np ls (v :: st) Q) := by
  subst hp; subst hk
  rw [hcw_gen hb hd]
  simp only [hc_loc]
  cases hc_ld 2 ls k <;> rfl
theorem hcw_istore_n {k : Fin 4} {kk : Nat} (hb : hc_b mi = cc) (hd : decode cc pc = .ok (.istore_n k, 1)) (hp : pc + 1 = np) (hk : (k : Nat) = kk) (hm : kk < hc_mx mi) {x : Int32} : hc_wp G σ t mi pc ls (.inl (.int x) :: st) Q = hc_wp G σ t mi np (hc_sto ls kk (.inl (.int x))) st Q := by
  subst hp; subst hk
  rw [hcw_gen hb hd]
  simp only [hc_loc, if_pos hm]
theorem hcw_istore {k : Nat} {kk : Nat} (hb : hc_b mi = cc) (hd : decode cc pc = .ok (.istore k, 2)) (hp : pc + 2 = np) (hk : k = kk) (hm : kk < hc_mx mi) {x : Int32} : hc_wp G σ t mi pc ls (.inl (.int x) :: st) Q = hc_wp G σ t mi np (hc_sto ls kk (.inl (.int x))) st Q := by
  subst hp; subst hk
  rw [hcw_gen hb hd]
  simp only [hc_loc, if_pos hm]
theorem hcw_lstore_n {k : Fin 4} {kk : Nat} (hb : hc_b mi = cc) (hd : decode cc pc = .ok (.lstore_n k, 1)) (hp : pc + 1 = np) (hk : (k : Nat) = kk) (hm : kk + 1 < hc_mx mi) {x : Int64} : hc_wp G σ t mi pc ls (.inl (.long x) :: st) Q = hc_wp G σ t mi np (hc_sto ls kk (.inl (.long x))) st Q := by
  subst hp; subst hk
  rw [hcw_gen hb hd]
  simp only [hc_loc, if_pos hm]
theorem hcw_lstore {k : Nat} {kk : Nat} (hb : hc_b mi = cc) (hd : decode cc pc = .ok (.lstore k, 2)) (hp : pc + 2 = np) (hk : k = kk) (hm : kk + 1 < hc_mx mi) {x : Int64} : hc_wp G σ t mi pc ls (.inl (.long x) :: st) Q = hc_wp G σ t mi np (hc_sto ls kk (.inl (.long x))) st Q := by
  subst hp; subst hk
  rw [hcw_gen hb hd]
  simp only [hc_loc, if_pos hm]
theorem hcw_astore_nr {k : Fin 4} {kk : Nat} (hb : hc_b mi = cc) (hd : decode cc pc = .ok (.astore_n k, 1)) (hp : pc + 1 = np) (hk : (k : Nat) = kk) (hm : kk < hc_mx mi) {a : Nat} : hc_wp G σ t mi pc ls (.inl (.ref a) :: st) Q = hc_wp G σ t mi np (hc_sto ls kk (.inl (.ref a))) st Q := by
  subst hp; subst hk
  rw [hcw_gen hb hd]
  simp only [hc_loc, hc_kd, true_and, if_pos hm]
theorem hcw_astore_np {k : Fin 4} {kk : Nat} (hb : hc_b mi = cc) (hd : decode cc pc = .ok (.astore_n k, 1)) (hp : pc + 1 = np) (hk : (k : Nat) = kk) (hm : kk < hc_mx mi) {a : Option (Nat × Nat)} : hc_wp G σ t mi pc ls (.inr a :: st) Q = hc_wp G σ t mi np (hc_sto ls kk (.inr a)) st Q := by
  subst hp; subst hk
  rw [hcw_gen hb hd]
  simp only [hc_loc, hc_kd, true_and, if_pos hm]
theorem hcw_astorer {k : Nat} {kk : Nat} (hb : hc_b mi = cc) (hd : decode cc pc = .ok (.astore k, 2)) (hp : pc + 2 = np) (hk : k = kk) (hm : kk < hc_mx mi) {a : Nat} : hc_wp G σ t mi pc ls (.inl (.ref a) :: st) Q = hc_wp G σ t mi np (hc_sto ls kk (.inl (.ref a))) st Q := by
  subst hp; subst hk
  rw [hcw_gen hb hd]
  simp only [hc_loc, hc_kd, true_and, if_pos hm]
theorem hcw_astorep {k : Nat} {kk : Nat} (hb : hc_b mi = cc) (hd : decode cc pc = .ok (.astore k, 2)) (hp : pc + 2 = np) (hk : k = kk) (hm : kk < hc_mx mi) {a : Option (Nat × Nat)} : hc_wp G σ t mi pc ls (.inr a :: st) Q = hc_wp G σ t mi np (hc_sto ls kk (.inr a)) st Q := by
  subst hp; subst hk
  rw [hcw_gen hb hd]
  simp only [hc_loc, hc_kd, true_and, if_pos hm]
def hc_inc (ls : hc_L) (k : Nat) (n : Int32) (K : hc_L → Prop) : Prop := match ls[k]? with
  | some (some (.inl (.int x))) => K (hc_sto ls k (.inl (.int (x + n))))
  | _ => False
theorem hcw_iinc {k : Nat} {n : Int} {v : Int32} (hb : hc_b mi = cc) (hd : decode cc pc = .ok (.iinc k n, 3)) (hp : pc + 3 = np) (hv : Int32.ofInt n = v) : hc_wp G σ t mi pc ls st Q = hc_inc ls k v (fun ls' => hc_wp G σ t mi np ls' st Q) := by
  subst hp; subst hv
  rw [hcw_gen hb hd]
  have z1 : hc_hep mi G σ t ls st (.iinc k n) 3 = none := rfl
  have z2 : hc_rtn mi st (.iinc k n) 3 = none := rfl
  have z3 : hc_cal mi σ st (.iinc k n) 3 = none := rfl
  rw [z1, z2, z3]
  unfold hc_inc
  rcases hx : ls[k]? with _ | (_ | (v | p)) <;> first | (simp [hc_loc, hx]; done) | skip
  cases v <;> simp [hc_loc, hx]
theorem hcw_iadd {x y : Int32} (hb : hc_b mi = cc) (hd : decode cc pc = .ok (.iadd, 1)) (hp : pc + 1 = np)  : hc_wp G σ t mi pc ls (.inl (.int y) :: .inl (.int x) :: st) Q = hc_wp G σ t mi np ls (.inl (.int (x + y)) :: st) Q := by
  subst hp
  rw [hcw_gen hb hd]
  rfl
theorem hcw_isub {x y : Int32} (hb : hc_b mi = cc) (hd : decode cc pc = .ok (.isub, 1)) (hp : pc + 1 = np)  : hc_wp G σ t mi pc ls (.inl (.int y) :: .inl (.int x) :: st) Q = hc_wp G σ t mi np ls (.inl (.int (x - y)) :: st) Q := by
  subst hp
  rw [hcw_gen hb hd]
  rfl
theorem hcw_imul {x y : Int32} (hb : hc_b mi = cc) (hd : decode cc pc = .ok (.imul, 1)) (hp : pc + 1 = np)  : hc_wp G σ t mi pc ls (.inl (.int y) :: .inl (.int x) :: st) Q = hc_wp G σ t mi np ls (.inl (.int (x * y)) :: st) Q := by
  subst hp
  rw [hcw_gen hb hd]
  rfl
theorem hcw_iand {x y : Int32} (hb : hc_b mi = cc) (hd : decode cc pc = .ok (.iand, 1)) (hp : pc + 1 = np)  : hc_wp G σ t mi pc ls (.inl (.int y) :: .inl (.int x) :: st) Q = hc_wp G σ t mi np ls (.inl (.int (x &&& y)) :: st) Q := by
  subst hp
  rw [hcw_gen hb hd]
  rfl
theorem hcw_ladd {x y : Int64} (hb : hc_b mi = cc) (hd : decode cc pc = .ok (.ladd, 1)) (hp : pc + 1 = np)  : hc_wp G σ t mi pc ls (.inl (.long y) :: .inl (.long x) :: st) Q = hc_wp G σ t mi np ls (.inl (.long (x + y)) :: st) Q := by
  subst hp
  rw [hcw_gen hb hd]
  rfl
theorem hcw_lsub {x y : Int64} (hb : hc_b mi = cc) (hd : decode cc pc = .ok (.lsub, 1)) (hp : pc + 1 = np)  : hc_wp G σ t mi pc ls (.inl (.long y) :: .inl (.long x) :: st) Q = hc_wp G σ t mi np ls (.inl (.long (x - y)) :: st) Q := by
  subst hp
  rw [hcw_gen hb hd]
  rfl
theorem hcw_lmul {x y : Int64} (hb : hc_b mi = cc) (hd : decode cc pc = .ok (.lmul, 1)) (hp : pc + 1 = np)  : hc_wp G σ t mi pc ls (.inl (.long y) :: .inl (.long x) :: st) Q = hc_wp G σ t mi np ls (.inl (.long (x * y)) :: st) Q := by
  subst hp
  rw [hcw_gen hb hd]
  rfl
theorem hcw_land {x y : Int64} (hb : hc_b mi = cc) (hd : decode cc pc = .ok (.land, 1)) (hp : pc + 1 = np)  : hc_wp G σ t mi pc ls (.inl (.long y) :: .inl (.long x) :: st) Q = hc_wp G σ t mi np ls (.inl (.long (x &&& y)) :: st) Q := by
  subst hp
  rw [hcw_gen hb hd]
  rfl
theorem hcw_lor {x y : Int64} (hb : hc_b mi = cc) (hd : decode cc pc = .ok (.lor, 1)) (hp : pc + 1 = np)  : hc_wp G σ t mi pc ls (.inl (.long y) :: .inl (.long x) :: st) Q = hc_wp G σ t mi np ls (.inl (.long (x ||| y)) :: st) Q := by
  subst hp
  rw [hcw_gen hb hd]
  rfl
theorem hcw_lxor {x y : Int64} (hb : hc_b mi = cc) (hd : decode cc pc = .ok (.lxor, 1)) (hp : pc + 1 = np)  : hc_wp G σ t mi pc ls (.inl (.long y) :: .inl (.long x) :: st) Q = hc_wp G σ t mi np ls (.inl (.long (x ^^^ y)) :: st) Q := by
  subst hp
  rw [hcw_gen hb hd]
  rfl
theorem hcw_idiv {x y : Int32} (hb : hc_b mi = cc) (hd : decode cc pc = .ok (.idiv, 1)) (hp : pc + 1 = np) : hc_wp G σ t mi pc ls (.inl (.int y) :: .inl (.int x) :: st) Q = (¬ y = 0 ∧ hc_wp G σ t mi np ls (.inl (.int (x / y)) :: st) Q) := by
  subst hp
  rw [hcw_gen hb hd]
  by_cases h : y = 0
  · simp only [hc_loc, if_pos h, hc_hep, hc_rtn, hc_cal]
    simp [h]
  · simp only [hc_loc, if_neg h]
    simp [h]
theorem hcw_ldiv {x y : Int64} (hb : hc_b mi = cc) (hd : decode cc pc = .ok (.ldiv, 1)) (hp : pc + 1 = np) : hc_wp G σ t mi pc ls (.inl (.long y) :: .inl (.long x) :: st) Q = (¬ y = 0 ∧ hc_wp G σ t mi np ls (.inl (.long (x / y)) :: st) Q) := by
  subst hp
  rw [hcw_gen hb hd]
  by_cases h : y = 0
  · simp only [hc_loc, if_pos h, hc_hep, hc_rtn, hc_cal]
    simp [h]
  · simp only [hc_loc, if_neg h]
    simp [h]
theorem hcw_lrem {x y : Int64} (hb : hc_b mi = cc) (hd : decode cc pc = .ok (.lrem, 1)) (hp : pc + 1 = np) : hc_wp G σ t mi pc ls (.inl (.long y) :: .inl (.long x) :: st) Q = (¬ y = 0 ∧ hc_wp G σ t mi np ls (.inl (.long (x - x / y * y)) :: st) Q) := by
  subst hp
  rw [hcw_gen hb hd]
  by_cases h : y = 0
  · simp only [hc_loc, if_pos h, hc_hep, hc_rtn, hc_cal]
    simp [h]
  · simp only [hc_loc, if_neg h]
    simp [h]
theorem hcw_lneg {x : Int64} (hb : hc_b mi = cc) (hd : decode cc pc = .ok (.lneg, 1)) (hp : pc + 1 = np)  : hc_wp G σ t mi pc ls (.inl (.long x) :: st) Q = hc_wp G σ t mi np ls (.inl (.long (-x)) :: st) Q := by
  subst hp
  rw [hcw_gen hb hd]
  rfl
theorem hcw_lshl {x : Int64} {y : Int32} (hb : hc_b mi = cc) (hd : decode cc pc = .ok (.lshl, 1)) (hp : pc + 1 = np)  : hc_wp G σ t mi pc ls (.inl (.int y) :: .inl (.long x) :: st) Q = hc_wp G σ t mi np ls (.inl (.long (x <<< (y.toInt64 &&& 63))) :: st) Q := by
  subst hp
  rw [hcw_gen hb hd]
  rfl
theorem hcw_lshr {x : Int64} {y : Int32} (hb : hc_b mi = cc) (hd : decode cc pc = .ok (.lshr, 1)) (hp : pc + 1 = np)  : hc_wp G σ t mi pc ls (.inl (.int y) :: .inl (.long x) :: st) Q = hc_wp G σ t mi np ls (.inl (.long (x >>> (y.toInt64 &&& 63))) :: st) Q := by
  subst hp
  rw [hcw_gen hb hd]
  rfl
theorem hcw_lcmp {x y : Int64} (hb : hc_b mi = cc) (hd : decode cc pc = .ok (.lcmp, 1)) (hp : pc + 1 = np)  : hc_wp G σ t mi pc ls (.inl (.long y) :: .inl (.long x) :: st) Q = hc_wp G σ t mi np ls (.inl (.int (lg_cmp x y)) :: st) Q := by
  subst hp
  rw [hcw_gen hb hd]
  rfl
theorem hcw_i2l {x : Int32} (hb : hc_b mi = cc) (hd : decode cc pc = .ok (.i2l, 1)) (hp : pc + 1 = np)  : hc_wp G σ t mi pc ls (.inl (.int x) :: st) Q = hc_wp G σ t mi np ls (.inl (.long x.toInt64) :: st) Q := by
  subst hp
  rw [hcw_gen hb hd]
  rfl
theorem hcw_l2i {x : Int64} (hb : hc_b mi = cc) (hd : decode cc pc = .ok (.l2i, 1)) (hp : pc + 1 = np)  : hc_wp G σ t mi pc ls (.inl (.long x) :: st) Q = hc_wp G σ t mi np ls (.inl (.int x.toInt32) :: st) Q := by
  subst hp
  rw [hcw_gen hb hd]
  rfl
theorem hcw_dup {k : Nat} (hb : hc_b mi = cc) (hd : decode cc pc = .ok (.dup, 1)) (hp : pc + 1 = np)  : hc_wp G σ t mi pc ls (.inl (.ref k) :: st) Q = hc_wp G σ t mi np ls (.inl (.ref k) :: .inl (.ref k) :: st) Q := by
  subst hp
  rw [hcw_gen hb hd]
  rfl
theorem hcw_dup2 {x : Int32} {a : Option (Nat × Nat)} (hb : hc_b mi = cc) (hd : decode cc pc = .ok (.dup2, 1)) (hp : pc + 1 = np)  : hc_wp G σ t mi pc ls (.inl (.int x) :: .inr a :: st) Q = hc_wp G σ t mi np ls (.inl (.int x) :: .inr a :: .inl (.int x) :: .inr a :: st) Q := by
  subst hp
  rw [hcw_gen hb hd]
  simp [hc_loc, hc_two, Value.category]
theorem hcw_goto {off : Int} {tgt : Nat} (hb : hc_b mi = cc) (hd : decode cc pc = .ok (.goto off, 3)) (ht : (pc : Int) + off = (tgt : Int)) : hc_wp G σ t mi pc ls st Q = hc_wp G σ t mi tgt ls st Q := by
  rw [hcw_gen hb hd]
  have h0 : 0 ≤ (pc : Int) + off := by omega
  have h1 : hc_tg pc off = tgt := by unfold hc_tg; omega
  simp only [hc_loc, if_pos h0, h1]
theorem hcw_if_eq {off : Int} {tgt : Nat} {x : Int32} (hb : hc_b mi = cc) (hd : decode cc pc = .ok (.ifCond .eq off, 3)) (hp : pc + 3 = np) (ht : (pc : Int) + off = (tgt : Int)) : hc_wp G σ t mi pc ls (.inl (.int x) :: st) Q = if x = 0 then hc_wp G σ t mi tgt ls st Q else hc_wp G σ t mi np ls st Q := by
  subst hp
  rw [hcw_gen hb hd]
  have h0 : 0 ≤ (pc : Int) + off := by omega
  have h1 : hc_tg pc off = tgt := by unfold hc_tg; omega
  simp only [hc_loc, if_pos h0, h1, hc_cm, decide_eq_true_eq]
  split <;> rfl
theorem hcw_if_ne {off : Int} {tgt : Nat} {x : Int32} (hb : hc_b mi = cc) (hd : decode cc pc = .ok (.ifCond .ne off, 3)) (hp : pc + 3 = np) (ht : (pc : Int) + off = (tgt : Int)) : hc_wp G σ t mi pc ls (.inl (.int x) :: st) Q = if ¬ x = 0 then hc_wp G σ t mi tgt ls st Q else hc_wp G σ t mi np ls st Q := by
  subst hp
  rw [hcw_gen hb hd]
  have h0 : 0 ≤ (pc : Int) + off := by omega
  have h1 : hc_tg pc off = tgt := by unfold hc_tg; omega
  simp only [hc_loc, if_pos h0, h1, hc_cm, decide_eq_true_eq]
  split <;> rfl
theorem hcw_if_lt {off : Int} {tgt : Nat} {x : Int32} (hb : hc_b mi = cc) (hd : decode cc pc = .ok (.ifCond .lt off, 3)) (hp : pc + 3 = np) (ht : (pc : Int) + off = (tgt : Int)) : hc_wp G σ t mi pc ls (.inl (.int x) :: st) Q = if x < 0 then hc_wp G σ t mi tgt ls st Q else hc_wp G σ t mi np ls st Q := by
  subst hp
  rw [hcw_gen hb hd]
  have h0 : 0 ≤ (pc : Int) + off := by omega
  have h1 : hc_tg pc off = tgt := by unfold hc_tg; omega
  simp only [hc_loc, if_pos h0, h1, hc_cm, decide_eq_true_eq]
  split <;> rfl
theorem hcw_if_ge {off : Int} {tgt : Nat} {x : Int32} (hb : hc_b mi = cc) (hd : decode cc pc = .ok (.ifCond .ge off, 3)) (hp : pc + 3 = np) (ht : (pc : Int) + off = (tgt : Int)) : hc_wp G σ t mi pc ls (.inl (.int x) :: st) Q = if 0 ≤ x then hc_wp G σ t mi tgt ls st Q else hc_wp G σ t mi np ls st Q := by
  subst hp
  rw [hcw_gen hb hd]
  have h0 : 0 ≤ (pc : Int) + off := by omega
  have h1 : hc_tg pc off = tgt := by unfold hc_tg; omega
  simp only [hc_loc, if_pos h0, h1, hc_cm, decide_eq_true_eq]
  split <;> rfl
theorem hcw_if_gt {off : Int} {tgt : Nat} {x : Int32} (hb : hc_b mi = cc) (hd : decode cc pc = .ok (.ifCond .gt off, 3)) (hp : pc + 3 = np) (ht : (pc : Int) + off = (tgt : Int)) : hc_wp G σ t mi pc ls (.inl (.int x) :: st) Q = if 0 < x then hc_wp G σ t mi tgt ls st Q else hc_wp G σ t mi np ls st Q := by
  subst hp
  rw [hcw_gen hb hd]
  have h0 : 0 ≤ (pc : Int) + off := by omega
  have h1 : hc_tg pc off = tgt := by unfold hc_tg; omega
  simp only [hc_loc, if_pos h0, h1, hc_cm, decide_eq_true_eq]
  split <;> rfl
theorem hcw_if_le {off : Int} {tgt : Nat} {x : Int32} (hb : hc_b mi = cc) (hd : decode cc pc = .ok (.ifCond .le off, 3)) (hp : pc + 3 = np) (ht : (pc : Int) + off = (tgt : Int)) : hc_wp G σ t mi pc ls (.inl (.int x) :: st) Q = if x ≤ 0 then hc_wp G σ t mi tgt ls st Q else hc_wp G σ t mi np ls st Q := by
  subst hp
  rw [hcw_gen hb hd]
  have h0 : 0 ≤ (pc : Int) + off := by omega
  have h1 : hc_tg pc off = tgt := by unfold hc_tg; omega
  simp only [hc_loc, if_pos h0, h1, hc_cm, decide_eq_true_eq]
  split <;> rfl
theorem hcw_icmp_eq {off : Int} {tgt : Nat} {x y : Int32} (hb : hc_b mi = cc) (hd : decode cc pc = .ok (.if_icmp .eq off, 3)) (hp : pc + 3 = np) (ht : (pc : Int) + off = (tgt : Int)) : hc_wp G σ t mi pc ls (.inl (.int y) :: .inl (.int x) :: st) Q = if x = y then hc_wp G σ t mi tgt ls st Q else hc_wp G σ t mi np ls st Q := by
  subst hp
  rw [hcw_gen hb hd]
  have h0 : 0 ≤ (pc : Int) + off := by omega
  have h1 : hc_tg pc off = tgt := by unfold hc_tg; omega
  simp only [hc_loc, if_pos h0, h1, hc_cm, decide_eq_true_eq]
  split <;> rfl
theorem hcw_icmp_ne {off : Int} {tgt : Nat} {x y : Int32} (hb : hc_b mi = cc) (hd : decode cc pc = .ok (.if_icmp .ne off, 3)) (hp : pc + 3 = np) (ht : (pc : Int) + off = (tgt : Int)) : hc_wp G σ t mi pc ls (.inl (.int y) :: .inl (.int x) :: st) Q = if ¬ x = y then hc_wp G σ t mi tgt ls st Q else hc_wp G σ t mi np ls st Q := by
  subst hp
  rw [hcw_gen hb hd]
  have h0 : 0 ≤ (pc : Int) + off := by omega
  have h1 : hc_tg pc off = tgt := by unfold hc_tg; omega
  simp only [hc_loc, if_pos h0, h1, hc_cm, decide_eq_true_eq]
  split <;> rfl
theorem hcw_icmp_lt {off : Int} {tgt : Nat} {x y : Int32} (hb : hc_b mi = cc) (hd : decode cc pc = .ok (.if_icmp .lt off, 3)) (hp : pc + 3 = np) (ht : (pc : Int) + off = (tgt : Int)) : hc_wp G σ t mi pc ls (.inl (.int y) :: .inl (.int x) :: st) Q = if x < y then hc_wp G σ t mi tgt ls st Q else hc_wp G σ t mi np ls st Q := by
  subst hp
  rw [hcw_gen hb hd]
  have h0 : 0 ≤ (pc : Int) + off := by omega
  have h1 : hc_tg pc off = tgt := by unfold hc_tg; omega
  simp only [hc_loc, if_pos h0, h1, hc_cm, decide_eq_true_eq]
  split <;> rfl
theorem hcw_icmp_ge {off : Int} {tgt : Nat} {x y : Int32} (hb : hc_b mi = cc) (hd : decode cc pc = .ok (.if_icmp .ge off, 3)) (hp : pc + 3 = np) (ht : (pc : Int) + off = (tgt : Int)) : hc_wp G σ t mi pc ls (.inl (.int y) :: .inl (.int x) :: st) Q = if y ≤ x then hc_wp G σ t mi tgt ls st Q else hc_wp G σ t mi np ls st Q := by
  subst hp
  rw [hcw_gen hb hd]
  have h0 : 0 ≤ (pc : Int) + off := by omega
  have h1 : hc_tg pc off = tgt := by unfold hc_tg; omega
  simp only [hc_loc, if_pos h0, h1, hc_cm, decide_eq_true_eq]
  split <;> rfl
theorem hcw_icmp_gt {off : Int} {tgt : Nat} {x y : Int32} (hb : hc_b mi = cc) (hd : decode cc pc = .ok (.if_icmp .gt off, 3)) (hp : pc + 3 = np) (ht : (pc : Int) + off = (tgt : Int)) : hc_wp G σ t mi pc ls (.inl (.int y) :: .inl (.int x) :: st) Q = if y < x then hc_wp G σ t mi tgt ls st Q else hc_wp G σ t mi np ls st Q := by
  subst hp
  rw [hcw_gen hb hd]
  have h0 : 0 ≤ (pc : Int) + off := by omega
  have h1 : hc_tg pc off = tgt := by unfold hc_tg; omega
  simp only [hc_loc, if_pos h0, h1, hc_cm, decide_eq_true_eq]
  split <;> rfl
theorem hcw_icmp_le {off : Int} {tgt : Nat} {x y : Int32} (hb : hc_b mi = cc) (hd : decode cc pc = .ok (.if_icmp .le off, 3)) (hp : pc + 3 = np) (ht : (pc : Int) + off = (tgt : Int)) : hc_wp G σ t mi pc ls (.inl (.int y) :: .inl (.int x) :: st) Q = if x ≤ y then hc_wp G σ t mi tgt ls st Q else hc_wp G σ t mi np ls st Q := by
  subst hp
  rw [hcw_gen hb hd]
  have h0 : 0 ≤ (pc : Int) + off := by omega
  have h1 : hc_tg pc off = tgt := by unfold hc_tg; omega
  simp only [hc_loc, if_pos h0, h1, hc_cm, decide_eq_true_eq]
  split <;> rfl
theorem hcw_table {d lo hi : Int} {offs : Array Int} {w : Nat} {x : Int32} (hb : hc_b mi = cc) (hd : decode cc pc = .ok (.tableswitch d lo hi offs, w)) (h0 : 0 ≤ (pc : Int) + d) : hc_wp G σ t mi pc ls (.inl (.int x) :: st) Q = if x.toInt < lo ∨ hi < x.toInt then hc_wp G σ t mi (hc_tg pc d) ls st Q else hc_on offs[(x.toInt - lo).toNat]? (fun off => 0 ≤ (pc : Int) + off ∧ hc_wp G σ t mi (hc_tg pc off) ls st Q) := by
  rw [hcw_gen hb hd]
  by_cases h : x.toInt < lo ∨ hi < x.toInt
  · simp only [hc_loc, if_pos h, if_pos h0]
  · simp only [hc_loc, if_neg h]
    cases ho : offs[(x.toInt - lo).toNat]? with
    | none => simp only [hc_on, hc_hep, hc_rtn, hc_cal]
    | some off =>
      by_cases hq : 0 ≤ (pc : Int) + off
      · simp [hc_on, hq]
      · simp [hc_on, hq, hc_hep, hc_rtn, hc_cal]
theorem hcw_getfield {ow cp c j k : Nat} (hb : hc_b mi = cc) (hd : decode cc pc = .ok (.getfield cp, 3)) (hp : pc + 3 = np) (ho : hc_own mi = ow) (hf : hc_fld ow cp = some (c, j)) : hc_wp G σ t mi pc ls (.inl (.ref k) :: st) Q = hc_get σ k c j (fun v => hc_wp G σ t mi np ls (v :: st) Q) := by
  subst hp; subst ho
  rw [hcw_gen hb hd]
  simp only [hc_loc, hc_hep, hf, hc_get, hc_rtn, hc_cal]
  cases σ k with
  | none => rfl
  | some o =>
    obtain ⟨c', fs⟩ := o
    dsimp only
    by_cases hc : c' = c
    · simp only [if_pos hc]
      cases fs[j]? <;> simp [hc_on, hc]
    · simp [hc]
theorem hcw_puti {ow cp c j k : Nat} {x : Int32} (hb : hc_b mi = cc) (hd : decode cc pc = .ok (.putfield cp, 3)) (hp : pc + 3 = np) (ho : hc_own mi = ow) (hf : hc_fld ow cp = some (c, j)) (hty : hc_ty c j = .int) (hfn : hc_fin c j = true → hc_ini mi = true ∧ ow = c) : hc_wp G σ t mi pc ls (.inl (.int x) :: .inl (.ref k) :: st) Q = (hc_put σ k c j (.int x) (fun σ' => hc_wp G σ' t mi np ls st Q)) := by
  subst hp; subst ho
  rw [hcw_gen hb hd]
  have hfn2 : (hc_fin c j = true → hc_ini mi = true ∧ hc_own mi = c) = True := eq_true hfn
  unfold hc_put
  cases hk : σ k with
  | none => simp [hc_loc, hc_hep, hf, hk, hc_rtn, hc_cal]
  | some o =>
    obtain ⟨c', fs⟩ := o
    dsimp only
    by_cases hc : c' = c
    · subst hc
      rcases hx : fs[j]? with _ | (v0 | r0) <;> simp [hc_loc, hc_hep, hf, hk, hc_rtn, hc_cal, hty, hc_fit, hx, hfn2] <;> (try (split <;> simp_all))
    · simp [hc_loc, hc_hep, hf, hk, hc_rtn, hc_cal, hc]
theorem hcw_putl {ow cp c j k : Nat} {x : Int64} (hb : hc_b mi = cc) (hd : decode cc pc = .ok (.putfield cp, 3)) (hp : pc + 3 = np) (ho : hc_own mi = ow) (hf : hc_fld ow cp = some (c, j)) (hty : hc_ty c j = .long) (hfn : hc_fin c j = true → hc_ini mi = true ∧ ow = c) : hc_wp G σ t mi pc ls (.inl (.long x) :: .inl (.ref k) :: st) Q = (hc_put σ k c j (.long x) (fun σ' => hc_wp G σ' t mi np ls st Q)) := by
  subst hp; subst ho
  rw [hcw_gen hb hd]
  have hfn2 : (hc_fin c j = true → hc_ini mi = true ∧ hc_own mi = c) = True := eq_true hfn
  unfold hc_put
  cases hk : σ k with
  | none => simp [hc_loc, hc_hep, hf, hk, hc_rtn, hc_cal]
  | some o =>
    obtain ⟨c', fs⟩ := o
    dsimp only
    by_cases hc : c' = c
    · subst hc
      rcases hx : fs[j]? with _ | (v0 | r0) <;> simp [hc_loc, hc_hep, hf, hk, hc_rtn, hc_cal, hty, hc_fit, hx, hfn2] <;> (try (split <;> simp_all))
    · simp [hc_loc, hc_hep, hf, hk, hc_rtn, hc_cal, hc]
theorem hcw_putz {ow cp c j k : Nat} {x : Int32} (hb : hc_b mi = cc) (hd : decode cc pc = .ok (.putfield cp, 3)) (hp : pc + 3 = np) (ho : hc_own mi = ow) (hf : hc_fld ow cp = some (c, j)) (hty : hc_ty c j = .boolean) (hfn : hc_fin c j = true → hc_ini mi = true ∧ ow = c) : hc_wp G σ t mi pc ls (.inl (.int x) :: .inl (.ref k) :: st) Q = ((x = 0 ∨ x = 1) ∧ hc_put σ k c j (.int x) (fun σ' => hc_wp G σ' t mi np ls st Q)) := by
  subst hp; subst ho
  rw [hcw_gen hb hd]
  have hfn2 : (hc_fin c j = true → hc_ini mi = true ∧ hc_own mi = c) = True := eq_true hfn
  unfold hc_put
  cases hk : σ k with
  | none => simp [hc_loc, hc_hep, hf, hk, hc_rtn, hc_cal]
  | some o =>
    obtain ⟨c', fs⟩ := o
    dsimp only
    by_cases hc : c' = c
    · subst hc
      rcases hx : fs[j]? with _ | (v0 | r0) <;> simp [hc_loc, hc_hep, hf, hk, hc_rtn, hc_cal, hty, hc_fit, hx, hfn2] <;> (try (split <;> simp_all))
    · simp [hc_loc, hc_hep, hf, hk, hc_rtn, hc_cal, hc]
theorem hcw_putr {ow cp c j k : Nat} {x : Nat} {C : String} (hb : hc_b mi = cc) (hd : decode cc pc = .ok (.putfield cp, 3)) (hp : pc + 3 = np) (ho : hc_own mi = ow) (hf : hc_fld ow cp = some (c, j)) (hty : hc_ty c j = .object C) (hfn : hc_fin c j = true → hc_ini mi = true ∧ ow = c) : hc_wp G σ t mi pc ls (.inl (.ref x) :: .inl (.ref k) :: st) Q = (hc_put σ k c j (.ref x) (fun σ' => hc_wp G σ' t mi np ls st Q)) := by
  subst hp; subst ho
  rw [hcw_gen hb hd]
  have hfn2 : (hc_fin c j = true → hc_ini mi = true ∧ hc_own mi = c) = True := eq_true hfn
  unfold hc_put
  cases hk : σ k with
  | none => simp [hc_loc, hc_hep, hf, hk, hc_rtn, hc_cal]
  | some o =>
    obtain ⟨c', fs⟩ := o
    dsimp only
    by_cases hc : c' = c
    · subst hc
      rcases hx : fs[j]? with _ | (v0 | r0) <;> simp [hc_loc, hc_hep, hf, hk, hc_rtn, hc_cal, hty, hc_fit, hx, hfn2] <;> (try (split <;> simp_all))
    · simp [hc_loc, hc_hep, hf, hk, hc_rtn, hc_cal, hc]
theorem hcw_movi {ow cp c j k n : Nat} {f : Nat → Int32} (hb : hc_b mi = cc) (hd : decode cc pc = .ok (.putfield cp, 3)) (hp : pc + 3 = np) (ho : hc_own mi = ow) (hf : hc_fld ow cp = some (c, j)) (hty : hc_ty c j = .array .int) (hfn : hc_fin c j = false) : hc_wp G σ (some (n, .inl f)) mi pc ls (.inr none :: .inl (.ref k) :: st) Q = hc_mov σ k c j (n, .inl f) st (fun σ' => hc_wp (hc_gM G k j) σ' none mi np (hc_kp ls) st Q) := by
  subst hp; subst ho
  rw [hcw_gen hb hd]
  unfold hc_mov
  cases hk : σ k with
  | none => simp [hc_loc, hc_hep, hf, hk, hc_rtn, hc_cal]
  | some o =>
    obtain ⟨c', fs⟩ := o
    dsimp only
    by_cases hc : c' = c
    · subst hc
      by_cases h2 : hc_np st = true <;> by_cases h3 : j < fs.length <;> simp [hc_loc, hc_hep, hf, hk, hc_rtn, hc_cal, hty, hfn, hc_arr, h2, h3]
    · simp [hc_loc, hc_hep, hf, hk, hc_rtn, hc_cal, hc]
theorem hcw_samei {ow cp c j k k' j' : Nat} (hb : hc_b mi = cc) (hd : decode cc pc = .ok (.putfield cp, 3)) (hp : pc + 3 = np) (ho : hc_own mi = ow) (hf : hc_fld ow cp = some (c, j)) (hty : hc_ty c j = .array .int) (hfn : hc_fin c j = false) : hc_wp G σ t mi pc ls (.inr (some (k', j')) :: .inl (.ref k) :: st) Q = (k' = k ∧ j' = j ∧ (match σ k with
    | some (c', fs) => c' = c ∧ (match fs[j]? with
      | some (.inr (_, .inl _)) => hc_wp G σ t mi np ls st Q
      | _ => False)
    | none => False)) := by
  subst hp; subst ho
  rw [hcw_gen hb hd]
  cases hk : σ k with
  | none => simp [hc_loc, hc_hep, hf, hk, hc_rtn, hc_cal]
  | some o =>
    obtain ⟨c', fs⟩ := o
    dsimp only
    by_cases hc : c' = c
    · subst hc
      by_cases h2 : k' = k
      · by_cases h3 : j' = j
        · rcases hx : fs[j]? with _ | (v0 | ⟨n0, f0 | f0⟩) <;> simp [hc_loc, hc_hep, hf, hk, hc_rtn, hc_cal, hty, hfn, hc_arr, h2, h3, hx]
        · simp [hc_loc, hc_hep, hf, hk, hc_rtn, hc_cal, h3]
      · simp [hc_loc, hc_hep, hf, hk, hc_rtn, hc_cal, h2]
    · simp [hc_loc, hc_hep, hf, hk, hc_rtn, hc_cal, hc]
theorem hcw_movl {ow cp c j k n : Nat} {f : Nat → Int64} (hb : hc_b mi = cc) (hd : decode cc pc = .ok (.putfield cp, 3)) (hp : pc + 3 = np) (ho : hc_own mi = ow) (hf : hc_fld ow cp = some (c, j)) (hty : hc_ty c j = .array .long) (hfn : hc_fin c j = false) : hc_wp G σ (some (n, .inr f)) mi pc ls (.inr none :: .inl (.ref k) :: st) Q = hc_mov σ k c j (n, .inr f) st (fun σ' => hc_wp (hc_gM G k j) σ' none mi np (hc_kp ls) st Q) := by
  subst hp; subst ho
  rw [hcw_gen hb hd]
  unfold hc_mov
  cases hk : σ k with
  | none => simp [hc_loc, hc_hep, hf, hk, hc_rtn, hc_cal]
  | some o =>
    obtain ⟨c', fs⟩ := o
    dsimp only
    by_cases hc : c' = c
    · subst hc
      by_cases h2 : hc_np st = true <;> by_cases h3 : j < fs.length <;> simp [hc_loc, hc_hep, hf, hk, hc_rtn, hc_cal, hty, hfn, hc_arr, h2, h3]
    · simp [hc_loc, hc_hep, hf, hk, hc_rtn, hc_cal, hc]
theorem hcw_samel {ow cp c j k k' j' : Nat} (hb : hc_b mi = cc) (hd : decode cc pc = .ok (.putfield cp, 3)) (hp : pc + 3 = np) (ho : hc_own mi = ow) (hf : hc_fld ow cp = some (c, j)) (hty : hc_ty c j = .array .long) (hfn : hc_fin c j = false) : hc_wp G σ t mi pc ls (.inr (some (k', j')) :: .inl (.ref k) :: st) Q = (k' = k ∧ j' = j ∧ (match σ k with
    | some (c', fs) => c' = c ∧ (match fs[j]? with
      | some (.inr (_, .inr _)) => hc_wp G σ t mi np ls st Q
      | _ => False)
    | none => False)) := by
  subst hp; subst ho
  rw [hcw_gen hb hd]
  cases hk : σ k with
  | none => simp [hc_loc, hc_hep, hf, hk, hc_rtn, hc_cal]
  | some o =>
    obtain ⟨c', fs⟩ := o
    dsimp only
    by_cases hc : c' = c
    · subst hc
      by_cases h2 : k' = k
      · by_cases h3 : j' = j
        · rcases hx : fs[j]? with _ | (v0 | ⟨n0, f0 | f0⟩) <;> simp [hc_loc, hc_hep, hf, hk, hc_rtn, hc_cal, hty, hfn, hc_arr, h2, h3, hx]
        · simp [hc_loc, hc_hep, hf, hk, hc_rtn, hc_cal, h3]
      · simp [hc_loc, hc_hep, hf, hk, hc_rtn, hc_cal, h2]
    · simp [hc_loc, hc_hep, hf, hk, hc_rtn, hc_cal, hc]
theorem hcw_iaload {i : Int32} {a : hc_V} (hb : hc_b mi = cc) (hd : decode cc pc = .ok (.iaload, 1)) (hp : pc + 1 = np) : hc_wp G σ t mi pc ls (.inl (.int i) :: a :: st) Q = hc_ri σ t a (fun n f => hc_inn i n ∧ hc_wp G σ t mi np ls (.inl (.int (f i.toNatClampNeg)) :: st) Q) := by
  subst hp
  rw [hcw_gen hb hd]
  unfold hc_ri
  rcases hx : hc_row σ t a with _ | ⟨n, f | f⟩ <;> first | (simp [hc_loc, hc_hep, hc_rtn, hc_cal, hx]; done) | skip
  by_cases h : hc_inB i n = true
  · simp [hc_loc, hc_hep, hx, h, hc_inB_iff.mp h]
  · have : ¬ hc_inn i n := fun z => h (hc_inB_iff.mpr z)
    simp [hc_loc, hc_hep, hx, h, hc_rtn, hc_cal, this]
theorem hcw_laload {i : Int32} {a : hc_V} (hb : hc_b mi = cc) (hd : decode cc pc = .ok (.laload, 1)) (hp : pc + 1 = np) : hc_wp G σ t mi pc ls (.inl (.int i) :: a :: st) Q = hc_rl σ t a (fun n f => hc_inn i n ∧ hc_wp G σ t mi np ls (.inl (.long (f i.toNatClampNeg)) :: st) Q) := by
  subst hp
  rw [hcw_gen hb hd]
  unfold hc_rl
  rcases hx : hc_row σ t a with _ | ⟨n, f | f⟩ <;> first | (simp [hc_loc, hc_hep, hc_rtn, hc_cal, hx]; done) | skip
  by_cases h : hc_inB i n = true
  · simp [hc_loc, hc_hep, hx, h, hc_inB_iff.mp h]
  · have : ¬ hc_inn i n := fun z => h (hc_inB_iff.mpr z)
    simp [hc_loc, hc_hep, hx, h, hc_rtn, hc_cal, this]
theorem hcw_iastore {i : Int32} {x : Int32} {a : Option (Nat × Nat)} (hb : hc_b mi = cc) (hd : decode cc pc = .ok (.iastore, 1)) (hp : pc + 1 = np) : hc_wp G σ t mi pc ls (.inl (.int x) :: .inl (.int i) :: .inr a :: st) Q = hc_ri σ t (.inr a) (fun n f => hc_inn i n ∧ hc_on (hc_wr σ t (n, .inl (upd f i.toNatClampNeg x)) (.inr a)) (fun y => hc_wp G y.1 y.2 mi np ls st Q)) := by
  subst hp
  rw [hcw_gen hb hd]
  unfold hc_ri
  rcases hx : hc_row σ t (.inr a) with _ | ⟨n, f | f⟩ <;> first | (simp [hc_loc, hc_hep, hc_rtn, hc_cal, hx]; done) | skip
  by_cases h : hc_inB i n = true
  · rcases hy : hc_wr σ t (n, .inl (upd f i.toNatClampNeg x)) (.inr a) with _ | ⟨s2, t2⟩ <;> simp [hc_loc, hc_hep, hx, h, hc_rtn, hc_cal, hc_inB_iff.mp h, hy, hc_on]
  · have : ¬ hc_inn i n := fun z => h (hc_inB_iff.mpr z)
    simp [hc_loc, hc_hep, hx, h, hc_rtn, hc_cal, this]
theorem hcw_lastore {i : Int32} {x : Int64} {a : Option (Nat × Nat)} (hb : hc_b mi = cc) (hd : decode cc pc = .ok (.lastore, 1)) (hp : pc + 1 = np) : hc_wp G σ t mi pc ls (.inl (.long x) :: .inl (.int i) :: .inr a :: st) Q = hc_rl σ t (.inr a) (fun n f => hc_inn i n ∧ hc_on (hc_wr σ t (n, .inr (vp_updL f i.toNatClampNeg x)) (.inr a)) (fun y => hc_wp G y.1 y.2 mi np ls st Q)) := by
  subst hp
  rw [hcw_gen hb hd]
  unfold hc_rl
  rcases hx : hc_row σ t (.inr a) with _ | ⟨n, f | f⟩ <;> first | (simp [hc_loc, hc_hep, hc_rtn, hc_cal, hx]; done) | skip
  by_cases h : hc_inB i n = true
  · rcases hy : hc_wr σ t (n, .inr (vp_updL f i.toNatClampNeg x)) (.inr a) with _ | ⟨s2, t2⟩ <;> simp [hc_loc, hc_hep, hx, h, hc_rtn, hc_cal, hc_inB_iff.mp h, hy, hc_on]
  · have : ¬ hc_inn i n := fun z => h (hc_inB_iff.mpr z)
    simp [hc_loc, hc_hep, hx, h, hc_rtn, hc_cal, this]
theorem hcw_alen {a : hc_V} (hb : hc_b mi = cc) (hd : decode cc pc = .ok (.arraylength, 1)) (hp : pc + 1 = np) : hc_wp G σ t mi pc ls (a :: st) Q = hc_on (hc_row σ t a) (fun r => hc_wp G σ t mi np ls (.inl (.int (Int32.ofNat r.1)) :: st) Q) := by
  subst hp
  rw [hcw_gen hb hd]
  simp only [hc_loc, hc_hep, hc_rtn, hc_cal]
  rcases hc_row σ t a with _ | ⟨n, f⟩ <;> rfl
theorem hcw_newi {n : Int32} (hb : hc_b mi = cc) (hd : decode cc pc = .ok (.newarray .int, 2)) (hp : pc + 2 = np) : hc_wp G σ t mi pc ls (.inl (.int n) :: st) Q = (¬ n < 0 ∧ n.toNatClampNeg ≤ 60000000 ∧ hc_np st = true ∧ ls.all hc_nt = true ∧ hc_wp (hc_gA G n.toNatClampNeg) σ (some (n.toNatClampNeg, .inl fun _ => 0)) mi np ls (.inr none :: st) Q) := by
  subst hp
  rw [hcw_gen hb hd]
  simp only [hc_loc, hc_hep, hc_rtn, hc_cal]
  by_cases h : ¬ n < 0 ∧ n.toNatClampNeg ≤ 60000000 ∧ hc_np st = true ∧ ls.all hc_nt = true
  · rw [if_pos h]
    obtain ⟨h1, h2, h3, h4⟩ := h
    simp only [h1, h2, h3, h4, true_and, not_false_eq_true]
  · rw [if_neg h]
    simp only [eq_iff_iff, false_iff]
    rintro ⟨h1, h2, h3, h4, -⟩
    exact h ⟨h1, h2, h3, h4⟩
theorem hcw_newl {n : Int32} (hb : hc_b mi = cc) (hd : decode cc pc = .ok (.newarray .long, 2)) (hp : pc + 2 = np) : hc_wp G σ t mi pc ls (.inl (.int n) :: st) Q = (¬ n < 0 ∧ n.toNatClampNeg ≤ 60000000 ∧ hc_np st = true ∧ ls.all hc_nt = true ∧ hc_wp (hc_gA G n.toNatClampNeg) σ (some (n.toNatClampNeg, .inr fun _ => 0)) mi np ls (.inr none :: st) Q) := by
  subst hp
  rw [hcw_gen hb hd]
  simp only [hc_loc, hc_hep, hc_rtn, hc_cal]
  by_cases h : ¬ n < 0 ∧ n.toNatClampNeg ≤ 60000000 ∧ hc_np st = true ∧ ls.all hc_nt = true
  · rw [if_pos h]
    obtain ⟨h1, h2, h3, h4⟩ := h
    simp only [h1, h2, h3, h4, true_and, not_false_eq_true]
  · rw [if_neg h]
    simp only [eq_iff_iff, false_iff]
    rintro ⟨h1, h2, h3, h4, -⟩
    exact h ⟨h1, h2, h3, h4⟩
theorem hcw_new {ow cp c : Nat} (hb : hc_b mi = cc) (hd : decode cc pc = .ok (.new cp, 3)) (hp : pc + 3 = np) (ho : hc_own mi = ow) (hf : hc_cls ow cp = some c) : hc_wp G σ t mi pc ls st Q = (G.2.1 < 900 ∧ hc_wp (hc_gO G (hc_fn c)) (hc_set σ G.2.1 (c, hc_df c)) t mi np ls (.inl (.ref G.2.1) :: st) Q) := by
  subst hp; subst ho
  rw [hcw_gen hb hd]
  simp only [hc_loc, hc_hep, hc_rtn, hc_cal, hf]
  by_cases h : G.2.1 < 900 <;> simp [h]
theorem hcw_objinit {ow cp k : Nat} (hb : hc_b mi = cc) (hd : decode cc pc = .ok (.invokespecial cp, 3)) (hp : pc + 3 = np) (ho : hc_own mi = ow) (hob : hc_obj ow cp = true) (htg : hc_tgt ow cp = none) (h1 : 1 ≤ hc_dp mi) (h2 : 60 ≤ hc_ln mi) : hc_wp G σ t mi pc ls (.inl (.ref k) :: st) Q = (st.length ≤ 8 ∧ hc_wp G σ t mi np ls st Q) := by
  subst hp; subst ho
  rw [hcw_gen hb hd]
  simp only [hc_loc, hc_hep, hc_rtn, hc_cal, hob, h1, h2, htg]
  by_cases h : st.length ≤ 8 <;> simp [h]
theorem hcw_acpi {ow cp k j n0 n1 : Nat} {f g : Nat → Int32} {n dp sp : Int32} (hb : hc_b mi = cc) (hd : decode cc pc = .ok (.invokestatic cp, 3)) (hp : pc + 3 = np) (ho : hc_own mi = ow) (hac : hc_acp ow cp = true) (h1 : 1 ≤ hc_dp mi) (h2 : 60 ≤ hc_ln mi) (hst : st.length ≤ 8) (hv : hc_row σ (some (n1, .inl g)) (.inr (some (k, j))) = some (n0, .inl f)) (hs : ¬ sp < 0 ∧ ¬ dp < 0 ∧ ¬ n < 0) (hl : sp.toNatClampNeg + n.toNatClampNeg ≤ n0 ∧ dp.toNatClampNeg + n.toNatClampNeg ≤ n1) : hc_wp G σ (some (n1, .inl g)) mi pc ls (.inl (.int n) :: .inl (.int dp) :: .inr none :: .inl (.int sp) :: .inr (some (k, j)) :: st) Q = hc_wp G σ (some (n1, .inl (va_cpy f g sp.toNatClampNeg dp.toNatClampNeg n.toNatClampNeg))) mi np ls st Q := by
  subst hp; subst ho
  rw [hcw_gen hb hd]
  have hc : hc_acp (hc_own mi) cp = true ∧ st.length ≤ 8 ∧ 1 ≤ hc_dp mi ∧ 60 ≤ hc_ln mi ∧ ¬ sp < 0 ∧ ¬ dp < 0 ∧ ¬ n < 0 := ⟨hac, hst, h1, h2, hs⟩
  simp only [hc_loc, hc_hep, if_pos hc, hv, if_pos hl]
theorem hcw_acpl {ow cp k j n0 n1 : Nat} {f g : Nat → Int64} {n dp sp : Int32} (hb : hc_b mi = cc) (hd : decode cc pc = .ok (.invokestatic cp, 3)) (hp : pc + 3 = np) (ho : hc_own mi = ow) (hac : hc_acp ow cp = true) (h1 : 1 ≤ hc_dp mi) (h2 : 60 ≤ hc_ln mi) (hst : st.length ≤ 8) (hv : hc_row σ (some (n1, .inr g)) (.inr (some (k, j))) = some (n0, .inr f)) (hs : ¬ sp < 0 ∧ ¬ dp < 0 ∧ ¬ n < 0) (hl : sp.toNatClampNeg + n.toNatClampNeg ≤ n0 ∧ dp.toNatClampNeg + n.toNatClampNeg ≤ n1) : hc_wp G σ (some (n1, .inr g)) mi pc ls (.inl (.int n) :: .inl (.int dp) :: .inr none :: .inl (.int sp) :: .inr (some (k, j)) :: st) Q = hc_wp G σ (some (n1, .inr (va_cpy f g sp.toNatClampNeg dp.toNatClampNeg n.toNatClampNeg))) mi np ls st Q := by
  subst hp; subst ho
  rw [hcw_gen hb hd]
  have hc : hc_acp (hc_own mi) cp = true ∧ st.length ≤ 8 ∧ 1 ≤ hc_dp mi ∧ 60 ≤ hc_ln mi ∧ ¬ sp < 0 ∧ ¬ dp < 0 ∧ ¬ n < 0 := ⟨hac, hst, h1, h2, hs⟩
  simp only [hc_loc, hc_hep, if_pos hc, hv, if_pos hl]
theorem hcw_ireturn {v : Int32} (hb : hc_b mi = cc) (hd : decode cc pc = .ok (.ireturn, 1)) (hr : hc_rty mi = some .int) : hc_wp G σ t mi pc ls [.inl (.int v)] Q = Q G σ t (some (.inl (.int v))) := by
  rw [hcw_gen hb hd]
  simp only [hc_loc, hc_hep, hc_rtn, hr]
theorem hcw_zreturn {v : Int32} (hb : hc_b mi = cc) (hd : decode cc pc = .ok (.ireturn, 1)) (hr : hc_rty mi = some .boolean) : hc_wp G σ t mi pc ls [.inl (.int v)] Q = ((v = 0 ∨ v = 1) ∧ Q G σ t (some (.inl (.int v)))) := by
  rw [hcw_gen hb hd]
  simp only [hc_loc, hc_hep, hc_rtn, hr]
  by_cases h : v = 0 ∨ v = 1
  · simp [h]
  · simp [h, hc_cal]
theorem hcw_lreturn {v : Int64} (hb : hc_b mi = cc) (hd : decode cc pc = .ok (.lreturn, 1)) (hr : hc_rty mi = some .long) : hc_wp G σ t mi pc ls [.inl (.long v)] Q = Q G σ t (some (.inl (.long v))) := by
  rw [hcw_gen hb hd]
  simp only [hc_loc, hc_hep, hc_rtn, hr]
theorem hcw_areturn {a : Option (Nat × Nat)} {ty : FieldType} (hb : hc_b mi = cc) (hd : decode cc pc = .ok (.areturn, 1)) (hr : hc_rty mi = some (.array ty)) : hc_wp G σ t mi pc ls [.inr a] Q = Q G σ t (some (.inr a)) := by
  rw [hcw_gen hb hd]
  simp only [hc_loc, hc_hep, hc_rtn, hr]
theorem hcw_return (hb : hc_b mi = cc) (hd : decode cc pc = .ok (.return_, 1)) (hr : hc_rty mi = none) : hc_wp G σ t mi pc ls [] Q = Q G σ t none := by
  rw [hcw_gen hb hd]
  simp only [hc_loc, hc_hep, hc_rtn, hr]
/-- a call, by its arguments; kd: 0 virtual, 1 special, 2 static -/
def hc_ivk (kd cp : Nat) : Instr := if kd = 0 then .invokevirtual cp else if kd = 1 then .invokespecial cp else .invokestatic cp
theorem hcw_call {ow cp m2 kd na mx : Nat} {args : List hc_V} {l2 : hc_L} (hb : hc_b mi = cc) (hd : decode cc pc = .ok (hc_ivk kd cp, 3)) (hp : pc + 3 = np) (ho : hc_own mi = ow) (htg : hc_tgt ow cp = some m2) (hkd : kd < 3) (hs : hc_md m2 = kd ∧ hc_dp m2 < hc_dp mi ∧ hc_ln m2 + hc_mx m2 + 27 ≤ hc_ln mi) (hob : hc_obj ow cp = false) (hac : hc_acp ow cp = false) (hn : args.length = hc_na m2) (hle : (hc_ent args).length ≤ hc_mx m2) (hl2 : hc_pad (hc_mx m2) (hc_ent args) = l2) :
    hc_wp G σ t mi pc ls (args.reverse ++ st) Q = ((st.length ≤ 8 ∧ (kd = 2 ∨ hc_rcv kd σ (hc_own m2) args.head? = true)) ∧ hc_wp G σ t m2 0 l2 [] (fun G' σ' t' r => hc_bk G G' ls st (fun ls' => hc_wp G' σ' t' mi np ls' (hc_psh r st) Q))) := by
  subst hp; subst ho; subst hl2
  rw [hcw_gen hb hd]
  have e1 : (args.reverse ++ st).take (hc_na m2) = args.reverse := by
    rw [← hn, ← List.length_reverse, List.take_left']
    rfl
  have e2 : (args.reverse ++ st).drop (hc_na m2) = st := by
    rw [← hn, ← List.length_reverse, List.drop_left']
    rfl
  have hna : hc_na m2 ≤ (args.reverse ++ st).length := by
    rw [List.length_append, List.length_reverse]
    omega
  have hloc : hc_loc mi pc ls (args.reverse ++ st) (hc_ivk kd cp) 3 = none := by
    unfold hc_ivk
    split
    · rfl
    · split <;> rfl
  have hrtn : hc_rtn mi (args.reverse ++ st) (hc_ivk kd cp) 3 = none := by
    unfold hc_ivk
    split
    · rfl
    · split <;> rfl
  have hhep : hc_hep mi G σ t ls (args.reverse ++ st) (hc_ivk kd cp) 3 = none := by
    unfold hc_ivk
    split
    · rfl
    · split
      · unfold hc_hep
        split <;> first | rfl | skip
        all_goals first | (rename_i h; cases h; simp [hob]; done) | (rename_i h _; cases h; simp [hob]; done) | simp_all
      · unfold hc_hep
        split <;> first | rfl | skip
        all_goals first | (rename_i h; cases h; simp [hac]; done) | (rename_i h _; cases h; simp [hac]; done) | simp_all
  have hcal : hc_cal mi σ (args.reverse ++ st) (hc_ivk kd cp) 3 = if st.length ≤ 8 ∧ (kd = 2 ∨ hc_rcv kd σ (hc_own m2) args.head? = true) then some (m2, hc_pad (hc_mx m2) (hc_ent args), st) else none := by
    have hna2 : hc_na m2 ≤ args.length + st.length := by omega
    rcases (show kd = 0 ∨ kd = 1 ∨ kd = 2 by omega) with rfl | rfl | rfl <;> simp [hc_cal, hc_ivk, htg, e1, e2, hs.1, hs.2.1, hs.2.2, hna2, hle]
  rw [hloc, hhep, hrtn, hcal]
  by_cases h : st.length ≤ 8 ∧ (kd = 2 ∨ hc_rcv kd σ (hc_own m2) args.head? = true)
  · simp only [if_pos h]
    simp only [h, true_and, and_self]
  · simp only [if_neg h]
    simp only [h, false_and]
end HCW
end
