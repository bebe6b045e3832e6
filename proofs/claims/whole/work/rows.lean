section
-- ===== PART A: goes FIRST, ahead of the names: the tables' words, and 'selects' of the private methods out of them =====
/-- a private method of a class that the tables say can be made, by its rows of tables_1 -/
def lw_okq (q : MethodName × Nat) : Prop := (q.1.cls ≠ "java/lang/invoke/MethodHandle" ∧ q.1.cls ≠ "java/lang/invoke/VarHandle") ∧ Cond.instantiable q.1.cls q.2 ∈ tables_1 ∧ Cond.privateMethod q.1 ∈ tables_1 ∧ Cond.instanceMethod q.1 ∈ tables_1
theorem lw_p0 : lw_okq (⟨"TapeVault", "isHome", "(I)Z"⟩, 8) := ⟨⟨by decide +kernel, by decide +kernel⟩, List.mem_of_getElem? (i := 9) (by decide +kernel), List.mem_of_getElem? (i := 129) (by decide +kernel), List.mem_of_getElem? (i := 130) (by decide +kernel)⟩
theorem lw_p1 : lw_okq (⟨"TapeVault", "findTape", "(I)LTapeVault$Tape;"⟩, 8) := ⟨⟨by decide +kernel, by decide +kernel⟩, List.mem_of_getElem? (i := 9) (by decide +kernel), List.mem_of_getElem? (i := 189) (by decide +kernel), List.mem_of_getElem? (i := 190) (by decide +kernel)⟩
theorem lw_p2 : lw_okq (⟨"TapeVault", "copyJob", "(LTapeVault$Tape;)I"⟩, 8) := ⟨⟨by decide +kernel, by decide +kernel⟩, List.mem_of_getElem? (i := 9) (by decide +kernel), List.mem_of_getElem? (i := 193) (by decide +kernel), List.mem_of_getElem? (i := 194) (by decide +kernel)⟩
theorem lw_p3 : lw_okq (⟨"TapeVault", "nearestDrive", "(LTapeVault$Tape;)LTapeVault$Drive;"⟩, 8) := ⟨⟨by decide +kernel, by decide +kernel⟩, List.mem_of_getElem? (i := 9) (by decide +kernel), List.mem_of_getElem? (i := 197) (by decide +kernel), List.mem_of_getElem? (i := 198) (by decide +kernel)⟩
theorem lw_p4 : lw_okq (⟨"TapeVault", "writeStaged", "(LTapeVault$Drive;I)I"⟩, 8) := ⟨⟨by decide +kernel, by decide +kernel⟩, List.mem_of_getElem? (i := 9) (by decide +kernel), List.mem_of_getElem? (i := 221) (by decide +kernel), List.mem_of_getElem? (i := 222) (by decide +kernel)⟩
theorem lw_p5 : lw_okq (⟨"TapeVault", "counted", "(I)I"⟩, 8) := ⟨⟨by decide +kernel, by decide +kernel⟩, List.mem_of_getElem? (i := 9) (by decide +kernel), List.mem_of_getElem? (i := 280) (by decide +kernel), List.mem_of_getElem? (i := 281) (by decide +kernel)⟩
theorem lw_p6 : lw_okq (⟨"TapeVault", "readJob", "(LTapeVault$Tape;I)I"⟩, 8) := ⟨⟨by decide +kernel, by decide +kernel⟩, List.mem_of_getElem? (i := 9) (by decide +kernel), List.mem_of_getElem? (i := 289) (by decide +kernel), List.mem_of_getElem? (i := 290) (by decide +kernel)⟩
theorem lw_p7 : lw_okq (⟨"TapeVault", "readFile", "(LTapeVault$Drive;LTapeVault$Blocks;I)I"⟩, 8) := ⟨⟨by decide +kernel, by decide +kernel⟩, List.mem_of_getElem? (i := 9) (by decide +kernel), List.mem_of_getElem? (i := 293) (by decide +kernel), List.mem_of_getElem? (i := 294) (by decide +kernel)⟩
theorem lw_p8 : lw_okq (⟨"TapeVault", "moveJob", "(LTapeVault$Tape;ILTapeVault$Tape;)I"⟩, 8) := ⟨⟨by decide +kernel, by decide +kernel⟩, List.mem_of_getElem? (i := 9) (by decide +kernel), List.mem_of_getElem? (i := 312) (by decide +kernel), List.mem_of_getElem? (i := 313) (by decide +kernel)⟩
theorem lw_p9 : lw_okq (⟨"TapeVault", "moveInto", "(LTapeVault$Tape;LTapeVault$Drive;LTapeVault$Blocks;I)I"⟩, 8) := ⟨⟨by decide +kernel, by decide +kernel⟩, List.mem_of_getElem? (i := 9) (by decide +kernel), List.mem_of_getElem? (i := 316) (by decide +kernel), List.mem_of_getElem? (i := 317) (by decide +kernel)⟩
theorem lw_p10 : lw_okq (⟨"TapeVault", "moveBlocks", "(LTapeVault$Drive;LTapeVault$Blocks;ILTapeVault$Drive;I)I"⟩, 8) := ⟨⟨by decide +kernel, by decide +kernel⟩, List.mem_of_getElem? (i := 9) (by decide +kernel), List.mem_of_getElem? (i := 320) (by decide +kernel), List.mem_of_getElem? (i := 321) (by decide +kernel)⟩
theorem lw_p11 : lw_okq (⟨"TapeVault", "scanJob", "(LTapeVault$Tape;)I"⟩, 8) := ⟨⟨by decide +kernel, by decide +kernel⟩, List.mem_of_getElem? (i := 9) (by decide +kernel), List.mem_of_getElem? (i := 333) (by decide +kernel), List.mem_of_getElem? (i := 334) (by decide +kernel)⟩
theorem lw_p12 : lw_okq (⟨"TapeVault", "findDrive", "(I)LTapeVault$Drive;"⟩, 8) := ⟨⟨by decide +kernel, by decide +kernel⟩, List.mem_of_getElem? (i := 9) (by decide +kernel), List.mem_of_getElem? (i := 386) (by decide +kernel), List.mem_of_getElem? (i := 387) (by decide +kernel)⟩
theorem lw_p13 : lw_okq (⟨"TapeVaultModel", "isTape", "(I)Z"⟩, 31) := ⟨⟨by decide +kernel, by decide +kernel⟩, List.mem_of_getElem? (i := 424) (by decide +kernel), List.mem_of_getElem? (i := 542) (by decide +kernel), List.mem_of_getElem? (i := 543) (by decide +kernel)⟩
theorem lw_p14 : lw_okq (⟨"TapeVaultModel", "begin", "()V"⟩, 31) := ⟨⟨by decide +kernel, by decide +kernel⟩, List.mem_of_getElem? (i := 424) (by decide +kernel), List.mem_of_getElem? (i := 546) (by decide +kernel), List.mem_of_getElem? (i := 547) (by decide +kernel)⟩
theorem lw_p15 : lw_okq (⟨"TapeVaultModel", "mount", "(II)V"⟩, 31) := ⟨⟨by decide +kernel, by decide +kernel⟩, List.mem_of_getElem? (i := 424) (by decide +kernel), List.mem_of_getElem? (i := 550) (by decide +kernel), List.mem_of_getElem? (i := 551) (by decide +kernel)⟩
def lw_privs_1 : List (MethodName × Nat) := [(⟨"TapeVault", "isHome", "(I)Z"⟩, 8), (⟨"TapeVault", "findTape", "(I)LTapeVault$Tape;"⟩, 8), (⟨"TapeVault", "copyJob", "(LTapeVault$Tape;)I"⟩, 8), (⟨"TapeVault", "nearestDrive", "(LTapeVault$Tape;)LTapeVault$Drive;"⟩, 8), (⟨"TapeVault", "writeStaged", "(LTapeVault$Drive;I)I"⟩, 8), (⟨"TapeVault", "counted", "(I)I"⟩, 8), (⟨"TapeVault", "readJob", "(LTapeVault$Tape;I)I"⟩, 8), (⟨"TapeVault", "readFile", "(LTapeVault$Drive;LTapeVault$Blocks;I)I"⟩, 8), (⟨"TapeVault", "moveJob", "(LTapeVault$Tape;ILTapeVault$Tape;)I"⟩, 8), (⟨"TapeVault", "moveInto", "(LTapeVault$Tape;LTapeVault$Drive;LTapeVault$Blocks;I)I"⟩, 8), (⟨"TapeVault", "moveBlocks", "(LTapeVault$Drive;LTapeVault$Blocks;ILTapeVault$Drive;I)I"⟩, 8), (⟨"TapeVault", "scanJob", "(LTapeVault$Tape;)I"⟩, 8), (⟨"TapeVault", "findDrive", "(I)LTapeVault$Drive;"⟩, 8), (⟨"TapeVaultModel", "isTape", "(I)Z"⟩, 31), (⟨"TapeVaultModel", "begin", "()V"⟩, 31), (⟨"TapeVaultModel", "mount", "(II)V"⟩, 31)]
theorem lw_r1 : ∀ q ∈ lw_privs_1, lw_okq q := List.forall_mem_cons.mpr ⟨lw_p0, List.forall_mem_cons.mpr ⟨lw_p1, List.forall_mem_cons.mpr ⟨lw_p2, List.forall_mem_cons.mpr ⟨lw_p3, List.forall_mem_cons.mpr ⟨lw_p4, List.forall_mem_cons.mpr ⟨lw_p5, List.forall_mem_cons.mpr ⟨lw_p6, List.forall_mem_cons.mpr ⟨lw_p7, List.forall_mem_cons.mpr ⟨lw_p8, List.forall_mem_cons.mpr ⟨lw_p9, List.forall_mem_cons.mpr ⟨lw_p10, List.forall_mem_cons.mpr ⟨lw_p11, List.forall_mem_cons.mpr ⟨lw_p12, List.forall_mem_cons.mpr ⟨lw_p13, List.forall_mem_cons.mpr ⟨lw_p14, List.forall_mem_cons.mpr ⟨lw_p15, fun _ h => absurd h List.not_mem_nil⟩⟩⟩⟩⟩⟩⟩⟩⟩⟩⟩⟩⟩⟩⟩⟩
theorem lw_p16 : lw_okq (⟨"TapeVaultModel", "work", "()Z"⟩, 31) := ⟨⟨by decide +kernel, by decide +kernel⟩, List.mem_of_getElem? (i := 424) (by decide +kernel), List.mem_of_getElem? (i := 557) (by decide +kernel), List.mem_of_getElem? (i := 558) (by decide +kernel)⟩
theorem lw_p17 : lw_okq (⟨"TapeVaultModel", "wind", "(II)V"⟩, 31) := ⟨⟨by decide +kernel, by decide +kernel⟩, List.mem_of_getElem? (i := 424) (by decide +kernel), List.mem_of_getElem? (i := 561) (by decide +kernel), List.mem_of_getElem? (i := 562) (by decide +kernel)⟩
theorem lw_p18 : lw_okq (⟨"TapeVaultModel", "write", "(IIII)V"⟩, 31) := ⟨⟨by decide +kernel, by decide +kernel⟩, List.mem_of_getElem? (i := 424) (by decide +kernel), List.mem_of_getElem? (i := 565) (by decide +kernel), List.mem_of_getElem? (i := 566) (by decide +kernel)⟩
theorem lw_p19 : lw_okq (⟨"TapeVaultModel", "pass", "(IZ)V"⟩, 31) := ⟨⟨by decide +kernel, by decide +kernel⟩, List.mem_of_getElem? (i := 424) (by decide +kernel), List.mem_of_getElem? (i := 569) (by decide +kernel), List.mem_of_getElem? (i := 570) (by decide +kernel)⟩
theorem lw_p20 : lw_okq (⟨"TapeVaultModel", "put", "(IIIII)V"⟩, 31) := ⟨⟨by decide +kernel, by decide +kernel⟩, List.mem_of_getElem? (i := 424) (by decide +kernel), List.mem_of_getElem? (i := 573) (by decide +kernel), List.mem_of_getElem? (i := 574) (by decide +kernel)⟩
theorem lw_p21 : lw_okq (⟨"TapeVaultModel", "close", "(II)V"⟩, 31) := ⟨⟨by decide +kernel, by decide +kernel⟩, List.mem_of_getElem? (i := 424) (by decide +kernel), List.mem_of_getElem? (i := 577) (by decide +kernel), List.mem_of_getElem? (i := 578) (by decide +kernel)⟩
theorem lw_p22 : lw_okq (⟨"TapeVaultModel", "unmount", "(I)V"⟩, 31) := ⟨⟨by decide +kernel, by decide +kernel⟩, List.mem_of_getElem? (i := 424) (by decide +kernel), List.mem_of_getElem? (i := 581) (by decide +kernel), List.mem_of_getElem? (i := 582) (by decide +kernel)⟩
theorem lw_p23 : lw_okq (⟨"TapeVaultModel", "ended", "(I)I"⟩, 31) := ⟨⟨by decide +kernel, by decide +kernel⟩, List.mem_of_getElem? (i := 424) (by decide +kernel), List.mem_of_getElem? (i := 585) (by decide +kernel), List.mem_of_getElem? (i := 586) (by decide +kernel)⟩
theorem lw_p24 : lw_okq (⟨"TapeVaultModel", "readFile", "(II)I"⟩, 31) := ⟨⟨by decide +kernel, by decide +kernel⟩, List.mem_of_getElem? (i := 424) (by decide +kernel), List.mem_of_getElem? (i := 593) (by decide +kernel), List.mem_of_getElem? (i := 594) (by decide +kernel)⟩
theorem lw_p25 : lw_okq (⟨"TapeVaultModel", "take", "(I)I"⟩, 31) := ⟨⟨by decide +kernel, by decide +kernel⟩, List.mem_of_getElem? (i := 424) (by decide +kernel), List.mem_of_getElem? (i := 597) (by decide +kernel), List.mem_of_getElem? (i := 598) (by decide +kernel)⟩
theorem lw_p26 : lw_okq (⟨"TapeVaultModel", "forget", "(I)I"⟩, 31) := ⟨⟨by decide +kernel, by decide +kernel⟩, List.mem_of_getElem? (i := 424) (by decide +kernel), List.mem_of_getElem? (i := 613) (by decide +kernel), List.mem_of_getElem? (i := 614) (by decide +kernel)⟩
theorem lw_p27 : lw_okq (⟨"TapeVaultModel", "isFile", "(II)Z"⟩, 31) := ⟨⟨by decide +kernel, by decide +kernel⟩, List.mem_of_getElem? (i := 424) (by decide +kernel), List.mem_of_getElem? (i := 617) (by decide +kernel), List.mem_of_getElem? (i := 618) (by decide +kernel)⟩
def lw_privs_2 : List (MethodName × Nat) := [(⟨"TapeVaultModel", "work", "()Z"⟩, 31), (⟨"TapeVaultModel", "wind", "(II)V"⟩, 31), (⟨"TapeVaultModel", "write", "(IIII)V"⟩, 31), (⟨"TapeVaultModel", "pass", "(IZ)V"⟩, 31), (⟨"TapeVaultModel", "put", "(IIIII)V"⟩, 31), (⟨"TapeVaultModel", "close", "(II)V"⟩, 31), (⟨"TapeVaultModel", "unmount", "(I)V"⟩, 31), (⟨"TapeVaultModel", "ended", "(I)I"⟩, 31), (⟨"TapeVaultModel", "readFile", "(II)I"⟩, 31), (⟨"TapeVaultModel", "take", "(I)I"⟩, 31), (⟨"TapeVaultModel", "forget", "(I)I"⟩, 31), (⟨"TapeVaultModel", "isFile", "(II)Z"⟩, 31)]
theorem lw_r2 : ∀ q ∈ lw_privs_2, lw_okq q := List.forall_mem_cons.mpr ⟨lw_p16, List.forall_mem_cons.mpr ⟨lw_p17, List.forall_mem_cons.mpr ⟨lw_p18, List.forall_mem_cons.mpr ⟨lw_p19, List.forall_mem_cons.mpr ⟨lw_p20, List.forall_mem_cons.mpr ⟨lw_p21, List.forall_mem_cons.mpr ⟨lw_p22, List.forall_mem_cons.mpr ⟨lw_p23, List.forall_mem_cons.mpr ⟨lw_p24, List.forall_mem_cons.mpr ⟨lw_p25, List.forall_mem_cons.mpr ⟨lw_p26, List.forall_mem_cons.mpr ⟨lw_p27, fun _ h => absurd h List.not_mem_nil⟩⟩⟩⟩⟩⟩⟩⟩⟩⟩⟩⟩
def lw_privs : List (MethodName × Nat) := lw_privs_1 ++ (lw_privs_2)
def lw_tbl : List Cond := k2_sels lw_privs ++ tables_1
theorem lw_privs_ok : ∀ q ∈ lw_privs, lw_okq q := by
  show ∀ q ∈ lw_privs_1 ++ (lw_privs_2), lw_okq q
  exact List.forall_mem_append.mpr ⟨lw_r1, lw_r2⟩
def RX0 : String := "TapeVault$Blocks"
def TX0 : u_T := fun k => match k with
  | 0 => ("TapeVault$Blocks", "kinds", "[I", true)
  | 1 => ("TapeVault$Blocks", "values", "[I", true)
  | 2 => ("TapeVault$Blocks", "sizes", "[I", true)
  | _ => ("TapeVault$Blocks", "end", "I", false)
def tyX0 : Nat → FieldType := fun k => match k with
  | 0 => .array .int
  | 1 => .array .int
  | 2 => .array .int
  | _ => .int
abbrev wsX00 : List Cond := u_ws RX0 TX0 4
theorem nmX0 : ∀ a, a < 4 → ∀ b, b < 4 → a ≠ b → (TX0 a).2.1 ≠ (TX0 b).2.1 := by decide +kernel
theorem tyX0_ok : ∀ k, k < 4 → parseFieldDescriptor (TX0 k).2.2.1 = some (tyX0 k) := by decide +kernel
abbrev cX0_init : ByteArray := prog_2_method_1_code
def yX0_init : MethodName := ⟨RX0, "<init>", "(I)V"⟩
abbrev cX0_clear : ByteArray := prog_2_method_2_code
def yX0_clear : MethodName := ⟨RX0, "clear", "()V"⟩
abbrev cX0_isFull : ByteArray := prog_2_method_3_code
def yX0_isFull : MethodName := ⟨RX0, "isFull", "()Z"⟩
abbrev cX0_add : ByteArray := prog_2_method_4_code
def yX0_add : MethodName := ⟨RX0, "add", "(III)V"⟩
abbrev cX0_has : ByteArray := prog_2_method_5_code
def yX0_has : MethodName := ⟨RX0, "has", "(I)Z"⟩
abbrev cX0_kindAt : ByteArray := prog_2_method_6_code
def yX0_kindAt : MethodName := ⟨RX0, "kindAt", "(I)I"⟩
abbrev cX0_valueAt : ByteArray := prog_2_method_7_code
def yX0_valueAt : MethodName := ⟨RX0, "valueAt", "(I)I"⟩
abbrev cX0_sizeAt : ByteArray := prog_2_method_8_code
def yX0_sizeAt : MethodName := ⟨RX0, "sizeAt", "(I)I"⟩
def RX1 : String := "TapeVault$Drive"
def TX1 : u_T := fun k => match k with
  | 0 => ("TapeVault$Drive", "stand", "I", true)
  | 1 => ("TapeVault$Drive", "effort", "LTapeVault$Effort;", true)
  | 2 => ("TapeVault$Drive", "uses", "I", false)
  | 3 => ("TapeVault$Drive", "blocksDone", "I", false)
  | 4 => ("TapeVault$Drive", "jammed", "Z", false)
  | 5 => ("TapeVault$Drive", "blocksToJam", "I", false)
  | 6 => ("TapeVault$Drive", "mounted", "LTapeVault$Tape;", false)
  | 7 => ("TapeVault$Drive", "carried", "I", false)
  | _ => ("TapeVault$Drive", "position", "I", false)
def tyX1 : Nat → FieldType := fun k => match k with
  | 0 => .int
  | 1 => .object "TapeVault$Effort"
  | 2 => .int
  | 3 => .int
  | 4 => .boolean
  | 5 => .int
  | 6 => .object "TapeVault$Tape"
  | 7 => .int
  | _ => .int
abbrev wsX10 : List Cond := u_ws RX1 TX1 9
theorem nmX1 : ∀ a, a < 9 → ∀ b, b < 9 → a ≠ b → (TX1 a).2.1 ≠ (TX1 b).2.1 := by decide +kernel
theorem tyX1_ok : ∀ k, k < 9 → parseFieldDescriptor (TX1 k).2.2.1 = some (tyX1 k) := by decide +kernel
abbrev cX1_init : ByteArray := prog_3_method_1_code
def yX1_init : MethodName := ⟨RX1, "<init>", "(ILTapeVault$Effort;)V"⟩
abbrev cX1_isReady : ByteArray := prog_3_method_2_code
def yX1_isReady : MethodName := ⟨RX1, "isReady", "()Z"⟩
abbrev cX1_distance : ByteArray := prog_3_method_3_code
def yX1_distance : MethodName := ⟨RX1, "distance", "(LTapeVault$Tape;)I"⟩
abbrev cX1_carry : ByteArray := prog_3_method_4_code
def yX1_carry : MethodName := ⟨RX1, "carry", "(LTapeVault$Tape;)I"⟩
abbrev cX1_windTo : ByteArray := prog_3_method_5_code
def yX1_windTo : MethodName := ⟨RX1, "windTo", "(I)I"⟩
abbrev cX1_passBlock : ByteArray := prog_3_method_6_code
def yX1_passBlock : MethodName := ⟨RX1, "passBlock", "()I"⟩
abbrev cX1_readBlock : ByteArray := prog_3_method_7_code
def yX1_readBlock : MethodName := ⟨RX1, "readBlock", "()I"⟩
abbrev cX1_writeBlock : ByteArray := prog_3_method_8_code
def yX1_writeBlock : MethodName := ⟨RX1, "writeBlock", "(LTapeVault$Blocks;I)I"⟩
abbrev cX1_endWriting : ByteArray := prog_3_method_9_code
def yX1_endWriting : MethodName := ⟨RX1, "endWriting", "(II)I"⟩
abbrev cX1_closeWithVoid : ByteArray := prog_3_method_10_code
def yX1_closeWithVoid : MethodName := ⟨RX1, "closeWithVoid", "(LTapeVault$Blocks;)V"⟩
abbrev cX1_lookThrough : ByteArray := prog_3_method_11_code
def yX1_lookThrough : MethodName := ⟨RX1, "lookThrough", "()I"⟩
abbrev cX1_bringHome : ByteArray := prog_3_method_12_code
def yX1_bringHome : MethodName := ⟨RX1, "bringHome", "()V"⟩
def RX2 : String := "TapeVault$Effort"
def TX2 : u_T := fun k => match k with
  | 0 => ("TapeVault$Effort", "clock", "I", false)
  | 1 => ("TapeVault$Effort", "care", "I", false)
  | _ => ("TapeVault$Effort", "powerLeft", "I", false)
def tyX2 : Nat → FieldType := fun k => match k with
  | 0 => .int
  | 1 => .int
  | _ => .int
abbrev wsX20 : List Cond := u_ws RX2 TX2 3
theorem nmX2 : ∀ a, a < 3 → ∀ b, b < 3 → a ≠ b → (TX2 a).2.1 ≠ (TX2 b).2.1 := by decide +kernel
theorem tyX2_ok : ∀ k, k < 3 → parseFieldDescriptor (TX2 k).2.2.1 = some (tyX2 k) := by decide +kernel
abbrev cX2_init : ByteArray := prog_4_method_1_code
def yX2_init : MethodName := ⟨RX2, "<init>", "()V"⟩
abbrev cX2_work : ByteArray := prog_4_method_2_code
def yX2_work : MethodName := ⟨RX2, "work", "()Z"⟩
def RX3 : String := "TapeVault$Tape"
def TX3 : u_T := fun k => match k with
  | 0 => ("TapeVault$Tape", "home", "I", true)
  | 1 => ("TapeVault$Tape", "blocks", "LTapeVault$Blocks;", true)
  | 2 => ("TapeVault$Tape", "damaged", "[Z", true)
  | 3 => ("TapeVault$Tape", "listed", "[Z", true)
  | 4 => ("TapeVault$Tape", "mounts", "I", false)
  | _ => ("TapeVault$Tape", "wear", "I", false)
def tyX3 : Nat → FieldType := fun k => match k with
  | 0 => .int
  | 1 => .object "TapeVault$Blocks"
  | 2 => .array .boolean
  | 3 => .array .boolean
  | 4 => .int
  | _ => .int
abbrev wsX30 : List Cond := u_ws RX3 TX3 6
theorem nmX3 : ∀ a, a < 6 → ∀ b, b < 6 → a ≠ b → (TX3 a).2.1 ≠ (TX3 b).2.1 := by decide +kernel
theorem tyX3_ok : ∀ k, k < 6 → parseFieldDescriptor (TX3 k).2.2.1 = some (tyX3 k) := by decide +kernel
abbrev cX3_init : ByteArray := prog_5_method_1_code
def yX3_init : MethodName := ⟨RX3, "<init>", "(I)V"⟩
abbrev cX3_isDamaged : ByteArray := prog_5_method_2_code
def yX3_isDamaged : MethodName := ⟨RX3, "isDamaged", "(I)Z"⟩
abbrev cX3_spoil : ByteArray := prog_5_method_3_code
def yX3_spoil : MethodName := ⟨RX3, "spoil", "(II)I"⟩
abbrev cX3_listedHead : ByteArray := prog_5_method_4_code
def yX3_listedHead : MethodName := ⟨RX3, "listedHead", "(I)I"⟩
abbrev cX3_list : ByteArray := prog_5_method_5_code
def yX3_list : MethodName := ⟨RX3, "list", "(I)V"⟩
abbrev cX3_unlist : ByteArray := prog_5_method_6_code
def yX3_unlist : MethodName := ⟨RX3, "unlist", "(I)V"⟩
abbrev cX3_unlistAll : ByteArray := prog_5_method_7_code
def yX3_unlistAll : MethodName := ⟨RX3, "unlistAll", "()I"⟩
abbrev cX3_listAllThatTell : ByteArray := prog_5_method_8_code
def yX3_listAllThatTell : MethodName := ⟨RX3, "listAllThatTell", "()I"⟩
abbrev cX3_listedCount : ByteArray := prog_5_method_9_code
def yX3_listedCount : MethodName := ⟨RX3, "listedCount", "()I"⟩
abbrev cX3_tellsFile : ByteArray := prog_5_method_10_code
def yX3_tellsFile : MethodName := ⟨RX3, "tellsFile", "(I)Z"⟩
abbrev cX3_tells : ByteArray := prog_5_method_11_code
def yX3_tells : MethodName := ⟨RX3, "tells", "(II)Z"⟩
def RX4 : String := "TapeVault"
def TX4 : u_T := fun k => match k with
  | 0 => ("TapeVault", "effort", "LTapeVault$Effort;", true)
  | 1 => ("TapeVault", "drives", "[LTapeVault$Drive;", true)
  | 2 => ("TapeVault", "tapes", "[LTapeVault$Tape;", true)
  | 3 => ("TapeVault", "staged", "LTapeVault$Blocks;", true)
  | 4 => ("TapeVault", "tapeCount", "I", false)
  | 5 => ("TapeVault", "jobs", "I", false)
  | 6 => ("TapeVault", "failedJobs", "I", false)
  | _ => ("TapeVault", "fold", "I", false)
def tyX4 : Nat → FieldType := fun k => match k with
  | 0 => .object "TapeVault$Effort"
  | 1 => .array (.object "TapeVault$Drive")
  | 2 => .array (.object "TapeVault$Tape")
  | 3 => .object "TapeVault$Blocks"
  | 4 => .int
  | 5 => .int
  | 6 => .int
  | _ => .int
abbrev wsX40 : List Cond := u_ws RX4 TX4 8
theorem nmX4 : ∀ a, a < 8 → ∀ b, b < 8 → a ≠ b → (TX4 a).2.1 ≠ (TX4 b).2.1 := by decide +kernel
theorem tyX4_ok : ∀ k, k < 8 → parseFieldDescriptor (TX4 k).2.2.1 = some (tyX4 k) := by decide +kernel
abbrev cX4_init : ByteArray := prog_1_method_1_code
def yX4_init : MethodName := ⟨RX4, "<init>", "()V"⟩
abbrev cX4_tape : ByteArray := prog_1_method_2_code
def yX4_tape : MethodName := ⟨RX4, "tape", "(I)I"⟩
abbrev cX4_stage : ByteArray := prog_1_method_3_code
def yX4_stage : MethodName := ⟨RX4, "stage", "(IIII)I"⟩
abbrev cX4_copy : ByteArray := prog_1_method_4_code
def yX4_copy : MethodName := ⟨RX4, "copy", "(I)I"⟩
abbrev cX4_read : ByteArray := prog_1_method_5_code
def yX4_read : MethodName := ⟨RX4, "read", "(II)I"⟩
abbrev cX4_move : ByteArray := prog_1_method_6_code
def yX4_move : MethodName := ⟨RX4, "move", "(III)I"⟩
abbrev cX4_salvage : ByteArray := prog_1_method_7_code
def yX4_salvage : MethodName := ⟨RX4, "salvage", "(I)I"⟩
abbrev cX4_scan : ByteArray := prog_1_method_8_code
def yX4_scan : MethodName := ⟨RX4, "scan", "(I)I"⟩
abbrev cX4_lose : ByteArray := prog_1_method_9_code
def yX4_lose : MethodName := ⟨RX4, "lose", "(I)I"⟩
abbrev cX4_damage : ByteArray := prog_1_method_10_code
def yX4_damage : MethodName := ⟨RX4, "damage", "(III)I"⟩
abbrev cX4_jam : ByteArray := prog_1_method_11_code
def yX4_jam : MethodName := ⟨RX4, "jam", "(II)I"⟩
abbrev cX4_fix : ByteArray := prog_1_method_12_code
def yX4_fix : MethodName := ⟨RX4, "fix", "(I)I"⟩
abbrev cX4_power : ByteArray := prog_1_method_13_code
def yX4_power : MethodName := ⟨RX4, "power", "(I)I"⟩
abbrev cX4_place : ByteArray := prog_1_method_14_code
def yX4_place : MethodName := ⟨RX4, "place", "(II)I"⟩
abbrev cX4_block : ByteArray := prog_1_method_15_code
def yX4_block : MethodName := ⟨RX4, "block", "(III)I"⟩
abbrev cX4_tapeTold : ByteArray := prog_1_method_16_code
def yX4_tapeTold : MethodName := ⟨RX4, "tapeTold", "(II)I"⟩
abbrev cX4_driveTold : ByteArray := prog_1_method_17_code
def yX4_driveTold : MethodName := ⟨RX4, "driveTold", "(II)I"⟩
abbrev cX4_told : ByteArray := prog_1_method_18_code
def yX4_told : MethodName := ⟨RX4, "told", "(I)I"⟩
abbrev cX4_fold : ByteArray := prog_1_method_19_code
def yX4_fold : MethodName := ⟨RX4, "fold", "()I"⟩
abbrev cX4_isName : ByteArray := prog_1_method_20_code
def yX4_isName : MethodName := ⟨RX4, "isName", "(I)Z"⟩
abbrev cX4_isPlace : ByteArray := prog_1_method_21_code
def yX4_isPlace : MethodName := ⟨RX4, "isPlace", "(I)Z"⟩
abbrev cX4_isHome : ByteArray := prog_1_method_22_code
def yX4_isHome : MethodName := ⟨RX4, "isHome", "(I)Z"⟩
abbrev cX4_findTape : ByteArray := prog_1_method_23_code
def yX4_findTape : MethodName := ⟨RX4, "findTape", "(I)LTapeVault$Tape;"⟩
abbrev cX4_findDrive : ByteArray := prog_1_method_24_code
def yX4_findDrive : MethodName := ⟨RX4, "findDrive", "(I)LTapeVault$Drive;"⟩
abbrev cX4_counted : ByteArray := prog_1_method_25_code
def yX4_counted : MethodName := ⟨RX4, "counted", "(I)I"⟩
abbrev cX4_nearestDrive : ByteArray := prog_1_method_26_code
def yX4_nearestDrive : MethodName := ⟨RX4, "nearestDrive", "(LTapeVault$Tape;)LTapeVault$Drive;"⟩
abbrev cX4_copyJob : ByteArray := prog_1_method_27_code
def yX4_copyJob : MethodName := ⟨RX4, "copyJob", "(LTapeVault$Tape;)I"⟩
abbrev cX4_writeStaged : ByteArray := prog_1_method_28_code
def yX4_writeStaged : MethodName := ⟨RX4, "writeStaged", "(LTapeVault$Drive;I)I"⟩
abbrev cX4_readJob : ByteArray := prog_1_method_29_code
def yX4_readJob : MethodName := ⟨RX4, "readJob", "(LTapeVault$Tape;I)I"⟩
abbrev cX4_readFile : ByteArray := prog_1_method_30_code
def yX4_readFile : MethodName := ⟨RX4, "readFile", "(LTapeVault$Drive;LTapeVault$Blocks;I)I"⟩
abbrev cX4_moveJob : ByteArray := prog_1_method_31_code
def yX4_moveJob : MethodName := ⟨RX4, "moveJob", "(LTapeVault$Tape;ILTapeVault$Tape;)I"⟩
abbrev cX4_moveInto : ByteArray := prog_1_method_32_code
def yX4_moveInto : MethodName := ⟨RX4, "moveInto", "(LTapeVault$Tape;LTapeVault$Drive;LTapeVault$Blocks;I)I"⟩
abbrev cX4_moveBlocks : ByteArray := prog_1_method_33_code
def yX4_moveBlocks : MethodName := ⟨RX4, "moveBlocks", "(LTapeVault$Drive;LTapeVault$Blocks;ILTapeVault$Drive;I)I"⟩
abbrev cX4_scanJob : ByteArray := prog_1_method_34_code
def yX4_scanJob : MethodName := ⟨RX4, "scanJob", "(LTapeVault$Tape;)I"⟩
def RX5 : String := "TapeVaultModel"
def TX5 : u_T := fun k => match k with
  | 0 => ("TapeVaultModel", "tapes", "I", false)
  | 1 => ("TapeVaultModel", "home", "[I", true)
  | 2 => ("TapeVaultModel", "end", "[I", true)
  | 3 => ("TapeVaultModel", "mounts", "[I", true)
  | 4 => ("TapeVaultModel", "wear", "[I", true)
  | 5 => ("TapeVaultModel", "kind", "[I", true)
  | 6 => ("TapeVaultModel", "number", "[I", true)
  | 7 => ("TapeVaultModel", "size", "[I", true)
  | 8 => ("TapeVaultModel", "damaged", "[Z", true)
  | 9 => ("TapeVaultModel", "known", "[I", true)
  | 10 => ("TapeVaultModel", "taken", "[Z", true)
  | 11 => ("TapeVaultModel", "jammed", "[Z", true)
  | 12 => ("TapeVaultModel", "jamsIn", "[I", true)
  | 13 => ("TapeVaultModel", "uses", "[I", true)
  | 14 => ("TapeVaultModel", "blocks", "[I", true)
  | 15 => ("TapeVaultModel", "drive", "[I", true)
  | 16 => ("TapeVaultModel", "tapeIn", "[I", true)
  | 17 => ("TapeVaultModel", "carried", "[I", true)
  | 18 => ("TapeVaultModel", "stood", "[Z", true)
  | 19 => ("TapeVaultModel", "stands", "[I", true)
  | 20 => ("TapeVaultModel", "stageName", "I", false)
  | 21 => ("TapeVaultModel", "stageSize", "I", false)
  | 22 => ("TapeVaultModel", "seed", "I", false)
  | 23 => ("TapeVaultModel", "step", "I", false)
  | 24 => ("TapeVaultModel", "fold", "I", false)
  | 25 => ("TapeVaultModel", "clock", "I", false)
  | 26 => ("TapeVaultModel", "care", "I", false)
  | 27 => ("TapeVaultModel", "jobs", "I", false)
  | 28 => ("TapeVaultModel", "failed", "I", false)
  | 29 => ("TapeVaultModel", "power", "I", false)
  | _ => ("TapeVaultModel", "why", "I", false)
def tyX5 : Nat → FieldType := fun k => match k with
  | 0 => .int
  | 1 => .array .int
  | 2 => .array .int
  | 3 => .array .int
  | 4 => .array .int
  | 5 => .array .int
  | 6 => .array .int
  | 7 => .array .int
  | 8 => .array .boolean
  | 9 => .array .int
  | 10 => .array .boolean
  | 11 => .array .boolean
  | 12 => .array .int
  | 13 => .array .int
  | 14 => .array .int
  | 15 => .array .int
  | 16 => .array .int
  | 17 => .array .int
  | 18 => .array .boolean
  | 19 => .array .int
  | 20 => .int
  | 21 => .int
  | 22 => .int
  | 23 => .int
  | 24 => .int
  | 25 => .int
  | 26 => .int
  | 27 => .int
  | 28 => .int
  | 29 => .int
  | _ => .int
abbrev wsX50 : List Cond := u_ws RX5 TX5 31
theorem nmX5 : ∀ a, a < 31 → ∀ b, b < 31 → a ≠ b → (TX5 a).2.1 ≠ (TX5 b).2.1 := by decide +kernel
theorem tyX5_ok : ∀ k, k < 31 → parseFieldDescriptor (TX5 k).2.2.1 = some (tyX5 k) := by decide +kernel
abbrev cX5_init : ByteArray := prog_7_method_1_code
def yX5_init : MethodName := ⟨RX5, "<init>", "()V"⟩
abbrev cX5_in : ByteArray := prog_7_method_2_code
def yX5_in : MethodName := ⟨RX5, "in", "(III)Z"⟩
abbrev cX5_isTape : ByteArray := prog_7_method_3_code
def yX5_isTape : MethodName := ⟨RX5, "isTape", "(I)Z"⟩
abbrev cX5_isName : ByteArray := prog_7_method_4_code
def yX5_isName : MethodName := ⟨RX5, "isName", "(I)Z"⟩
abbrev cX5_work : ByteArray := prog_7_method_5_code
def yX5_work : MethodName := ⟨RX5, "work", "()Z"⟩
abbrev cX5_distance : ByteArray := prog_7_method_6_code
def yX5_distance : MethodName := ⟨RX5, "distance", "(II)I"⟩
abbrev cX5_mount : ByteArray := prog_7_method_7_code
def yX5_mount : MethodName := ⟨RX5, "mount", "(II)V"⟩
abbrev cX5_unmount : ByteArray := prog_7_method_8_code
def yX5_unmount : MethodName := ⟨RX5, "unmount", "(I)V"⟩
abbrev cX5_wind : ByteArray := prog_7_method_9_code
def yX5_wind : MethodName := ⟨RX5, "wind", "(II)V"⟩
abbrev cX5_pass : ByteArray := prog_7_method_10_code
def yX5_pass : MethodName := ⟨RX5, "pass", "(IZ)V"⟩
abbrev cX5_put : ByteArray := prog_7_method_11_code
def yX5_put : MethodName := ⟨RX5, "put", "(IIIII)V"⟩
abbrev cX5_write : ByteArray := prog_7_method_12_code
def yX5_write : MethodName := ⟨RX5, "write", "(IIII)V"⟩
abbrev cX5_take : ByteArray := prog_7_method_13_code
def yX5_take : MethodName := ⟨RX5, "take", "(I)I"⟩
abbrev cX5_close : ByteArray := prog_7_method_14_code
def yX5_close : MethodName := ⟨RX5, "close", "(II)V"⟩
abbrev cX5_begin : ByteArray := prog_7_method_15_code
def yX5_begin : MethodName := ⟨RX5, "begin", "()V"⟩
abbrev cX5_ended : ByteArray := prog_7_method_16_code
def yX5_ended : MethodName := ⟨RX5, "ended", "(I)I"⟩
abbrev cX5_tape : ByteArray := prog_7_method_17_code
def yX5_tape : MethodName := ⟨RX5, "tape", "(I)I"⟩
abbrev cX5_stage : ByteArray := prog_7_method_18_code
def yX5_stage : MethodName := ⟨RX5, "stage", "(IIII)I"⟩
abbrev cX5_copy : ByteArray := prog_7_method_19_code
def yX5_copy : MethodName := ⟨RX5, "copy", "(I)I"⟩
abbrev cX5_readFile : ByteArray := prog_7_method_20_code
def yX5_readFile : MethodName := ⟨RX5, "readFile", "(II)I"⟩
abbrev cX5_read : ByteArray := prog_7_method_21_code
def yX5_read : MethodName := ⟨RX5, "read", "(II)I"⟩
abbrev cX5_move : ByteArray := prog_7_method_22_code
def yX5_move : MethodName := ⟨RX5, "move", "(III)I"⟩
abbrev cX5_salvage : ByteArray := prog_7_method_23_code
def yX5_salvage : MethodName := ⟨RX5, "salvage", "(I)I"⟩
abbrev cX5_isFile : ByteArray := prog_7_method_24_code
def yX5_isFile : MethodName := ⟨RX5, "isFile", "(II)Z"⟩
abbrev cX5_scan : ByteArray := prog_7_method_25_code
def yX5_scan : MethodName := ⟨RX5, "scan", "(I)I"⟩
abbrev cX5_forget : ByteArray := prog_7_method_26_code
def yX5_forget : MethodName := ⟨RX5, "forget", "(I)I"⟩
abbrev cX5_lose : ByteArray := prog_7_method_27_code
def yX5_lose : MethodName := ⟨RX5, "lose", "(I)I"⟩
abbrev cX5_damage : ByteArray := prog_7_method_28_code
def yX5_damage : MethodName := ⟨RX5, "damage", "(III)I"⟩
abbrev cX5_jam : ByteArray := prog_7_method_29_code
def yX5_jam : MethodName := ⟨RX5, "jam", "(II)I"⟩
abbrev cX5_fix : ByteArray := prog_7_method_30_code
def yX5_fix : MethodName := ⟨RX5, "fix", "(I)I"⟩
abbrev cX5_power : ByteArray := prog_7_method_31_code
def yX5_power : MethodName := ⟨RX5, "power", "(I)I"⟩
abbrev cX5_place : ByteArray := prog_7_method_32_code
def yX5_place : MethodName := ⟨RX5, "place", "(II)I"⟩
abbrev cX5_block : ByteArray := prog_7_method_33_code
def yX5_block : MethodName := ⟨RX5, "block", "(III)I"⟩
abbrev cX5_tapeTold : ByteArray := prog_7_method_34_code
def yX5_tapeTold : MethodName := ⟨RX5, "tapeTold", "(II)I"⟩
abbrev cX5_driveTold : ByteArray := prog_7_method_35_code
def yX5_driveTold : MethodName := ⟨RX5, "driveTold", "(II)I"⟩
abbrev cX5_told : ByteArray := prog_7_method_36_code
def yX5_told : MethodName := ⟨RX5, "told", "(I)I"⟩
abbrev cX5_fold : ByteArray := prog_7_method_37_code
def yX5_fold : MethodName := ⟨RX5, "fold", "()I"⟩
def RJ9 : String := "java/lang/Math"
def TJ9 : u_T := fun k => match k with
  | _ => ("", "", "", false)
def tyJ9 : Nat → FieldType := fun k => match k with
  | _ => .int
abbrev wsJ90 : List Cond := u_ws RJ9 TJ9 0
theorem nmJ9 : ∀ a, a < 0 → ∀ b, b < 0 → a ≠ b → (TJ9 a).2.1 ≠ (TJ9 b).2.1 := by decide +kernel
theorem tyJ9_ok : ∀ k, k < 0 → parseFieldDescriptor (TJ9 k).2.2.1 = some (tyJ9 k) := by decide +kernel
abbrev cJ9_abs_0f7a4 : ByteArray := prog_8_method_59_code
def yJ9_abs_0f7a4 : MethodName := ⟨RJ9, "abs", "(I)I"⟩
def RL : String := "TapeVaultLaw"
abbrev cL_law : ByteArray := code
def yL_law : MethodName := ⟨RL, "law", "([I)Z"⟩
abbrev vwCl : List vw_C := [(RX0, TX0, 4), (RX1, TX1, 9), (RX2, TX2, 3), (RX3, TX3, 6), (RX4, TX4, 8), (RX5, TX5, 31)]
abbrev vwCl0 : Nat := 0
/-- the words that every method here may use -/
def TT : List Cond := lw_tbl.filter goodWord
theorem mTT {w : Cond} (i : Nat) (h : lw_tbl[i]? = some w) (g : goodWord w = true) : w ∈ TT := List.mem_filter.mpr ⟨List.mem_of_getElem? h, g⟩
theorem TT_good : GoodIn TT TT := fun w h => ⟨h, good_of_word (List.mem_filter.mp h).2⟩
theorem TT_tbl {w : Cond} (h : w ∈ TT) : w ∈ lw_tbl := (List.mem_filter.mp h).1
theorem mS_X4_isHome : Cond.selects RX4 yX4_isHome yX4_isHome ∈ TT := mTT 0 (by decide +kernel) rfl
theorem mS_X4_findTape : Cond.selects RX4 yX4_findTape yX4_findTape ∈ TT := mTT 1 (by decide +kernel) rfl
theorem mS_X4_copyJob : Cond.selects RX4 yX4_copyJob yX4_copyJob ∈ TT := mTT 2 (by decide +kernel) rfl
theorem mS_X4_nearestDrive : Cond.selects RX4 yX4_nearestDrive yX4_nearestDrive ∈ TT := mTT 3 (by decide +kernel) rfl
theorem mS_X4_writeStaged : Cond.selects RX4 yX4_writeStaged yX4_writeStaged ∈ TT := mTT 4 (by decide +kernel) rfl
theorem mS_X4_counted : Cond.selects RX4 yX4_counted yX4_counted ∈ TT := mTT 5 (by decide +kernel) rfl
theorem mS_X4_readJob : Cond.selects RX4 yX4_readJob yX4_readJob ∈ TT := mTT 6 (by decide +kernel) rfl
theorem mS_X4_readFile : Cond.selects RX4 yX4_readFile yX4_readFile ∈ TT := mTT 7 (by decide +kernel) rfl
theorem mS_X4_moveJob : Cond.selects RX4 yX4_moveJob yX4_moveJob ∈ TT := mTT 8 (by decide +kernel) rfl
theorem mS_X4_moveInto : Cond.selects RX4 yX4_moveInto yX4_moveInto ∈ TT := mTT 9 (by decide +kernel) rfl
theorem mS_X4_moveBlocks : Cond.selects RX4 yX4_moveBlocks yX4_moveBlocks ∈ TT := mTT 10 (by decide +kernel) rfl
theorem mS_X4_scanJob : Cond.selects RX4 yX4_scanJob yX4_scanJob ∈ TT := mTT 11 (by decide +kernel) rfl
theorem mS_X4_findDrive : Cond.selects RX4 yX4_findDrive yX4_findDrive ∈ TT := mTT 12 (by decide +kernel) rfl
theorem mS_X5_isTape : Cond.selects RX5 yX5_isTape yX5_isTape ∈ TT := mTT 13 (by decide +kernel) rfl
theorem mS_X5_begin : Cond.selects RX5 yX5_begin yX5_begin ∈ TT := mTT 14 (by decide +kernel) rfl
theorem mS_X5_mount : Cond.selects RX5 yX5_mount yX5_mount ∈ TT := mTT 15 (by decide +kernel) rfl
theorem mS_X5_work : Cond.selects RX5 yX5_work yX5_work ∈ TT := mTT 16 (by decide +kernel) rfl
theorem mS_X5_wind : Cond.selects RX5 yX5_wind yX5_wind ∈ TT := mTT 17 (by decide +kernel) rfl
theorem mS_X5_write : Cond.selects RX5 yX5_write yX5_write ∈ TT := mTT 18 (by decide +kernel) rfl
theorem mS_X5_pass : Cond.selects RX5 yX5_pass yX5_pass ∈ TT := mTT 19 (by decide +kernel) rfl
theorem mS_X5_put : Cond.selects RX5 yX5_put yX5_put ∈ TT := mTT 20 (by decide +kernel) rfl
theorem mS_X5_close : Cond.selects RX5 yX5_close yX5_close ∈ TT := mTT 21 (by decide +kernel) rfl
theorem mS_X5_unmount : Cond.selects RX5 yX5_unmount yX5_unmount ∈ TT := mTT 22 (by decide +kernel) rfl
theorem mS_X5_ended : Cond.selects RX5 yX5_ended yX5_ended ∈ TT := mTT 23 (by decide +kernel) rfl
theorem mS_X5_readFile : Cond.selects RX5 yX5_readFile yX5_readFile ∈ TT := mTT 24 (by decide +kernel) rfl
theorem mS_X5_take : Cond.selects RX5 yX5_take yX5_take ∈ TT := mTT 25 (by decide +kernel) rfl
theorem mS_X5_forget : Cond.selects RX5 yX5_forget yX5_forget ∈ TT := mTT 26 (by decide +kernel) rfl
theorem mS_X5_isFile : Cond.selects RX5 yX5_isFile yX5_isFile ∈ TT := mTT 27 (by decide +kernel) rfl
theorem mN_L : Cond.initialized RL ∈ TT := mTT 28 (by decide +kernel) rfl
theorem mN_X4 : Cond.initialized RX4 ∈ TT := mTT 29 (by decide +kernel) rfl
theorem mN_X2 : Cond.initialized RX2 ∈ TT := mTT 30 (by decide +kernel) rfl
theorem mN_X1 : Cond.initialized RX1 ∈ TT := mTT 31 (by decide +kernel) rfl
theorem mN_X0 : Cond.initialized RX0 ∈ TT := mTT 32 (by decide +kernel) rfl
theorem mN_X5 : Cond.initialized RX5 ∈ TT := mTT 33 (by decide +kernel) rfl
theorem mN_X3 : Cond.initialized RX3 ∈ TT := mTT 34 (by decide +kernel) rfl
theorem mN_J9 : Cond.initialized RJ9 ∈ TT := mTT 35 (by decide +kernel) rfl
theorem mK_L_7 : Cond.classLink RL 7 RX4 ∈ TT := mTT 36 (by decide +kernel) rfl
theorem mB_X4 : Cond.instantiable RX4 8 ∈ TT := mTT 37 (by decide +kernel) rfl
theorem mM_L_9 : Cond.methodLink RL 9 yX4_init ∈ TT := mTT 38 (by decide +kernel) rfl
theorem mI_X4_init : Cond.instanceMethod yX4_init ∈ TT := mTT 39 (by decide +kernel) rfl
theorem mC_X4_init : Cond.code yX4_init cX4_init 2 none ∈ TT := mTT 40 (by decide +kernel) rfl
theorem mM_X4_1 : Cond.methodLink RX4 1 objectInit ∈ TT := mTT 41 (by decide +kernel) rfl
theorem mI_objectInit : Cond.instanceMethod objectInit ∈ TT := mTT 42 (by decide +kernel) rfl
theorem mC_objectInit : Cond.code objectInit object_method_1_code 1 none ∈ TT := mTT 43 (by decide +kernel) rfl
theorem mK_X4_7 : Cond.classLink RX4 7 RX2 ∈ TT := mTT 44 (by decide +kernel) rfl
theorem mB_X2 : Cond.instantiable RX2 3 ∈ TT := mTT 45 (by decide +kernel) rfl
theorem mI_X2_init : Cond.instanceMethod yX2_init ∈ TT := mTT 47 (by decide +kernel) rfl
theorem mC_X2_init : Cond.code yX2_init cX2_init 1 none ∈ TT := mTT 48 (by decide +kernel) rfl
theorem mM_X2_3 : Cond.methodLink RX2 3 objectInit ∈ TT := mTT 49 (by decide +kernel) rfl
theorem mF_X2_15 : Cond.fieldLink RX2 15 (TX2 0).1 (TX2 0).2.1 (TX2 0).2.2.1 ∈ TT := mTT 50 (by decide +kernel) rfl
theorem mF_X4_147 : Cond.fieldLink RX4 147 (TX2 0).1 (TX2 0).2.1 (TX2 0).2.2.1 ∈ TT := mTT 51 (by decide +kernel) rfl
theorem mF_X1_103 : Cond.fieldLink RX1 103 (TX2 1).1 (TX2 1).2.1 (TX2 1).2.2.1 ∈ TT := mTT 52 (by decide +kernel) rfl
theorem mF_X4_150 : Cond.fieldLink RX4 150 (TX2 1).1 (TX2 1).2.1 (TX2 1).2.2.1 ∈ TT := mTT 53 (by decide +kernel) rfl
theorem mF_X2_9 : Cond.fieldLink RX2 9 (TX2 2).1 (TX2 2).2.1 (TX2 2).2.2.1 ∈ TT := mTT 54 (by decide +kernel) rfl
theorem mF_X4_114 : Cond.fieldLink RX4 114 (TX2 2).1 (TX2 2).2.1 (TX2 2).2.2.1 ∈ TT := mTT 55 (by decide +kernel) rfl
theorem mK_X4_16 : Cond.classLink RX4 16 RX1 ∈ TT := mTT 63 (by decide +kernel) rfl
theorem mB_X1 : Cond.instantiable RX1 9 ∈ TT := mTT 65 (by decide +kernel) rfl
theorem mM_X4_22 : Cond.methodLink RX4 22 yX1_init ∈ TT := mTT 66 (by decide +kernel) rfl
theorem mI_X1_init : Cond.instanceMethod yX1_init ∈ TT := mTT 67 (by decide +kernel) rfl
theorem mC_X1_init : Cond.code yX1_init cX1_init 3 none ∈ TT := mTT 68 (by decide +kernel) rfl
theorem mM_X1_3 : Cond.methodLink RX1 3 objectInit ∈ TT := mTT 69 (by decide +kernel) rfl
theorem mF_X1_15 : Cond.fieldLink RX1 15 (TX1 0).1 (TX1 0).2.1 (TX1 0).2.2.1 ∈ TT := mTT 70 (by decide +kernel) rfl
theorem mF_X1_18 : Cond.fieldLink RX1 18 (TX1 1).1 (TX1 1).2.1 (TX1 1).2.2.1 ∈ TT := mTT 71 (by decide +kernel) rfl
theorem mF_X1_57 : Cond.fieldLink RX1 57 (TX1 2).1 (TX1 2).2.1 (TX1 2).2.2.1 ∈ TT := mTT 72 (by decide +kernel) rfl
theorem mF_X4_141 : Cond.fieldLink RX4 141 (TX1 2).1 (TX1 2).2.1 (TX1 2).2.2.1 ∈ TT := mTT 73 (by decide +kernel) rfl
theorem mF_X1_63 : Cond.fieldLink RX1 63 (TX1 3).1 (TX1 3).2.1 (TX1 3).2.2.1 ∈ TT := mTT 74 (by decide +kernel) rfl
theorem mF_X4_144 : Cond.fieldLink RX4 144 (TX1 3).1 (TX1 3).2.1 (TX1 3).2.2.1 ∈ TT := mTT 75 (by decide +kernel) rfl
theorem mF_X1_22 : Cond.fieldLink RX1 22 (TX1 4).1 (TX1 4).2.1 (TX1 4).2.2.1 ∈ TT := mTT 76 (by decide +kernel) rfl
theorem mF_X4_106 : Cond.fieldLink RX4 106 (TX1 4).1 (TX1 4).2.1 (TX1 4).2.2.1 ∈ TT := mTT 77 (by decide +kernel) rfl
theorem mF_X1_9 : Cond.fieldLink RX1 9 (TX1 5).1 (TX1 5).2.1 (TX1 5).2.2.1 ∈ TT := mTT 78 (by decide +kernel) rfl
theorem mF_X4_110 : Cond.fieldLink RX4 110 (TX1 5).1 (TX1 5).2.1 (TX1 5).2.2.1 ∈ TT := mTT 79 (by decide +kernel) rfl
theorem mF_X1_26 : Cond.fieldLink RX1 26 (TX1 6).1 (TX1 6).2.1 (TX1 6).2.2.1 ∈ TT := mTT 80 (by decide +kernel) rfl
theorem mF_X1_48 : Cond.fieldLink RX1 48 (TX1 7).1 (TX1 7).2.1 (TX1 7).2.2.1 ∈ TT := mTT 81 (by decide +kernel) rfl
theorem mF_X1_41 : Cond.fieldLink RX1 41 (TX1 8).1 (TX1 8).2.1 (TX1 8).2.2.1 ∈ TT := mTT 82 (by decide +kernel) rfl
theorem mK_X4_25 : Cond.classLink RX4 25 RX3 ∈ TT := mTT 102 (by decide +kernel) rfl
theorem mK_X4_31 : Cond.classLink RX4 31 RX0 ∈ TT := mTT 104 (by decide +kernel) rfl
theorem mB_X0 : Cond.instantiable RX0 4 ∈ TT := mTT 105 (by decide +kernel) rfl
theorem mM_X4_33 : Cond.methodLink RX4 33 yX0_init ∈ TT := mTT 106 (by decide +kernel) rfl
theorem mI_X0_init : Cond.instanceMethod yX0_init ∈ TT := mTT 107 (by decide +kernel) rfl
theorem mC_X0_init : Cond.code yX0_init cX0_init 2 none ∈ TT := mTT 108 (by decide +kernel) rfl
theorem mM_X0_1 : Cond.methodLink RX0 1 objectInit ∈ TT := mTT 109 (by decide +kernel) rfl
theorem mF_X0_7 : Cond.fieldLink RX0 7 (TX0 0).1 (TX0 0).2.1 (TX0 0).2.2.1 ∈ TT := mTT 110 (by decide +kernel) rfl
theorem mF_X0_13 : Cond.fieldLink RX0 13 (TX0 1).1 (TX0 1).2.1 (TX0 1).2.2.1 ∈ TT := mTT 111 (by decide +kernel) rfl
theorem mF_X0_16 : Cond.fieldLink RX0 16 (TX0 2).1 (TX0 2).2.1 (TX0 2).2.2.1 ∈ TT := mTT 112 (by decide +kernel) rfl
theorem mF_X0_19 : Cond.fieldLink RX0 19 (TX0 3).1 (TX0 3).2.1 (TX0 3).2.2.1 ∈ TT := mTT 113 (by decide +kernel) rfl
theorem mF_X3_31 : Cond.fieldLink RX3 31 (TX0 3).1 (TX0 3).2.1 (TX0 3).2.2.1 ∈ TT := mTT 114 (by decide +kernel) rfl
theorem mF_X4_66 : Cond.fieldLink RX4 66 (TX0 3).1 (TX0 3).2.1 (TX0 3).2.2.1 ∈ TT := mTT 115 (by decide +kernel) rfl
theorem mF_X1_96 : Cond.fieldLink RX1 96 (TX0 3).1 (TX0 3).2.1 (TX0 3).2.2.1 ∈ TT := mTT 116 (by decide +kernel) rfl
theorem mA_126 : Cond.arrayClass FieldType.int ∈ TT := mTT 126 (by decide +kernel) rfl
theorem mF_X4_10 : Cond.fieldLink RX4 10 (TX4 0).1 (TX4 0).2.1 (TX4 0).2.2.1 ∈ TT := mTT 127 (by decide +kernel) rfl
theorem mF_X4_18 : Cond.fieldLink RX4 18 (TX4 1).1 (TX4 1).2.1 (TX4 1).2.2.1 ∈ TT := mTT 128 (by decide +kernel) rfl
theorem mF_X4_27 : Cond.fieldLink RX4 27 (TX4 2).1 (TX4 2).2.1 (TX4 2).2.2.1 ∈ TT := mTT 129 (by decide +kernel) rfl
theorem mF_X4_36 : Cond.fieldLink RX4 36 (TX4 3).1 (TX4 3).2.1 (TX4 3).2.2.1 ∈ TT := mTT 130 (by decide +kernel) rfl
theorem mF_X4_48 : Cond.fieldLink RX4 48 (TX4 4).1 (TX4 4).2.1 (TX4 4).2.2.1 ∈ TT := mTT 131 (by decide +kernel) rfl
theorem mF_X4_153 : Cond.fieldLink RX4 153 (TX4 5).1 (TX4 5).2.1 (TX4 5).2.2.1 ∈ TT := mTT 132 (by decide +kernel) rfl
theorem mF_X4_156 : Cond.fieldLink RX4 156 (TX4 6).1 (TX4 6).2.1 (TX4 6).2.2.1 ∈ TT := mTT 133 (by decide +kernel) rfl
theorem mF_X4_40 : Cond.fieldLink RX4 40 (TX4 7).1 (TX4 7).2.1 (TX4 7).2.2.1 ∈ TT := mTT 134 (by decide +kernel) rfl
theorem mM_L_13 : Cond.methodLink RL 13 yX4_tape ∈ TT := mTT 152 (by decide +kernel) rfl
theorem mI_X4_tape : Cond.instanceMethod yX4_tape ∈ TT := mTT 153 (by decide +kernel) rfl
theorem mS_X4_tape : Cond.selects RX4 yX4_tape yX4_tape ∈ TT := mTT 154 (by decide +kernel) rfl
theorem mC_X4_tape : Cond.code yX4_tape cX4_tape 2 (Option.some FieldType.int) ∈ TT := mTT 155 (by decide +kernel) rfl
theorem mM_X4_44 : Cond.methodLink RX4 44 yX4_isHome ∈ TT := mTT 156 (by decide +kernel) rfl
theorem mI_X4_isHome : Cond.instanceMethod yX4_isHome ∈ TT := mTT 158 (by decide +kernel) rfl
theorem mC_X4_isHome : Cond.code yX4_isHome cX4_isHome 3 (Option.some FieldType.boolean) ∈ TT := mTT 159 (by decide +kernel) rfl
theorem mB_X3 : Cond.instantiable RX3 6 ∈ TT := mTT 160 (by decide +kernel) rfl
theorem mM_X4_51 : Cond.methodLink RX4 51 yX3_init ∈ TT := mTT 161 (by decide +kernel) rfl
theorem mI_X3_init : Cond.instanceMethod yX3_init ∈ TT := mTT 162 (by decide +kernel) rfl
theorem mC_X3_init : Cond.code yX3_init cX3_init 2 none ∈ TT := mTT 163 (by decide +kernel) rfl
theorem mM_X3_3 : Cond.methodLink RX3 3 objectInit ∈ TT := mTT 164 (by decide +kernel) rfl
theorem mK_X3_9 : Cond.classLink RX3 9 RX0 ∈ TT := mTT 165 (by decide +kernel) rfl
theorem mM_X3_11 : Cond.methodLink RX3 11 yX0_init ∈ TT := mTT 166 (by decide +kernel) rfl
theorem mF_X3_27 : Cond.fieldLink RX3 27 (TX3 0).1 (TX3 0).2.1 (TX3 0).2.2.1 ∈ TT := mTT 167 (by decide +kernel) rfl
theorem mF_X1_30 : Cond.fieldLink RX1 30 (TX3 0).1 (TX3 0).2.1 (TX3 0).2.2.1 ∈ TT := mTT 168 (by decide +kernel) rfl
theorem mF_X4_132 : Cond.fieldLink RX4 132 (TX3 0).1 (TX3 0).2.1 (TX3 0).2.2.1 ∈ TT := mTT 169 (by decide +kernel) rfl
theorem mF_X3_14 : Cond.fieldLink RX3 14 (TX3 1).1 (TX3 1).2.1 (TX3 1).2.2.1 ∈ TT := mTT 170 (by decide +kernel) rfl
theorem mF_X1_74 : Cond.fieldLink RX1 74 (TX3 1).1 (TX3 1).2.1 (TX3 1).2.2.1 ∈ TT := mTT 171 (by decide +kernel) rfl
theorem mF_X4_117 : Cond.fieldLink RX4 117 (TX3 1).1 (TX3 1).2.1 (TX3 1).2.2.1 ∈ TT := mTT 172 (by decide +kernel) rfl
theorem mF_X3_20 : Cond.fieldLink RX3 20 (TX3 2).1 (TX3 2).2.1 (TX3 2).2.2.1 ∈ TT := mTT 173 (by decide +kernel) rfl
theorem mF_X3_24 : Cond.fieldLink RX3 24 (TX3 3).1 (TX3 3).2.1 (TX3 3).2.2.1 ∈ TT := mTT 174 (by decide +kernel) rfl
theorem mF_X1_60 : Cond.fieldLink RX1 60 (TX3 4).1 (TX3 4).2.1 (TX3 4).2.2.1 ∈ TT := mTT 175 (by decide +kernel) rfl
theorem mF_X4_135 : Cond.fieldLink RX4 135 (TX3 4).1 (TX3 4).2.1 (TX3 4).2.2.1 ∈ TT := mTT 176 (by decide +kernel) rfl
theorem mF_X1_109 : Cond.fieldLink RX1 109 (TX3 5).1 (TX3 5).2.1 (TX3 5).2.2.1 ∈ TT := mTT 177 (by decide +kernel) rfl
theorem mF_X4_138 : Cond.fieldLink RX4 138 (TX3 5).1 (TX3 5).2.1 (TX3 5).2.2.1 ∈ TT := mTT 178 (by decide +kernel) rfl
theorem mA_192 : Cond.arrayClass FieldType.boolean ∈ TT := mTT 192 (by decide +kernel) rfl
theorem mM_L_18 : Cond.methodLink RL 18 yX4_stage ∈ TT := mTT 193 (by decide +kernel) rfl
theorem mI_X4_stage : Cond.instanceMethod yX4_stage ∈ TT := mTT 194 (by decide +kernel) rfl
theorem mS_X4_stage : Cond.selects RX4 yX4_stage yX4_stage ∈ TT := mTT 195 (by decide +kernel) rfl
theorem mC_X4_stage : Cond.code yX4_stage cX4_stage 6 (Option.some FieldType.int) ∈ TT := mTT 196 (by decide +kernel) rfl
theorem mM_X4_52 : Cond.methodLink RX4 52 yX4_isName ∈ TT := mTT 197 (by decide +kernel) rfl
theorem mT_X4_isName : Cond.static yX4_isName ∈ TT := mTT 198 (by decide +kernel) rfl
theorem mC_X4_isName : Cond.code yX4_isName cX4_isName 1 (Option.some FieldType.boolean) ∈ TT := mTT 199 (by decide +kernel) rfl
theorem mM_X4_55 : Cond.methodLink RX4 55 yX0_clear ∈ TT := mTT 200 (by decide +kernel) rfl
theorem mI_X0_clear : Cond.instanceMethod yX0_clear ∈ TT := mTT 201 (by decide +kernel) rfl
theorem mS_X0_clear : Cond.selects RX0 yX0_clear yX0_clear ∈ TT := mTT 202 (by decide +kernel) rfl
theorem mC_X0_clear : Cond.code yX0_clear cX0_clear 1 none ∈ TT := mTT 203 (by decide +kernel) rfl
theorem mM_X4_58 : Cond.methodLink RX4 58 yX0_add ∈ TT := mTT 204 (by decide +kernel) rfl
theorem mI_X0_add : Cond.instanceMethod yX0_add ∈ TT := mTT 205 (by decide +kernel) rfl
theorem mS_X0_add : Cond.selects RX0 yX0_add yX0_add ∈ TT := mTT 206 (by decide +kernel) rfl
theorem mC_X0_add : Cond.code yX0_add cX0_add 4 none ∈ TT := mTT 207 (by decide +kernel) rfl
theorem mM_X0_23 : Cond.methodLink RX0 23 yX0_isFull ∈ TT := mTT 208 (by decide +kernel) rfl
theorem mI_X0_isFull : Cond.instanceMethod yX0_isFull ∈ TT := mTT 209 (by decide +kernel) rfl
theorem mS_X0_isFull : Cond.selects RX0 yX0_isFull yX0_isFull ∈ TT := mTT 210 (by decide +kernel) rfl
theorem mC_X0_isFull : Cond.code yX0_isFull cX0_isFull 1 (Option.some FieldType.boolean) ∈ TT := mTT 211 (by decide +kernel) rfl
theorem mM_L_23 : Cond.methodLink RL 23 yX4_copy ∈ TT := mTT 212 (by decide +kernel) rfl
theorem mI_X4_copy : Cond.instanceMethod yX4_copy ∈ TT := mTT 213 (by decide +kernel) rfl
theorem mS_X4_copy : Cond.selects RX4 yX4_copy yX4_copy ∈ TT := mTT 214 (by decide +kernel) rfl
theorem mC_X4_copy : Cond.code yX4_copy cX4_copy 3 (Option.some FieldType.int) ∈ TT := mTT 215 (by decide +kernel) rfl
theorem mM_X4_62 : Cond.methodLink RX4 62 yX4_findTape ∈ TT := mTT 216 (by decide +kernel) rfl
theorem mI_X4_findTape : Cond.instanceMethod yX4_findTape ∈ TT := mTT 218 (by decide +kernel) rfl
theorem mC_X4_findTape : Cond.code yX4_findTape cX4_findTape 2 (Option.some (FieldType.object "TapeVault$Tape")) ∈ TT := mTT 219 (by decide +kernel) rfl
theorem mM_X4_69 : Cond.methodLink RX4 69 yX4_copyJob ∈ TT := mTT 220 (by decide +kernel) rfl
theorem mI_X4_copyJob : Cond.instanceMethod yX4_copyJob ∈ TT := mTT 222 (by decide +kernel) rfl
theorem mC_X4_copyJob : Cond.code yX4_copyJob cX4_copyJob 4 (Option.some FieldType.int) ∈ TT := mTT 223 (by decide +kernel) rfl
theorem mM_X4_166 : Cond.methodLink RX4 166 yX4_nearestDrive ∈ TT := mTT 224 (by decide +kernel) rfl
theorem mI_X4_nearestDrive : Cond.instanceMethod yX4_nearestDrive ∈ TT := mTT 226 (by decide +kernel) rfl
theorem mC_X4_nearestDrive : Cond.code yX4_nearestDrive cX4_nearestDrive 5 (Option.some (FieldType.object "TapeVault$Drive")) ∈ TT := mTT 227 (by decide +kernel) rfl
theorem mM_X4_159 : Cond.methodLink RX4 159 yX1_isReady ∈ TT := mTT 228 (by decide +kernel) rfl
theorem mI_X1_isReady : Cond.instanceMethod yX1_isReady ∈ TT := mTT 229 (by decide +kernel) rfl
theorem mS_X1_isReady : Cond.selects RX1 yX1_isReady yX1_isReady ∈ TT := mTT 230 (by decide +kernel) rfl
theorem mC_X1_isReady : Cond.code yX1_isReady cX1_isReady 1 (Option.some FieldType.boolean) ∈ TT := mTT 231 (by decide +kernel) rfl
theorem mM_X4_163 : Cond.methodLink RX4 163 yX1_distance ∈ TT := mTT 232 (by decide +kernel) rfl
theorem mI_X1_distance : Cond.instanceMethod yX1_distance ∈ TT := mTT 233 (by decide +kernel) rfl
theorem mS_X1_distance : Cond.selects RX1 yX1_distance yX1_distance ∈ TT := mTT 234 (by decide +kernel) rfl
theorem mC_X1_distance : Cond.code yX1_distance cX1_distance 2 (Option.some FieldType.int) ∈ TT := mTT 235 (by decide +kernel) rfl
theorem mM_X1_35 : Cond.methodLink RX1 35 yJ9_abs_0f7a4 ∈ TT := mTT 236 (by decide +kernel) rfl
theorem mT_J9_abs_0f7a4 : Cond.static yJ9_abs_0f7a4 ∈ TT := mTT 237 (by decide +kernel) rfl
theorem mC_J9_abs_0f7a4 : Cond.code yJ9_abs_0f7a4 cJ9_abs_0f7a4 1 (Option.some FieldType.int) ∈ TT := mTT 238 (by decide +kernel) rfl
theorem mM_X4_170 : Cond.methodLink RX4 170 yX1_carry ∈ TT := mTT 239 (by decide +kernel) rfl
theorem mI_X1_carry : Cond.instanceMethod yX1_carry ∈ TT := mTT 240 (by decide +kernel) rfl
theorem mS_X1_carry : Cond.selects RX1 yX1_carry yX1_carry ∈ TT := mTT 241 (by decide +kernel) rfl
theorem mC_X1_carry : Cond.code yX1_carry cX1_carry 3 (Option.some FieldType.int) ∈ TT := mTT 242 (by decide +kernel) rfl
theorem mM_X1_44 : Cond.methodLink RX1 44 yX1_distance ∈ TT := mTT 243 (by decide +kernel) rfl
theorem mM_X1_51 : Cond.methodLink RX1 51 yX2_work ∈ TT := mTT 244 (by decide +kernel) rfl
theorem mI_X2_work : Cond.instanceMethod yX2_work ∈ TT := mTT 245 (by decide +kernel) rfl
theorem mS_X2_work : Cond.selects RX2 yX2_work yX2_work ∈ TT := mTT 246 (by decide +kernel) rfl
theorem mC_X2_work : Cond.code yX2_work cX2_work 1 (Option.some FieldType.boolean) ∈ TT := mTT 247 (by decide +kernel) rfl
theorem mM_X4_173 : Cond.methodLink RX4 173 yX4_writeStaged ∈ TT := mTT 248 (by decide +kernel) rfl
theorem mI_X4_writeStaged : Cond.instanceMethod yX4_writeStaged ∈ TT := mTT 250 (by decide +kernel) rfl
theorem mC_X4_writeStaged : Cond.code yX4_writeStaged cX4_writeStaged 5 (Option.some FieldType.int) ∈ TT := mTT 251 (by decide +kernel) rfl
theorem mM_X4_183 : Cond.methodLink RX4 183 yX1_windTo ∈ TT := mTT 252 (by decide +kernel) rfl
theorem mI_X1_windTo : Cond.instanceMethod yX1_windTo ∈ TT := mTT 253 (by decide +kernel) rfl
theorem mS_X1_windTo : Cond.selects RX1 yX1_windTo yX1_windTo ∈ TT := mTT 254 (by decide +kernel) rfl
theorem mC_X1_windTo : Cond.code yX1_windTo cX1_windTo 2 (Option.some FieldType.int) ∈ TT := mTT 255 (by decide +kernel) rfl
theorem mM_X4_186 : Cond.methodLink RX4 186 yX1_writeBlock ∈ TT := mTT 256 (by decide +kernel) rfl
theorem mI_X1_writeBlock : Cond.instanceMethod yX1_writeBlock ∈ TT := mTT 257 (by decide +kernel) rfl
theorem mS_X1_writeBlock : Cond.selects RX1 yX1_writeBlock yX1_writeBlock ∈ TT := mTT 258 (by decide +kernel) rfl
theorem mC_X1_writeBlock : Cond.code yX1_writeBlock cX1_writeBlock 4 (Option.some FieldType.int) ∈ TT := mTT 259 (by decide +kernel) rfl
theorem mM_X1_78 : Cond.methodLink RX1 78 yX0_isFull ∈ TT := mTT 260 (by decide +kernel) rfl
theorem mM_X1_66 : Cond.methodLink RX1 66 yX1_passBlock ∈ TT := mTT 261 (by decide +kernel) rfl
theorem mI_X1_passBlock : Cond.instanceMethod yX1_passBlock ∈ TT := mTT 262 (by decide +kernel) rfl
theorem mS_X1_passBlock : Cond.selects RX1 yX1_passBlock yX1_passBlock ∈ TT := mTT 263 (by decide +kernel) rfl
theorem mC_X1_passBlock : Cond.code yX1_passBlock cX1_passBlock 1 (Option.some FieldType.int) ∈ TT := mTT 264 (by decide +kernel) rfl
theorem mM_X1_83 : Cond.methodLink RX1 83 yX0_kindAt ∈ TT := mTT 265 (by decide +kernel) rfl
theorem mI_X0_kindAt : Cond.instanceMethod yX0_kindAt ∈ TT := mTT 266 (by decide +kernel) rfl
theorem mS_X0_kindAt : Cond.selects RX0 yX0_kindAt yX0_kindAt ∈ TT := mTT 267 (by decide +kernel) rfl
theorem mC_X0_kindAt : Cond.code yX0_kindAt cX0_kindAt 2 (Option.some FieldType.int) ∈ TT := mTT 268 (by decide +kernel) rfl
theorem mM_X0_27 : Cond.methodLink RX0 27 yX0_has ∈ TT := mTT 269 (by decide +kernel) rfl
theorem mI_X0_has : Cond.instanceMethod yX0_has ∈ TT := mTT 270 (by decide +kernel) rfl
theorem mS_X0_has : Cond.selects RX0 yX0_has yX0_has ∈ TT := mTT 271 (by decide +kernel) rfl
theorem mC_X0_has : Cond.code yX0_has cX0_has 2 (Option.some FieldType.boolean) ∈ TT := mTT 272 (by decide +kernel) rfl
theorem mM_X1_86 : Cond.methodLink RX1 86 yX0_valueAt ∈ TT := mTT 273 (by decide +kernel) rfl
theorem mI_X0_valueAt : Cond.instanceMethod yX0_valueAt ∈ TT := mTT 274 (by decide +kernel) rfl
theorem mS_X0_valueAt : Cond.selects RX0 yX0_valueAt yX0_valueAt ∈ TT := mTT 275 (by decide +kernel) rfl
theorem mC_X0_valueAt : Cond.code yX0_valueAt cX0_valueAt 2 (Option.some FieldType.int) ∈ TT := mTT 276 (by decide +kernel) rfl
theorem mM_X1_89 : Cond.methodLink RX1 89 yX0_sizeAt ∈ TT := mTT 277 (by decide +kernel) rfl
theorem mI_X0_sizeAt : Cond.instanceMethod yX0_sizeAt ∈ TT := mTT 278 (by decide +kernel) rfl
theorem mS_X0_sizeAt : Cond.selects RX0 yX0_sizeAt yX0_sizeAt ∈ TT := mTT 279 (by decide +kernel) rfl
theorem mC_X0_sizeAt : Cond.code yX0_sizeAt cX0_sizeAt 2 (Option.some FieldType.int) ∈ TT := mTT 280 (by decide +kernel) rfl
theorem mM_X1_92 : Cond.methodLink RX1 92 yX0_add ∈ TT := mTT 281 (by decide +kernel) rfl
theorem mM_X4_190 : Cond.methodLink RX4 190 yX1_endWriting ∈ TT := mTT 282 (by decide +kernel) rfl
theorem mI_X1_endWriting : Cond.instanceMethod yX1_endWriting ∈ TT := mTT 283 (by decide +kernel) rfl
theorem mS_X1_endWriting : Cond.selects RX1 yX1_endWriting yX1_endWriting ∈ TT := mTT 284 (by decide +kernel) rfl
theorem mC_X1_endWriting : Cond.code yX1_endWriting cX1_endWriting 3 (Option.some FieldType.int) ∈ TT := mTT 285 (by decide +kernel) rfl
theorem mM_X1_99 : Cond.methodLink RX1 99 yX1_closeWithVoid ∈ TT := mTT 286 (by decide +kernel) rfl
theorem mI_X1_closeWithVoid : Cond.instanceMethod yX1_closeWithVoid ∈ TT := mTT 287 (by decide +kernel) rfl
theorem mS_X1_closeWithVoid : Cond.selects RX1 yX1_closeWithVoid yX1_closeWithVoid ∈ TT := mTT 288 (by decide +kernel) rfl
theorem mC_X1_closeWithVoid : Cond.code yX1_closeWithVoid cX1_closeWithVoid 2 none ∈ TT := mTT 289 (by decide +kernel) rfl
theorem mM_X4_177 : Cond.methodLink RX4 177 yX1_bringHome ∈ TT := mTT 290 (by decide +kernel) rfl
theorem mI_X1_bringHome : Cond.instanceMethod yX1_bringHome ∈ TT := mTT 291 (by decide +kernel) rfl
theorem mS_X1_bringHome : Cond.selects RX1 yX1_bringHome yX1_bringHome ∈ TT := mTT 292 (by decide +kernel) rfl
theorem mC_X1_bringHome : Cond.code yX1_bringHome cX1_bringHome 1 none ∈ TT := mTT 293 (by decide +kernel) rfl
theorem mM_X4_180 : Cond.methodLink RX4 180 yX3_list ∈ TT := mTT 294 (by decide +kernel) rfl
theorem mI_X3_list : Cond.instanceMethod yX3_list ∈ TT := mTT 295 (by decide +kernel) rfl
theorem mS_X3_list : Cond.selects RX3 yX3_list yX3_list ∈ TT := mTT 296 (by decide +kernel) rfl
theorem mC_X3_list : Cond.code yX3_list cX3_list 2 none ∈ TT := mTT 297 (by decide +kernel) rfl
theorem mM_X3_34 : Cond.methodLink RX3 34 yX0_valueAt ∈ TT := mTT 298 (by decide +kernel) rfl
theorem mM_X3_38 : Cond.methodLink RX3 38 yX3_listedHead ∈ TT := mTT 299 (by decide +kernel) rfl
theorem mI_X3_listedHead : Cond.instanceMethod yX3_listedHead ∈ TT := mTT 300 (by decide +kernel) rfl
theorem mS_X3_listedHead : Cond.selects RX3 yX3_listedHead yX3_listedHead ∈ TT := mTT 301 (by decide +kernel) rfl
theorem mC_X3_listedHead : Cond.code yX3_listedHead cX3_listedHead 3 (Option.some FieldType.int) ∈ TT := mTT 302 (by decide +kernel) rfl
theorem mM_X3_41 : Cond.methodLink RX3 41 yX3_unlist ∈ TT := mTT 303 (by decide +kernel) rfl
theorem mI_X3_unlist : Cond.instanceMethod yX3_unlist ∈ TT := mTT 304 (by decide +kernel) rfl
theorem mS_X3_unlist : Cond.selects RX3 yX3_unlist yX3_unlist ∈ TT := mTT 305 (by decide +kernel) rfl
theorem mC_X3_unlist : Cond.code yX3_unlist cX3_unlist 2 none ∈ TT := mTT 306 (by decide +kernel) rfl
theorem mM_X4_73 : Cond.methodLink RX4 73 yX4_counted ∈ TT := mTT 307 (by decide +kernel) rfl
theorem mI_X4_counted : Cond.instanceMethod yX4_counted ∈ TT := mTT 309 (by decide +kernel) rfl
theorem mC_X4_counted : Cond.code yX4_counted cX4_counted 2 (Option.some FieldType.int) ∈ TT := mTT 310 (by decide +kernel) rfl
theorem mM_L_27 : Cond.methodLink RL 27 yX4_read ∈ TT := mTT 311 (by decide +kernel) rfl
theorem mI_X4_read : Cond.instanceMethod yX4_read ∈ TT := mTT 312 (by decide +kernel) rfl
theorem mS_X4_read : Cond.selects RX4 yX4_read yX4_read ∈ TT := mTT 313 (by decide +kernel) rfl
theorem mC_X4_read : Cond.code yX4_read cX4_read 5 (Option.some FieldType.int) ∈ TT := mTT 314 (by decide +kernel) rfl
theorem mM_X4_77 : Cond.methodLink RX4 77 yX3_listedHead ∈ TT := mTT 315 (by decide +kernel) rfl
theorem mM_X4_80 : Cond.methodLink RX4 80 yX4_readJob ∈ TT := mTT 316 (by decide +kernel) rfl
theorem mI_X4_readJob : Cond.instanceMethod yX4_readJob ∈ TT := mTT 318 (by decide +kernel) rfl
theorem mC_X4_readJob : Cond.code yX4_readJob cX4_readJob 5 (Option.some FieldType.int) ∈ TT := mTT 319 (by decide +kernel) rfl
theorem mM_X4_193 : Cond.methodLink RX4 193 yX4_readFile ∈ TT := mTT 320 (by decide +kernel) rfl
theorem mI_X4_readFile : Cond.instanceMethod yX4_readFile ∈ TT := mTT 322 (by decide +kernel) rfl
theorem mC_X4_readFile : Cond.code yX4_readFile cX4_readFile 8 (Option.some FieldType.int) ∈ TT := mTT 323 (by decide +kernel) rfl
theorem mM_X4_126 : Cond.methodLink RX4 126 yX0_sizeAt ∈ TT := mTT 324 (by decide +kernel) rfl
theorem mM_X4_197 : Cond.methodLink RX4 197 yX1_readBlock ∈ TT := mTT 325 (by decide +kernel) rfl
theorem mI_X1_readBlock : Cond.instanceMethod yX1_readBlock ∈ TT := mTT 326 (by decide +kernel) rfl
theorem mS_X1_readBlock : Cond.selects RX1 yX1_readBlock yX1_readBlock ∈ TT := mTT 327 (by decide +kernel) rfl
theorem mC_X1_readBlock : Cond.code yX1_readBlock cX1_readBlock 3 (Option.some FieldType.int) ∈ TT := mTT 328 (by decide +kernel) rfl
theorem mM_X1_70 : Cond.methodLink RX1 70 yX3_isDamaged ∈ TT := mTT 329 (by decide +kernel) rfl
theorem mI_X3_isDamaged : Cond.instanceMethod yX3_isDamaged ∈ TT := mTT 330 (by decide +kernel) rfl
theorem mS_X3_isDamaged : Cond.selects RX3 yX3_isDamaged yX3_isDamaged ∈ TT := mTT 331 (by decide +kernel) rfl
theorem mC_X3_isDamaged : Cond.code yX3_isDamaged cX3_isDamaged 2 (Option.some FieldType.boolean) ∈ TT := mTT 332 (by decide +kernel) rfl
theorem mM_X4_120 : Cond.methodLink RX4 120 yX0_kindAt ∈ TT := mTT 333 (by decide +kernel) rfl
theorem mM_X4_123 : Cond.methodLink RX4 123 yX0_valueAt ∈ TT := mTT 334 (by decide +kernel) rfl
theorem mM_L_32 : Cond.methodLink RL 32 yX4_move ∈ TT := mTT 335 (by decide +kernel) rfl
theorem mI_X4_move : Cond.instanceMethod yX4_move ∈ TT := mTT 336 (by decide +kernel) rfl
theorem mS_X4_move : Cond.selects RX4 yX4_move yX4_move ∈ TT := mTT 337 (by decide +kernel) rfl
theorem mC_X4_move : Cond.code yX4_move cX4_move 7 (Option.some FieldType.int) ∈ TT := mTT 338 (by decide +kernel) rfl
theorem mM_X4_84 : Cond.methodLink RX4 84 yX4_moveJob ∈ TT := mTT 339 (by decide +kernel) rfl
theorem mI_X4_moveJob : Cond.instanceMethod yX4_moveJob ∈ TT := mTT 341 (by decide +kernel) rfl
theorem mC_X4_moveJob : Cond.code yX4_moveJob cX4_moveJob 6 (Option.some FieldType.int) ∈ TT := mTT 342 (by decide +kernel) rfl
theorem mM_X4_200 : Cond.methodLink RX4 200 yX4_moveInto ∈ TT := mTT 343 (by decide +kernel) rfl
theorem mI_X4_moveInto : Cond.instanceMethod yX4_moveInto ∈ TT := mTT 345 (by decide +kernel) rfl
theorem mC_X4_moveInto : Cond.code yX4_moveInto cX4_moveInto 7 (Option.some FieldType.int) ∈ TT := mTT 346 (by decide +kernel) rfl
theorem mM_X4_207 : Cond.methodLink RX4 207 yX4_moveBlocks ∈ TT := mTT 347 (by decide +kernel) rfl
theorem mI_X4_moveBlocks : Cond.instanceMethod yX4_moveBlocks ∈ TT := mTT 349 (by decide +kernel) rfl
theorem mC_X4_moveBlocks : Cond.code yX4_moveBlocks cX4_moveBlocks 9 (Option.some FieldType.int) ∈ TT := mTT 350 (by decide +kernel) rfl
theorem mM_X4_204 : Cond.methodLink RX4 204 yX3_unlist ∈ TT := mTT 351 (by decide +kernel) rfl
theorem mM_L_37 : Cond.methodLink RL 37 yX4_salvage ∈ TT := mTT 352 (by decide +kernel) rfl
theorem mI_X4_salvage : Cond.instanceMethod yX4_salvage ∈ TT := mTT 353 (by decide +kernel) rfl
theorem mS_X4_salvage : Cond.selects RX4 yX4_salvage yX4_salvage ∈ TT := mTT 354 (by decide +kernel) rfl
theorem mC_X4_salvage : Cond.code yX4_salvage cX4_salvage 5 (Option.some FieldType.int) ∈ TT := mTT 355 (by decide +kernel) rfl
theorem mM_L_41 : Cond.methodLink RL 41 yX4_scan ∈ TT := mTT 356 (by decide +kernel) rfl
theorem mI_X4_scan : Cond.instanceMethod yX4_scan ∈ TT := mTT 357 (by decide +kernel) rfl
theorem mS_X4_scan : Cond.selects RX4 yX4_scan yX4_scan ∈ TT := mTT 358 (by decide +kernel) rfl
theorem mC_X4_scan : Cond.code yX4_scan cX4_scan 3 (Option.some FieldType.int) ∈ TT := mTT 359 (by decide +kernel) rfl
theorem mM_X4_88 : Cond.methodLink RX4 88 yX4_scanJob ∈ TT := mTT 360 (by decide +kernel) rfl
theorem mI_X4_scanJob : Cond.instanceMethod yX4_scanJob ∈ TT := mTT 362 (by decide +kernel) rfl
theorem mC_X4_scanJob : Cond.code yX4_scanJob cX4_scanJob 4 (Option.some FieldType.int) ∈ TT := mTT 363 (by decide +kernel) rfl
theorem mM_X4_211 : Cond.methodLink RX4 211 yX1_lookThrough ∈ TT := mTT 364 (by decide +kernel) rfl
theorem mI_X1_lookThrough : Cond.instanceMethod yX1_lookThrough ∈ TT := mTT 365 (by decide +kernel) rfl
theorem mS_X1_lookThrough : Cond.selects RX1 yX1_lookThrough yX1_lookThrough ∈ TT := mTT 366 (by decide +kernel) rfl
theorem mC_X1_lookThrough : Cond.code yX1_lookThrough cX1_lookThrough 4 (Option.some FieldType.int) ∈ TT := mTT 367 (by decide +kernel) rfl
theorem mM_X1_106 : Cond.methodLink RX1 106 yX1_readBlock ∈ TT := mTT 368 (by decide +kernel) rfl
theorem mM_X4_214 : Cond.methodLink RX4 214 yX3_listAllThatTell ∈ TT := mTT 369 (by decide +kernel) rfl
theorem mI_X3_listAllThatTell : Cond.instanceMethod yX3_listAllThatTell ∈ TT := mTT 370 (by decide +kernel) rfl
theorem mS_X3_listAllThatTell : Cond.selects RX3 yX3_listAllThatTell yX3_listAllThatTell ∈ TT := mTT 371 (by decide +kernel) rfl
theorem mC_X3_listAllThatTell : Cond.code yX3_listAllThatTell cX3_listAllThatTell 2 (Option.some FieldType.int) ∈ TT := mTT 372 (by decide +kernel) rfl
theorem mM_X3_44 : Cond.methodLink RX3 44 yX3_unlistAll ∈ TT := mTT 373 (by decide +kernel) rfl
theorem mI_X3_unlistAll : Cond.instanceMethod yX3_unlistAll ∈ TT := mTT 374 (by decide +kernel) rfl
theorem mS_X3_unlistAll : Cond.selects RX3 yX3_unlistAll yX3_unlistAll ∈ TT := mTT 375 (by decide +kernel) rfl
theorem mC_X3_unlistAll : Cond.code yX3_unlistAll cX3_unlistAll 3 (Option.some FieldType.int) ∈ TT := mTT 376 (by decide +kernel) rfl
theorem mM_X3_48 : Cond.methodLink RX3 48 yX3_tellsFile ∈ TT := mTT 377 (by decide +kernel) rfl
theorem mI_X3_tellsFile : Cond.instanceMethod yX3_tellsFile ∈ TT := mTT 378 (by decide +kernel) rfl
theorem mS_X3_tellsFile : Cond.selects RX3 yX3_tellsFile yX3_tellsFile ∈ TT := mTT 379 (by decide +kernel) rfl
theorem mC_X3_tellsFile : Cond.code yX3_tellsFile cX3_tellsFile 4 (Option.some FieldType.boolean) ∈ TT := mTT 380 (by decide +kernel) rfl
theorem mM_X3_58 : Cond.methodLink RX3 58 yX0_sizeAt ∈ TT := mTT 381 (by decide +kernel) rfl
theorem mM_X3_61 : Cond.methodLink RX3 61 yX3_tells ∈ TT := mTT 382 (by decide +kernel) rfl
theorem mI_X3_tells : Cond.instanceMethod yX3_tells ∈ TT := mTT 383 (by decide +kernel) rfl
theorem mS_X3_tells : Cond.selects RX3 yX3_tells yX3_tells ∈ TT := mTT 384 (by decide +kernel) rfl
theorem mC_X3_tells : Cond.code yX3_tells cX3_tells 3 (Option.some FieldType.boolean) ∈ TT := mTT 385 (by decide +kernel) rfl
theorem mM_X3_65 : Cond.methodLink RX3 65 yX0_kindAt ∈ TT := mTT 386 (by decide +kernel) rfl
theorem mM_X3_68 : Cond.methodLink RX3 68 yX3_isDamaged ∈ TT := mTT 387 (by decide +kernel) rfl
theorem mM_X3_52 : Cond.methodLink RX3 52 yX3_list ∈ TT := mTT 388 (by decide +kernel) rfl
theorem mM_X3_55 : Cond.methodLink RX3 55 yX3_listedCount ∈ TT := mTT 389 (by decide +kernel) rfl
theorem mI_X3_listedCount : Cond.instanceMethod yX3_listedCount ∈ TT := mTT 390 (by decide +kernel) rfl
theorem mS_X3_listedCount : Cond.selects RX3 yX3_listedCount yX3_listedCount ∈ TT := mTT 391 (by decide +kernel) rfl
theorem mC_X3_listedCount : Cond.code yX3_listedCount cX3_listedCount 3 (Option.some FieldType.int) ∈ TT := mTT 392 (by decide +kernel) rfl
theorem mM_L_45 : Cond.methodLink RL 45 yX4_lose ∈ TT := mTT 393 (by decide +kernel) rfl
theorem mI_X4_lose : Cond.instanceMethod yX4_lose ∈ TT := mTT 394 (by decide +kernel) rfl
theorem mS_X4_lose : Cond.selects RX4 yX4_lose yX4_lose ∈ TT := mTT 395 (by decide +kernel) rfl
theorem mC_X4_lose : Cond.code yX4_lose cX4_lose 3 (Option.some FieldType.int) ∈ TT := mTT 396 (by decide +kernel) rfl
theorem mM_X4_91 : Cond.methodLink RX4 91 yX3_unlistAll ∈ TT := mTT 397 (by decide +kernel) rfl
theorem mM_L_49 : Cond.methodLink RL 49 yX4_damage ∈ TT := mTT 398 (by decide +kernel) rfl
theorem mI_X4_damage : Cond.instanceMethod yX4_damage ∈ TT := mTT 399 (by decide +kernel) rfl
theorem mS_X4_damage : Cond.selects RX4 yX4_damage yX4_damage ∈ TT := mTT 400 (by decide +kernel) rfl
theorem mC_X4_damage : Cond.code yX4_damage cX4_damage 5 (Option.some FieldType.int) ∈ TT := mTT 401 (by decide +kernel) rfl
theorem mM_X4_95 : Cond.methodLink RX4 95 yX4_isPlace ∈ TT := mTT 402 (by decide +kernel) rfl
theorem mT_X4_isPlace : Cond.static yX4_isPlace ∈ TT := mTT 403 (by decide +kernel) rfl
theorem mC_X4_isPlace : Cond.code yX4_isPlace cX4_isPlace 1 (Option.some FieldType.boolean) ∈ TT := mTT 404 (by decide +kernel) rfl
theorem mM_X4_98 : Cond.methodLink RX4 98 yX3_spoil ∈ TT := mTT 405 (by decide +kernel) rfl
theorem mI_X3_spoil : Cond.instanceMethod yX3_spoil ∈ TT := mTT 406 (by decide +kernel) rfl
theorem mS_X3_spoil : Cond.selects RX3 yX3_spoil yX3_spoil ∈ TT := mTT 407 (by decide +kernel) rfl
theorem mC_X3_spoil : Cond.code yX3_spoil cX3_spoil 5 (Option.some FieldType.int) ∈ TT := mTT 408 (by decide +kernel) rfl
theorem mM_L_53 : Cond.methodLink RL 53 yX4_jam ∈ TT := mTT 409 (by decide +kernel) rfl
theorem mI_X4_jam : Cond.instanceMethod yX4_jam ∈ TT := mTT 410 (by decide +kernel) rfl
theorem mS_X4_jam : Cond.selects RX4 yX4_jam yX4_jam ∈ TT := mTT 411 (by decide +kernel) rfl
theorem mC_X4_jam : Cond.code yX4_jam cX4_jam 4 (Option.some FieldType.int) ∈ TT := mTT 412 (by decide +kernel) rfl
theorem mM_X4_102 : Cond.methodLink RX4 102 yX4_findDrive ∈ TT := mTT 413 (by decide +kernel) rfl
theorem mI_X4_findDrive : Cond.instanceMethod yX4_findDrive ∈ TT := mTT 415 (by decide +kernel) rfl
theorem mC_X4_findDrive : Cond.code yX4_findDrive cX4_findDrive 2 (Option.some (FieldType.object "TapeVault$Drive")) ∈ TT := mTT 416 (by decide +kernel) rfl
theorem mM_L_57 : Cond.methodLink RL 57 yX4_fix ∈ TT := mTT 417 (by decide +kernel) rfl
theorem mI_X4_fix : Cond.instanceMethod yX4_fix ∈ TT := mTT 418 (by decide +kernel) rfl
theorem mS_X4_fix : Cond.selects RX4 yX4_fix yX4_fix ∈ TT := mTT 419 (by decide +kernel) rfl
theorem mC_X4_fix : Cond.code yX4_fix cX4_fix 4 (Option.some FieldType.int) ∈ TT := mTT 420 (by decide +kernel) rfl
theorem mM_L_61 : Cond.methodLink RL 61 yX4_power ∈ TT := mTT 421 (by decide +kernel) rfl
theorem mI_X4_power : Cond.instanceMethod yX4_power ∈ TT := mTT 422 (by decide +kernel) rfl
theorem mS_X4_power : Cond.selects RX4 yX4_power yX4_power ∈ TT := mTT 423 (by decide +kernel) rfl
theorem mC_X4_power : Cond.code yX4_power cX4_power 2 (Option.some FieldType.int) ∈ TT := mTT 424 (by decide +kernel) rfl
theorem mQ_X4_113 : Cond.constant RX4 113 (100000 : Int32) ∈ TT := mTT 425 (by decide +kernel) rfl
theorem mM_L_65 : Cond.methodLink RL 65 yX4_place ∈ TT := mTT 426 (by decide +kernel) rfl
theorem mI_X4_place : Cond.instanceMethod yX4_place ∈ TT := mTT 427 (by decide +kernel) rfl
theorem mS_X4_place : Cond.selects RX4 yX4_place yX4_place ∈ TT := mTT 428 (by decide +kernel) rfl
theorem mC_X4_place : Cond.code yX4_place cX4_place 4 (Option.some FieldType.int) ∈ TT := mTT 429 (by decide +kernel) rfl
theorem mM_L_69 : Cond.methodLink RL 69 yX4_block ∈ TT := mTT 430 (by decide +kernel) rfl
theorem mI_X4_block : Cond.instanceMethod yX4_block ∈ TT := mTT 431 (by decide +kernel) rfl
theorem mS_X4_block : Cond.selects RX4 yX4_block yX4_block ∈ TT := mTT 432 (by decide +kernel) rfl
theorem mC_X4_block : Cond.code yX4_block cX4_block 5 (Option.some FieldType.int) ∈ TT := mTT 433 (by decide +kernel) rfl
theorem mM_X4_129 : Cond.methodLink RX4 129 yX3_isDamaged ∈ TT := mTT 434 (by decide +kernel) rfl
theorem mM_L_73 : Cond.methodLink RL 73 yX4_tapeTold ∈ TT := mTT 435 (by decide +kernel) rfl
theorem mI_X4_tapeTold : Cond.instanceMethod yX4_tapeTold ∈ TT := mTT 436 (by decide +kernel) rfl
theorem mS_X4_tapeTold : Cond.selects RX4 yX4_tapeTold yX4_tapeTold ∈ TT := mTT 437 (by decide +kernel) rfl
theorem mC_X4_tapeTold : Cond.code yX4_tapeTold cX4_tapeTold 4 (Option.some FieldType.int) ∈ TT := mTT 438 (by decide +kernel) rfl
theorem mM_L_77 : Cond.methodLink RL 77 yX4_driveTold ∈ TT := mTT 439 (by decide +kernel) rfl
theorem mI_X4_driveTold : Cond.instanceMethod yX4_driveTold ∈ TT := mTT 440 (by decide +kernel) rfl
theorem mS_X4_driveTold : Cond.selects RX4 yX4_driveTold yX4_driveTold ∈ TT := mTT 441 (by decide +kernel) rfl
theorem mC_X4_driveTold : Cond.code yX4_driveTold cX4_driveTold 4 (Option.some FieldType.int) ∈ TT := mTT 442 (by decide +kernel) rfl
theorem mM_L_81 : Cond.methodLink RL 81 yX4_told ∈ TT := mTT 443 (by decide +kernel) rfl
theorem mI_X4_told : Cond.instanceMethod yX4_told ∈ TT := mTT 444 (by decide +kernel) rfl
theorem mS_X4_told : Cond.selects RX4 yX4_told yX4_told ∈ TT := mTT 445 (by decide +kernel) rfl
theorem mC_X4_told : Cond.code yX4_told cX4_told 2 (Option.some FieldType.int) ∈ TT := mTT 446 (by decide +kernel) rfl
theorem mM_L_85 : Cond.methodLink RL 85 yX4_fold ∈ TT := mTT 447 (by decide +kernel) rfl
theorem mI_X4_fold : Cond.instanceMethod yX4_fold ∈ TT := mTT 448 (by decide +kernel) rfl
theorem mS_X4_fold : Cond.selects RX4 yX4_fold yX4_fold ∈ TT := mTT 449 (by decide +kernel) rfl
theorem mC_X4_fold : Cond.code yX4_fold cX4_fold 1 (Option.some FieldType.int) ∈ TT := mTT 450 (by decide +kernel) rfl
theorem mK_L_10 : Cond.classLink RL 10 RX5 ∈ TT := mTT 451 (by decide +kernel) rfl
theorem mB_X5 : Cond.instantiable RX5 31 ∈ TT := mTT 452 (by decide +kernel) rfl
theorem mM_L_12 : Cond.methodLink RL 12 yX5_init ∈ TT := mTT 453 (by decide +kernel) rfl
theorem mI_X5_init : Cond.instanceMethod yX5_init ∈ TT := mTT 454 (by decide +kernel) rfl
theorem mC_X5_init : Cond.code yX5_init cX5_init 2 none ∈ TT := mTT 455 (by decide +kernel) rfl
theorem mM_X5_1 : Cond.methodLink RX5 1 objectInit ∈ TT := mTT 456 (by decide +kernel) rfl
theorem mF_X5_75 : Cond.fieldLink RX5 75 (TX5 0).1 (TX5 0).2.1 (TX5 0).2.2.1 ∈ TT := mTT 457 (by decide +kernel) rfl
theorem mF_X5_7 : Cond.fieldLink RX5 7 (TX5 1).1 (TX5 1).2.1 (TX5 1).2.2.1 ∈ TT := mTT 458 (by decide +kernel) rfl
theorem mF_X5_13 : Cond.fieldLink RX5 13 (TX5 2).1 (TX5 2).2.1 (TX5 2).2.2.1 ∈ TT := mTT 459 (by decide +kernel) rfl
theorem mF_X5_16 : Cond.fieldLink RX5 16 (TX5 3).1 (TX5 3).2.1 (TX5 3).2.2.1 ∈ TT := mTT 460 (by decide +kernel) rfl
theorem mF_X5_19 : Cond.fieldLink RX5 19 (TX5 4).1 (TX5 4).2.1 (TX5 4).2.2.1 ∈ TT := mTT 461 (by decide +kernel) rfl
theorem mF_X5_22 : Cond.fieldLink RX5 22 (TX5 5).1 (TX5 5).2.1 (TX5 5).2.2.1 ∈ TT := mTT 462 (by decide +kernel) rfl
theorem mF_X5_25 : Cond.fieldLink RX5 25 (TX5 6).1 (TX5 6).2.1 (TX5 6).2.2.1 ∈ TT := mTT 463 (by decide +kernel) rfl
theorem mF_X5_28 : Cond.fieldLink RX5 28 (TX5 7).1 (TX5 7).2.1 (TX5 7).2.2.1 ∈ TT := mTT 464 (by decide +kernel) rfl
theorem mF_X5_31 : Cond.fieldLink RX5 31 (TX5 8).1 (TX5 8).2.1 (TX5 8).2.2.1 ∈ TT := mTT 465 (by decide +kernel) rfl
theorem mF_X5_35 : Cond.fieldLink RX5 35 (TX5 9).1 (TX5 9).2.1 (TX5 9).2.2.1 ∈ TT := mTT 466 (by decide +kernel) rfl
theorem mF_X5_38 : Cond.fieldLink RX5 38 (TX5 10).1 (TX5 10).2.1 (TX5 10).2.2.1 ∈ TT := mTT 467 (by decide +kernel) rfl
theorem mF_X5_41 : Cond.fieldLink RX5 41 (TX5 11).1 (TX5 11).2.1 (TX5 11).2.2.1 ∈ TT := mTT 468 (by decide +kernel) rfl
theorem mF_X5_44 : Cond.fieldLink RX5 44 (TX5 12).1 (TX5 12).2.1 (TX5 12).2.2.1 ∈ TT := mTT 469 (by decide +kernel) rfl
theorem mF_X5_47 : Cond.fieldLink RX5 47 (TX5 13).1 (TX5 13).2.1 (TX5 13).2.2.1 ∈ TT := mTT 470 (by decide +kernel) rfl
theorem mF_X5_50 : Cond.fieldLink RX5 50 (TX5 14).1 (TX5 14).2.1 (TX5 14).2.2.1 ∈ TT := mTT 471 (by decide +kernel) rfl
theorem mF_X5_53 : Cond.fieldLink RX5 53 (TX5 15).1 (TX5 15).2.1 (TX5 15).2.2.1 ∈ TT := mTT 472 (by decide +kernel) rfl
theorem mF_X5_56 : Cond.fieldLink RX5 56 (TX5 16).1 (TX5 16).2.1 (TX5 16).2.2.1 ∈ TT := mTT 473 (by decide +kernel) rfl
theorem mF_X5_59 : Cond.fieldLink RX5 59 (TX5 17).1 (TX5 17).2.1 (TX5 17).2.2.1 ∈ TT := mTT 474 (by decide +kernel) rfl
theorem mF_X5_62 : Cond.fieldLink RX5 62 (TX5 18).1 (TX5 18).2.1 (TX5 18).2.2.1 ∈ TT := mTT 475 (by decide +kernel) rfl
theorem mF_X5_65 : Cond.fieldLink RX5 65 (TX5 19).1 (TX5 19).2.1 (TX5 19).2.2.1 ∈ TT := mTT 476 (by decide +kernel) rfl
theorem mF_X5_117 : Cond.fieldLink RX5 117 (TX5 20).1 (TX5 20).2.1 (TX5 20).2.2.1 ∈ TT := mTT 477 (by decide +kernel) rfl
theorem mF_X5_120 : Cond.fieldLink RX5 120 (TX5 21).1 (TX5 21).2.1 (TX5 21).2.2.1 ∈ TT := mTT 478 (by decide +kernel) rfl
theorem mF_X5_123 : Cond.fieldLink RX5 123 (TX5 22).1 (TX5 22).2.1 (TX5 22).2.2.1 ∈ TT := mTT 479 (by decide +kernel) rfl
theorem mF_X5_126 : Cond.fieldLink RX5 126 (TX5 23).1 (TX5 23).2.1 (TX5 23).2.2.1 ∈ TT := mTT 480 (by decide +kernel) rfl
theorem mF_X5_68 : Cond.fieldLink RX5 68 (TX5 24).1 (TX5 24).2.1 (TX5 24).2.2.1 ∈ TT := mTT 481 (by decide +kernel) rfl
theorem mF_X5_85 : Cond.fieldLink RX5 85 (TX5 25).1 (TX5 25).2.1 (TX5 25).2.2.1 ∈ TT := mTT 482 (by decide +kernel) rfl
theorem mF_X5_96 : Cond.fieldLink RX5 96 (TX5 26).1 (TX5 26).2.1 (TX5 26).2.2.1 ∈ TT := mTT 483 (by decide +kernel) rfl
theorem mF_X5_107 : Cond.fieldLink RX5 107 (TX5 27).1 (TX5 27).2.1 (TX5 27).2.2.1 ∈ TT := mTT 484 (by decide +kernel) rfl
theorem mF_X5_110 : Cond.fieldLink RX5 110 (TX5 28).1 (TX5 28).2.1 (TX5 28).2.2.1 ∈ TT := mTT 485 (by decide +kernel) rfl
theorem mF_X5_72 : Cond.fieldLink RX5 72 (TX5 29).1 (TX5 29).2.1 (TX5 29).2.2.1 ∈ TT := mTT 486 (by decide +kernel) rfl
theorem mF_X5_82 : Cond.fieldLink RX5 82 (TX5 30).1 (TX5 30).2.1 (TX5 30).2.2.1 ∈ TT := mTT 487 (by decide +kernel) rfl
theorem mM_L_17 : Cond.methodLink RL 17 yX5_tape ∈ TT := mTT 551 (by decide +kernel) rfl
theorem mI_X5_tape : Cond.instanceMethod yX5_tape ∈ TT := mTT 552 (by decide +kernel) rfl
theorem mS_X5_tape : Cond.selects RX5 yX5_tape yX5_tape ∈ TT := mTT 553 (by decide +kernel) rfl
theorem mC_X5_tape : Cond.code yX5_tape cX5_tape 4 (Option.some FieldType.int) ∈ TT := mTT 554 (by decide +kernel) rfl
theorem mM_X5_78 : Cond.methodLink RX5 78 yX5_in ∈ TT := mTT 555 (by decide +kernel) rfl
theorem mT_X5_in : Cond.static yX5_in ∈ TT := mTT 556 (by decide +kernel) rfl
theorem mC_X5_in : Cond.code yX5_in cX5_in 3 (Option.some FieldType.boolean) ∈ TT := mTT 557 (by decide +kernel) rfl
theorem mM_L_22 : Cond.methodLink RL 22 yX5_stage ∈ TT := mTT 558 (by decide +kernel) rfl
theorem mI_X5_stage : Cond.instanceMethod yX5_stage ∈ TT := mTT 559 (by decide +kernel) rfl
theorem mS_X5_stage : Cond.selects RX5 yX5_stage yX5_stage ∈ TT := mTT 560 (by decide +kernel) rfl
theorem mC_X5_stage : Cond.code yX5_stage cX5_stage 5 (Option.some FieldType.int) ∈ TT := mTT 561 (by decide +kernel) rfl
theorem mM_X5_113 : Cond.methodLink RX5 113 yX5_isName ∈ TT := mTT 562 (by decide +kernel) rfl
theorem mT_X5_isName : Cond.static yX5_isName ∈ TT := mTT 563 (by decide +kernel) rfl
theorem mC_X5_isName : Cond.code yX5_isName cX5_isName 1 (Option.some FieldType.boolean) ∈ TT := mTT 564 (by decide +kernel) rfl
theorem mM_L_26 : Cond.methodLink RL 26 yX5_copy ∈ TT := mTT 565 (by decide +kernel) rfl
theorem mI_X5_copy : Cond.instanceMethod yX5_copy ∈ TT := mTT 566 (by decide +kernel) rfl
theorem mS_X5_copy : Cond.selects RX5 yX5_copy yX5_copy ∈ TT := mTT 567 (by decide +kernel) rfl
theorem mC_X5_copy : Cond.code yX5_copy cX5_copy 4 (Option.some FieldType.int) ∈ TT := mTT 568 (by decide +kernel) rfl
theorem mM_X5_129 : Cond.methodLink RX5 129 yX5_isTape ∈ TT := mTT 569 (by decide +kernel) rfl
theorem mI_X5_isTape : Cond.instanceMethod yX5_isTape ∈ TT := mTT 571 (by decide +kernel) rfl
theorem mC_X5_isTape : Cond.code yX5_isTape cX5_isTape 2 (Option.some FieldType.boolean) ∈ TT := mTT 572 (by decide +kernel) rfl
theorem mM_X5_132 : Cond.methodLink RX5 132 yX5_begin ∈ TT := mTT 573 (by decide +kernel) rfl
theorem mI_X5_begin : Cond.instanceMethod yX5_begin ∈ TT := mTT 575 (by decide +kernel) rfl
theorem mC_X5_begin : Cond.code yX5_begin cX5_begin 1 none ∈ TT := mTT 576 (by decide +kernel) rfl
theorem mM_X5_135 : Cond.methodLink RX5 135 yX5_mount ∈ TT := mTT 577 (by decide +kernel) rfl
theorem mI_X5_mount : Cond.instanceMethod yX5_mount ∈ TT := mTT 579 (by decide +kernel) rfl
theorem mC_X5_mount : Cond.code yX5_mount cX5_mount 5 none ∈ TT := mTT 580 (by decide +kernel) rfl
theorem mM_X5_88 : Cond.methodLink RX5 88 yX5_distance ∈ TT := mTT 581 (by decide +kernel) rfl
theorem mT_X5_distance : Cond.static yX5_distance ∈ TT := mTT 582 (by decide +kernel) rfl
theorem mC_X5_distance : Cond.code yX5_distance cX5_distance 3 (Option.some FieldType.int) ∈ TT := mTT 583 (by decide +kernel) rfl
theorem mM_X5_92 : Cond.methodLink RX5 92 yX5_work ∈ TT := mTT 584 (by decide +kernel) rfl
theorem mI_X5_work : Cond.instanceMethod yX5_work ∈ TT := mTT 586 (by decide +kernel) rfl
theorem mC_X5_work : Cond.code yX5_work cX5_work 1 (Option.some FieldType.boolean) ∈ TT := mTT 587 (by decide +kernel) rfl
theorem mM_X5_139 : Cond.methodLink RX5 139 yX5_wind ∈ TT := mTT 588 (by decide +kernel) rfl
theorem mI_X5_wind : Cond.instanceMethod yX5_wind ∈ TT := mTT 590 (by decide +kernel) rfl
theorem mC_X5_wind : Cond.code yX5_wind cX5_wind 3 none ∈ TT := mTT 591 (by decide +kernel) rfl
theorem mM_X5_142 : Cond.methodLink RX5 142 yX5_write ∈ TT := mTT 592 (by decide +kernel) rfl
theorem mI_X5_write : Cond.instanceMethod yX5_write ∈ TT := mTT 594 (by decide +kernel) rfl
theorem mC_X5_write : Cond.code yX5_write cX5_write 5 none ∈ TT := mTT 595 (by decide +kernel) rfl
theorem mM_X5_99 : Cond.methodLink RX5 99 yX5_pass ∈ TT := mTT 596 (by decide +kernel) rfl
theorem mI_X5_pass : Cond.instanceMethod yX5_pass ∈ TT := mTT 598 (by decide +kernel) rfl
theorem mC_X5_pass : Cond.code yX5_pass cX5_pass 4 none ∈ TT := mTT 599 (by decide +kernel) rfl
theorem mM_X5_103 : Cond.methodLink RX5 103 yX5_put ∈ TT := mTT 600 (by decide +kernel) rfl
theorem mI_X5_put : Cond.instanceMethod yX5_put ∈ TT := mTT 602 (by decide +kernel) rfl
theorem mC_X5_put : Cond.code yX5_put cX5_put 6 none ∈ TT := mTT 603 (by decide +kernel) rfl
theorem mM_X5_146 : Cond.methodLink RX5 146 yX5_close ∈ TT := mTT 604 (by decide +kernel) rfl
theorem mI_X5_close : Cond.instanceMethod yX5_close ∈ TT := mTT 606 (by decide +kernel) rfl
theorem mC_X5_close : Cond.code yX5_close cX5_close 4 none ∈ TT := mTT 607 (by decide +kernel) rfl
theorem mM_X5_149 : Cond.methodLink RX5 149 yX5_unmount ∈ TT := mTT 608 (by decide +kernel) rfl
theorem mI_X5_unmount : Cond.instanceMethod yX5_unmount ∈ TT := mTT 610 (by decide +kernel) rfl
theorem mC_X5_unmount : Cond.code yX5_unmount cX5_unmount 2 none ∈ TT := mTT 611 (by decide +kernel) rfl
theorem mM_X5_153 : Cond.methodLink RX5 153 yX5_ended ∈ TT := mTT 612 (by decide +kernel) rfl
theorem mI_X5_ended : Cond.instanceMethod yX5_ended ∈ TT := mTT 614 (by decide +kernel) rfl
theorem mC_X5_ended : Cond.code yX5_ended cX5_ended 2 (Option.some FieldType.int) ∈ TT := mTT 615 (by decide +kernel) rfl
theorem mM_L_31 : Cond.methodLink RL 31 yX5_read ∈ TT := mTT 616 (by decide +kernel) rfl
theorem mI_X5_read : Cond.instanceMethod yX5_read ∈ TT := mTT 617 (by decide +kernel) rfl
theorem mS_X5_read : Cond.selects RX5 yX5_read yX5_read ∈ TT := mTT 618 (by decide +kernel) rfl
theorem mC_X5_read : Cond.code yX5_read cX5_read 3 (Option.some FieldType.int) ∈ TT := mTT 619 (by decide +kernel) rfl
theorem mM_X5_160 : Cond.methodLink RX5 160 yX5_readFile ∈ TT := mTT 620 (by decide +kernel) rfl
theorem mI_X5_readFile : Cond.instanceMethod yX5_readFile ∈ TT := mTT 622 (by decide +kernel) rfl
theorem mC_X5_readFile : Cond.code yX5_readFile cX5_readFile 7 (Option.some FieldType.int) ∈ TT := mTT 623 (by decide +kernel) rfl
theorem mM_X5_157 : Cond.methodLink RX5 157 yX5_take ∈ TT := mTT 624 (by decide +kernel) rfl
theorem mI_X5_take : Cond.instanceMethod yX5_take ∈ TT := mTT 626 (by decide +kernel) rfl
theorem mC_X5_take : Cond.code yX5_take cX5_take 3 (Option.some FieldType.int) ∈ TT := mTT 627 (by decide +kernel) rfl
theorem mM_L_36 : Cond.methodLink RL 36 yX5_move ∈ TT := mTT 628 (by decide +kernel) rfl
theorem mI_X5_move : Cond.instanceMethod yX5_move ∈ TT := mTT 629 (by decide +kernel) rfl
theorem mS_X5_move : Cond.selects RX5 yX5_move yX5_move ∈ TT := mTT 630 (by decide +kernel) rfl
theorem mC_X5_move : Cond.code yX5_move cX5_move 9 (Option.some FieldType.int) ∈ TT := mTT 631 (by decide +kernel) rfl
theorem mM_L_40 : Cond.methodLink RL 40 yX5_salvage ∈ TT := mTT 632 (by decide +kernel) rfl
theorem mI_X5_salvage : Cond.instanceMethod yX5_salvage ∈ TT := mTT 633 (by decide +kernel) rfl
theorem mS_X5_salvage : Cond.selects RX5 yX5_salvage yX5_salvage ∈ TT := mTT 634 (by decide +kernel) rfl
theorem mC_X5_salvage : Cond.code yX5_salvage cX5_salvage 4 (Option.some FieldType.int) ∈ TT := mTT 635 (by decide +kernel) rfl
theorem mM_L_44 : Cond.methodLink RL 44 yX5_scan ∈ TT := mTT 636 (by decide +kernel) rfl
theorem mI_X5_scan : Cond.instanceMethod yX5_scan ∈ TT := mTT 637 (by decide +kernel) rfl
theorem mS_X5_scan : Cond.selects RX5 yX5_scan yX5_scan ∈ TT := mTT 638 (by decide +kernel) rfl
theorem mC_X5_scan : Cond.code yX5_scan cX5_scan 6 (Option.some FieldType.int) ∈ TT := mTT 639 (by decide +kernel) rfl
theorem mM_X5_163 : Cond.methodLink RX5 163 yX5_forget ∈ TT := mTT 640 (by decide +kernel) rfl
theorem mI_X5_forget : Cond.instanceMethod yX5_forget ∈ TT := mTT 642 (by decide +kernel) rfl
theorem mC_X5_forget : Cond.code yX5_forget cX5_forget 4 (Option.some FieldType.int) ∈ TT := mTT 643 (by decide +kernel) rfl
theorem mM_X5_166 : Cond.methodLink RX5 166 yX5_isFile ∈ TT := mTT 644 (by decide +kernel) rfl
theorem mI_X5_isFile : Cond.instanceMethod yX5_isFile ∈ TT := mTT 646 (by decide +kernel) rfl
theorem mC_X5_isFile : Cond.code yX5_isFile cX5_isFile 7 (Option.some FieldType.boolean) ∈ TT := mTT 647 (by decide +kernel) rfl
theorem mM_L_48 : Cond.methodLink RL 48 yX5_lose ∈ TT := mTT 648 (by decide +kernel) rfl
theorem mI_X5_lose : Cond.instanceMethod yX5_lose ∈ TT := mTT 649 (by decide +kernel) rfl
theorem mS_X5_lose : Cond.selects RX5 yX5_lose yX5_lose ∈ TT := mTT 650 (by decide +kernel) rfl
theorem mC_X5_lose : Cond.code yX5_lose cX5_lose 2 (Option.some FieldType.int) ∈ TT := mTT 651 (by decide +kernel) rfl
theorem mM_L_52 : Cond.methodLink RL 52 yX5_damage ∈ TT := mTT 652 (by decide +kernel) rfl
theorem mI_X5_damage : Cond.instanceMethod yX5_damage ∈ TT := mTT 653 (by decide +kernel) rfl
theorem mS_X5_damage : Cond.selects RX5 yX5_damage yX5_damage ∈ TT := mTT 654 (by decide +kernel) rfl
theorem mC_X5_damage : Cond.code yX5_damage cX5_damage 6 (Option.some FieldType.int) ∈ TT := mTT 655 (by decide +kernel) rfl
theorem mM_L_56 : Cond.methodLink RL 56 yX5_jam ∈ TT := mTT 656 (by decide +kernel) rfl
theorem mI_X5_jam : Cond.instanceMethod yX5_jam ∈ TT := mTT 657 (by decide +kernel) rfl
theorem mS_X5_jam : Cond.selects RX5 yX5_jam yX5_jam ∈ TT := mTT 658 (by decide +kernel) rfl
theorem mC_X5_jam : Cond.code yX5_jam cX5_jam 3 (Option.some FieldType.int) ∈ TT := mTT 659 (by decide +kernel) rfl
theorem mM_L_60 : Cond.methodLink RL 60 yX5_fix ∈ TT := mTT 660 (by decide +kernel) rfl
theorem mI_X5_fix : Cond.instanceMethod yX5_fix ∈ TT := mTT 661 (by decide +kernel) rfl
theorem mS_X5_fix : Cond.selects RX5 yX5_fix yX5_fix ∈ TT := mTT 662 (by decide +kernel) rfl
theorem mC_X5_fix : Cond.code yX5_fix cX5_fix 3 (Option.some FieldType.int) ∈ TT := mTT 663 (by decide +kernel) rfl
theorem mM_L_64 : Cond.methodLink RL 64 yX5_power ∈ TT := mTT 664 (by decide +kernel) rfl
theorem mI_X5_power : Cond.instanceMethod yX5_power ∈ TT := mTT 665 (by decide +kernel) rfl
theorem mS_X5_power : Cond.selects RX5 yX5_power yX5_power ∈ TT := mTT 666 (by decide +kernel) rfl
theorem mC_X5_power : Cond.code yX5_power cX5_power 2 (Option.some FieldType.int) ∈ TT := mTT 667 (by decide +kernel) rfl
theorem mQ_X5_170 : Cond.constant RX5 170 (100000 : Int32) ∈ TT := mTT 668 (by decide +kernel) rfl
theorem mM_L_68 : Cond.methodLink RL 68 yX5_place ∈ TT := mTT 669 (by decide +kernel) rfl
theorem mI_X5_place : Cond.instanceMethod yX5_place ∈ TT := mTT 670 (by decide +kernel) rfl
theorem mS_X5_place : Cond.selects RX5 yX5_place yX5_place ∈ TT := mTT 671 (by decide +kernel) rfl
theorem mC_X5_place : Cond.code yX5_place cX5_place 4 (Option.some FieldType.int) ∈ TT := mTT 672 (by decide +kernel) rfl
theorem mM_L_72 : Cond.methodLink RL 72 yX5_block ∈ TT := mTT 673 (by decide +kernel) rfl
theorem mI_X5_block : Cond.instanceMethod yX5_block ∈ TT := mTT 674 (by decide +kernel) rfl
theorem mS_X5_block : Cond.selects RX5 yX5_block yX5_block ∈ TT := mTT 675 (by decide +kernel) rfl
theorem mC_X5_block : Cond.code yX5_block cX5_block 5 (Option.some FieldType.int) ∈ TT := mTT 676 (by decide +kernel) rfl
theorem mM_L_76 : Cond.methodLink RL 76 yX5_tapeTold ∈ TT := mTT 677 (by decide +kernel) rfl
theorem mI_X5_tapeTold : Cond.instanceMethod yX5_tapeTold ∈ TT := mTT 678 (by decide +kernel) rfl
theorem mS_X5_tapeTold : Cond.selects RX5 yX5_tapeTold yX5_tapeTold ∈ TT := mTT 679 (by decide +kernel) rfl
theorem mC_X5_tapeTold : Cond.code yX5_tapeTold cX5_tapeTold 3 (Option.some FieldType.int) ∈ TT := mTT 680 (by decide +kernel) rfl
theorem mM_L_80 : Cond.methodLink RL 80 yX5_driveTold ∈ TT := mTT 681 (by decide +kernel) rfl
theorem mI_X5_driveTold : Cond.instanceMethod yX5_driveTold ∈ TT := mTT 682 (by decide +kernel) rfl
theorem mS_X5_driveTold : Cond.selects RX5 yX5_driveTold yX5_driveTold ∈ TT := mTT 683 (by decide +kernel) rfl
theorem mC_X5_driveTold : Cond.code yX5_driveTold cX5_driveTold 3 (Option.some FieldType.int) ∈ TT := mTT 684 (by decide +kernel) rfl
theorem mM_L_84 : Cond.methodLink RL 84 yX5_told ∈ TT := mTT 685 (by decide +kernel) rfl
theorem mI_X5_told : Cond.instanceMethod yX5_told ∈ TT := mTT 686 (by decide +kernel) rfl
theorem mS_X5_told : Cond.selects RX5 yX5_told yX5_told ∈ TT := mTT 687 (by decide +kernel) rfl
theorem mC_X5_told : Cond.code yX5_told cX5_told 2 (Option.some FieldType.int) ∈ TT := mTT 688 (by decide +kernel) rfl
theorem mM_L_89 : Cond.methodLink RL 89 yX5_fold ∈ TT := mTT 689 (by decide +kernel) rfl
theorem mI_X5_fold : Cond.instanceMethod yX5_fold ∈ TT := mTT 690 (by decide +kernel) rfl
theorem mS_X5_fold : Cond.selects RX5 yX5_fold yX5_fold ∈ TT := mTT 691 (by decide +kernel) rfl
theorem mC_X5_fold : Cond.code yX5_fold cX5_fold 1 (Option.some FieldType.int) ∈ TT := mTT 692 (by decide +kernel) rfl
theorem uW0 : ∀ w ∈ u_ws RX0 TX0 4, w ∈ TT := by decide +kernel
theorem uW1 : ∀ w ∈ u_ws RX1 TX1 9, w ∈ TT := by decide +kernel
theorem uW2 : ∀ w ∈ u_ws RX2 TX2 3, w ∈ TT := by decide +kernel
theorem uW3 : ∀ w ∈ u_ws RX3 TX3 6, w ∈ TT := by decide +kernel
theorem uW4 : ∀ w ∈ u_ws RX4 TX4 8, w ∈ TT := by decide +kernel
theorem uW5 : ∀ w ∈ u_ws RX5 TX5 31, w ∈ TT := by decide +kernel
end
section
theorem dX0_init_0 : decode cX0_init 0 = .ok (.aload_n 0, 1) := by decide +kernel
theorem dX0_init_1 : decode cX0_init 1 = .ok (.invokespecial 1, 3) := by decide +kernel
theorem dX0_init_4 : decode cX0_init 4 = .ok (.aload_n 0, 1) := by decide +kernel
theorem dX0_init_5 : decode cX0_init 5 = .ok (.iload_n 1, 1) := by decide +kernel
theorem dX0_init_6 : decode cX0_init 6 = .ok (.newarray .int, 2) := by decide +kernel
theorem dX0_init_8 : decode cX0_init 8 = .ok (.putfield 7, 3) := by decide +kernel
theorem dX0_init_11 : decode cX0_init 11 = .ok (.aload_n 0, 1) := by decide +kernel
theorem dX0_init_12 : decode cX0_init 12 = .ok (.iload_n 1, 1) := by decide +kernel
theorem dX0_init_13 : decode cX0_init 13 = .ok (.newarray .int, 2) := by decide +kernel
theorem dX0_init_15 : decode cX0_init 15 = .ok (.putfield 13, 3) := by decide +kernel
theorem dX0_init_18 : decode cX0_init 18 = .ok (.aload_n 0, 1) := by decide +kernel
theorem dX0_init_19 : decode cX0_init 19 = .ok (.iload_n 1, 1) := by decide +kernel
theorem dX0_init_20 : decode cX0_init 20 = .ok (.newarray .int, 2) := by decide +kernel
theorem dX0_init_22 : decode cX0_init 22 = .ok (.putfield 16, 3) := by decide +kernel
theorem dX0_init_25 : decode cX0_init 25 = .ok (.return_, 1) := by decide +kernel
theorem dX0_clear_0 : decode cX0_clear 0 = .ok (.aload_n 0, 1) := by decide +kernel
theorem dX0_clear_1 : decode cX0_clear 1 = .ok (.iconst 0, 1) := by decide +kernel
theorem dX0_clear_2 : decode cX0_clear 2 = .ok (.putfield 19, 3) := by decide +kernel
theorem dX0_clear_5 : decode cX0_clear 5 = .ok (.return_, 1) := by decide +kernel
theorem dX0_isFull_0 : decode cX0_isFull 0 = .ok (.aload_n 0, 1) := by decide +kernel
theorem dX0_isFull_1 : decode cX0_isFull 1 = .ok (.getfield 19, 3) := by decide +kernel
theorem dX0_isFull_4 : decode cX0_isFull 4 = .ok (.aload_n 0, 1) := by decide +kernel
theorem dX0_isFull_5 : decode cX0_isFull 5 = .ok (.getfield 7, 3) := by decide +kernel
theorem dX0_isFull_8 : decode cX0_isFull 8 = .ok (.arraylength, 1) := by decide +kernel
theorem dX0_isFull_9 : decode cX0_isFull 9 = .ok (.if_icmp .lt 7, 3) := by decide +kernel
theorem dX0_isFull_12 : decode cX0_isFull 12 = .ok (.iconst 1, 1) := by decide +kernel
theorem dX0_isFull_13 : decode cX0_isFull 13 = .ok (.goto 4, 3) := by decide +kernel
theorem dX0_isFull_16 : decode cX0_isFull 16 = .ok (.iconst 0, 1) := by decide +kernel
theorem dX0_isFull_17 : decode cX0_isFull 17 = .ok (.ireturn, 1) := by decide +kernel
theorem dX0_add_0 : decode cX0_add 0 = .ok (.aload_n 0, 1) := by decide +kernel
theorem dX0_add_1 : decode cX0_add 1 = .ok (.invokevirtual 23, 3) := by decide +kernel
theorem dX0_add_4 : decode cX0_add 4 = .ok (.ifCond .eq 4, 3) := by decide +kernel
theorem dX0_add_7 : decode cX0_add 7 = .ok (.return_, 1) := by decide +kernel
theorem dX0_add_8 : decode cX0_add 8 = .ok (.aload_n 0, 1) := by decide +kernel
theorem dX0_add_9 : decode cX0_add 9 = .ok (.getfield 7, 3) := by decide +kernel
theorem dX0_add_12 : decode cX0_add 12 = .ok (.aload_n 0, 1) := by decide +kernel
theorem dX0_add_13 : decode cX0_add 13 = .ok (.getfield 19, 3) := by decide +kernel
theorem dX0_add_16 : decode cX0_add 16 = .ok (.iload_n 1, 1) := by decide +kernel
theorem dX0_add_17 : decode cX0_add 17 = .ok (.iastore, 1) := by decide +kernel
theorem dX0_add_18 : decode cX0_add 18 = .ok (.aload_n 0, 1) := by decide +kernel
theorem dX0_add_19 : decode cX0_add 19 = .ok (.getfield 13, 3) := by decide +kernel
theorem dX0_add_22 : decode cX0_add 22 = .ok (.aload_n 0, 1) := by decide +kernel
theorem dX0_add_23 : decode cX0_add 23 = .ok (.getfield 19, 3) := by decide +kernel
theorem dX0_add_26 : decode cX0_add 26 = .ok (.iload_n 2, 1) := by decide +kernel
theorem dX0_add_27 : decode cX0_add 27 = .ok (.iastore, 1) := by decide +kernel
theorem dX0_add_28 : decode cX0_add 28 = .ok (.aload_n 0, 1) := by decide +kernel
theorem dX0_add_29 : decode cX0_add 29 = .ok (.getfield 16, 3) := by decide +kernel
theorem dX0_add_32 : decode cX0_add 32 = .ok (.aload_n 0, 1) := by decide +kernel
theorem dX0_add_33 : decode cX0_add 33 = .ok (.getfield 19, 3) := by decide +kernel
theorem dX0_add_36 : decode cX0_add 36 = .ok (.iload_n 3, 1) := by decide +kernel
theorem dX0_add_37 : decode cX0_add 37 = .ok (.iastore, 1) := by decide +kernel
theorem dX0_add_38 : decode cX0_add 38 = .ok (.aload_n 0, 1) := by decide +kernel
theorem dX0_add_39 : decode cX0_add 39 = .ok (.dup, 1) := by decide +kernel
theorem dX0_add_40 : decode cX0_add 40 = .ok (.getfield 19, 3) := by decide +kernel
theorem dX0_add_43 : decode cX0_add 43 = .ok (.iconst 1, 1) := by decide +kernel
theorem dX0_add_44 : decode cX0_add 44 = .ok (.iadd, 1) := by decide +kernel
theorem dX0_add_45 : decode cX0_add 45 = .ok (.putfield 19, 3) := by decide +kernel
theorem dX0_add_48 : decode cX0_add 48 = .ok (.return_, 1) := by decide +kernel
theorem dX0_has_0 : decode cX0_has 0 = .ok (.iload_n 1, 1) := by decide +kernel
theorem dX0_has_1 : decode cX0_has 1 = .ok (.ifCond .lt 15, 3) := by decide +kernel
theorem dX0_has_4 : decode cX0_has 4 = .ok (.iload_n 1, 1) := by decide +kernel
theorem dX0_has_5 : decode cX0_has 5 = .ok (.aload_n 0, 1) := by decide +kernel
theorem dX0_has_6 : decode cX0_has 6 = .ok (.getfield 19, 3) := by decide +kernel
theorem dX0_has_9 : decode cX0_has 9 = .ok (.if_icmp .ge 7, 3) := by decide +kernel
theorem dX0_has_12 : decode cX0_has 12 = .ok (.iconst 1, 1) := by decide +kernel
theorem dX0_has_13 : decode cX0_has 13 = .ok (.goto 4, 3) := by decide +kernel
theorem dX0_has_16 : decode cX0_has 16 = .ok (.iconst 0, 1) := by decide +kernel
theorem dX0_has_17 : decode cX0_has 17 = .ok (.ireturn, 1) := by decide +kernel
theorem dX0_kindAt_0 : decode cX0_kindAt 0 = .ok (.aload_n 0, 1) := by decide +kernel
theorem dX0_kindAt_1 : decode cX0_kindAt 1 = .ok (.iload_n 1, 1) := by decide +kernel
theorem dX0_kindAt_2 : decode cX0_kindAt 2 = .ok (.invokevirtual 27, 3) := by decide +kernel
theorem dX0_kindAt_5 : decode cX0_kindAt 5 = .ok (.ifCond .eq 12, 3) := by decide +kernel
theorem dX0_kindAt_8 : decode cX0_kindAt 8 = .ok (.aload_n 0, 1) := by decide +kernel
theorem dX0_kindAt_9 : decode cX0_kindAt 9 = .ok (.getfield 7, 3) := by decide +kernel
theorem dX0_kindAt_12 : decode cX0_kindAt 12 = .ok (.iload_n 1, 1) := by decide +kernel
theorem dX0_kindAt_13 : decode cX0_kindAt 13 = .ok (.iaload, 1) := by decide +kernel
theorem dX0_kindAt_14 : decode cX0_kindAt 14 = .ok (.goto 4, 3) := by decide +kernel
theorem dX0_kindAt_17 : decode cX0_kindAt 17 = .ok (.iconst 0, 1) := by decide +kernel
theorem dX0_kindAt_18 : decode cX0_kindAt 18 = .ok (.ireturn, 1) := by decide +kernel
theorem dX0_valueAt_0 : decode cX0_valueAt 0 = .ok (.aload_n 0, 1) := by decide +kernel
theorem dX0_valueAt_1 : decode cX0_valueAt 1 = .ok (.iload_n 1, 1) := by decide +kernel
theorem dX0_valueAt_2 : decode cX0_valueAt 2 = .ok (.invokevirtual 27, 3) := by decide +kernel
theorem dX0_valueAt_5 : decode cX0_valueAt 5 = .ok (.ifCond .eq 12, 3) := by decide +kernel
theorem dX0_valueAt_8 : decode cX0_valueAt 8 = .ok (.aload_n 0, 1) := by decide +kernel
theorem dX0_valueAt_9 : decode cX0_valueAt 9 = .ok (.getfield 13, 3) := by decide +kernel
theorem dX0_valueAt_12 : decode cX0_valueAt 12 = .ok (.iload_n 1, 1) := by decide +kernel
theorem dX0_valueAt_13 : decode cX0_valueAt 13 = .ok (.iaload, 1) := by decide +kernel
theorem dX0_valueAt_14 : decode cX0_valueAt 14 = .ok (.goto 4, 3) := by decide +kernel
theorem dX0_valueAt_17 : decode cX0_valueAt 17 = .ok (.iconst 0, 1) := by decide +kernel
theorem dX0_valueAt_18 : decode cX0_valueAt 18 = .ok (.ireturn, 1) := by decide +kernel
theorem dX0_sizeAt_0 : decode cX0_sizeAt 0 = .ok (.aload_n 0, 1) := by decide +kernel
theorem dX0_sizeAt_1 : decode cX0_sizeAt 1 = .ok (.iload_n 1, 1) := by decide +kernel
theorem dX0_sizeAt_2 : decode cX0_sizeAt 2 = .ok (.invokevirtual 27, 3) := by decide +kernel
theorem dX0_sizeAt_5 : decode cX0_sizeAt 5 = .ok (.ifCond .eq 12, 3) := by decide +kernel
theorem dX0_sizeAt_8 : decode cX0_sizeAt 8 = .ok (.aload_n 0, 1) := by decide +kernel
theorem dX0_sizeAt_9 : decode cX0_sizeAt 9 = .ok (.getfield 16, 3) := by decide +kernel
theorem dX0_sizeAt_12 : decode cX0_sizeAt 12 = .ok (.iload_n 1, 1) := by decide +kernel
theorem dX0_sizeAt_13 : decode cX0_sizeAt 13 = .ok (.iaload, 1) := by decide +kernel
theorem dX0_sizeAt_14 : decode cX0_sizeAt 14 = .ok (.goto 4, 3) := by decide +kernel
theorem dX0_sizeAt_17 : decode cX0_sizeAt 17 = .ok (.iconst 0, 1) := by decide +kernel
theorem dX0_sizeAt_18 : decode cX0_sizeAt 18 = .ok (.ireturn, 1) := by decide +kernel
theorem dX1_init_0 : decode cX1_init 0 = .ok (.aload_n 0, 1) := by decide +kernel
theorem dX1_init_1 : decode cX1_init 1 = .ok (.invokespecial 3, 3) := by decide +kernel
theorem dX1_init_4 : decode cX1_init 4 = .ok (.aload_n 0, 1) := by decide +kernel
theorem dX1_init_5 : decode cX1_init 5 = .ok (.iconst (-1), 1) := by decide +kernel
theorem dX1_init_6 : decode cX1_init 6 = .ok (.putfield 9, 3) := by decide +kernel
theorem dX1_init_9 : decode cX1_init 9 = .ok (.aload_n 0, 1) := by decide +kernel
theorem dX1_init_10 : decode cX1_init 10 = .ok (.iload_n 1, 1) := by decide +kernel
theorem dX1_init_11 : decode cX1_init 11 = .ok (.putfield 15, 3) := by decide +kernel
theorem dX1_init_14 : decode cX1_init 14 = .ok (.aload_n 0, 1) := by decide +kernel
theorem dX1_init_15 : decode cX1_init 15 = .ok (.aload_n 2, 1) := by decide +kernel
theorem dX1_init_16 : decode cX1_init 16 = .ok (.putfield 18, 3) := by decide +kernel
theorem dX1_init_19 : decode cX1_init 19 = .ok (.return_, 1) := by decide +kernel
theorem dX1_isReady_0 : decode cX1_isReady 0 = .ok (.aload_n 0, 1) := by decide +kernel
theorem dX1_isReady_1 : decode cX1_isReady 1 = .ok (.getfield 22, 3) := by decide +kernel
theorem dX1_isReady_4 : decode cX1_isReady 4 = .ok (.ifCond .ne 14, 3) := by decide +kernel
theorem dX1_isReady_7 : decode cX1_isReady 7 = .ok (.aload_n 0, 1) := by decide +kernel
theorem dX1_isReady_8 : decode cX1_isReady 8 = .ok (.getfield 26, 3) := by decide +kernel
theorem dX1_isReady_11 : decode cX1_isReady 11 = .ok (.ifnonnull 7, 3) := by decide +kernel
theorem dX1_isReady_14 : decode cX1_isReady 14 = .ok (.iconst 1, 1) := by decide +kernel
theorem dX1_isReady_15 : decode cX1_isReady 15 = .ok (.goto 4, 3) := by decide +kernel
theorem dX1_isReady_18 : decode cX1_isReady 18 = .ok (.iconst 0, 1) := by decide +kernel
theorem dX1_isReady_19 : decode cX1_isReady 19 = .ok (.ireturn, 1) := by decide +kernel
theorem dX1_distance_0 : decode cX1_distance 0 = .ok (.aload_n 1, 1) := by decide +kernel
theorem dX1_distance_1 : decode cX1_distance 1 = .ok (.getfield 30, 3) := by decide +kernel
theorem dX1_distance_4 : decode cX1_distance 4 = .ok (.aload_n 0, 1) := by decide +kernel
theorem dX1_distance_5 : decode cX1_distance 5 = .ok (.getfield 15, 3) := by decide +kernel
theorem dX1_distance_8 : decode cX1_distance 8 = .ok (.isub, 1) := by decide +kernel
theorem dX1_distance_9 : decode cX1_distance 9 = .ok (.invokestatic 35, 3) := by decide +kernel
theorem dX1_distance_12 : decode cX1_distance 12 = .ok (.iconst 1, 1) := by decide +kernel
theorem dX1_distance_13 : decode cX1_distance 13 = .ok (.iadd, 1) := by decide +kernel
theorem dX1_distance_14 : decode cX1_distance 14 = .ok (.ireturn, 1) := by decide +kernel
theorem dX1_carry_0 : decode cX1_carry 0 = .ok (.aload_n 0, 1) := by decide +kernel
theorem dX1_carry_1 : decode cX1_carry 1 = .ok (.aload_n 1, 1) := by decide +kernel
theorem dX1_carry_2 : decode cX1_carry 2 = .ok (.putfield 26, 3) := by decide +kernel
theorem dX1_carry_5 : decode cX1_carry 5 = .ok (.aload_n 0, 1) := by decide +kernel
theorem dX1_carry_6 : decode cX1_carry 6 = .ok (.iconst 0, 1) := by decide +kernel
theorem dX1_carry_7 : decode cX1_carry 7 = .ok (.putfield 41, 3) := by decide +kernel
theorem dX1_carry_10 : decode cX1_carry 10 = .ok (.aload_n 0, 1) := by decide +kernel
theorem dX1_carry_11 : decode cX1_carry 11 = .ok (.aload_n 1, 1) := by decide +kernel
theorem dX1_carry_12 : decode cX1_carry 12 = .ok (.invokevirtual 44, 3) := by decide +kernel
theorem dX1_carry_15 : decode cX1_carry 15 = .ok (.istore_n 2, 1) := by decide +kernel
theorem dX1_carry_16 : decode cX1_carry 16 = .ok (.aload_n 0, 1) := by decide +kernel
theorem dX1_carry_17 : decode cX1_carry 17 = .ok (.iconst 0, 1) := by decide +kernel
theorem dX1_carry_18 : decode cX1_carry 18 = .ok (.putfield 48, 3) := by decide +kernel
theorem dX1_carry_21 : decode cX1_carry 21 = .ok (.aload_n 0, 1) := by decide +kernel
theorem dX1_carry_22 : decode cX1_carry 22 = .ok (.getfield 48, 3) := by decide +kernel
theorem dX1_carry_25 : decode cX1_carry 25 = .ok (.iload_n 2, 1) := by decide +kernel
theorem dX1_carry_26 : decode cX1_carry 26 = .ok (.if_icmp .ge 29, 3) := by decide +kernel
theorem dX1_carry_29 : decode cX1_carry 29 = .ok (.aload_n 0, 1) := by decide +kernel
theorem dX1_carry_30 : decode cX1_carry 30 = .ok (.getfield 18, 3) := by decide +kernel
theorem dX1_carry_33 : decode cX1_carry 33 = .ok (.invokevirtual 51, 3) := by decide +kernel
theorem dX1_carry_36 : decode cX1_carry 36 = .ok (.ifCond .ne 6, 3) := by decide +kernel
theorem dX1_carry_39 : decode cX1_carry 39 = .ok (.bipush (-4), 2) := by decide +kernel
theorem dX1_carry_41 : decode cX1_carry 41 = .ok (.ireturn, 1) := by decide +kernel
theorem dX1_carry_42 : decode cX1_carry 42 = .ok (.aload_n 0, 1) := by decide +kernel
theorem dX1_carry_43 : decode cX1_carry 43 = .ok (.dup, 1) := by decide +kernel
theorem dX1_carry_44 : decode cX1_carry 44 = .ok (.getfield 48, 3) := by decide +kernel
theorem dX1_carry_47 : decode cX1_carry 47 = .ok (.iconst 1, 1) := by decide +kernel
theorem dX1_carry_48 : decode cX1_carry 48 = .ok (.iadd, 1) := by decide +kernel
theorem dX1_carry_49 : decode cX1_carry 49 = .ok (.putfield 48, 3) := by decide +kernel
theorem dX1_carry_52 : decode cX1_carry 52 = .ok (.goto (-31), 3) := by decide +kernel
theorem dX1_carry_55 : decode cX1_carry 55 = .ok (.aload_n 0, 1) := by decide +kernel
theorem dX1_carry_56 : decode cX1_carry 56 = .ok (.dup, 1) := by decide +kernel
theorem dX1_carry_57 : decode cX1_carry 57 = .ok (.getfield 57, 3) := by decide +kernel
theorem dX1_carry_60 : decode cX1_carry 60 = .ok (.iconst 1, 1) := by decide +kernel
theorem dX1_carry_61 : decode cX1_carry 61 = .ok (.iadd, 1) := by decide +kernel
theorem dX1_carry_62 : decode cX1_carry 62 = .ok (.putfield 57, 3) := by decide +kernel
theorem dX1_carry_65 : decode cX1_carry 65 = .ok (.aload_n 1, 1) := by decide +kernel
theorem dX1_carry_66 : decode cX1_carry 66 = .ok (.dup, 1) := by decide +kernel
theorem dX1_carry_67 : decode cX1_carry 67 = .ok (.getfield 60, 3) := by decide +kernel
theorem dX1_carry_70 : decode cX1_carry 70 = .ok (.iconst 1, 1) := by decide +kernel
theorem dX1_carry_71 : decode cX1_carry 71 = .ok (.iadd, 1) := by decide +kernel
theorem dX1_carry_72 : decode cX1_carry 72 = .ok (.putfield 60, 3) := by decide +kernel
theorem dX1_carry_75 : decode cX1_carry 75 = .ok (.iconst 0, 1) := by decide +kernel
theorem dX1_carry_76 : decode cX1_carry 76 = .ok (.ireturn, 1) := by decide +kernel
theorem dX1_windTo_0 : decode cX1_windTo 0 = .ok (.aload_n 0, 1) := by decide +kernel
theorem dX1_windTo_1 : decode cX1_windTo 1 = .ok (.getfield 41, 3) := by decide +kernel
theorem dX1_windTo_4 : decode cX1_windTo 4 = .ok (.iload_n 1, 1) := by decide +kernel
theorem dX1_windTo_5 : decode cX1_windTo 5 = .ok (.if_icmp .ge 29, 3) := by decide +kernel
theorem dX1_windTo_8 : decode cX1_windTo 8 = .ok (.aload_n 0, 1) := by decide +kernel
theorem dX1_windTo_9 : decode cX1_windTo 9 = .ok (.getfield 18, 3) := by decide +kernel
theorem dX1_windTo_12 : decode cX1_windTo 12 = .ok (.invokevirtual 51, 3) := by decide +kernel
theorem dX1_windTo_15 : decode cX1_windTo 15 = .ok (.ifCond .ne 6, 3) := by decide +kernel
theorem dX1_windTo_18 : decode cX1_windTo 18 = .ok (.bipush (-4), 2) := by decide +kernel
theorem dX1_windTo_20 : decode cX1_windTo 20 = .ok (.ireturn, 1) := by decide +kernel
theorem dX1_windTo_21 : decode cX1_windTo 21 = .ok (.aload_n 0, 1) := by decide +kernel
theorem dX1_windTo_22 : decode cX1_windTo 22 = .ok (.dup, 1) := by decide +kernel
theorem dX1_windTo_23 : decode cX1_windTo 23 = .ok (.getfield 41, 3) := by decide +kernel
theorem dX1_windTo_26 : decode cX1_windTo 26 = .ok (.iconst 1, 1) := by decide +kernel
theorem dX1_windTo_27 : decode cX1_windTo 27 = .ok (.iadd, 1) := by decide +kernel
theorem dX1_windTo_28 : decode cX1_windTo 28 = .ok (.putfield 41, 3) := by decide +kernel
theorem dX1_windTo_31 : decode cX1_windTo 31 = .ok (.goto (-31), 3) := by decide +kernel
theorem dX1_windTo_34 : decode cX1_windTo 34 = .ok (.iconst 0, 1) := by decide +kernel
theorem dX1_windTo_35 : decode cX1_windTo 35 = .ok (.ireturn, 1) := by decide +kernel
theorem dX1_passBlock_0 : decode cX1_passBlock 0 = .ok (.aload_n 0, 1) := by decide +kernel
theorem dX1_passBlock_1 : decode cX1_passBlock 1 = .ok (.getfield 9, 3) := by decide +kernel
theorem dX1_passBlock_4 : decode cX1_passBlock 4 = .ok (.ifCond .ne 11, 3) := by decide +kernel
theorem dX1_passBlock_7 : decode cX1_passBlock 7 = .ok (.aload_n 0, 1) := by decide +kernel
theorem dX1_passBlock_8 : decode cX1_passBlock 8 = .ok (.iconst 1, 1) := by decide +kernel
theorem dX1_passBlock_9 : decode cX1_passBlock 9 = .ok (.putfield 22, 3) := by decide +kernel
theorem dX1_passBlock_12 : decode cX1_passBlock 12 = .ok (.bipush (-5), 2) := by decide +kernel
theorem dX1_passBlock_14 : decode cX1_passBlock 14 = .ok (.ireturn, 1) := by decide +kernel
theorem dX1_passBlock_15 : decode cX1_passBlock 15 = .ok (.aload_n 0, 1) := by decide +kernel
theorem dX1_passBlock_16 : decode cX1_passBlock 16 = .ok (.getfield 18, 3) := by decide +kernel
theorem dX1_passBlock_19 : decode cX1_passBlock 19 = .ok (.invokevirtual 51, 3) := by decide +kernel
theorem dX1_passBlock_22 : decode cX1_passBlock 22 = .ok (.ifCond .ne 6, 3) := by decide +kernel
theorem dX1_passBlock_25 : decode cX1_passBlock 25 = .ok (.bipush (-4), 2) := by decide +kernel
theorem dX1_passBlock_27 : decode cX1_passBlock 27 = .ok (.ireturn, 1) := by decide +kernel
theorem dX1_passBlock_28 : decode cX1_passBlock 28 = .ok (.aload_n 0, 1) := by decide +kernel
theorem dX1_passBlock_29 : decode cX1_passBlock 29 = .ok (.getfield 9, 3) := by decide +kernel
theorem dX1_passBlock_32 : decode cX1_passBlock 32 = .ok (.ifCond .le 13, 3) := by decide +kernel
theorem dX1_passBlock_35 : decode cX1_passBlock 35 = .ok (.aload_n 0, 1) := by decide +kernel
theorem dX1_passBlock_36 : decode cX1_passBlock 36 = .ok (.dup, 1) := by decide +kernel
theorem dX1_passBlock_37 : decode cX1_passBlock 37 = .ok (.getfield 9, 3) := by decide +kernel
theorem dX1_passBlock_40 : decode cX1_passBlock 40 = .ok (.iconst 1, 1) := by decide +kernel
theorem dX1_passBlock_41 : decode cX1_passBlock 41 = .ok (.isub, 1) := by decide +kernel
theorem dX1_passBlock_42 : decode cX1_passBlock 42 = .ok (.putfield 9, 3) := by decide +kernel
theorem dX1_passBlock_45 : decode cX1_passBlock 45 = .ok (.aload_n 0, 1) := by decide +kernel
theorem dX1_passBlock_46 : decode cX1_passBlock 46 = .ok (.dup, 1) := by decide +kernel
theorem dX1_passBlock_47 : decode cX1_passBlock 47 = .ok (.getfield 63, 3) := by decide +kernel
theorem dX1_passBlock_50 : decode cX1_passBlock 50 = .ok (.iconst 1, 1) := by decide +kernel
theorem dX1_passBlock_51 : decode cX1_passBlock 51 = .ok (.iadd, 1) := by decide +kernel
theorem dX1_passBlock_52 : decode cX1_passBlock 52 = .ok (.putfield 63, 3) := by decide +kernel
theorem dX1_passBlock_55 : decode cX1_passBlock 55 = .ok (.aload_n 0, 1) := by decide +kernel
theorem dX1_passBlock_56 : decode cX1_passBlock 56 = .ok (.dup, 1) := by decide +kernel
theorem dX1_passBlock_57 : decode cX1_passBlock 57 = .ok (.getfield 41, 3) := by decide +kernel
theorem dX1_passBlock_60 : decode cX1_passBlock 60 = .ok (.iconst 1, 1) := by decide +kernel
theorem dX1_passBlock_61 : decode cX1_passBlock 61 = .ok (.iadd, 1) := by decide +kernel
theorem dX1_passBlock_62 : decode cX1_passBlock 62 = .ok (.putfield 41, 3) := by decide +kernel
theorem dX1_passBlock_65 : decode cX1_passBlock 65 = .ok (.iconst 0, 1) := by decide +kernel
theorem dX1_passBlock_66 : decode cX1_passBlock 66 = .ok (.ireturn, 1) := by decide +kernel
theorem dX1_readBlock_0 : decode cX1_readBlock 0 = .ok (.aload_n 0, 1) := by decide +kernel
theorem dX1_readBlock_1 : decode cX1_readBlock 1 = .ok (.getfield 41, 3) := by decide +kernel
theorem dX1_readBlock_4 : decode cX1_readBlock 4 = .ok (.istore_n 1, 1) := by decide +kernel
theorem dX1_readBlock_5 : decode cX1_readBlock 5 = .ok (.aload_n 0, 1) := by decide +kernel
theorem dX1_readBlock_6 : decode cX1_readBlock 6 = .ok (.invokevirtual 66, 3) := by decide +kernel
theorem dX1_readBlock_9 : decode cX1_readBlock 9 = .ok (.istore_n 2, 1) := by decide +kernel
theorem dX1_readBlock_10 : decode cX1_readBlock 10 = .ok (.iload_n 2, 1) := by decide +kernel
theorem dX1_readBlock_11 : decode cX1_readBlock 11 = .ok (.ifCond .ne 24, 3) := by decide +kernel
theorem dX1_readBlock_14 : decode cX1_readBlock 14 = .ok (.aload_n 0, 1) := by decide +kernel
theorem dX1_readBlock_15 : decode cX1_readBlock 15 = .ok (.getfield 26, 3) := by decide +kernel
theorem dX1_readBlock_18 : decode cX1_readBlock 18 = .ok (.ifnull 17, 3) := by decide +kernel
theorem dX1_readBlock_21 : decode cX1_readBlock 21 = .ok (.aload_n 0, 1) := by decide +kernel
theorem dX1_readBlock_22 : decode cX1_readBlock 22 = .ok (.getfield 26, 3) := by decide +kernel
theorem dX1_readBlock_25 : decode cX1_readBlock 25 = .ok (.iload_n 1, 1) := by decide +kernel
theorem dX1_readBlock_26 : decode cX1_readBlock 26 = .ok (.invokevirtual 70, 3) := by decide +kernel
theorem dX1_readBlock_29 : decode cX1_readBlock 29 = .ok (.ifCond .eq 6, 3) := by decide +kernel
theorem dX1_readBlock_32 : decode cX1_readBlock 32 = .ok (.bipush (-7), 2) := by decide +kernel
theorem dX1_readBlock_34 : decode cX1_readBlock 34 = .ok (.ireturn, 1) := by decide +kernel
theorem dX1_readBlock_35 : decode cX1_readBlock 35 = .ok (.iload_n 2, 1) := by decide +kernel
theorem dX1_readBlock_36 : decode cX1_readBlock 36 = .ok (.ireturn, 1) := by decide +kernel
theorem dX1_writeBlock_0 : decode cX1_writeBlock 0 = .ok (.aload_n 0, 1) := by decide +kernel
theorem dX1_writeBlock_1 : decode cX1_writeBlock 1 = .ok (.getfield 26, 3) := by decide +kernel
theorem dX1_writeBlock_4 : decode cX1_writeBlock 4 = .ok (.ifnull 16, 3) := by decide +kernel
theorem dX1_writeBlock_7 : decode cX1_writeBlock 7 = .ok (.aload_n 0, 1) := by decide +kernel
theorem dX1_writeBlock_8 : decode cX1_writeBlock 8 = .ok (.getfield 26, 3) := by decide +kernel
theorem dX1_writeBlock_11 : decode cX1_writeBlock 11 = .ok (.getfield 74, 3) := by decide +kernel
theorem dX1_writeBlock_14 : decode cX1_writeBlock 14 = .ok (.invokevirtual 78, 3) := by decide +kernel
theorem dX1_writeBlock_17 : decode cX1_writeBlock 17 = .ok (.ifCond .eq 6, 3) := by decide +kernel
theorem dX1_writeBlock_20 : decode cX1_writeBlock 20 = .ok (.bipush (-6), 2) := by decide +kernel
theorem dX1_writeBlock_22 : decode cX1_writeBlock 22 = .ok (.ireturn, 1) := by decide +kernel
theorem dX1_writeBlock_23 : decode cX1_writeBlock 23 = .ok (.aload_n 0, 1) := by decide +kernel
theorem dX1_writeBlock_24 : decode cX1_writeBlock 24 = .ok (.invokevirtual 66, 3) := by decide +kernel
theorem dX1_writeBlock_27 : decode cX1_writeBlock 27 = .ok (.istore_n 3, 1) := by decide +kernel
theorem dX1_writeBlock_28 : decode cX1_writeBlock 28 = .ok (.iload_n 3, 1) := by decide +kernel
theorem dX1_writeBlock_29 : decode cX1_writeBlock 29 = .ok (.ifCond .ne 28, 3) := by decide +kernel
theorem dX1_writeBlock_32 : decode cX1_writeBlock 32 = .ok (.aload_n 0, 1) := by decide +kernel
theorem dX1_writeBlock_33 : decode cX1_writeBlock 33 = .ok (.getfield 26, 3) := by decide +kernel
theorem dX1_writeBlock_36 : decode cX1_writeBlock 36 = .ok (.getfield 74, 3) := by decide +kernel
theorem dX1_writeBlock_39 : decode cX1_writeBlock 39 = .ok (.aload_n 1, 1) := by decide +kernel
theorem dX1_writeBlock_40 : decode cX1_writeBlock 40 = .ok (.iload_n 2, 1) := by decide +kernel
theorem dX1_writeBlock_41 : decode cX1_writeBlock 41 = .ok (.invokevirtual 83, 3) := by decide +kernel
theorem dX1_writeBlock_44 : decode cX1_writeBlock 44 = .ok (.aload_n 1, 1) := by decide +kernel
theorem dX1_writeBlock_45 : decode cX1_writeBlock 45 = .ok (.iload_n 2, 1) := by decide +kernel
theorem dX1_writeBlock_46 : decode cX1_writeBlock 46 = .ok (.invokevirtual 86, 3) := by decide +kernel
theorem dX1_writeBlock_49 : decode cX1_writeBlock 49 = .ok (.aload_n 1, 1) := by decide +kernel
theorem dX1_writeBlock_50 : decode cX1_writeBlock 50 = .ok (.iload_n 2, 1) := by decide +kernel
theorem dX1_writeBlock_51 : decode cX1_writeBlock 51 = .ok (.invokevirtual 89, 3) := by decide +kernel
theorem dX1_writeBlock_54 : decode cX1_writeBlock 54 = .ok (.invokevirtual 92, 3) := by decide +kernel
theorem dX1_writeBlock_57 : decode cX1_writeBlock 57 = .ok (.iload_n 3, 1) := by decide +kernel
theorem dX1_writeBlock_58 : decode cX1_writeBlock 58 = .ok (.ireturn, 1) := by decide +kernel
theorem dX1_endWriting_0 : decode cX1_endWriting 0 = .ok (.iload_n 2, 1) := by decide +kernel
theorem dX1_endWriting_1 : decode cX1_endWriting 1 = .ok (.ifCond .ne 5, 3) := by decide +kernel
theorem dX1_endWriting_4 : decode cX1_endWriting 4 = .ok (.iload_n 1, 1) := by decide +kernel
theorem dX1_endWriting_5 : decode cX1_endWriting 5 = .ok (.ireturn, 1) := by decide +kernel
theorem dX1_endWriting_6 : decode cX1_endWriting 6 = .ok (.aload_n 0, 1) := by decide +kernel
theorem dX1_endWriting_7 : decode cX1_endWriting 7 = .ok (.getfield 26, 3) := by decide +kernel
theorem dX1_endWriting_10 : decode cX1_endWriting 10 = .ok (.ifnull 28, 3) := by decide +kernel
theorem dX1_endWriting_13 : decode cX1_endWriting 13 = .ok (.aload_n 0, 1) := by decide +kernel
theorem dX1_endWriting_14 : decode cX1_endWriting 14 = .ok (.getfield 26, 3) := by decide +kernel
theorem dX1_endWriting_17 : decode cX1_endWriting 17 = .ok (.getfield 74, 3) := by decide +kernel
theorem dX1_endWriting_20 : decode cX1_endWriting 20 = .ok (.getfield 96, 3) := by decide +kernel
theorem dX1_endWriting_23 : decode cX1_endWriting 23 = .ok (.iload_n 1, 1) := by decide +kernel
theorem dX1_endWriting_24 : decode cX1_endWriting 24 = .ok (.if_icmp .le 14, 3) := by decide +kernel
theorem dX1_endWriting_27 : decode cX1_endWriting 27 = .ok (.aload_n 0, 1) := by decide +kernel
theorem dX1_endWriting_28 : decode cX1_endWriting 28 = .ok (.aload_n 0, 1) := by decide +kernel
theorem dX1_endWriting_29 : decode cX1_endWriting 29 = .ok (.getfield 26, 3) := by decide +kernel
theorem dX1_endWriting_32 : decode cX1_endWriting 32 = .ok (.getfield 74, 3) := by decide +kernel
theorem dX1_endWriting_35 : decode cX1_endWriting 35 = .ok (.invokevirtual 99, 3) := by decide +kernel
theorem dX1_endWriting_38 : decode cX1_endWriting 38 = .ok (.iload_n 2, 1) := by decide +kernel
theorem dX1_endWriting_39 : decode cX1_endWriting 39 = .ok (.ireturn, 1) := by decide +kernel
theorem dX1_closeWithVoid_0 : decode cX1_closeWithVoid 0 = .ok (.aload_n 0, 1) := by decide +kernel
theorem dX1_closeWithVoid_1 : decode cX1_closeWithVoid 1 = .ok (.getfield 22, 3) := by decide +kernel
theorem dX1_closeWithVoid_4 : decode cX1_closeWithVoid 4 = .ok (.ifCond .ne 10, 3) := by decide +kernel
theorem dX1_closeWithVoid_7 : decode cX1_closeWithVoid 7 = .ok (.aload_n 1, 1) := by decide +kernel
theorem dX1_closeWithVoid_8 : decode cX1_closeWithVoid 8 = .ok (.invokevirtual 78, 3) := by decide +kernel
theorem dX1_closeWithVoid_11 : decode cX1_closeWithVoid 11 = .ok (.ifCond .eq 4, 3) := by decide +kernel
theorem dX1_closeWithVoid_14 : decode cX1_closeWithVoid 14 = .ok (.return_, 1) := by decide +kernel
theorem dX1_closeWithVoid_15 : decode cX1_closeWithVoid 15 = .ok (.aload_n 0, 1) := by decide +kernel
theorem dX1_closeWithVoid_16 : decode cX1_closeWithVoid 16 = .ok (.getfield 18, 3) := by decide +kernel
theorem dX1_closeWithVoid_19 : decode cX1_closeWithVoid 19 = .ok (.dup, 1) := by decide +kernel
theorem dX1_closeWithVoid_20 : decode cX1_closeWithVoid 20 = .ok (.getfield 103, 3) := by decide +kernel
theorem dX1_closeWithVoid_23 : decode cX1_closeWithVoid 23 = .ok (.iconst 1, 1) := by decide +kernel
theorem dX1_closeWithVoid_24 : decode cX1_closeWithVoid 24 = .ok (.iadd, 1) := by decide +kernel
theorem dX1_closeWithVoid_25 : decode cX1_closeWithVoid 25 = .ok (.putfield 103, 3) := by decide +kernel
theorem dX1_closeWithVoid_28 : decode cX1_closeWithVoid 28 = .ok (.aload_n 1, 1) := by decide +kernel
theorem dX1_closeWithVoid_29 : decode cX1_closeWithVoid 29 = .ok (.iconst 4, 1) := by decide +kernel
theorem dX1_closeWithVoid_30 : decode cX1_closeWithVoid 30 = .ok (.iconst 0, 1) := by decide +kernel
theorem dX1_closeWithVoid_31 : decode cX1_closeWithVoid 31 = .ok (.iconst 0, 1) := by decide +kernel
theorem dX1_closeWithVoid_32 : decode cX1_closeWithVoid 32 = .ok (.invokevirtual 92, 3) := by decide +kernel
theorem dX1_closeWithVoid_35 : decode cX1_closeWithVoid 35 = .ok (.aload_n 0, 1) := by decide +kernel
theorem dX1_closeWithVoid_36 : decode cX1_closeWithVoid 36 = .ok (.aload_n 1, 1) := by decide +kernel
theorem dX1_closeWithVoid_37 : decode cX1_closeWithVoid 37 = .ok (.getfield 96, 3) := by decide +kernel
theorem dX1_closeWithVoid_40 : decode cX1_closeWithVoid 40 = .ok (.putfield 41, 3) := by decide +kernel
theorem dX1_closeWithVoid_43 : decode cX1_closeWithVoid 43 = .ok (.return_, 1) := by decide +kernel
theorem dX1_lookThrough_0 : decode cX1_lookThrough 0 = .ok (.iconst 0, 1) := by decide +kernel
theorem dX1_lookThrough_1 : decode cX1_lookThrough 1 = .ok (.istore_n 1, 1) := by decide +kernel
theorem dX1_lookThrough_2 : decode cX1_lookThrough 2 = .ok (.aload_n 0, 1) := by decide +kernel
theorem dX1_lookThrough_3 : decode cX1_lookThrough 3 = .ok (.getfield 26, 3) := by decide +kernel
theorem dX1_lookThrough_6 : decode cX1_lookThrough 6 = .ok (.ifnonnull 7, 3) := by decide +kernel
theorem dX1_lookThrough_9 : decode cX1_lookThrough 9 = .ok (.iconst 0, 1) := by decide +kernel
theorem dX1_lookThrough_10 : decode cX1_lookThrough 10 = .ok (.goto 13, 3) := by decide +kernel
theorem dX1_lookThrough_13 : decode cX1_lookThrough 13 = .ok (.aload_n 0, 1) := by decide +kernel
theorem dX1_lookThrough_14 : decode cX1_lookThrough 14 = .ok (.getfield 26, 3) := by decide +kernel
theorem dX1_lookThrough_17 : decode cX1_lookThrough 17 = .ok (.getfield 74, 3) := by decide +kernel
theorem dX1_lookThrough_20 : decode cX1_lookThrough 20 = .ok (.getfield 96, 3) := by decide +kernel
theorem dX1_lookThrough_23 : decode cX1_lookThrough 23 = .ok (.istore_n 2, 1) := by decide +kernel
theorem dX1_lookThrough_24 : decode cX1_lookThrough 24 = .ok (.iconst 0, 1) := by decide +kernel
theorem dX1_lookThrough_25 : decode cX1_lookThrough 25 = .ok (.istore_n 3, 1) := by decide +kernel
theorem dX1_lookThrough_26 : decode cX1_lookThrough 26 = .ok (.iload_n 3, 1) := by decide +kernel
theorem dX1_lookThrough_27 : decode cX1_lookThrough 27 = .ok (.iload_n 2, 1) := by decide +kernel
theorem dX1_lookThrough_28 : decode cX1_lookThrough 28 = .ok (.if_icmp .ge 24, 3) := by decide +kernel
theorem dX1_lookThrough_31 : decode cX1_lookThrough 31 = .ok (.iload_n 1, 1) := by decide +kernel
theorem dX1_lookThrough_32 : decode cX1_lookThrough 32 = .ok (.ifCond .eq 9, 3) := by decide +kernel
theorem dX1_lookThrough_35 : decode cX1_lookThrough 35 = .ok (.iload_n 1, 1) := by decide +kernel
theorem dX1_lookThrough_36 : decode cX1_lookThrough 36 = .ok (.bipush (-7), 2) := by decide +kernel
theorem dX1_lookThrough_38 : decode cX1_lookThrough 38 = .ok (.if_icmp .ne 14, 3) := by decide +kernel
theorem dX1_lookThrough_41 : decode cX1_lookThrough 41 = .ok (.aload_n 0, 1) := by decide +kernel
theorem dX1_lookThrough_42 : decode cX1_lookThrough 42 = .ok (.invokevirtual 106, 3) := by decide +kernel
theorem dX1_lookThrough_45 : decode cX1_lookThrough 45 = .ok (.istore_n 1, 1) := by decide +kernel
theorem dX1_lookThrough_46 : decode cX1_lookThrough 46 = .ok (.iinc 3 1, 3) := by decide +kernel
theorem dX1_lookThrough_49 : decode cX1_lookThrough 49 = .ok (.goto (-23), 3) := by decide +kernel
theorem dX1_lookThrough_52 : decode cX1_lookThrough 52 = .ok (.iload_n 1, 1) := by decide +kernel
theorem dX1_lookThrough_53 : decode cX1_lookThrough 53 = .ok (.bipush (-7), 2) := by decide +kernel
theorem dX1_lookThrough_55 : decode cX1_lookThrough 55 = .ok (.if_icmp .ne 7, 3) := by decide +kernel
theorem dX1_lookThrough_58 : decode cX1_lookThrough 58 = .ok (.iconst 0, 1) := by decide +kernel
theorem dX1_lookThrough_59 : decode cX1_lookThrough 59 = .ok (.goto 4, 3) := by decide +kernel
theorem dX1_lookThrough_62 : decode cX1_lookThrough 62 = .ok (.iload_n 1, 1) := by decide +kernel
theorem dX1_lookThrough_63 : decode cX1_lookThrough 63 = .ok (.ireturn, 1) := by decide +kernel
theorem dX1_bringHome_0 : decode cX1_bringHome 0 = .ok (.aload_n 0, 1) := by decide +kernel
theorem dX1_bringHome_1 : decode cX1_bringHome 1 = .ok (.getfield 18, 3) := by decide +kernel
theorem dX1_bringHome_4 : decode cX1_bringHome 4 = .ok (.dup, 1) := by decide +kernel
theorem dX1_bringHome_5 : decode cX1_bringHome 5 = .ok (.getfield 103, 3) := by decide +kernel
theorem dX1_bringHome_8 : decode cX1_bringHome 8 = .ok (.aload_n 0, 1) := by decide +kernel
theorem dX1_bringHome_9 : decode cX1_bringHome 9 = .ok (.getfield 22, 3) := by decide +kernel
theorem dX1_bringHome_12 : decode cX1_bringHome 12 = .ok (.ifCond .eq 12, 3) := by decide +kernel
theorem dX1_bringHome_15 : decode cX1_bringHome 15 = .ok (.iconst 3, 1) := by decide +kernel
theorem dX1_bringHome_16 : decode cX1_bringHome 16 = .ok (.aload_n 0, 1) := by decide +kernel
theorem dX1_bringHome_17 : decode cX1_bringHome 17 = .ok (.getfield 41, 3) := by decide +kernel
theorem dX1_bringHome_20 : decode cX1_bringHome 20 = .ok (.imul, 1) := by decide +kernel
theorem dX1_bringHome_21 : decode cX1_bringHome 21 = .ok (.goto 7, 3) := by decide +kernel
theorem dX1_bringHome_24 : decode cX1_bringHome 24 = .ok (.aload_n 0, 1) := by decide +kernel
theorem dX1_bringHome_25 : decode cX1_bringHome 25 = .ok (.getfield 41, 3) := by decide +kernel
theorem dX1_bringHome_28 : decode cX1_bringHome 28 = .ok (.iadd, 1) := by decide +kernel
theorem dX1_bringHome_29 : decode cX1_bringHome 29 = .ok (.putfield 103, 3) := by decide +kernel
theorem dX1_bringHome_32 : decode cX1_bringHome 32 = .ok (.aload_n 0, 1) := by decide +kernel
theorem dX1_bringHome_33 : decode cX1_bringHome 33 = .ok (.getfield 26, 3) := by decide +kernel
theorem dX1_bringHome_36 : decode cX1_bringHome 36 = .ok (.ifnull 19, 3) := by decide +kernel
theorem dX1_bringHome_39 : decode cX1_bringHome 39 = .ok (.aload_n 0, 1) := by decide +kernel
theorem dX1_bringHome_40 : decode cX1_bringHome 40 = .ok (.getfield 26, 3) := by decide +kernel
theorem dX1_bringHome_43 : decode cX1_bringHome 43 = .ok (.dup, 1) := by decide +kernel
theorem dX1_bringHome_44 : decode cX1_bringHome 44 = .ok (.getfield 109, 3) := by decide +kernel
theorem dX1_bringHome_47 : decode cX1_bringHome 47 = .ok (.aload_n 0, 1) := by decide +kernel
theorem dX1_bringHome_48 : decode cX1_bringHome 48 = .ok (.getfield 41, 3) := by decide +kernel
theorem dX1_bringHome_51 : decode cX1_bringHome 51 = .ok (.iadd, 1) := by decide +kernel
theorem dX1_bringHome_52 : decode cX1_bringHome 52 = .ok (.putfield 109, 3) := by decide +kernel
theorem dX1_bringHome_55 : decode cX1_bringHome 55 = .ok (.aload_n 0, 1) := by decide +kernel
theorem dX1_bringHome_56 : decode cX1_bringHome 56 = .ok (.getfield 18, 3) := by decide +kernel
theorem dX1_bringHome_59 : decode cX1_bringHome 59 = .ok (.dup, 1) := by decide +kernel
theorem dX1_bringHome_60 : decode cX1_bringHome 60 = .ok (.getfield 103, 3) := by decide +kernel
theorem dX1_bringHome_63 : decode cX1_bringHome 63 = .ok (.aload_n 0, 1) := by decide +kernel
theorem dX1_bringHome_64 : decode cX1_bringHome 64 = .ok (.getfield 48, 3) := by decide +kernel
theorem dX1_bringHome_67 : decode cX1_bringHome 67 = .ok (.iadd, 1) := by decide +kernel
theorem dX1_bringHome_68 : decode cX1_bringHome 68 = .ok (.putfield 103, 3) := by decide +kernel
theorem dX1_bringHome_71 : decode cX1_bringHome 71 = .ok (.aload_n 0, 1) := by decide +kernel
theorem dX1_bringHome_72 : decode cX1_bringHome 72 = .ok (.aconst_null, 1) := by decide +kernel
theorem dX1_bringHome_73 : decode cX1_bringHome 73 = .ok (.putfield 26, 3) := by decide +kernel
theorem dX1_bringHome_76 : decode cX1_bringHome 76 = .ok (.return_, 1) := by decide +kernel
theorem dX2_init_0 : decode cX2_init 0 = .ok (.aload_n 0, 1) := by decide +kernel
theorem dX2_init_1 : decode cX2_init 1 = .ok (.invokespecial 3, 3) := by decide +kernel
theorem dX2_init_4 : decode cX2_init 4 = .ok (.aload_n 0, 1) := by decide +kernel
theorem dX2_init_5 : decode cX2_init 5 = .ok (.iconst (-1), 1) := by decide +kernel
theorem dX2_init_6 : decode cX2_init 6 = .ok (.putfield 9, 3) := by decide +kernel
theorem dX2_init_9 : decode cX2_init 9 = .ok (.return_, 1) := by decide +kernel
theorem dX2_work_0 : decode cX2_work 0 = .ok (.aload_n 0, 1) := by decide +kernel
theorem dX2_work_1 : decode cX2_work 1 = .ok (.getfield 9, 3) := by decide +kernel
theorem dX2_work_4 : decode cX2_work 4 = .ok (.ifCond .ne 10, 3) := by decide +kernel
theorem dX2_work_7 : decode cX2_work 7 = .ok (.aload_n 0, 1) := by decide +kernel
theorem dX2_work_8 : decode cX2_work 8 = .ok (.iconst (-1), 1) := by decide +kernel
theorem dX2_work_9 : decode cX2_work 9 = .ok (.putfield 9, 3) := by decide +kernel
theorem dX2_work_12 : decode cX2_work 12 = .ok (.iconst 0, 1) := by decide +kernel
theorem dX2_work_13 : decode cX2_work 13 = .ok (.ireturn, 1) := by decide +kernel
theorem dX2_work_14 : decode cX2_work 14 = .ok (.aload_n 0, 1) := by decide +kernel
theorem dX2_work_15 : decode cX2_work 15 = .ok (.getfield 9, 3) := by decide +kernel
theorem dX2_work_18 : decode cX2_work 18 = .ok (.ifCond .le 13, 3) := by decide +kernel
theorem dX2_work_21 : decode cX2_work 21 = .ok (.aload_n 0, 1) := by decide +kernel
theorem dX2_work_22 : decode cX2_work 22 = .ok (.dup, 1) := by decide +kernel
theorem dX2_work_23 : decode cX2_work 23 = .ok (.getfield 9, 3) := by decide +kernel
theorem dX2_work_26 : decode cX2_work 26 = .ok (.iconst 1, 1) := by decide +kernel
theorem dX2_work_27 : decode cX2_work 27 = .ok (.isub, 1) := by decide +kernel
theorem dX2_work_28 : decode cX2_work 28 = .ok (.putfield 9, 3) := by decide +kernel
theorem dX2_work_31 : decode cX2_work 31 = .ok (.aload_n 0, 1) := by decide +kernel
theorem dX2_work_32 : decode cX2_work 32 = .ok (.dup, 1) := by decide +kernel
theorem dX2_work_33 : decode cX2_work 33 = .ok (.getfield 15, 3) := by decide +kernel
theorem dX2_work_36 : decode cX2_work 36 = .ok (.iconst 1, 1) := by decide +kernel
theorem dX2_work_37 : decode cX2_work 37 = .ok (.iadd, 1) := by decide +kernel
theorem dX2_work_38 : decode cX2_work 38 = .ok (.putfield 15, 3) := by decide +kernel
theorem dX2_work_41 : decode cX2_work 41 = .ok (.iconst 1, 1) := by decide +kernel
theorem dX2_work_42 : decode cX2_work 42 = .ok (.ireturn, 1) := by decide +kernel
theorem dX3_init_0 : decode cX3_init 0 = .ok (.aload_n 0, 1) := by decide +kernel
theorem dX3_init_1 : decode cX3_init 1 = .ok (.invokespecial 3, 3) := by decide +kernel
theorem dX3_init_4 : decode cX3_init 4 = .ok (.aload_n 0, 1) := by decide +kernel
theorem dX3_init_5 : decode cX3_init 5 = .ok (.new 9, 3) := by decide +kernel
theorem dX3_init_8 : decode cX3_init 8 = .ok (.dup, 1) := by decide +kernel
theorem dX3_init_9 : decode cX3_init 9 = .ok (.bipush 100, 2) := by decide +kernel
theorem dX3_init_11 : decode cX3_init 11 = .ok (.invokespecial 11, 3) := by decide +kernel
theorem dX3_init_14 : decode cX3_init 14 = .ok (.putfield 14, 3) := by decide +kernel
theorem dX3_init_17 : decode cX3_init 17 = .ok (.aload_n 0, 1) := by decide +kernel
theorem dX3_init_18 : decode cX3_init 18 = .ok (.bipush 100, 2) := by decide +kernel
theorem dX3_init_20 : decode cX3_init 20 = .ok (.newarray .boolean, 2) := by decide +kernel
theorem dX3_init_22 : decode cX3_init 22 = .ok (.putfield 20, 3) := by decide +kernel
theorem dX3_init_25 : decode cX3_init 25 = .ok (.aload_n 0, 1) := by decide +kernel
theorem dX3_init_26 : decode cX3_init 26 = .ok (.bipush 100, 2) := by decide +kernel
theorem dX3_init_28 : decode cX3_init 28 = .ok (.newarray .boolean, 2) := by decide +kernel
theorem dX3_init_30 : decode cX3_init 30 = .ok (.putfield 24, 3) := by decide +kernel
theorem dX3_init_33 : decode cX3_init 33 = .ok (.aload_n 0, 1) := by decide +kernel
theorem dX3_init_34 : decode cX3_init 34 = .ok (.iload_n 1, 1) := by decide +kernel
theorem dX3_init_35 : decode cX3_init 35 = .ok (.putfield 27, 3) := by decide +kernel
theorem dX3_init_38 : decode cX3_init 38 = .ok (.return_, 1) := by decide +kernel
theorem dX3_isDamaged_0 : decode cX3_isDamaged 0 = .ok (.iload_n 1, 1) := by decide +kernel
theorem dX3_isDamaged_1 : decode cX3_isDamaged 1 = .ok (.ifCond .lt 22, 3) := by decide +kernel
theorem dX3_isDamaged_4 : decode cX3_isDamaged 4 = .ok (.iload_n 1, 1) := by decide +kernel
theorem dX3_isDamaged_5 : decode cX3_isDamaged 5 = .ok (.bipush 100, 2) := by decide +kernel
theorem dX3_isDamaged_7 : decode cX3_isDamaged 7 = .ok (.if_icmp .ge 16, 3) := by decide +kernel
theorem dX3_isDamaged_10 : decode cX3_isDamaged 10 = .ok (.aload_n 0, 1) := by decide +kernel
theorem dX3_isDamaged_11 : decode cX3_isDamaged 11 = .ok (.getfield 20, 3) := by decide +kernel
theorem dX3_isDamaged_14 : decode cX3_isDamaged 14 = .ok (.iload_n 1, 1) := by decide +kernel
theorem dX3_isDamaged_15 : decode cX3_isDamaged 15 = .ok (.baload, 1) := by decide +kernel
theorem dX3_isDamaged_16 : decode cX3_isDamaged 16 = .ok (.ifCond .eq 7, 3) := by decide +kernel
theorem dX3_isDamaged_19 : decode cX3_isDamaged 19 = .ok (.iconst 1, 1) := by decide +kernel
theorem dX3_isDamaged_20 : decode cX3_isDamaged 20 = .ok (.goto 4, 3) := by decide +kernel
theorem dX3_isDamaged_23 : decode cX3_isDamaged 23 = .ok (.iconst 0, 1) := by decide +kernel
theorem dX3_isDamaged_24 : decode cX3_isDamaged 24 = .ok (.ireturn, 1) := by decide +kernel
theorem dX3_spoil_0 : decode cX3_spoil 0 = .ok (.iconst 0, 1) := by decide +kernel
theorem dX3_spoil_1 : decode cX3_spoil 1 = .ok (.istore_n 3, 1) := by decide +kernel
theorem dX3_spoil_2 : decode cX3_spoil 2 = .ok (.iload_n 1, 1) := by decide +kernel
theorem dX3_spoil_3 : decode cX3_spoil 3 = .ok (.istore 4, 2) := by decide +kernel
theorem dX3_spoil_5 : decode cX3_spoil 5 = .ok (.iload 4, 2) := by decide +kernel
theorem dX3_spoil_7 : decode cX3_spoil 7 = .ok (.iload_n 1, 1) := by decide +kernel
theorem dX3_spoil_8 : decode cX3_spoil 8 = .ok (.iload_n 2, 1) := by decide +kernel
theorem dX3_spoil_9 : decode cX3_spoil 9 = .ok (.iadd, 1) := by decide +kernel
theorem dX3_spoil_10 : decode cX3_spoil 10 = .ok (.if_icmp .ge 30, 3) := by decide +kernel
theorem dX3_spoil_13 : decode cX3_spoil 13 = .ok (.aload_n 0, 1) := by decide +kernel
theorem dX3_spoil_14 : decode cX3_spoil 14 = .ok (.getfield 20, 3) := by decide +kernel
theorem dX3_spoil_17 : decode cX3_spoil 17 = .ok (.iload 4, 2) := by decide +kernel
theorem dX3_spoil_19 : decode cX3_spoil 19 = .ok (.baload, 1) := by decide +kernel
theorem dX3_spoil_20 : decode cX3_spoil 20 = .ok (.ifCond .ne 14, 3) := by decide +kernel
theorem dX3_spoil_23 : decode cX3_spoil 23 = .ok (.aload_n 0, 1) := by decide +kernel
theorem dX3_spoil_24 : decode cX3_spoil 24 = .ok (.getfield 20, 3) := by decide +kernel
theorem dX3_spoil_27 : decode cX3_spoil 27 = .ok (.iload 4, 2) := by decide +kernel
theorem dX3_spoil_29 : decode cX3_spoil 29 = .ok (.iconst 1, 1) := by decide +kernel
theorem dX3_spoil_30 : decode cX3_spoil 30 = .ok (.bastore, 1) := by decide +kernel
theorem dX3_spoil_31 : decode cX3_spoil 31 = .ok (.iinc 3 1, 3) := by decide +kernel
theorem dX3_spoil_34 : decode cX3_spoil 34 = .ok (.iinc 4 1, 3) := by decide +kernel
theorem dX3_spoil_37 : decode cX3_spoil 37 = .ok (.goto (-32), 3) := by decide +kernel
theorem dX3_spoil_40 : decode cX3_spoil 40 = .ok (.iload_n 3, 1) := by decide +kernel
theorem dX3_spoil_41 : decode cX3_spoil 41 = .ok (.ireturn, 1) := by decide +kernel
theorem dX3_listedHead_0 : decode cX3_listedHead 0 = .ok (.iconst 0, 1) := by decide +kernel
theorem dX3_listedHead_1 : decode cX3_listedHead 1 = .ok (.istore_n 2, 1) := by decide +kernel
theorem dX3_listedHead_2 : decode cX3_listedHead 2 = .ok (.iload_n 2, 1) := by decide +kernel
theorem dX3_listedHead_3 : decode cX3_listedHead 3 = .ok (.aload_n 0, 1) := by decide +kernel
theorem dX3_listedHead_4 : decode cX3_listedHead 4 = .ok (.getfield 14, 3) := by decide +kernel
theorem dX3_listedHead_7 : decode cX3_listedHead 7 = .ok (.getfield 31, 3) := by decide +kernel
theorem dX3_listedHead_10 : decode cX3_listedHead 10 = .ok (.if_icmp .ge 32, 3) := by decide +kernel
theorem dX3_listedHead_13 : decode cX3_listedHead 13 = .ok (.aload_n 0, 1) := by decide +kernel
theorem dX3_listedHead_14 : decode cX3_listedHead 14 = .ok (.getfield 24, 3) := by decide +kernel
theorem dX3_listedHead_17 : decode cX3_listedHead 17 = .ok (.iload_n 2, 1) := by decide +kernel
theorem dX3_listedHead_18 : decode cX3_listedHead 18 = .ok (.baload, 1) := by decide +kernel
theorem dX3_listedHead_19 : decode cX3_listedHead 19 = .ok (.ifCond .eq 17, 3) := by decide +kernel
theorem dX3_listedHead_22 : decode cX3_listedHead 22 = .ok (.aload_n 0, 1) := by decide +kernel
theorem dX3_listedHead_23 : decode cX3_listedHead 23 = .ok (.getfield 14, 3) := by decide +kernel
theorem dX3_listedHead_26 : decode cX3_listedHead 26 = .ok (.iload_n 2, 1) := by decide +kernel
theorem dX3_listedHead_27 : decode cX3_listedHead 27 = .ok (.invokevirtual 34, 3) := by decide +kernel
theorem dX3_listedHead_30 : decode cX3_listedHead 30 = .ok (.iload_n 1, 1) := by decide +kernel
theorem dX3_listedHead_31 : decode cX3_listedHead 31 = .ok (.if_icmp .ne 5, 3) := by decide +kernel
theorem dX3_listedHead_34 : decode cX3_listedHead 34 = .ok (.iload_n 2, 1) := by decide +kernel
theorem dX3_listedHead_35 : decode cX3_listedHead 35 = .ok (.ireturn, 1) := by decide +kernel
theorem dX3_listedHead_36 : decode cX3_listedHead 36 = .ok (.iinc 2 1, 3) := by decide +kernel
theorem dX3_listedHead_39 : decode cX3_listedHead 39 = .ok (.goto (-37), 3) := by decide +kernel
theorem dX3_listedHead_42 : decode cX3_listedHead 42 = .ok (.bipush (-2), 2) := by decide +kernel
theorem dX3_listedHead_44 : decode cX3_listedHead 44 = .ok (.ireturn, 1) := by decide +kernel
theorem dX3_list_0 : decode cX3_list 0 = .ok (.aload_n 0, 1) := by decide +kernel
theorem dX3_list_1 : decode cX3_list 1 = .ok (.aload_n 0, 1) := by decide +kernel
theorem dX3_list_2 : decode cX3_list 2 = .ok (.aload_n 0, 1) := by decide +kernel
theorem dX3_list_3 : decode cX3_list 3 = .ok (.getfield 14, 3) := by decide +kernel
theorem dX3_list_6 : decode cX3_list 6 = .ok (.iload_n 1, 1) := by decide +kernel
theorem dX3_list_7 : decode cX3_list 7 = .ok (.invokevirtual 34, 3) := by decide +kernel
theorem dX3_list_10 : decode cX3_list 10 = .ok (.invokevirtual 38, 3) := by decide +kernel
theorem dX3_list_13 : decode cX3_list 13 = .ok (.invokevirtual 41, 3) := by decide +kernel
theorem dX3_list_16 : decode cX3_list 16 = .ok (.aload_n 0, 1) := by decide +kernel
theorem dX3_list_17 : decode cX3_list 17 = .ok (.getfield 24, 3) := by decide +kernel
theorem dX3_list_20 : decode cX3_list 20 = .ok (.iload_n 1, 1) := by decide +kernel
theorem dX3_list_21 : decode cX3_list 21 = .ok (.iconst 1, 1) := by decide +kernel
theorem dX3_list_22 : decode cX3_list 22 = .ok (.bastore, 1) := by decide +kernel
theorem dX3_list_23 : decode cX3_list 23 = .ok (.return_, 1) := by decide +kernel
theorem dX3_unlist_0 : decode cX3_unlist 0 = .ok (.iload_n 1, 1) := by decide +kernel
theorem dX3_unlist_1 : decode cX3_unlist 1 = .ok (.ifCond .lt 16, 3) := by decide +kernel
theorem dX3_unlist_4 : decode cX3_unlist 4 = .ok (.iload_n 1, 1) := by decide +kernel
theorem dX3_unlist_5 : decode cX3_unlist 5 = .ok (.bipush 100, 2) := by decide +kernel
theorem dX3_unlist_7 : decode cX3_unlist 7 = .ok (.if_icmp .ge 10, 3) := by decide +kernel
theorem dX3_unlist_10 : decode cX3_unlist 10 = .ok (.aload_n 0, 1) := by decide +kernel
theorem dX3_unlist_11 : decode cX3_unlist 11 = .ok (.getfield 24, 3) := by decide +kernel
theorem dX3_unlist_14 : decode cX3_unlist 14 = .ok (.iload_n 1, 1) := by decide +kernel
theorem dX3_unlist_15 : decode cX3_unlist 15 = .ok (.iconst 0, 1) := by decide +kernel
theorem dX3_unlist_16 : decode cX3_unlist 16 = .ok (.bastore, 1) := by decide +kernel
theorem dX3_unlist_17 : decode cX3_unlist 17 = .ok (.return_, 1) := by decide +kernel
theorem dX3_unlistAll_0 : decode cX3_unlistAll 0 = .ok (.iconst 0, 1) := by decide +kernel
theorem dX3_unlistAll_1 : decode cX3_unlistAll 1 = .ok (.istore_n 1, 1) := by decide +kernel
theorem dX3_unlistAll_2 : decode cX3_unlistAll 2 = .ok (.iconst 0, 1) := by decide +kernel
theorem dX3_unlistAll_3 : decode cX3_unlistAll 3 = .ok (.istore_n 2, 1) := by decide +kernel
theorem dX3_unlistAll_4 : decode cX3_unlistAll 4 = .ok (.iload_n 2, 1) := by decide +kernel
theorem dX3_unlistAll_5 : decode cX3_unlistAll 5 = .ok (.bipush 100, 2) := by decide +kernel
theorem dX3_unlistAll_7 : decode cX3_unlistAll 7 = .ok (.if_icmp .ge 28, 3) := by decide +kernel
theorem dX3_unlistAll_10 : decode cX3_unlistAll 10 = .ok (.aload_n 0, 1) := by decide +kernel
theorem dX3_unlistAll_11 : decode cX3_unlistAll 11 = .ok (.getfield 24, 3) := by decide +kernel
theorem dX3_unlistAll_14 : decode cX3_unlistAll 14 = .ok (.iload_n 2, 1) := by decide +kernel
theorem dX3_unlistAll_15 : decode cX3_unlistAll 15 = .ok (.baload, 1) := by decide +kernel
theorem dX3_unlistAll_16 : decode cX3_unlistAll 16 = .ok (.ifCond .eq 13, 3) := by decide +kernel
theorem dX3_unlistAll_19 : decode cX3_unlistAll 19 = .ok (.aload_n 0, 1) := by decide +kernel
theorem dX3_unlistAll_20 : decode cX3_unlistAll 20 = .ok (.getfield 24, 3) := by decide +kernel
theorem dX3_unlistAll_23 : decode cX3_unlistAll 23 = .ok (.iload_n 2, 1) := by decide +kernel
theorem dX3_unlistAll_24 : decode cX3_unlistAll 24 = .ok (.iconst 0, 1) := by decide +kernel
theorem dX3_unlistAll_25 : decode cX3_unlistAll 25 = .ok (.bastore, 1) := by decide +kernel
theorem dX3_unlistAll_26 : decode cX3_unlistAll 26 = .ok (.iinc 1 1, 3) := by decide +kernel
theorem dX3_unlistAll_29 : decode cX3_unlistAll 29 = .ok (.iinc 2 1, 3) := by decide +kernel
theorem dX3_unlistAll_32 : decode cX3_unlistAll 32 = .ok (.goto (-28), 3) := by decide +kernel
theorem dX3_unlistAll_35 : decode cX3_unlistAll 35 = .ok (.iload_n 1, 1) := by decide +kernel
theorem dX3_unlistAll_36 : decode cX3_unlistAll 36 = .ok (.ireturn, 1) := by decide +kernel
theorem dX3_listAllThatTell_0 : decode cX3_listAllThatTell 0 = .ok (.aload_n 0, 1) := by decide +kernel
theorem dX3_listAllThatTell_1 : decode cX3_listAllThatTell 1 = .ok (.invokevirtual 44, 3) := by decide +kernel
theorem dX3_listAllThatTell_4 : decode cX3_listAllThatTell 4 = .ok (.pop, 1) := by decide +kernel
theorem dX3_listAllThatTell_5 : decode cX3_listAllThatTell 5 = .ok (.iconst 0, 1) := by decide +kernel
theorem dX3_listAllThatTell_6 : decode cX3_listAllThatTell 6 = .ok (.istore_n 1, 1) := by decide +kernel
theorem dX3_listAllThatTell_7 : decode cX3_listAllThatTell 7 = .ok (.iload_n 1, 1) := by decide +kernel
theorem dX3_listAllThatTell_8 : decode cX3_listAllThatTell 8 = .ok (.aload_n 0, 1) := by decide +kernel
theorem dX3_listAllThatTell_9 : decode cX3_listAllThatTell 9 = .ok (.getfield 14, 3) := by decide +kernel
theorem dX3_listAllThatTell_12 : decode cX3_listAllThatTell 12 = .ok (.getfield 31, 3) := by decide +kernel
theorem dX3_listAllThatTell_15 : decode cX3_listAllThatTell 15 = .ok (.if_icmp .ge 22, 3) := by decide +kernel
theorem dX3_listAllThatTell_18 : decode cX3_listAllThatTell 18 = .ok (.aload_n 0, 1) := by decide +kernel
theorem dX3_listAllThatTell_19 : decode cX3_listAllThatTell 19 = .ok (.iload_n 1, 1) := by decide +kernel
theorem dX3_listAllThatTell_20 : decode cX3_listAllThatTell 20 = .ok (.invokevirtual 48, 3) := by decide +kernel
theorem dX3_listAllThatTell_23 : decode cX3_listAllThatTell 23 = .ok (.ifCond .eq 8, 3) := by decide +kernel
theorem dX3_listAllThatTell_26 : decode cX3_listAllThatTell 26 = .ok (.aload_n 0, 1) := by decide +kernel
theorem dX3_listAllThatTell_27 : decode cX3_listAllThatTell 27 = .ok (.iload_n 1, 1) := by decide +kernel
theorem dX3_listAllThatTell_28 : decode cX3_listAllThatTell 28 = .ok (.invokevirtual 52, 3) := by decide +kernel
theorem dX3_listAllThatTell_31 : decode cX3_listAllThatTell 31 = .ok (.iinc 1 1, 3) := by decide +kernel
theorem dX3_listAllThatTell_34 : decode cX3_listAllThatTell 34 = .ok (.goto (-27), 3) := by decide +kernel
theorem dX3_listAllThatTell_37 : decode cX3_listAllThatTell 37 = .ok (.aload_n 0, 1) := by decide +kernel
theorem dX3_listAllThatTell_38 : decode cX3_listAllThatTell 38 = .ok (.invokevirtual 55, 3) := by decide +kernel
theorem dX3_listAllThatTell_41 : decode cX3_listAllThatTell 41 = .ok (.ireturn, 1) := by decide +kernel
theorem dX3_listedCount_0 : decode cX3_listedCount 0 = .ok (.iconst 0, 1) := by decide +kernel
theorem dX3_listedCount_1 : decode cX3_listedCount 1 = .ok (.istore_n 1, 1) := by decide +kernel
theorem dX3_listedCount_2 : decode cX3_listedCount 2 = .ok (.iconst 0, 1) := by decide +kernel
theorem dX3_listedCount_3 : decode cX3_listedCount 3 = .ok (.istore_n 2, 1) := by decide +kernel
theorem dX3_listedCount_4 : decode cX3_listedCount 4 = .ok (.iload_n 2, 1) := by decide +kernel
theorem dX3_listedCount_5 : decode cX3_listedCount 5 = .ok (.bipush 100, 2) := by decide +kernel
theorem dX3_listedCount_7 : decode cX3_listedCount 7 = .ok (.if_icmp .ge 21, 3) := by decide +kernel
theorem dX3_listedCount_10 : decode cX3_listedCount 10 = .ok (.aload_n 0, 1) := by decide +kernel
theorem dX3_listedCount_11 : decode cX3_listedCount 11 = .ok (.getfield 24, 3) := by decide +kernel
theorem dX3_listedCount_14 : decode cX3_listedCount 14 = .ok (.iload_n 2, 1) := by decide +kernel
theorem dX3_listedCount_15 : decode cX3_listedCount 15 = .ok (.baload, 1) := by decide +kernel
theorem dX3_listedCount_16 : decode cX3_listedCount 16 = .ok (.ifCond .eq 6, 3) := by decide +kernel
theorem dX3_listedCount_19 : decode cX3_listedCount 19 = .ok (.iinc 1 1, 3) := by decide +kernel
theorem dX3_listedCount_22 : decode cX3_listedCount 22 = .ok (.iinc 2 1, 3) := by decide +kernel
theorem dX3_listedCount_25 : decode cX3_listedCount 25 = .ok (.goto (-21), 3) := by decide +kernel
theorem dX3_listedCount_28 : decode cX3_listedCount 28 = .ok (.iload_n 1, 1) := by decide +kernel
theorem dX3_listedCount_29 : decode cX3_listedCount 29 = .ok (.ireturn, 1) := by decide +kernel
theorem dX3_tellsFile_0 : decode cX3_tellsFile 0 = .ok (.iload_n 1, 1) := by decide +kernel
theorem dX3_tellsFile_1 : decode cX3_tellsFile 1 = .ok (.aload_n 0, 1) := by decide +kernel
theorem dX3_tellsFile_2 : decode cX3_tellsFile 2 = .ok (.getfield 14, 3) := by decide +kernel
theorem dX3_tellsFile_5 : decode cX3_tellsFile 5 = .ok (.iload_n 1, 1) := by decide +kernel
theorem dX3_tellsFile_6 : decode cX3_tellsFile 6 = .ok (.invokevirtual 58, 3) := by decide +kernel
theorem dX3_tellsFile_9 : decode cX3_tellsFile 9 = .ok (.iadd, 1) := by decide +kernel
theorem dX3_tellsFile_10 : decode cX3_tellsFile 10 = .ok (.iconst 1, 1) := by decide +kernel
theorem dX3_tellsFile_11 : decode cX3_tellsFile 11 = .ok (.iadd, 1) := by decide +kernel
theorem dX3_tellsFile_12 : decode cX3_tellsFile 12 = .ok (.istore_n 2, 1) := by decide +kernel
theorem dX3_tellsFile_13 : decode cX3_tellsFile 13 = .ok (.aload_n 0, 1) := by decide +kernel
theorem dX3_tellsFile_14 : decode cX3_tellsFile 14 = .ok (.iload_n 1, 1) := by decide +kernel
theorem dX3_tellsFile_15 : decode cX3_tellsFile 15 = .ok (.iconst 1, 1) := by decide +kernel
theorem dX3_tellsFile_16 : decode cX3_tellsFile 16 = .ok (.invokevirtual 61, 3) := by decide +kernel
theorem dX3_tellsFile_19 : decode cX3_tellsFile 19 = .ok (.ifCond .eq 12, 3) := by decide +kernel
theorem dX3_tellsFile_22 : decode cX3_tellsFile 22 = .ok (.aload_n 0, 1) := by decide +kernel
theorem dX3_tellsFile_23 : decode cX3_tellsFile 23 = .ok (.iload_n 2, 1) := by decide +kernel
theorem dX3_tellsFile_24 : decode cX3_tellsFile 24 = .ok (.iconst 3, 1) := by decide +kernel
theorem dX3_tellsFile_25 : decode cX3_tellsFile 25 = .ok (.invokevirtual 61, 3) := by decide +kernel
theorem dX3_tellsFile_28 : decode cX3_tellsFile 28 = .ok (.ifCond .ne 5, 3) := by decide +kernel
theorem dX3_tellsFile_31 : decode cX3_tellsFile 31 = .ok (.iconst 0, 1) := by decide +kernel
theorem dX3_tellsFile_32 : decode cX3_tellsFile 32 = .ok (.ireturn, 1) := by decide +kernel
theorem dX3_tellsFile_33 : decode cX3_tellsFile 33 = .ok (.iload_n 1, 1) := by decide +kernel
theorem dX3_tellsFile_34 : decode cX3_tellsFile 34 = .ok (.iconst 1, 1) := by decide +kernel
theorem dX3_tellsFile_35 : decode cX3_tellsFile 35 = .ok (.iadd, 1) := by decide +kernel
theorem dX3_tellsFile_36 : decode cX3_tellsFile 36 = .ok (.istore_n 3, 1) := by decide +kernel
theorem dX3_tellsFile_37 : decode cX3_tellsFile 37 = .ok (.iload_n 3, 1) := by decide +kernel
theorem dX3_tellsFile_38 : decode cX3_tellsFile 38 = .ok (.iload_n 2, 1) := by decide +kernel
theorem dX3_tellsFile_39 : decode cX3_tellsFile 39 = .ok (.if_icmp .ge 20, 3) := by decide +kernel
theorem dX3_tellsFile_42 : decode cX3_tellsFile 42 = .ok (.aload_n 0, 1) := by decide +kernel
theorem dX3_tellsFile_43 : decode cX3_tellsFile 43 = .ok (.iload_n 3, 1) := by decide +kernel
theorem dX3_tellsFile_44 : decode cX3_tellsFile 44 = .ok (.iconst 2, 1) := by decide +kernel
theorem dX3_tellsFile_45 : decode cX3_tellsFile 45 = .ok (.invokevirtual 61, 3) := by decide +kernel
theorem dX3_tellsFile_48 : decode cX3_tellsFile 48 = .ok (.ifCond .ne 5, 3) := by decide +kernel
theorem dX3_tellsFile_51 : decode cX3_tellsFile 51 = .ok (.iconst 0, 1) := by decide +kernel
theorem dX3_tellsFile_52 : decode cX3_tellsFile 52 = .ok (.ireturn, 1) := by decide +kernel
theorem dX3_tellsFile_53 : decode cX3_tellsFile 53 = .ok (.iinc 3 1, 3) := by decide +kernel
theorem dX3_tellsFile_56 : decode cX3_tellsFile 56 = .ok (.goto (-19), 3) := by decide +kernel
theorem dX3_tellsFile_59 : decode cX3_tellsFile 59 = .ok (.iconst 1, 1) := by decide +kernel
theorem dX3_tellsFile_60 : decode cX3_tellsFile 60 = .ok (.ireturn, 1) := by decide +kernel
theorem dX3_tells_0 : decode cX3_tells 0 = .ok (.aload_n 0, 1) := by decide +kernel
theorem dX3_tells_1 : decode cX3_tells 1 = .ok (.getfield 14, 3) := by decide +kernel
theorem dX3_tells_4 : decode cX3_tells 4 = .ok (.iload_n 1, 1) := by decide +kernel
theorem dX3_tells_5 : decode cX3_tells 5 = .ok (.invokevirtual 65, 3) := by decide +kernel
theorem dX3_tells_8 : decode cX3_tells 8 = .ok (.iload_n 2, 1) := by decide +kernel
theorem dX3_tells_9 : decode cX3_tells 9 = .ok (.if_icmp .ne 15, 3) := by decide +kernel
theorem dX3_tells_12 : decode cX3_tells 12 = .ok (.aload_n 0, 1) := by decide +kernel
theorem dX3_tells_13 : decode cX3_tells 13 = .ok (.iload_n 1, 1) := by decide +kernel
theorem dX3_tells_14 : decode cX3_tells 14 = .ok (.invokevirtual 68, 3) := by decide +kernel
theorem dX3_tells_17 : decode cX3_tells 17 = .ok (.ifCond .ne 7, 3) := by decide +kernel
theorem dX3_tells_20 : decode cX3_tells 20 = .ok (.iconst 1, 1) := by decide +kernel
theorem dX3_tells_21 : decode cX3_tells 21 = .ok (.goto 4, 3) := by decide +kernel
theorem dX3_tells_24 : decode cX3_tells 24 = .ok (.iconst 0, 1) := by decide +kernel
theorem dX3_tells_25 : decode cX3_tells 25 = .ok (.ireturn, 1) := by decide +kernel
theorem dX4_init_0 : decode cX4_init 0 = .ok (.aload_n 0, 1) := by decide +kernel
theorem dX4_init_1 : decode cX4_init 1 = .ok (.invokespecial 1, 3) := by decide +kernel
theorem dX4_init_4 : decode cX4_init 4 = .ok (.aload_n 0, 1) := by decide +kernel
theorem dX4_init_5 : decode cX4_init 5 = .ok (.new 7, 3) := by decide +kernel
theorem dX4_init_8 : decode cX4_init 8 = .ok (.dup, 1) := by decide +kernel
theorem dX4_init_9 : decode cX4_init 9 = .ok (.invokespecial 9, 3) := by decide +kernel
theorem dX4_init_12 : decode cX4_init 12 = .ok (.putfield 10, 3) := by decide +kernel
theorem dX4_init_15 : decode cX4_init 15 = .ok (.aload_n 0, 1) := by decide +kernel
theorem dX4_init_16 : decode cX4_init 16 = .ok (.iconst 3, 1) := by decide +kernel
theorem dX4_init_17 : decode cX4_init 17 = .ok (.anewarray 16, 3) := by decide +kernel
theorem dX4_init_20 : decode cX4_init 20 = .ok (.putfield 18, 3) := by decide +kernel
theorem dX4_init_23 : decode cX4_init 23 = .ok (.iconst 0, 1) := by decide +kernel
theorem dX4_init_24 : decode cX4_init 24 = .ok (.istore_n 1, 1) := by decide +kernel
theorem dX4_init_25 : decode cX4_init 25 = .ok (.iload_n 1, 1) := by decide +kernel
theorem dX4_init_26 : decode cX4_init 26 = .ok (.iconst 3, 1) := by decide +kernel
theorem dX4_init_27 : decode cX4_init 27 = .ok (.if_icmp .ge 33, 3) := by decide +kernel
theorem dX4_init_30 : decode cX4_init 30 = .ok (.aload_n 0, 1) := by decide +kernel
theorem dX4_init_31 : decode cX4_init 31 = .ok (.getfield 18, 3) := by decide +kernel
theorem dX4_init_34 : decode cX4_init 34 = .ok (.iload_n 1, 1) := by decide +kernel
theorem dX4_init_35 : decode cX4_init 35 = .ok (.new 16, 3) := by decide +kernel
theorem dX4_init_38 : decode cX4_init 38 = .ok (.dup, 1) := by decide +kernel
theorem dX4_init_39 : decode cX4_init 39 = .ok (.bipush 8, 2) := by decide +kernel
theorem dX4_init_41 : decode cX4_init 41 = .ok (.bipush 8, 2) := by decide +kernel
theorem dX4_init_43 : decode cX4_init 43 = .ok (.iload_n 1, 1) := by decide +kernel
theorem dX4_init_44 : decode cX4_init 44 = .ok (.imul, 1) := by decide +kernel
theorem dX4_init_45 : decode cX4_init 45 = .ok (.iadd, 1) := by decide +kernel
theorem dX4_init_46 : decode cX4_init 46 = .ok (.aload_n 0, 1) := by decide +kernel
theorem dX4_init_47 : decode cX4_init 47 = .ok (.getfield 10, 3) := by decide +kernel
theorem dX4_init_50 : decode cX4_init 50 = .ok (.invokespecial 22, 3) := by decide +kernel
theorem dX4_init_53 : decode cX4_init 53 = .ok (.aastore, 1) := by decide +kernel
theorem dX4_init_54 : decode cX4_init 54 = .ok (.iinc 1 1, 3) := by decide +kernel
theorem dX4_init_57 : decode cX4_init 57 = .ok (.goto (-32), 3) := by decide +kernel
theorem dX4_init_60 : decode cX4_init 60 = .ok (.aload_n 0, 1) := by decide +kernel
theorem dX4_init_61 : decode cX4_init 61 = .ok (.bipush 12, 2) := by decide +kernel
theorem dX4_init_63 : decode cX4_init 63 = .ok (.anewarray 25, 3) := by decide +kernel
theorem dX4_init_66 : decode cX4_init 66 = .ok (.putfield 27, 3) := by decide +kernel
theorem dX4_init_69 : decode cX4_init 69 = .ok (.aload_n 0, 1) := by decide +kernel
theorem dX4_init_70 : decode cX4_init 70 = .ok (.new 31, 3) := by decide +kernel
theorem dX4_init_73 : decode cX4_init 73 = .ok (.dup, 1) := by decide +kernel
theorem dX4_init_74 : decode cX4_init 74 = .ok (.bipush 32, 2) := by decide +kernel
theorem dX4_init_76 : decode cX4_init 76 = .ok (.invokespecial 33, 3) := by decide +kernel
theorem dX4_init_79 : decode cX4_init 79 = .ok (.putfield 36, 3) := by decide +kernel
theorem dX4_init_82 : decode cX4_init 82 = .ok (.aload_n 0, 1) := by decide +kernel
theorem dX4_init_83 : decode cX4_init 83 = .ok (.iconst 1, 1) := by decide +kernel
theorem dX4_init_84 : decode cX4_init 84 = .ok (.putfield 40, 3) := by decide +kernel
theorem dX4_init_87 : decode cX4_init 87 = .ok (.return_, 1) := by decide +kernel
theorem dX4_tape_0 : decode cX4_tape 0 = .ok (.iload_n 1, 1) := by decide +kernel
theorem dX4_tape_1 : decode cX4_tape 1 = .ok (.ifCond .lt 17, 3) := by decide +kernel
theorem dX4_tape_4 : decode cX4_tape 4 = .ok (.iload_n 1, 1) := by decide +kernel
theorem dX4_tape_5 : decode cX4_tape 5 = .ok (.bipush 32, 2) := by decide +kernel
theorem dX4_tape_7 : decode cX4_tape 7 = .ok (.if_icmp .ge 11, 3) := by decide +kernel
theorem dX4_tape_10 : decode cX4_tape 10 = .ok (.aload_n 0, 1) := by decide +kernel
theorem dX4_tape_11 : decode cX4_tape 11 = .ok (.iload_n 1, 1) := by decide +kernel
theorem dX4_tape_12 : decode cX4_tape 12 = .ok (.invokevirtual 44, 3) := by decide +kernel
theorem dX4_tape_15 : decode cX4_tape 15 = .ok (.ifCond .eq 5, 3) := by decide +kernel
theorem dX4_tape_18 : decode cX4_tape 18 = .ok (.iconst (-1), 1) := by decide +kernel
theorem dX4_tape_19 : decode cX4_tape 19 = .ok (.ireturn, 1) := by decide +kernel
theorem dX4_tape_20 : decode cX4_tape 20 = .ok (.aload_n 0, 1) := by decide +kernel
theorem dX4_tape_21 : decode cX4_tape 21 = .ok (.getfield 48, 3) := by decide +kernel
theorem dX4_tape_24 : decode cX4_tape 24 = .ok (.bipush 12, 2) := by decide +kernel
theorem dX4_tape_26 : decode cX4_tape 26 = .ok (.if_icmp .lt 6, 3) := by decide +kernel
theorem dX4_tape_29 : decode cX4_tape 29 = .ok (.bipush (-6), 2) := by decide +kernel
theorem dX4_tape_31 : decode cX4_tape 31 = .ok (.ireturn, 1) := by decide +kernel
theorem dX4_tape_32 : decode cX4_tape 32 = .ok (.aload_n 0, 1) := by decide +kernel
theorem dX4_tape_33 : decode cX4_tape 33 = .ok (.getfield 27, 3) := by decide +kernel
theorem dX4_tape_36 : decode cX4_tape 36 = .ok (.aload_n 0, 1) := by decide +kernel
theorem dX4_tape_37 : decode cX4_tape 37 = .ok (.getfield 48, 3) := by decide +kernel
theorem dX4_tape_40 : decode cX4_tape 40 = .ok (.new 25, 3) := by decide +kernel
theorem dX4_tape_43 : decode cX4_tape 43 = .ok (.dup, 1) := by decide +kernel
theorem dX4_tape_44 : decode cX4_tape 44 = .ok (.iload_n 1, 1) := by decide +kernel
theorem dX4_tape_45 : decode cX4_tape 45 = .ok (.invokespecial 51, 3) := by decide +kernel
theorem dX4_tape_48 : decode cX4_tape 48 = .ok (.aastore, 1) := by decide +kernel
theorem dX4_tape_49 : decode cX4_tape 49 = .ok (.aload_n 0, 1) := by decide +kernel
theorem dX4_tape_50 : decode cX4_tape 50 = .ok (.dup, 1) := by decide +kernel
theorem dX4_tape_51 : decode cX4_tape 51 = .ok (.getfield 48, 3) := by decide +kernel
theorem dX4_tape_54 : decode cX4_tape 54 = .ok (.iconst 1, 1) := by decide +kernel
theorem dX4_tape_55 : decode cX4_tape 55 = .ok (.iadd, 1) := by decide +kernel
theorem dX4_tape_56 : decode cX4_tape 56 = .ok (.putfield 48, 3) := by decide +kernel
theorem dX4_tape_59 : decode cX4_tape 59 = .ok (.aload_n 0, 1) := by decide +kernel
theorem dX4_tape_60 : decode cX4_tape 60 = .ok (.getfield 48, 3) := by decide +kernel
theorem dX4_tape_63 : decode cX4_tape 63 = .ok (.iconst 1, 1) := by decide +kernel
theorem dX4_tape_64 : decode cX4_tape 64 = .ok (.isub, 1) := by decide +kernel
theorem dX4_tape_65 : decode cX4_tape 65 = .ok (.ireturn, 1) := by decide +kernel
theorem dX4_stage_0 : decode cX4_stage 0 = .ok (.iload_n 1, 1) := by decide +kernel
theorem dX4_stage_1 : decode cX4_stage 1 = .ok (.invokestatic 52, 3) := by decide +kernel
theorem dX4_stage_4 : decode cX4_stage 4 = .ok (.ifCond .eq 14, 3) := by decide +kernel
theorem dX4_stage_7 : decode cX4_stage 7 = .ok (.iload_n 2, 1) := by decide +kernel
theorem dX4_stage_8 : decode cX4_stage 8 = .ok (.iconst 1, 1) := by decide +kernel
theorem dX4_stage_9 : decode cX4_stage 9 = .ok (.if_icmp .lt 9, 3) := by decide +kernel
theorem dX4_stage_12 : decode cX4_stage 12 = .ok (.iload_n 2, 1) := by decide +kernel
theorem dX4_stage_13 : decode cX4_stage 13 = .ok (.bipush 30, 2) := by decide +kernel
theorem dX4_stage_15 : decode cX4_stage 15 = .ok (.if_icmp .le 5, 3) := by decide +kernel
theorem dX4_stage_18 : decode cX4_stage 18 = .ok (.iconst (-1), 1) := by decide +kernel
theorem dX4_stage_19 : decode cX4_stage 19 = .ok (.ireturn, 1) := by decide +kernel
theorem dX4_stage_20 : decode cX4_stage 20 = .ok (.aload_n 0, 1) := by decide +kernel
theorem dX4_stage_21 : decode cX4_stage 21 = .ok (.getfield 36, 3) := by decide +kernel
theorem dX4_stage_24 : decode cX4_stage 24 = .ok (.invokevirtual 55, 3) := by decide +kernel
theorem dX4_stage_27 : decode cX4_stage 27 = .ok (.aload_n 0, 1) := by decide +kernel
theorem dX4_stage_28 : decode cX4_stage 28 = .ok (.getfield 36, 3) := by decide +kernel
theorem dX4_stage_31 : decode cX4_stage 31 = .ok (.iconst 1, 1) := by decide +kernel
theorem dX4_stage_32 : decode cX4_stage 32 = .ok (.iload_n 1, 1) := by decide +kernel
theorem dX4_stage_33 : decode cX4_stage 33 = .ok (.iload_n 2, 1) := by decide +kernel
theorem dX4_stage_34 : decode cX4_stage 34 = .ok (.invokevirtual 58, 3) := by decide +kernel
theorem dX4_stage_37 : decode cX4_stage 37 = .ok (.iconst 0, 1) := by decide +kernel
theorem dX4_stage_38 : decode cX4_stage 38 = .ok (.istore 5, 2) := by decide +kernel
theorem dX4_stage_40 : decode cX4_stage 40 = .ok (.iload 5, 2) := by decide +kernel
theorem dX4_stage_42 : decode cX4_stage 42 = .ok (.iload_n 2, 1) := by decide +kernel
theorem dX4_stage_43 : decode cX4_stage 43 = .ok (.if_icmp .ge 25, 3) := by decide +kernel
theorem dX4_stage_46 : decode cX4_stage 46 = .ok (.aload_n 0, 1) := by decide +kernel
theorem dX4_stage_47 : decode cX4_stage 47 = .ok (.getfield 36, 3) := by decide +kernel
theorem dX4_stage_50 : decode cX4_stage 50 = .ok (.iconst 2, 1) := by decide +kernel
theorem dX4_stage_51 : decode cX4_stage 51 = .ok (.iload_n 3, 1) := by decide +kernel
theorem dX4_stage_52 : decode cX4_stage 52 = .ok (.iload 5, 2) := by decide +kernel
theorem dX4_stage_54 : decode cX4_stage 54 = .ok (.iload 4, 2) := by decide +kernel
theorem dX4_stage_56 : decode cX4_stage 56 = .ok (.imul, 1) := by decide +kernel
theorem dX4_stage_57 : decode cX4_stage 57 = .ok (.iadd, 1) := by decide +kernel
theorem dX4_stage_58 : decode cX4_stage 58 = .ok (.iconst 0, 1) := by decide +kernel
theorem dX4_stage_59 : decode cX4_stage 59 = .ok (.invokevirtual 58, 3) := by decide +kernel
theorem dX4_stage_62 : decode cX4_stage 62 = .ok (.iinc 5 1, 3) := by decide +kernel
theorem dX4_stage_65 : decode cX4_stage 65 = .ok (.goto (-25), 3) := by decide +kernel
theorem dX4_stage_68 : decode cX4_stage 68 = .ok (.aload_n 0, 1) := by decide +kernel
theorem dX4_stage_69 : decode cX4_stage 69 = .ok (.getfield 36, 3) := by decide +kernel
theorem dX4_stage_72 : decode cX4_stage 72 = .ok (.iconst 3, 1) := by decide +kernel
theorem dX4_stage_73 : decode cX4_stage 73 = .ok (.iconst 0, 1) := by decide +kernel
theorem dX4_stage_74 : decode cX4_stage 74 = .ok (.iconst 0, 1) := by decide +kernel
theorem dX4_stage_75 : decode cX4_stage 75 = .ok (.invokevirtual 58, 3) := by decide +kernel
theorem dX4_stage_78 : decode cX4_stage 78 = .ok (.iload_n 2, 1) := by decide +kernel
theorem dX4_stage_79 : decode cX4_stage 79 = .ok (.ireturn, 1) := by decide +kernel
theorem dX4_copy_0 : decode cX4_copy 0 = .ok (.aload_n 0, 1) := by decide +kernel
theorem dX4_copy_1 : decode cX4_copy 1 = .ok (.iload_n 1, 1) := by decide +kernel
theorem dX4_copy_2 : decode cX4_copy 2 = .ok (.invokevirtual 62, 3) := by decide +kernel
theorem dX4_copy_5 : decode cX4_copy 5 = .ok (.astore_n 2, 1) := by decide +kernel
theorem dX4_copy_6 : decode cX4_copy 6 = .ok (.aload_n 2, 1) := by decide +kernel
theorem dX4_copy_7 : decode cX4_copy 7 = .ok (.ifnonnull 5, 3) := by decide +kernel
theorem dX4_copy_10 : decode cX4_copy 10 = .ok (.iconst (-1), 1) := by decide +kernel
theorem dX4_copy_11 : decode cX4_copy 11 = .ok (.ireturn, 1) := by decide +kernel
theorem dX4_copy_12 : decode cX4_copy 12 = .ok (.aload_n 0, 1) := by decide +kernel
theorem dX4_copy_13 : decode cX4_copy 13 = .ok (.getfield 36, 3) := by decide +kernel
theorem dX4_copy_16 : decode cX4_copy 16 = .ok (.getfield 66, 3) := by decide +kernel
theorem dX4_copy_19 : decode cX4_copy 19 = .ok (.ifCond .ne 6, 3) := by decide +kernel
theorem dX4_copy_22 : decode cX4_copy 22 = .ok (.bipush (-2), 2) := by decide +kernel
theorem dX4_copy_24 : decode cX4_copy 24 = .ok (.ireturn, 1) := by decide +kernel
theorem dX4_copy_25 : decode cX4_copy 25 = .ok (.aload_n 0, 1) := by decide +kernel
theorem dX4_copy_26 : decode cX4_copy 26 = .ok (.aload_n 0, 1) := by decide +kernel
theorem dX4_copy_27 : decode cX4_copy 27 = .ok (.aload_n 2, 1) := by decide +kernel
theorem dX4_copy_28 : decode cX4_copy 28 = .ok (.invokevirtual 69, 3) := by decide +kernel
theorem dX4_copy_31 : decode cX4_copy 31 = .ok (.invokevirtual 73, 3) := by decide +kernel
theorem dX4_copy_34 : decode cX4_copy 34 = .ok (.ireturn, 1) := by decide +kernel
theorem dX4_read_0 : decode cX4_read 0 = .ok (.aload_n 0, 1) := by decide +kernel
theorem dX4_read_1 : decode cX4_read 1 = .ok (.iload_n 2, 1) := by decide +kernel
theorem dX4_read_2 : decode cX4_read 2 = .ok (.invokevirtual 62, 3) := by decide +kernel
theorem dX4_read_5 : decode cX4_read 5 = .ok (.astore_n 3, 1) := by decide +kernel
theorem dX4_read_6 : decode cX4_read 6 = .ok (.iload_n 1, 1) := by decide +kernel
theorem dX4_read_7 : decode cX4_read 7 = .ok (.invokestatic 52, 3) := by decide +kernel
theorem dX4_read_10 : decode cX4_read 10 = .ok (.ifCond .eq 7, 3) := by decide +kernel
theorem dX4_read_13 : decode cX4_read 13 = .ok (.aload_n 3, 1) := by decide +kernel
theorem dX4_read_14 : decode cX4_read 14 = .ok (.ifnonnull 5, 3) := by decide +kernel
theorem dX4_read_17 : decode cX4_read 17 = .ok (.iconst (-1), 1) := by decide +kernel
theorem dX4_read_18 : decode cX4_read 18 = .ok (.ireturn, 1) := by decide +kernel
theorem dX4_read_19 : decode cX4_read 19 = .ok (.aload_n 3, 1) := by decide +kernel
theorem dX4_read_20 : decode cX4_read 20 = .ok (.iload_n 1, 1) := by decide +kernel
theorem dX4_read_21 : decode cX4_read 21 = .ok (.invokevirtual 77, 3) := by decide +kernel
theorem dX4_read_24 : decode cX4_read 24 = .ok (.istore 4, 2) := by decide +kernel
theorem dX4_read_26 : decode cX4_read 26 = .ok (.iload 4, 2) := by decide +kernel
theorem dX4_read_28 : decode cX4_read 28 = .ok (.bipush (-2), 2) := by decide +kernel
theorem dX4_read_30 : decode cX4_read 30 = .ok (.if_icmp .ne 6, 3) := by decide +kernel
theorem dX4_read_33 : decode cX4_read 33 = .ok (.bipush (-2), 2) := by decide +kernel
theorem dX4_read_35 : decode cX4_read 35 = .ok (.ireturn, 1) := by decide +kernel
theorem dX4_read_36 : decode cX4_read 36 = .ok (.aload_n 0, 1) := by decide +kernel
theorem dX4_read_37 : decode cX4_read 37 = .ok (.aload_n 0, 1) := by decide +kernel
theorem dX4_read_38 : decode cX4_read 38 = .ok (.aload_n 3, 1) := by decide +kernel
theorem dX4_read_39 : decode cX4_read 39 = .ok (.iload 4, 2) := by decide +kernel
theorem dX4_read_41 : decode cX4_read 41 = .ok (.invokevirtual 80, 3) := by decide +kernel
theorem dX4_read_44 : decode cX4_read 44 = .ok (.invokevirtual 73, 3) := by decide +kernel
theorem dX4_read_47 : decode cX4_read 47 = .ok (.ireturn, 1) := by decide +kernel
theorem dX4_move_0 : decode cX4_move 0 = .ok (.aload_n 0, 1) := by decide +kernel
theorem dX4_move_1 : decode cX4_move 1 = .ok (.iload_n 2, 1) := by decide +kernel
theorem dX4_move_2 : decode cX4_move 2 = .ok (.invokevirtual 62, 3) := by decide +kernel
theorem dX4_move_5 : decode cX4_move 5 = .ok (.astore 4, 2) := by decide +kernel
theorem dX4_move_7 : decode cX4_move 7 = .ok (.aload_n 0, 1) := by decide +kernel
theorem dX4_move_8 : decode cX4_move 8 = .ok (.iload_n 3, 1) := by decide +kernel
theorem dX4_move_9 : decode cX4_move 9 = .ok (.invokevirtual 62, 3) := by decide +kernel
theorem dX4_move_12 : decode cX4_move 12 = .ok (.astore 5, 2) := by decide +kernel
theorem dX4_move_14 : decode cX4_move 14 = .ok (.iload_n 1, 1) := by decide +kernel
theorem dX4_move_15 : decode cX4_move 15 = .ok (.invokestatic 52, 3) := by decide +kernel
theorem dX4_move_18 : decode cX4_move 18 = .ok (.ifCond .eq 18, 3) := by decide +kernel
theorem dX4_move_21 : decode cX4_move 21 = .ok (.aload 4, 2) := by decide +kernel
theorem dX4_move_23 : decode cX4_move 23 = .ok (.ifnull 13, 3) := by decide +kernel
theorem dX4_move_26 : decode cX4_move 26 = .ok (.aload 5, 2) := by decide +kernel
theorem dX4_move_28 : decode cX4_move 28 = .ok (.ifnull 8, 3) := by decide +kernel
theorem dX4_move_31 : decode cX4_move 31 = .ok (.iload_n 2, 1) := by decide +kernel
theorem dX4_move_32 : decode cX4_move 32 = .ok (.iload_n 3, 1) := by decide +kernel
theorem dX4_move_33 : decode cX4_move 33 = .ok (.if_icmp .ne 5, 3) := by decide +kernel
theorem dX4_move_36 : decode cX4_move 36 = .ok (.iconst (-1), 1) := by decide +kernel
theorem dX4_move_37 : decode cX4_move 37 = .ok (.ireturn, 1) := by decide +kernel
theorem dX4_move_38 : decode cX4_move 38 = .ok (.aload 4, 2) := by decide +kernel
theorem dX4_move_40 : decode cX4_move 40 = .ok (.iload_n 1, 1) := by decide +kernel
theorem dX4_move_41 : decode cX4_move 41 = .ok (.invokevirtual 77, 3) := by decide +kernel
theorem dX4_move_44 : decode cX4_move 44 = .ok (.istore 6, 2) := by decide +kernel
theorem dX4_move_46 : decode cX4_move 46 = .ok (.iload 6, 2) := by decide +kernel
theorem dX4_move_48 : decode cX4_move 48 = .ok (.bipush (-2), 2) := by decide +kernel
theorem dX4_move_50 : decode cX4_move 50 = .ok (.if_icmp .ne 6, 3) := by decide +kernel
theorem dX4_move_53 : decode cX4_move 53 = .ok (.bipush (-2), 2) := by decide +kernel
theorem dX4_move_55 : decode cX4_move 55 = .ok (.ireturn, 1) := by decide +kernel
theorem dX4_move_56 : decode cX4_move 56 = .ok (.aload_n 0, 1) := by decide +kernel
theorem dX4_move_57 : decode cX4_move 57 = .ok (.aload_n 0, 1) := by decide +kernel
theorem dX4_move_58 : decode cX4_move 58 = .ok (.aload 4, 2) := by decide +kernel
theorem dX4_move_60 : decode cX4_move 60 = .ok (.iload 6, 2) := by decide +kernel
theorem dX4_move_62 : decode cX4_move 62 = .ok (.aload 5, 2) := by decide +kernel
theorem dX4_move_64 : decode cX4_move 64 = .ok (.invokevirtual 84, 3) := by decide +kernel
theorem dX4_move_67 : decode cX4_move 67 = .ok (.invokevirtual 73, 3) := by decide +kernel
theorem dX4_move_70 : decode cX4_move 70 = .ok (.ireturn, 1) := by decide +kernel
theorem dX4_salvage_0 : decode cX4_salvage 0 = .ok (.iload_n 1, 1) := by decide +kernel
theorem dX4_salvage_1 : decode cX4_salvage 1 = .ok (.invokestatic 52, 3) := by decide +kernel
theorem dX4_salvage_4 : decode cX4_salvage 4 = .ok (.ifCond .ne 5, 3) := by decide +kernel
theorem dX4_salvage_7 : decode cX4_salvage 7 = .ok (.iconst (-1), 1) := by decide +kernel
theorem dX4_salvage_8 : decode cX4_salvage 8 = .ok (.ireturn, 1) := by decide +kernel
theorem dX4_salvage_9 : decode cX4_salvage 9 = .ok (.bipush (-2), 2) := by decide +kernel
theorem dX4_salvage_11 : decode cX4_salvage 11 = .ok (.istore_n 2, 1) := by decide +kernel
theorem dX4_salvage_12 : decode cX4_salvage 12 = .ok (.iconst 0, 1) := by decide +kernel
theorem dX4_salvage_13 : decode cX4_salvage 13 = .ok (.istore_n 3, 1) := by decide +kernel
theorem dX4_salvage_14 : decode cX4_salvage 14 = .ok (.iload_n 3, 1) := by decide +kernel
theorem dX4_salvage_15 : decode cX4_salvage 15 = .ok (.aload_n 0, 1) := by decide +kernel
theorem dX4_salvage_16 : decode cX4_salvage 16 = .ok (.getfield 48, 3) := by decide +kernel
theorem dX4_salvage_19 : decode cX4_salvage 19 = .ok (.if_icmp .ge 60, 3) := by decide +kernel
theorem dX4_salvage_22 : decode cX4_salvage 22 = .ok (.aload_n 0, 1) := by decide +kernel
theorem dX4_salvage_23 : decode cX4_salvage 23 = .ok (.getfield 27, 3) := by decide +kernel
theorem dX4_salvage_26 : decode cX4_salvage 26 = .ok (.iload_n 3, 1) := by decide +kernel
theorem dX4_salvage_27 : decode cX4_salvage 27 = .ok (.aaload, 1) := by decide +kernel
theorem dX4_salvage_28 : decode cX4_salvage 28 = .ok (.iload_n 1, 1) := by decide +kernel
theorem dX4_salvage_29 : decode cX4_salvage 29 = .ok (.invokevirtual 77, 3) := by decide +kernel
theorem dX4_salvage_32 : decode cX4_salvage 32 = .ok (.istore 4, 2) := by decide +kernel
theorem dX4_salvage_34 : decode cX4_salvage 34 = .ok (.iload 4, 2) := by decide +kernel
theorem dX4_salvage_36 : decode cX4_salvage 36 = .ok (.bipush (-2), 2) := by decide +kernel
theorem dX4_salvage_38 : decode cX4_salvage 38 = .ok (.if_icmp .eq 35, 3) := by decide +kernel
theorem dX4_salvage_41 : decode cX4_salvage 41 = .ok (.aload_n 0, 1) := by decide +kernel
theorem dX4_salvage_42 : decode cX4_salvage 42 = .ok (.aload_n 0, 1) := by decide +kernel
theorem dX4_salvage_43 : decode cX4_salvage 43 = .ok (.aload_n 0, 1) := by decide +kernel
theorem dX4_salvage_44 : decode cX4_salvage 44 = .ok (.getfield 27, 3) := by decide +kernel
theorem dX4_salvage_47 : decode cX4_salvage 47 = .ok (.iload_n 3, 1) := by decide +kernel
theorem dX4_salvage_48 : decode cX4_salvage 48 = .ok (.aaload, 1) := by decide +kernel
theorem dX4_salvage_49 : decode cX4_salvage 49 = .ok (.iload 4, 2) := by decide +kernel
theorem dX4_salvage_51 : decode cX4_salvage 51 = .ok (.invokevirtual 80, 3) := by decide +kernel
theorem dX4_salvage_54 : decode cX4_salvage 54 = .ok (.invokevirtual 73, 3) := by decide +kernel
theorem dX4_salvage_57 : decode cX4_salvage 57 = .ok (.istore_n 2, 1) := by decide +kernel
theorem dX4_salvage_58 : decode cX4_salvage 58 = .ok (.iload_n 2, 1) := by decide +kernel
theorem dX4_salvage_59 : decode cX4_salvage 59 = .ok (.ifCond .lt 5, 3) := by decide +kernel
theorem dX4_salvage_62 : decode cX4_salvage 62 = .ok (.iload_n 3, 1) := by decide +kernel
theorem dX4_salvage_63 : decode cX4_salvage 63 = .ok (.ireturn, 1) := by decide +kernel
theorem dX4_salvage_64 : decode cX4_salvage 64 = .ok (.iload_n 2, 1) := by decide +kernel
theorem dX4_salvage_65 : decode cX4_salvage 65 = .ok (.bipush (-4), 2) := by decide +kernel
theorem dX4_salvage_67 : decode cX4_salvage 67 = .ok (.if_icmp .ne 6, 3) := by decide +kernel
theorem dX4_salvage_70 : decode cX4_salvage 70 = .ok (.bipush (-4), 2) := by decide +kernel
theorem dX4_salvage_72 : decode cX4_salvage 72 = .ok (.ireturn, 1) := by decide +kernel
theorem dX4_salvage_73 : decode cX4_salvage 73 = .ok (.iinc 3 1, 3) := by decide +kernel
theorem dX4_salvage_76 : decode cX4_salvage 76 = .ok (.goto (-62), 3) := by decide +kernel
theorem dX4_salvage_79 : decode cX4_salvage 79 = .ok (.iload_n 2, 1) := by decide +kernel
theorem dX4_salvage_80 : decode cX4_salvage 80 = .ok (.ireturn, 1) := by decide +kernel
theorem dX4_scan_0 : decode cX4_scan 0 = .ok (.aload_n 0, 1) := by decide +kernel
theorem dX4_scan_1 : decode cX4_scan 1 = .ok (.iload_n 1, 1) := by decide +kernel
theorem dX4_scan_2 : decode cX4_scan 2 = .ok (.invokevirtual 62, 3) := by decide +kernel
theorem dX4_scan_5 : decode cX4_scan 5 = .ok (.astore_n 2, 1) := by decide +kernel
theorem dX4_scan_6 : decode cX4_scan 6 = .ok (.aload_n 2, 1) := by decide +kernel
theorem dX4_scan_7 : decode cX4_scan 7 = .ok (.ifnonnull 5, 3) := by decide +kernel
theorem dX4_scan_10 : decode cX4_scan 10 = .ok (.iconst (-1), 1) := by decide +kernel
theorem dX4_scan_11 : decode cX4_scan 11 = .ok (.ireturn, 1) := by decide +kernel
theorem dX4_scan_12 : decode cX4_scan 12 = .ok (.aload_n 0, 1) := by decide +kernel
theorem dX4_scan_13 : decode cX4_scan 13 = .ok (.aload_n 0, 1) := by decide +kernel
theorem dX4_scan_14 : decode cX4_scan 14 = .ok (.aload_n 2, 1) := by decide +kernel
theorem dX4_scan_15 : decode cX4_scan 15 = .ok (.invokevirtual 88, 3) := by decide +kernel
theorem dX4_scan_18 : decode cX4_scan 18 = .ok (.invokevirtual 73, 3) := by decide +kernel
theorem dX4_scan_21 : decode cX4_scan 21 = .ok (.ireturn, 1) := by decide +kernel
theorem dX4_lose_0 : decode cX4_lose 0 = .ok (.aload_n 0, 1) := by decide +kernel
theorem dX4_lose_1 : decode cX4_lose 1 = .ok (.iload_n 1, 1) := by decide +kernel
theorem dX4_lose_2 : decode cX4_lose 2 = .ok (.invokevirtual 62, 3) := by decide +kernel
theorem dX4_lose_5 : decode cX4_lose 5 = .ok (.astore_n 2, 1) := by decide +kernel
theorem dX4_lose_6 : decode cX4_lose 6 = .ok (.aload_n 2, 1) := by decide +kernel
theorem dX4_lose_7 : decode cX4_lose 7 = .ok (.ifnonnull 7, 3) := by decide +kernel
theorem dX4_lose_10 : decode cX4_lose 10 = .ok (.iconst (-1), 1) := by decide +kernel
theorem dX4_lose_11 : decode cX4_lose 11 = .ok (.goto 7, 3) := by decide +kernel
theorem dX4_lose_14 : decode cX4_lose 14 = .ok (.aload_n 2, 1) := by decide +kernel
theorem dX4_lose_15 : decode cX4_lose 15 = .ok (.invokevirtual 91, 3) := by decide +kernel
theorem dX4_lose_18 : decode cX4_lose 18 = .ok (.ireturn, 1) := by decide +kernel
theorem dX4_damage_0 : decode cX4_damage 0 = .ok (.aload_n 0, 1) := by decide +kernel
theorem dX4_damage_1 : decode cX4_damage 1 = .ok (.iload_n 1, 1) := by decide +kernel
theorem dX4_damage_2 : decode cX4_damage 2 = .ok (.invokevirtual 62, 3) := by decide +kernel
theorem dX4_damage_5 : decode cX4_damage 5 = .ok (.astore 4, 2) := by decide +kernel
theorem dX4_damage_7 : decode cX4_damage 7 = .ok (.aload 4, 2) := by decide +kernel
theorem dX4_damage_9 : decode cX4_damage 9 = .ok (.ifnull 23, 3) := by decide +kernel
theorem dX4_damage_12 : decode cX4_damage 12 = .ok (.iload_n 2, 1) := by decide +kernel
theorem dX4_damage_13 : decode cX4_damage 13 = .ok (.invokestatic 95, 3) := by decide +kernel
theorem dX4_damage_16 : decode cX4_damage 16 = .ok (.ifCond .eq 16, 3) := by decide +kernel
theorem dX4_damage_19 : decode cX4_damage 19 = .ok (.iload_n 3, 1) := by decide +kernel
theorem dX4_damage_20 : decode cX4_damage 20 = .ok (.iconst 1, 1) := by decide +kernel
theorem dX4_damage_21 : decode cX4_damage 21 = .ok (.if_icmp .lt 11, 3) := by decide +kernel
theorem dX4_damage_24 : decode cX4_damage 24 = .ok (.iload_n 3, 1) := by decide +kernel
theorem dX4_damage_25 : decode cX4_damage 25 = .ok (.bipush 100, 2) := by decide +kernel
theorem dX4_damage_27 : decode cX4_damage 27 = .ok (.iload_n 2, 1) := by decide +kernel
theorem dX4_damage_28 : decode cX4_damage 28 = .ok (.isub, 1) := by decide +kernel
theorem dX4_damage_29 : decode cX4_damage 29 = .ok (.if_icmp .le 5, 3) := by decide +kernel
theorem dX4_damage_32 : decode cX4_damage 32 = .ok (.iconst (-1), 1) := by decide +kernel
theorem dX4_damage_33 : decode cX4_damage 33 = .ok (.ireturn, 1) := by decide +kernel
theorem dX4_damage_34 : decode cX4_damage 34 = .ok (.aload 4, 2) := by decide +kernel
theorem dX4_damage_36 : decode cX4_damage 36 = .ok (.iload_n 2, 1) := by decide +kernel
theorem dX4_damage_37 : decode cX4_damage 37 = .ok (.iload_n 3, 1) := by decide +kernel
theorem dX4_damage_38 : decode cX4_damage 38 = .ok (.invokevirtual 98, 3) := by decide +kernel
theorem dX4_damage_41 : decode cX4_damage 41 = .ok (.ireturn, 1) := by decide +kernel
theorem dX4_jam_0 : decode cX4_jam 0 = .ok (.aload_n 0, 1) := by decide +kernel
theorem dX4_jam_1 : decode cX4_jam 1 = .ok (.iload_n 1, 1) := by decide +kernel
theorem dX4_jam_2 : decode cX4_jam 2 = .ok (.invokevirtual 102, 3) := by decide +kernel
theorem dX4_jam_5 : decode cX4_jam 5 = .ok (.astore_n 3, 1) := by decide +kernel
theorem dX4_jam_6 : decode cX4_jam 6 = .ok (.aload_n 3, 1) := by decide +kernel
theorem dX4_jam_7 : decode cX4_jam 7 = .ok (.ifnull 22, 3) := by decide +kernel
theorem dX4_jam_10 : decode cX4_jam 10 = .ok (.aload_n 3, 1) := by decide +kernel
theorem dX4_jam_11 : decode cX4_jam 11 = .ok (.getfield 106, 3) := by decide +kernel
theorem dX4_jam_14 : decode cX4_jam 14 = .ok (.ifCond .ne 15, 3) := by decide +kernel
theorem dX4_jam_17 : decode cX4_jam 17 = .ok (.iload_n 2, 1) := by decide +kernel
theorem dX4_jam_18 : decode cX4_jam 18 = .ok (.iconst (-1), 1) := by decide +kernel
theorem dX4_jam_19 : decode cX4_jam 19 = .ok (.if_icmp .lt 10, 3) := by decide +kernel
theorem dX4_jam_22 : decode cX4_jam 22 = .ok (.iload_n 2, 1) := by decide +kernel
theorem dX4_jam_23 : decode cX4_jam 23 = .ok (.sipush 1000, 3) := by decide +kernel
theorem dX4_jam_26 : decode cX4_jam 26 = .ok (.if_icmp .le 5, 3) := by decide +kernel
theorem dX4_jam_29 : decode cX4_jam 29 = .ok (.iconst (-1), 1) := by decide +kernel
theorem dX4_jam_30 : decode cX4_jam 30 = .ok (.ireturn, 1) := by decide +kernel
theorem dX4_jam_31 : decode cX4_jam 31 = .ok (.aload_n 3, 1) := by decide +kernel
theorem dX4_jam_32 : decode cX4_jam 32 = .ok (.iload_n 2, 1) := by decide +kernel
theorem dX4_jam_33 : decode cX4_jam 33 = .ok (.putfield 110, 3) := by decide +kernel
theorem dX4_jam_36 : decode cX4_jam 36 = .ok (.iload_n 2, 1) := by decide +kernel
theorem dX4_jam_37 : decode cX4_jam 37 = .ok (.ireturn, 1) := by decide +kernel
theorem dX4_fix_0 : decode cX4_fix 0 = .ok (.aload_n 0, 1) := by decide +kernel
theorem dX4_fix_1 : decode cX4_fix 1 = .ok (.iload_n 1, 1) := by decide +kernel
theorem dX4_fix_2 : decode cX4_fix 2 = .ok (.invokevirtual 102, 3) := by decide +kernel
theorem dX4_fix_5 : decode cX4_fix 5 = .ok (.astore_n 2, 1) := by decide +kernel
theorem dX4_fix_6 : decode cX4_fix 6 = .ok (.aload_n 2, 1) := by decide +kernel
theorem dX4_fix_7 : decode cX4_fix 7 = .ok (.ifnonnull 5, 3) := by decide +kernel
theorem dX4_fix_10 : decode cX4_fix 10 = .ok (.iconst (-1), 1) := by decide +kernel
theorem dX4_fix_11 : decode cX4_fix 11 = .ok (.ireturn, 1) := by decide +kernel
theorem dX4_fix_12 : decode cX4_fix 12 = .ok (.aload_n 2, 1) := by decide +kernel
theorem dX4_fix_13 : decode cX4_fix 13 = .ok (.getfield 106, 3) := by decide +kernel
theorem dX4_fix_16 : decode cX4_fix 16 = .ok (.ifCond .eq 7, 3) := by decide +kernel
theorem dX4_fix_19 : decode cX4_fix 19 = .ok (.iconst 1, 1) := by decide +kernel
theorem dX4_fix_20 : decode cX4_fix 20 = .ok (.goto 4, 3) := by decide +kernel
theorem dX4_fix_23 : decode cX4_fix 23 = .ok (.iconst 0, 1) := by decide +kernel
theorem dX4_fix_24 : decode cX4_fix 24 = .ok (.istore_n 3, 1) := by decide +kernel
theorem dX4_fix_25 : decode cX4_fix 25 = .ok (.aload_n 2, 1) := by decide +kernel
theorem dX4_fix_26 : decode cX4_fix 26 = .ok (.iconst 0, 1) := by decide +kernel
theorem dX4_fix_27 : decode cX4_fix 27 = .ok (.putfield 106, 3) := by decide +kernel
theorem dX4_fix_30 : decode cX4_fix 30 = .ok (.aload_n 2, 1) := by decide +kernel
theorem dX4_fix_31 : decode cX4_fix 31 = .ok (.iconst (-1), 1) := by decide +kernel
theorem dX4_fix_32 : decode cX4_fix 32 = .ok (.putfield 110, 3) := by decide +kernel
theorem dX4_fix_35 : decode cX4_fix 35 = .ok (.iload_n 3, 1) := by decide +kernel
theorem dX4_fix_36 : decode cX4_fix 36 = .ok (.ireturn, 1) := by decide +kernel
theorem dX4_power_0 : decode cX4_power 0 = .ok (.iload_n 1, 1) := by decide +kernel
theorem dX4_power_1 : decode cX4_power 1 = .ok (.iconst (-1), 1) := by decide +kernel
theorem dX4_power_2 : decode cX4_power 2 = .ok (.if_icmp .lt 9, 3) := by decide +kernel
theorem dX4_power_5 : decode cX4_power 5 = .ok (.iload_n 1, 1) := by decide +kernel
theorem dX4_power_6 : decode cX4_power 6 = .ok (.ldc 113, 2) := by decide +kernel
theorem dX4_power_8 : decode cX4_power 8 = .ok (.if_icmp .le 5, 3) := by decide +kernel
theorem dX4_power_11 : decode cX4_power 11 = .ok (.iconst (-1), 1) := by decide +kernel
theorem dX4_power_12 : decode cX4_power 12 = .ok (.ireturn, 1) := by decide +kernel
theorem dX4_power_13 : decode cX4_power 13 = .ok (.aload_n 0, 1) := by decide +kernel
theorem dX4_power_14 : decode cX4_power 14 = .ok (.getfield 10, 3) := by decide +kernel
theorem dX4_power_17 : decode cX4_power 17 = .ok (.iload_n 1, 1) := by decide +kernel
theorem dX4_power_18 : decode cX4_power 18 = .ok (.putfield 114, 3) := by decide +kernel
theorem dX4_power_21 : decode cX4_power 21 = .ok (.iload_n 1, 1) := by decide +kernel
theorem dX4_power_22 : decode cX4_power 22 = .ok (.ireturn, 1) := by decide +kernel
theorem dX4_place_0 : decode cX4_place 0 = .ok (.aload_n 0, 1) := by decide +kernel
theorem dX4_place_1 : decode cX4_place 1 = .ok (.iload_n 2, 1) := by decide +kernel
theorem dX4_place_2 : decode cX4_place 2 = .ok (.invokevirtual 62, 3) := by decide +kernel
theorem dX4_place_5 : decode cX4_place 5 = .ok (.astore_n 3, 1) := by decide +kernel
theorem dX4_place_6 : decode cX4_place 6 = .ok (.iload_n 1, 1) := by decide +kernel
theorem dX4_place_7 : decode cX4_place 7 = .ok (.invokestatic 52, 3) := by decide +kernel
theorem dX4_place_10 : decode cX4_place 10 = .ok (.ifCond .eq 7, 3) := by decide +kernel
theorem dX4_place_13 : decode cX4_place 13 = .ok (.aload_n 3, 1) := by decide +kernel
theorem dX4_place_14 : decode cX4_place 14 = .ok (.ifnonnull 5, 3) := by decide +kernel
theorem dX4_place_17 : decode cX4_place 17 = .ok (.iconst (-1), 1) := by decide +kernel
theorem dX4_place_18 : decode cX4_place 18 = .ok (.ireturn, 1) := by decide +kernel
theorem dX4_place_19 : decode cX4_place 19 = .ok (.aload_n 3, 1) := by decide +kernel
theorem dX4_place_20 : decode cX4_place 20 = .ok (.iload_n 1, 1) := by decide +kernel
theorem dX4_place_21 : decode cX4_place 21 = .ok (.invokevirtual 77, 3) := by decide +kernel
theorem dX4_place_24 : decode cX4_place 24 = .ok (.ireturn, 1) := by decide +kernel
theorem dX4_block_0 : decode cX4_block 0 = .ok (.aload_n 0, 1) := by decide +kernel
theorem dX4_block_1 : decode cX4_block 1 = .ok (.iload_n 1, 1) := by decide +kernel
theorem dX4_block_2 : decode cX4_block 2 = .ok (.invokevirtual 62, 3) := by decide +kernel
theorem dX4_block_5 : decode cX4_block 5 = .ok (.astore 4, 2) := by decide +kernel
theorem dX4_block_7 : decode cX4_block 7 = .ok (.aload 4, 2) := by decide +kernel
theorem dX4_block_9 : decode cX4_block 9 = .ok (.ifnull 10, 3) := by decide +kernel
theorem dX4_block_12 : decode cX4_block 12 = .ok (.iload_n 2, 1) := by decide +kernel
theorem dX4_block_13 : decode cX4_block 13 = .ok (.invokestatic 95, 3) := by decide +kernel
theorem dX4_block_16 : decode cX4_block 16 = .ok (.ifCond .ne 5, 3) := by decide +kernel
theorem dX4_block_19 : decode cX4_block 19 = .ok (.iconst (-1), 1) := by decide +kernel
theorem dX4_block_20 : decode cX4_block 20 = .ok (.ireturn, 1) := by decide +kernel
theorem dX4_block_21 : decode cX4_block 21 = .ok (.iload_n 3, 1) := by decide +kernel
theorem dX4_block_22 : decode cX4_block 22 = .ok (.tableswitch 75 0 3 #[30, 40, 50, 60], 30) := by decide +kernel
theorem dX4_block_52 : decode cX4_block 52 = .ok (.aload 4, 2) := by decide +kernel
theorem dX4_block_54 : decode cX4_block 54 = .ok (.getfield 117, 3) := by decide +kernel
theorem dX4_block_57 : decode cX4_block 57 = .ok (.iload_n 2, 1) := by decide +kernel
theorem dX4_block_58 : decode cX4_block 58 = .ok (.invokevirtual 120, 3) := by decide +kernel
theorem dX4_block_61 : decode cX4_block 61 = .ok (.ireturn, 1) := by decide +kernel
theorem dX4_block_62 : decode cX4_block 62 = .ok (.aload 4, 2) := by decide +kernel
theorem dX4_block_64 : decode cX4_block 64 = .ok (.getfield 117, 3) := by decide +kernel
theorem dX4_block_67 : decode cX4_block 67 = .ok (.iload_n 2, 1) := by decide +kernel
theorem dX4_block_68 : decode cX4_block 68 = .ok (.invokevirtual 123, 3) := by decide +kernel
theorem dX4_block_71 : decode cX4_block 71 = .ok (.ireturn, 1) := by decide +kernel
theorem dX4_block_72 : decode cX4_block 72 = .ok (.aload 4, 2) := by decide +kernel
theorem dX4_block_74 : decode cX4_block 74 = .ok (.getfield 117, 3) := by decide +kernel
theorem dX4_block_77 : decode cX4_block 77 = .ok (.iload_n 2, 1) := by decide +kernel
theorem dX4_block_78 : decode cX4_block 78 = .ok (.invokevirtual 126, 3) := by decide +kernel
theorem dX4_block_81 : decode cX4_block 81 = .ok (.ireturn, 1) := by decide +kernel
theorem dX4_block_82 : decode cX4_block 82 = .ok (.aload 4, 2) := by decide +kernel
theorem dX4_block_84 : decode cX4_block 84 = .ok (.iload_n 2, 1) := by decide +kernel
theorem dX4_block_85 : decode cX4_block 85 = .ok (.invokevirtual 129, 3) := by decide +kernel
theorem dX4_block_88 : decode cX4_block 88 = .ok (.ifCond .eq 7, 3) := by decide +kernel
theorem dX4_block_91 : decode cX4_block 91 = .ok (.iconst 1, 1) := by decide +kernel
theorem dX4_block_92 : decode cX4_block 92 = .ok (.goto 4, 3) := by decide +kernel
theorem dX4_block_95 : decode cX4_block 95 = .ok (.iconst 0, 1) := by decide +kernel
theorem dX4_block_96 : decode cX4_block 96 = .ok (.ireturn, 1) := by decide +kernel
theorem dX4_block_97 : decode cX4_block 97 = .ok (.iconst (-1), 1) := by decide +kernel
theorem dX4_block_98 : decode cX4_block 98 = .ok (.ireturn, 1) := by decide +kernel
theorem dX4_tapeTold_0 : decode cX4_tapeTold 0 = .ok (.aload_n 0, 1) := by decide +kernel
theorem dX4_tapeTold_1 : decode cX4_tapeTold 1 = .ok (.iload_n 1, 1) := by decide +kernel
theorem dX4_tapeTold_2 : decode cX4_tapeTold 2 = .ok (.invokevirtual 62, 3) := by decide +kernel
theorem dX4_tapeTold_5 : decode cX4_tapeTold 5 = .ok (.astore_n 3, 1) := by decide +kernel
theorem dX4_tapeTold_6 : decode cX4_tapeTold 6 = .ok (.aload_n 3, 1) := by decide +kernel
theorem dX4_tapeTold_7 : decode cX4_tapeTold 7 = .ok (.ifnonnull 5, 3) := by decide +kernel
theorem dX4_tapeTold_10 : decode cX4_tapeTold 10 = .ok (.iconst (-1), 1) := by decide +kernel
theorem dX4_tapeTold_11 : decode cX4_tapeTold 11 = .ok (.ireturn, 1) := by decide +kernel
theorem dX4_tapeTold_12 : decode cX4_tapeTold 12 = .ok (.iload_n 2, 1) := by decide +kernel
theorem dX4_tapeTold_13 : decode cX4_tapeTold 13 = .ok (.tableswitch 54 0 3 #[31, 36, 44, 49], 31) := by decide +kernel
theorem dX4_tapeTold_44 : decode cX4_tapeTold 44 = .ok (.aload_n 3, 1) := by decide +kernel
theorem dX4_tapeTold_45 : decode cX4_tapeTold 45 = .ok (.getfield 132, 3) := by decide +kernel
theorem dX4_tapeTold_48 : decode cX4_tapeTold 48 = .ok (.ireturn, 1) := by decide +kernel
theorem dX4_tapeTold_49 : decode cX4_tapeTold 49 = .ok (.aload_n 3, 1) := by decide +kernel
theorem dX4_tapeTold_50 : decode cX4_tapeTold 50 = .ok (.getfield 117, 3) := by decide +kernel
theorem dX4_tapeTold_53 : decode cX4_tapeTold 53 = .ok (.getfield 66, 3) := by decide +kernel
theorem dX4_tapeTold_56 : decode cX4_tapeTold 56 = .ok (.ireturn, 1) := by decide +kernel
theorem dX4_tapeTold_57 : decode cX4_tapeTold 57 = .ok (.aload_n 3, 1) := by decide +kernel
theorem dX4_tapeTold_58 : decode cX4_tapeTold 58 = .ok (.getfield 135, 3) := by decide +kernel
theorem dX4_tapeTold_61 : decode cX4_tapeTold 61 = .ok (.ireturn, 1) := by decide +kernel
theorem dX4_tapeTold_62 : decode cX4_tapeTold 62 = .ok (.aload_n 3, 1) := by decide +kernel
theorem dX4_tapeTold_63 : decode cX4_tapeTold 63 = .ok (.getfield 138, 3) := by decide +kernel
theorem dX4_tapeTold_66 : decode cX4_tapeTold 66 = .ok (.ireturn, 1) := by decide +kernel
theorem dX4_tapeTold_67 : decode cX4_tapeTold 67 = .ok (.iconst (-1), 1) := by decide +kernel
theorem dX4_tapeTold_68 : decode cX4_tapeTold 68 = .ok (.ireturn, 1) := by decide +kernel
theorem dX4_driveTold_0 : decode cX4_driveTold 0 = .ok (.aload_n 0, 1) := by decide +kernel
theorem dX4_driveTold_1 : decode cX4_driveTold 1 = .ok (.iload_n 1, 1) := by decide +kernel
theorem dX4_driveTold_2 : decode cX4_driveTold 2 = .ok (.invokevirtual 102, 3) := by decide +kernel
theorem dX4_driveTold_5 : decode cX4_driveTold 5 = .ok (.astore_n 3, 1) := by decide +kernel
theorem dX4_driveTold_6 : decode cX4_driveTold 6 = .ok (.aload_n 3, 1) := by decide +kernel
theorem dX4_driveTold_7 : decode cX4_driveTold 7 = .ok (.ifnonnull 5, 3) := by decide +kernel
theorem dX4_driveTold_10 : decode cX4_driveTold 10 = .ok (.iconst (-1), 1) := by decide +kernel
theorem dX4_driveTold_11 : decode cX4_driveTold 11 = .ok (.ireturn, 1) := by decide +kernel
theorem dX4_driveTold_12 : decode cX4_driveTold 12 = .ok (.iload_n 2, 1) := by decide +kernel
theorem dX4_driveTold_13 : decode cX4_driveTold 13 = .ok (.tableswitch 50 0 2 #[27, 32, 37], 27) := by decide +kernel
theorem dX4_driveTold_40 : decode cX4_driveTold 40 = .ok (.aload_n 3, 1) := by decide +kernel
theorem dX4_driveTold_41 : decode cX4_driveTold 41 = .ok (.getfield 141, 3) := by decide +kernel
theorem dX4_driveTold_44 : decode cX4_driveTold 44 = .ok (.ireturn, 1) := by decide +kernel
theorem dX4_driveTold_45 : decode cX4_driveTold 45 = .ok (.aload_n 3, 1) := by decide +kernel
theorem dX4_driveTold_46 : decode cX4_driveTold 46 = .ok (.getfield 144, 3) := by decide +kernel
theorem dX4_driveTold_49 : decode cX4_driveTold 49 = .ok (.ireturn, 1) := by decide +kernel
theorem dX4_driveTold_50 : decode cX4_driveTold 50 = .ok (.aload_n 3, 1) := by decide +kernel
theorem dX4_driveTold_51 : decode cX4_driveTold 51 = .ok (.getfield 106, 3) := by decide +kernel
theorem dX4_driveTold_54 : decode cX4_driveTold 54 = .ok (.ifCond .eq 7, 3) := by decide +kernel
theorem dX4_driveTold_57 : decode cX4_driveTold 57 = .ok (.iconst 1, 1) := by decide +kernel
theorem dX4_driveTold_58 : decode cX4_driveTold 58 = .ok (.goto 4, 3) := by decide +kernel
theorem dX4_driveTold_61 : decode cX4_driveTold 61 = .ok (.iconst 0, 1) := by decide +kernel
theorem dX4_driveTold_62 : decode cX4_driveTold 62 = .ok (.ireturn, 1) := by decide +kernel
theorem dX4_driveTold_63 : decode cX4_driveTold 63 = .ok (.iconst (-1), 1) := by decide +kernel
theorem dX4_driveTold_64 : decode cX4_driveTold 64 = .ok (.ireturn, 1) := by decide +kernel
theorem dX4_told_0 : decode cX4_told 0 = .ok (.iload_n 1, 1) := by decide +kernel
theorem dX4_told_1 : decode cX4_told 1 = .ok (.tableswitch 69 0 4 #[35, 43, 51, 56, 61], 35) := by decide +kernel
theorem dX4_told_36 : decode cX4_told 36 = .ok (.aload_n 0, 1) := by decide +kernel
theorem dX4_told_37 : decode cX4_told 37 = .ok (.getfield 10, 3) := by decide +kernel
theorem dX4_told_40 : decode cX4_told 40 = .ok (.getfield 147, 3) := by decide +kernel
theorem dX4_told_43 : decode cX4_told 43 = .ok (.ireturn, 1) := by decide +kernel
theorem dX4_told_44 : decode cX4_told 44 = .ok (.aload_n 0, 1) := by decide +kernel
theorem dX4_told_45 : decode cX4_told 45 = .ok (.getfield 10, 3) := by decide +kernel
theorem dX4_told_48 : decode cX4_told 48 = .ok (.getfield 150, 3) := by decide +kernel
theorem dX4_told_51 : decode cX4_told 51 = .ok (.ireturn, 1) := by decide +kernel
theorem dX4_told_52 : decode cX4_told 52 = .ok (.aload_n 0, 1) := by decide +kernel
theorem dX4_told_53 : decode cX4_told 53 = .ok (.getfield 153, 3) := by decide +kernel
theorem dX4_told_56 : decode cX4_told 56 = .ok (.ireturn, 1) := by decide +kernel
theorem dX4_told_57 : decode cX4_told 57 = .ok (.aload_n 0, 1) := by decide +kernel
theorem dX4_told_58 : decode cX4_told 58 = .ok (.getfield 156, 3) := by decide +kernel
theorem dX4_told_61 : decode cX4_told 61 = .ok (.ireturn, 1) := by decide +kernel
theorem dX4_told_62 : decode cX4_told 62 = .ok (.aload_n 0, 1) := by decide +kernel
theorem dX4_told_63 : decode cX4_told 63 = .ok (.getfield 10, 3) := by decide +kernel
theorem dX4_told_66 : decode cX4_told 66 = .ok (.getfield 114, 3) := by decide +kernel
theorem dX4_told_69 : decode cX4_told 69 = .ok (.ireturn, 1) := by decide +kernel
theorem dX4_told_70 : decode cX4_told 70 = .ok (.iconst (-1), 1) := by decide +kernel
theorem dX4_told_71 : decode cX4_told 71 = .ok (.ireturn, 1) := by decide +kernel
theorem dX4_fold_0 : decode cX4_fold 0 = .ok (.aload_n 0, 1) := by decide +kernel
theorem dX4_fold_1 : decode cX4_fold 1 = .ok (.getfield 40, 3) := by decide +kernel
theorem dX4_fold_4 : decode cX4_fold 4 = .ok (.ireturn, 1) := by decide +kernel
theorem dX4_isName_0 : decode cX4_isName 0 = .ok (.iload_n 0, 1) := by decide +kernel
theorem dX4_isName_1 : decode cX4_isName 1 = .ok (.ifCond .lt 14, 3) := by decide +kernel
theorem dX4_isName_4 : decode cX4_isName 4 = .ok (.iload_n 0, 1) := by decide +kernel
theorem dX4_isName_5 : decode cX4_isName 5 = .ok (.sipush 1000, 3) := by decide +kernel
theorem dX4_isName_8 : decode cX4_isName 8 = .ok (.if_icmp .ge 7, 3) := by decide +kernel
theorem dX4_isName_11 : decode cX4_isName 11 = .ok (.iconst 1, 1) := by decide +kernel
theorem dX4_isName_12 : decode cX4_isName 12 = .ok (.goto 4, 3) := by decide +kernel
theorem dX4_isName_15 : decode cX4_isName 15 = .ok (.iconst 0, 1) := by decide +kernel
theorem dX4_isName_16 : decode cX4_isName 16 = .ok (.ireturn, 1) := by decide +kernel
theorem dX4_isPlace_0 : decode cX4_isPlace 0 = .ok (.iload_n 0, 1) := by decide +kernel
theorem dX4_isPlace_1 : decode cX4_isPlace 1 = .ok (.ifCond .lt 13, 3) := by decide +kernel
theorem dX4_isPlace_4 : decode cX4_isPlace 4 = .ok (.iload_n 0, 1) := by decide +kernel
theorem dX4_isPlace_5 : decode cX4_isPlace 5 = .ok (.bipush 100, 2) := by decide +kernel
theorem dX4_isPlace_7 : decode cX4_isPlace 7 = .ok (.if_icmp .ge 7, 3) := by decide +kernel
theorem dX4_isPlace_10 : decode cX4_isPlace 10 = .ok (.iconst 1, 1) := by decide +kernel
theorem dX4_isPlace_11 : decode cX4_isPlace 11 = .ok (.goto 4, 3) := by decide +kernel
theorem dX4_isPlace_14 : decode cX4_isPlace 14 = .ok (.iconst 0, 1) := by decide +kernel
theorem dX4_isPlace_15 : decode cX4_isPlace 15 = .ok (.ireturn, 1) := by decide +kernel
theorem dX4_isHome_0 : decode cX4_isHome 0 = .ok (.iconst 0, 1) := by decide +kernel
theorem dX4_isHome_1 : decode cX4_isHome 1 = .ok (.istore_n 2, 1) := by decide +kernel
theorem dX4_isHome_2 : decode cX4_isHome 2 = .ok (.iload_n 2, 1) := by decide +kernel
theorem dX4_isHome_3 : decode cX4_isHome 3 = .ok (.aload_n 0, 1) := by decide +kernel
theorem dX4_isHome_4 : decode cX4_isHome 4 = .ok (.getfield 48, 3) := by decide +kernel
theorem dX4_isHome_7 : decode cX4_isHome 7 = .ok (.if_icmp .ge 24, 3) := by decide +kernel
theorem dX4_isHome_10 : decode cX4_isHome 10 = .ok (.aload_n 0, 1) := by decide +kernel
theorem dX4_isHome_11 : decode cX4_isHome 11 = .ok (.getfield 27, 3) := by decide +kernel
theorem dX4_isHome_14 : decode cX4_isHome 14 = .ok (.iload_n 2, 1) := by decide +kernel
theorem dX4_isHome_15 : decode cX4_isHome 15 = .ok (.aaload, 1) := by decide +kernel
theorem dX4_isHome_16 : decode cX4_isHome 16 = .ok (.getfield 132, 3) := by decide +kernel
theorem dX4_isHome_19 : decode cX4_isHome 19 = .ok (.iload_n 1, 1) := by decide +kernel
theorem dX4_isHome_20 : decode cX4_isHome 20 = .ok (.if_icmp .ne 5, 3) := by decide +kernel
theorem dX4_isHome_23 : decode cX4_isHome 23 = .ok (.iconst 1, 1) := by decide +kernel
theorem dX4_isHome_24 : decode cX4_isHome 24 = .ok (.ireturn, 1) := by decide +kernel
theorem dX4_isHome_25 : decode cX4_isHome 25 = .ok (.iinc 2 1, 3) := by decide +kernel
theorem dX4_isHome_28 : decode cX4_isHome 28 = .ok (.goto (-26), 3) := by decide +kernel
theorem dX4_isHome_31 : decode cX4_isHome 31 = .ok (.iconst 0, 1) := by decide +kernel
theorem dX4_isHome_32 : decode cX4_isHome 32 = .ok (.ireturn, 1) := by decide +kernel
theorem dX4_findTape_0 : decode cX4_findTape 0 = .ok (.iload_n 1, 1) := by decide +kernel
theorem dX4_findTape_1 : decode cX4_findTape 1 = .ok (.ifCond .lt 20, 3) := by decide +kernel
theorem dX4_findTape_4 : decode cX4_findTape 4 = .ok (.iload_n 1, 1) := by decide +kernel
theorem dX4_findTape_5 : decode cX4_findTape 5 = .ok (.aload_n 0, 1) := by decide +kernel
theorem dX4_findTape_6 : decode cX4_findTape 6 = .ok (.getfield 48, 3) := by decide +kernel
theorem dX4_findTape_9 : decode cX4_findTape 9 = .ok (.if_icmp .ge 12, 3) := by decide +kernel
theorem dX4_findTape_12 : decode cX4_findTape 12 = .ok (.aload_n 0, 1) := by decide +kernel
theorem dX4_findTape_13 : decode cX4_findTape 13 = .ok (.getfield 27, 3) := by decide +kernel
theorem dX4_findTape_16 : decode cX4_findTape 16 = .ok (.iload_n 1, 1) := by decide +kernel
theorem dX4_findTape_17 : decode cX4_findTape 17 = .ok (.aaload, 1) := by decide +kernel
theorem dX4_findTape_18 : decode cX4_findTape 18 = .ok (.goto 4, 3) := by decide +kernel
theorem dX4_findTape_21 : decode cX4_findTape 21 = .ok (.aconst_null, 1) := by decide +kernel
theorem dX4_findTape_22 : decode cX4_findTape 22 = .ok (.areturn, 1) := by decide +kernel
theorem dX4_findDrive_0 : decode cX4_findDrive 0 = .ok (.iload_n 1, 1) := by decide +kernel
theorem dX4_findDrive_1 : decode cX4_findDrive 1 = .ok (.ifCond .lt 17, 3) := by decide +kernel
theorem dX4_findDrive_4 : decode cX4_findDrive 4 = .ok (.iload_n 1, 1) := by decide +kernel
theorem dX4_findDrive_5 : decode cX4_findDrive 5 = .ok (.iconst 3, 1) := by decide +kernel
theorem dX4_findDrive_6 : decode cX4_findDrive 6 = .ok (.if_icmp .ge 12, 3) := by decide +kernel
theorem dX4_findDrive_9 : decode cX4_findDrive 9 = .ok (.aload_n 0, 1) := by decide +kernel
theorem dX4_findDrive_10 : decode cX4_findDrive 10 = .ok (.getfield 18, 3) := by decide +kernel
theorem dX4_findDrive_13 : decode cX4_findDrive 13 = .ok (.iload_n 1, 1) := by decide +kernel
theorem dX4_findDrive_14 : decode cX4_findDrive 14 = .ok (.aaload, 1) := by decide +kernel
theorem dX4_findDrive_15 : decode cX4_findDrive 15 = .ok (.goto 4, 3) := by decide +kernel
theorem dX4_findDrive_18 : decode cX4_findDrive 18 = .ok (.aconst_null, 1) := by decide +kernel
theorem dX4_findDrive_19 : decode cX4_findDrive 19 = .ok (.areturn, 1) := by decide +kernel
theorem dX4_counted_0 : decode cX4_counted 0 = .ok (.aload_n 0, 1) := by decide +kernel
theorem dX4_counted_1 : decode cX4_counted 1 = .ok (.dup, 1) := by decide +kernel
theorem dX4_counted_2 : decode cX4_counted 2 = .ok (.getfield 153, 3) := by decide +kernel
theorem dX4_counted_5 : decode cX4_counted 5 = .ok (.iconst 1, 1) := by decide +kernel
theorem dX4_counted_6 : decode cX4_counted 6 = .ok (.iadd, 1) := by decide +kernel
theorem dX4_counted_7 : decode cX4_counted 7 = .ok (.putfield 153, 3) := by decide +kernel
theorem dX4_counted_10 : decode cX4_counted 10 = .ok (.iload_n 1, 1) := by decide +kernel
theorem dX4_counted_11 : decode cX4_counted 11 = .ok (.ifCond .ge 13, 3) := by decide +kernel
theorem dX4_counted_14 : decode cX4_counted 14 = .ok (.aload_n 0, 1) := by decide +kernel
theorem dX4_counted_15 : decode cX4_counted 15 = .ok (.dup, 1) := by decide +kernel
theorem dX4_counted_16 : decode cX4_counted 16 = .ok (.getfield 156, 3) := by decide +kernel
theorem dX4_counted_19 : decode cX4_counted 19 = .ok (.iconst 1, 1) := by decide +kernel
theorem dX4_counted_20 : decode cX4_counted 20 = .ok (.iadd, 1) := by decide +kernel
theorem dX4_counted_21 : decode cX4_counted 21 = .ok (.putfield 156, 3) := by decide +kernel
theorem dX4_counted_24 : decode cX4_counted 24 = .ok (.iload_n 1, 1) := by decide +kernel
theorem dX4_counted_25 : decode cX4_counted 25 = .ok (.ireturn, 1) := by decide +kernel
theorem dX4_nearestDrive_0 : decode cX4_nearestDrive 0 = .ok (.aconst_null, 1) := by decide +kernel
theorem dX4_nearestDrive_1 : decode cX4_nearestDrive 1 = .ok (.astore_n 2, 1) := by decide +kernel
theorem dX4_nearestDrive_2 : decode cX4_nearestDrive 2 = .ok (.iconst 0, 1) := by decide +kernel
theorem dX4_nearestDrive_3 : decode cX4_nearestDrive 3 = .ok (.istore_n 3, 1) := by decide +kernel
theorem dX4_nearestDrive_4 : decode cX4_nearestDrive 4 = .ok (.iload_n 3, 1) := by decide +kernel
theorem dX4_nearestDrive_5 : decode cX4_nearestDrive 5 = .ok (.iconst 3, 1) := by decide +kernel
theorem dX4_nearestDrive_6 : decode cX4_nearestDrive 6 = .ok (.if_icmp .ge 46, 3) := by decide +kernel
theorem dX4_nearestDrive_9 : decode cX4_nearestDrive 9 = .ok (.aload_n 0, 1) := by decide +kernel
theorem dX4_nearestDrive_10 : decode cX4_nearestDrive 10 = .ok (.getfield 18, 3) := by decide +kernel
theorem dX4_nearestDrive_13 : decode cX4_nearestDrive 13 = .ok (.iload_n 3, 1) := by decide +kernel
theorem dX4_nearestDrive_14 : decode cX4_nearestDrive 14 = .ok (.aaload, 1) := by decide +kernel
theorem dX4_nearestDrive_15 : decode cX4_nearestDrive 15 = .ok (.astore 4, 2) := by decide +kernel
theorem dX4_nearestDrive_17 : decode cX4_nearestDrive 17 = .ok (.aload 4, 2) := by decide +kernel
theorem dX4_nearestDrive_19 : decode cX4_nearestDrive 19 = .ok (.invokevirtual 159, 3) := by decide +kernel
theorem dX4_nearestDrive_22 : decode cX4_nearestDrive 22 = .ok (.ifCond .eq 24, 3) := by decide +kernel
theorem dX4_nearestDrive_25 : decode cX4_nearestDrive 25 = .ok (.aload_n 2, 1) := by decide +kernel
theorem dX4_nearestDrive_26 : decode cX4_nearestDrive 26 = .ok (.ifnull 17, 3) := by decide +kernel
theorem dX4_nearestDrive_29 : decode cX4_nearestDrive 29 = .ok (.aload 4, 2) := by decide +kernel
theorem dX4_nearestDrive_31 : decode cX4_nearestDrive 31 = .ok (.aload_n 1, 1) := by decide +kernel
theorem dX4_nearestDrive_32 : decode cX4_nearestDrive 32 = .ok (.invokevirtual 163, 3) := by decide +kernel
theorem dX4_nearestDrive_35 : decode cX4_nearestDrive 35 = .ok (.aload_n 2, 1) := by decide +kernel
theorem dX4_nearestDrive_36 : decode cX4_nearestDrive 36 = .ok (.aload_n 1, 1) := by decide +kernel
theorem dX4_nearestDrive_37 : decode cX4_nearestDrive 37 = .ok (.invokevirtual 163, 3) := by decide +kernel
theorem dX4_nearestDrive_40 : decode cX4_nearestDrive 40 = .ok (.if_icmp .ge 6, 3) := by decide +kernel
theorem dX4_nearestDrive_43 : decode cX4_nearestDrive 43 = .ok (.aload 4, 2) := by decide +kernel
theorem dX4_nearestDrive_45 : decode cX4_nearestDrive 45 = .ok (.astore_n 2, 1) := by decide +kernel
theorem dX4_nearestDrive_46 : decode cX4_nearestDrive 46 = .ok (.iinc 3 1, 3) := by decide +kernel
theorem dX4_nearestDrive_49 : decode cX4_nearestDrive 49 = .ok (.goto (-45), 3) := by decide +kernel
theorem dX4_nearestDrive_52 : decode cX4_nearestDrive 52 = .ok (.aload_n 2, 1) := by decide +kernel
theorem dX4_nearestDrive_53 : decode cX4_nearestDrive 53 = .ok (.areturn, 1) := by decide +kernel
theorem dX4_copyJob_0 : decode cX4_copyJob 0 = .ok (.aload_n 0, 1) := by decide +kernel
theorem dX4_copyJob_1 : decode cX4_copyJob 1 = .ok (.aload_n 1, 1) := by decide +kernel
theorem dX4_copyJob_2 : decode cX4_copyJob 2 = .ok (.invokevirtual 166, 3) := by decide +kernel
theorem dX4_copyJob_5 : decode cX4_copyJob 5 = .ok (.astore_n 2, 1) := by decide +kernel
theorem dX4_copyJob_6 : decode cX4_copyJob 6 = .ok (.aload_n 2, 1) := by decide +kernel
theorem dX4_copyJob_7 : decode cX4_copyJob 7 = .ok (.ifnonnull 6, 3) := by decide +kernel
theorem dX4_copyJob_10 : decode cX4_copyJob 10 = .ok (.bipush (-3), 2) := by decide +kernel
theorem dX4_copyJob_12 : decode cX4_copyJob 12 = .ok (.ireturn, 1) := by decide +kernel
theorem dX4_copyJob_13 : decode cX4_copyJob 13 = .ok (.aload_n 2, 1) := by decide +kernel
theorem dX4_copyJob_14 : decode cX4_copyJob 14 = .ok (.aload_n 1, 1) := by decide +kernel
theorem dX4_copyJob_15 : decode cX4_copyJob 15 = .ok (.invokevirtual 170, 3) := by decide +kernel
theorem dX4_copyJob_18 : decode cX4_copyJob 18 = .ok (.istore_n 3, 1) := by decide +kernel
theorem dX4_copyJob_19 : decode cX4_copyJob 19 = .ok (.iload_n 3, 1) := by decide +kernel
theorem dX4_copyJob_20 : decode cX4_copyJob 20 = .ok (.ifCond .ne 16, 3) := by decide +kernel
theorem dX4_copyJob_23 : decode cX4_copyJob 23 = .ok (.aload_n 0, 1) := by decide +kernel
theorem dX4_copyJob_24 : decode cX4_copyJob 24 = .ok (.aload_n 2, 1) := by decide +kernel
theorem dX4_copyJob_25 : decode cX4_copyJob 25 = .ok (.aload_n 1, 1) := by decide +kernel
theorem dX4_copyJob_26 : decode cX4_copyJob 26 = .ok (.getfield 117, 3) := by decide +kernel
theorem dX4_copyJob_29 : decode cX4_copyJob 29 = .ok (.getfield 66, 3) := by decide +kernel
theorem dX4_copyJob_32 : decode cX4_copyJob 32 = .ok (.invokevirtual 173, 3) := by decide +kernel
theorem dX4_copyJob_35 : decode cX4_copyJob 35 = .ok (.istore_n 3, 1) := by decide +kernel
theorem dX4_copyJob_36 : decode cX4_copyJob 36 = .ok (.aload_n 2, 1) := by decide +kernel
theorem dX4_copyJob_37 : decode cX4_copyJob 37 = .ok (.invokevirtual 177, 3) := by decide +kernel
theorem dX4_copyJob_40 : decode cX4_copyJob 40 = .ok (.iload_n 3, 1) := by decide +kernel
theorem dX4_copyJob_41 : decode cX4_copyJob 41 = .ok (.ifCond .lt 8, 3) := by decide +kernel
theorem dX4_copyJob_44 : decode cX4_copyJob 44 = .ok (.aload_n 1, 1) := by decide +kernel
theorem dX4_copyJob_45 : decode cX4_copyJob 45 = .ok (.iload_n 3, 1) := by decide +kernel
theorem dX4_copyJob_46 : decode cX4_copyJob 46 = .ok (.invokevirtual 180, 3) := by decide +kernel
theorem dX4_copyJob_49 : decode cX4_copyJob 49 = .ok (.iload_n 3, 1) := by decide +kernel
theorem dX4_copyJob_50 : decode cX4_copyJob 50 = .ok (.ireturn, 1) := by decide +kernel
theorem dX4_writeStaged_0 : decode cX4_writeStaged 0 = .ok (.aload_n 1, 1) := by decide +kernel
theorem dX4_writeStaged_1 : decode cX4_writeStaged 1 = .ok (.iload_n 2, 1) := by decide +kernel
theorem dX4_writeStaged_2 : decode cX4_writeStaged 2 = .ok (.invokevirtual 183, 3) := by decide +kernel
theorem dX4_writeStaged_5 : decode cX4_writeStaged 5 = .ok (.istore_n 3, 1) := by decide +kernel
theorem dX4_writeStaged_6 : decode cX4_writeStaged 6 = .ok (.iconst 0, 1) := by decide +kernel
theorem dX4_writeStaged_7 : decode cX4_writeStaged 7 = .ok (.istore 4, 2) := by decide +kernel
theorem dX4_writeStaged_9 : decode cX4_writeStaged 9 = .ok (.iload 4, 2) := by decide +kernel
theorem dX4_writeStaged_11 : decode cX4_writeStaged 11 = .ok (.aload_n 0, 1) := by decide +kernel
theorem dX4_writeStaged_12 : decode cX4_writeStaged 12 = .ok (.getfield 36, 3) := by decide +kernel
theorem dX4_writeStaged_15 : decode cX4_writeStaged 15 = .ok (.getfield 66, 3) := by decide +kernel
theorem dX4_writeStaged_18 : decode cX4_writeStaged 18 = .ok (.if_icmp .ge 24, 3) := by decide +kernel
theorem dX4_writeStaged_21 : decode cX4_writeStaged 21 = .ok (.iload_n 3, 1) := by decide +kernel
theorem dX4_writeStaged_22 : decode cX4_writeStaged 22 = .ok (.ifCond .ne 20, 3) := by decide +kernel
theorem dX4_writeStaged_25 : decode cX4_writeStaged 25 = .ok (.aload_n 1, 1) := by decide +kernel
theorem dX4_writeStaged_26 : decode cX4_writeStaged 26 = .ok (.aload_n 0, 1) := by decide +kernel
theorem dX4_writeStaged_27 : decode cX4_writeStaged 27 = .ok (.getfield 36, 3) := by decide +kernel
theorem dX4_writeStaged_30 : decode cX4_writeStaged 30 = .ok (.iload 4, 2) := by decide +kernel
theorem dX4_writeStaged_32 : decode cX4_writeStaged 32 = .ok (.invokevirtual 186, 3) := by decide +kernel
theorem dX4_writeStaged_35 : decode cX4_writeStaged 35 = .ok (.istore_n 3, 1) := by decide +kernel
theorem dX4_writeStaged_36 : decode cX4_writeStaged 36 = .ok (.iinc 4 1, 3) := by decide +kernel
theorem dX4_writeStaged_39 : decode cX4_writeStaged 39 = .ok (.goto (-30), 3) := by decide +kernel
theorem dX4_writeStaged_42 : decode cX4_writeStaged 42 = .ok (.aload_n 1, 1) := by decide +kernel
theorem dX4_writeStaged_43 : decode cX4_writeStaged 43 = .ok (.iload_n 2, 1) := by decide +kernel
theorem dX4_writeStaged_44 : decode cX4_writeStaged 44 = .ok (.iload_n 3, 1) := by decide +kernel
theorem dX4_writeStaged_45 : decode cX4_writeStaged 45 = .ok (.invokevirtual 190, 3) := by decide +kernel
theorem dX4_writeStaged_48 : decode cX4_writeStaged 48 = .ok (.ireturn, 1) := by decide +kernel
theorem dX4_readJob_0 : decode cX4_readJob 0 = .ok (.aload_n 0, 1) := by decide +kernel
theorem dX4_readJob_1 : decode cX4_readJob 1 = .ok (.aload_n 1, 1) := by decide +kernel
theorem dX4_readJob_2 : decode cX4_readJob 2 = .ok (.invokevirtual 166, 3) := by decide +kernel
theorem dX4_readJob_5 : decode cX4_readJob 5 = .ok (.astore_n 3, 1) := by decide +kernel
theorem dX4_readJob_6 : decode cX4_readJob 6 = .ok (.aload_n 3, 1) := by decide +kernel
theorem dX4_readJob_7 : decode cX4_readJob 7 = .ok (.ifnonnull 6, 3) := by decide +kernel
theorem dX4_readJob_10 : decode cX4_readJob 10 = .ok (.bipush (-3), 2) := by decide +kernel
theorem dX4_readJob_12 : decode cX4_readJob 12 = .ok (.ireturn, 1) := by decide +kernel
theorem dX4_readJob_13 : decode cX4_readJob 13 = .ok (.aload_n 3, 1) := by decide +kernel
theorem dX4_readJob_14 : decode cX4_readJob 14 = .ok (.aload_n 1, 1) := by decide +kernel
theorem dX4_readJob_15 : decode cX4_readJob 15 = .ok (.invokevirtual 170, 3) := by decide +kernel
theorem dX4_readJob_18 : decode cX4_readJob 18 = .ok (.istore 4, 2) := by decide +kernel
theorem dX4_readJob_20 : decode cX4_readJob 20 = .ok (.iload 4, 2) := by decide +kernel
theorem dX4_readJob_22 : decode cX4_readJob 22 = .ok (.ifCond .ne 15, 3) := by decide +kernel
theorem dX4_readJob_25 : decode cX4_readJob 25 = .ok (.aload_n 0, 1) := by decide +kernel
theorem dX4_readJob_26 : decode cX4_readJob 26 = .ok (.aload_n 3, 1) := by decide +kernel
theorem dX4_readJob_27 : decode cX4_readJob 27 = .ok (.aload_n 1, 1) := by decide +kernel
theorem dX4_readJob_28 : decode cX4_readJob 28 = .ok (.getfield 117, 3) := by decide +kernel
theorem dX4_readJob_31 : decode cX4_readJob 31 = .ok (.iload_n 2, 1) := by decide +kernel
theorem dX4_readJob_32 : decode cX4_readJob 32 = .ok (.invokevirtual 193, 3) := by decide +kernel
theorem dX4_readJob_35 : decode cX4_readJob 35 = .ok (.istore 4, 2) := by decide +kernel
theorem dX4_readJob_37 : decode cX4_readJob 37 = .ok (.aload_n 3, 1) := by decide +kernel
theorem dX4_readJob_38 : decode cX4_readJob 38 = .ok (.invokevirtual 177, 3) := by decide +kernel
theorem dX4_readJob_41 : decode cX4_readJob 41 = .ok (.iload 4, 2) := by decide +kernel
theorem dX4_readJob_43 : decode cX4_readJob 43 = .ok (.ireturn, 1) := by decide +kernel
theorem dX4_readFile_0 : decode cX4_readFile 0 = .ok (.aload_n 0, 1) := by decide +kernel
theorem dX4_readFile_1 : decode cX4_readFile 1 = .ok (.iconst 1, 1) := by decide +kernel
theorem dX4_readFile_2 : decode cX4_readFile 2 = .ok (.putfield 40, 3) := by decide +kernel
theorem dX4_readFile_5 : decode cX4_readFile 5 = .ok (.aload_n 2, 1) := by decide +kernel
theorem dX4_readFile_6 : decode cX4_readFile 6 = .ok (.iload_n 3, 1) := by decide +kernel
theorem dX4_readFile_7 : decode cX4_readFile 7 = .ok (.invokevirtual 126, 3) := by decide +kernel
theorem dX4_readFile_10 : decode cX4_readFile 10 = .ok (.istore 4, 2) := by decide +kernel
theorem dX4_readFile_12 : decode cX4_readFile 12 = .ok (.iload_n 3, 1) := by decide +kernel
theorem dX4_readFile_13 : decode cX4_readFile 13 = .ok (.iload 4, 2) := by decide +kernel
theorem dX4_readFile_15 : decode cX4_readFile 15 = .ok (.iadd, 1) := by decide +kernel
theorem dX4_readFile_16 : decode cX4_readFile 16 = .ok (.iconst 1, 1) := by decide +kernel
theorem dX4_readFile_17 : decode cX4_readFile 17 = .ok (.iadd, 1) := by decide +kernel
theorem dX4_readFile_18 : decode cX4_readFile 18 = .ok (.istore 5, 2) := by decide +kernel
theorem dX4_readFile_20 : decode cX4_readFile 20 = .ok (.aload_n 1, 1) := by decide +kernel
theorem dX4_readFile_21 : decode cX4_readFile 21 = .ok (.iload_n 3, 1) := by decide +kernel
theorem dX4_readFile_22 : decode cX4_readFile 22 = .ok (.invokevirtual 183, 3) := by decide +kernel
theorem dX4_readFile_25 : decode cX4_readFile 25 = .ok (.istore 6, 2) := by decide +kernel
theorem dX4_readFile_27 : decode cX4_readFile 27 = .ok (.iload_n 3, 1) := by decide +kernel
theorem dX4_readFile_28 : decode cX4_readFile 28 = .ok (.istore 7, 2) := by decide +kernel
theorem dX4_readFile_30 : decode cX4_readFile 30 = .ok (.iload 7, 2) := by decide +kernel
theorem dX4_readFile_32 : decode cX4_readFile 32 = .ok (.iload 5, 2) := by decide +kernel
theorem dX4_readFile_34 : decode cX4_readFile 34 = .ok (.if_icmp .gt 53, 3) := by decide +kernel
theorem dX4_readFile_37 : decode cX4_readFile 37 = .ok (.iload 6, 2) := by decide +kernel
theorem dX4_readFile_39 : decode cX4_readFile 39 = .ok (.ifCond .ne 48, 3) := by decide +kernel
theorem dX4_readFile_42 : decode cX4_readFile 42 = .ok (.aload_n 1, 1) := by decide +kernel
theorem dX4_readFile_43 : decode cX4_readFile 43 = .ok (.invokevirtual 197, 3) := by decide +kernel
theorem dX4_readFile_46 : decode cX4_readFile 46 = .ok (.istore 6, 2) := by decide +kernel
theorem dX4_readFile_48 : decode cX4_readFile 48 = .ok (.iload 6, 2) := by decide +kernel
theorem dX4_readFile_50 : decode cX4_readFile 50 = .ok (.ifCond .ne 31, 3) := by decide +kernel
theorem dX4_readFile_53 : decode cX4_readFile 53 = .ok (.aload_n 2, 1) := by decide +kernel
theorem dX4_readFile_54 : decode cX4_readFile 54 = .ok (.iload 7, 2) := by decide +kernel
theorem dX4_readFile_56 : decode cX4_readFile 56 = .ok (.invokevirtual 120, 3) := by decide +kernel
theorem dX4_readFile_59 : decode cX4_readFile 59 = .ok (.iconst 2, 1) := by decide +kernel
theorem dX4_readFile_60 : decode cX4_readFile 60 = .ok (.if_icmp .ne 21, 3) := by decide +kernel
theorem dX4_readFile_63 : decode cX4_readFile 63 = .ok (.aload_n 0, 1) := by decide +kernel
theorem dX4_readFile_64 : decode cX4_readFile 64 = .ok (.bipush 31, 2) := by decide +kernel
theorem dX4_readFile_66 : decode cX4_readFile 66 = .ok (.aload_n 0, 1) := by decide +kernel
theorem dX4_readFile_67 : decode cX4_readFile 67 = .ok (.getfield 40, 3) := by decide +kernel
theorem dX4_readFile_70 : decode cX4_readFile 70 = .ok (.imul, 1) := by decide +kernel
theorem dX4_readFile_71 : decode cX4_readFile 71 = .ok (.aload_n 2, 1) := by decide +kernel
theorem dX4_readFile_72 : decode cX4_readFile 72 = .ok (.iload 7, 2) := by decide +kernel
theorem dX4_readFile_74 : decode cX4_readFile 74 = .ok (.invokevirtual 123, 3) := by decide +kernel
theorem dX4_readFile_77 : decode cX4_readFile 77 = .ok (.iadd, 1) := by decide +kernel
theorem dX4_readFile_78 : decode cX4_readFile 78 = .ok (.putfield 40, 3) := by decide +kernel
theorem dX4_readFile_81 : decode cX4_readFile 81 = .ok (.iinc 7 1, 3) := by decide +kernel
theorem dX4_readFile_84 : decode cX4_readFile 84 = .ok (.goto (-54), 3) := by decide +kernel
theorem dX4_readFile_87 : decode cX4_readFile 87 = .ok (.iload 6, 2) := by decide +kernel
theorem dX4_readFile_89 : decode cX4_readFile 89 = .ok (.ifCond .ne 8, 3) := by decide +kernel
theorem dX4_readFile_92 : decode cX4_readFile 92 = .ok (.iload 4, 2) := by decide +kernel
theorem dX4_readFile_94 : decode cX4_readFile 94 = .ok (.goto 5, 3) := by decide +kernel
theorem dX4_readFile_97 : decode cX4_readFile 97 = .ok (.iload 6, 2) := by decide +kernel
theorem dX4_readFile_99 : decode cX4_readFile 99 = .ok (.ireturn, 1) := by decide +kernel
theorem dX4_moveJob_0 : decode cX4_moveJob 0 = .ok (.aload_n 0, 1) := by decide +kernel
theorem dX4_moveJob_1 : decode cX4_moveJob 1 = .ok (.aload_n 1, 1) := by decide +kernel
theorem dX4_moveJob_2 : decode cX4_moveJob 2 = .ok (.invokevirtual 166, 3) := by decide +kernel
theorem dX4_moveJob_5 : decode cX4_moveJob 5 = .ok (.astore 4, 2) := by decide +kernel
theorem dX4_moveJob_7 : decode cX4_moveJob 7 = .ok (.aload 4, 2) := by decide +kernel
theorem dX4_moveJob_9 : decode cX4_moveJob 9 = .ok (.ifnonnull 6, 3) := by decide +kernel
theorem dX4_moveJob_12 : decode cX4_moveJob 12 = .ok (.bipush (-3), 2) := by decide +kernel
theorem dX4_moveJob_14 : decode cX4_moveJob 14 = .ok (.ireturn, 1) := by decide +kernel
theorem dX4_moveJob_15 : decode cX4_moveJob 15 = .ok (.aload 4, 2) := by decide +kernel
theorem dX4_moveJob_17 : decode cX4_moveJob 17 = .ok (.aload_n 1, 1) := by decide +kernel
theorem dX4_moveJob_18 : decode cX4_moveJob 18 = .ok (.invokevirtual 170, 3) := by decide +kernel
theorem dX4_moveJob_21 : decode cX4_moveJob 21 = .ok (.istore 5, 2) := by decide +kernel
theorem dX4_moveJob_23 : decode cX4_moveJob 23 = .ok (.iload 5, 2) := by decide +kernel
theorem dX4_moveJob_25 : decode cX4_moveJob 25 = .ok (.ifCond .ne 17, 3) := by decide +kernel
theorem dX4_moveJob_28 : decode cX4_moveJob 28 = .ok (.aload_n 0, 1) := by decide +kernel
theorem dX4_moveJob_29 : decode cX4_moveJob 29 = .ok (.aload_n 3, 1) := by decide +kernel
theorem dX4_moveJob_30 : decode cX4_moveJob 30 = .ok (.aload 4, 2) := by decide +kernel
theorem dX4_moveJob_32 : decode cX4_moveJob 32 = .ok (.aload_n 1, 1) := by decide +kernel
theorem dX4_moveJob_33 : decode cX4_moveJob 33 = .ok (.getfield 117, 3) := by decide +kernel
theorem dX4_moveJob_36 : decode cX4_moveJob 36 = .ok (.iload_n 2, 1) := by decide +kernel
theorem dX4_moveJob_37 : decode cX4_moveJob 37 = .ok (.invokevirtual 200, 3) := by decide +kernel
theorem dX4_moveJob_40 : decode cX4_moveJob 40 = .ok (.istore 5, 2) := by decide +kernel
theorem dX4_moveJob_42 : decode cX4_moveJob 42 = .ok (.aload 4, 2) := by decide +kernel
theorem dX4_moveJob_44 : decode cX4_moveJob 44 = .ok (.invokevirtual 177, 3) := by decide +kernel
theorem dX4_moveJob_47 : decode cX4_moveJob 47 = .ok (.iload 5, 2) := by decide +kernel
theorem dX4_moveJob_49 : decode cX4_moveJob 49 = .ok (.ifCond .lt 14, 3) := by decide +kernel
theorem dX4_moveJob_52 : decode cX4_moveJob 52 = .ok (.aload_n 3, 1) := by decide +kernel
theorem dX4_moveJob_53 : decode cX4_moveJob 53 = .ok (.iload 5, 2) := by decide +kernel
theorem dX4_moveJob_55 : decode cX4_moveJob 55 = .ok (.invokevirtual 180, 3) := by decide +kernel
theorem dX4_moveJob_58 : decode cX4_moveJob 58 = .ok (.aload_n 1, 1) := by decide +kernel
theorem dX4_moveJob_59 : decode cX4_moveJob 59 = .ok (.iload_n 2, 1) := by decide +kernel
theorem dX4_moveJob_60 : decode cX4_moveJob 60 = .ok (.invokevirtual 204, 3) := by decide +kernel
theorem dX4_moveJob_63 : decode cX4_moveJob 63 = .ok (.iload 5, 2) := by decide +kernel
theorem dX4_moveJob_65 : decode cX4_moveJob 65 = .ok (.ireturn, 1) := by decide +kernel
theorem dX4_moveInto_0 : decode cX4_moveInto 0 = .ok (.aload_n 0, 1) := by decide +kernel
theorem dX4_moveInto_1 : decode cX4_moveInto 1 = .ok (.aload_n 1, 1) := by decide +kernel
theorem dX4_moveInto_2 : decode cX4_moveInto 2 = .ok (.invokevirtual 166, 3) := by decide +kernel
theorem dX4_moveInto_5 : decode cX4_moveInto 5 = .ok (.astore 5, 2) := by decide +kernel
theorem dX4_moveInto_7 : decode cX4_moveInto 7 = .ok (.aload 5, 2) := by decide +kernel
theorem dX4_moveInto_9 : decode cX4_moveInto 9 = .ok (.ifnonnull 6, 3) := by decide +kernel
theorem dX4_moveInto_12 : decode cX4_moveInto 12 = .ok (.bipush (-3), 2) := by decide +kernel
theorem dX4_moveInto_14 : decode cX4_moveInto 14 = .ok (.ireturn, 1) := by decide +kernel
theorem dX4_moveInto_15 : decode cX4_moveInto 15 = .ok (.aload 5, 2) := by decide +kernel
theorem dX4_moveInto_17 : decode cX4_moveInto 17 = .ok (.aload_n 1, 1) := by decide +kernel
theorem dX4_moveInto_18 : decode cX4_moveInto 18 = .ok (.invokevirtual 170, 3) := by decide +kernel
theorem dX4_moveInto_21 : decode cX4_moveInto 21 = .ok (.istore 6, 2) := by decide +kernel
theorem dX4_moveInto_23 : decode cX4_moveInto 23 = .ok (.iload 6, 2) := by decide +kernel
theorem dX4_moveInto_25 : decode cX4_moveInto 25 = .ok (.ifCond .ne 22, 3) := by decide +kernel
theorem dX4_moveInto_28 : decode cX4_moveInto 28 = .ok (.aload_n 0, 1) := by decide +kernel
theorem dX4_moveInto_29 : decode cX4_moveInto 29 = .ok (.aload_n 2, 1) := by decide +kernel
theorem dX4_moveInto_30 : decode cX4_moveInto 30 = .ok (.aload_n 3, 1) := by decide +kernel
theorem dX4_moveInto_31 : decode cX4_moveInto 31 = .ok (.iload 4, 2) := by decide +kernel
theorem dX4_moveInto_33 : decode cX4_moveInto 33 = .ok (.aload 5, 2) := by decide +kernel
theorem dX4_moveInto_35 : decode cX4_moveInto 35 = .ok (.aload_n 1, 1) := by decide +kernel
theorem dX4_moveInto_36 : decode cX4_moveInto 36 = .ok (.getfield 117, 3) := by decide +kernel
theorem dX4_moveInto_39 : decode cX4_moveInto 39 = .ok (.getfield 66, 3) := by decide +kernel
theorem dX4_moveInto_42 : decode cX4_moveInto 42 = .ok (.invokevirtual 207, 3) := by decide +kernel
theorem dX4_moveInto_45 : decode cX4_moveInto 45 = .ok (.istore 6, 2) := by decide +kernel
theorem dX4_moveInto_47 : decode cX4_moveInto 47 = .ok (.aload 5, 2) := by decide +kernel
theorem dX4_moveInto_49 : decode cX4_moveInto 49 = .ok (.invokevirtual 177, 3) := by decide +kernel
theorem dX4_moveInto_52 : decode cX4_moveInto 52 = .ok (.iload 6, 2) := by decide +kernel
theorem dX4_moveInto_54 : decode cX4_moveInto 54 = .ok (.ireturn, 1) := by decide +kernel
theorem dX4_moveBlocks_0 : decode cX4_moveBlocks 0 = .ok (.iload_n 3, 1) := by decide +kernel
theorem dX4_moveBlocks_1 : decode cX4_moveBlocks 1 = .ok (.aload_n 2, 1) := by decide +kernel
theorem dX4_moveBlocks_2 : decode cX4_moveBlocks 2 = .ok (.iload_n 3, 1) := by decide +kernel
theorem dX4_moveBlocks_3 : decode cX4_moveBlocks 3 = .ok (.invokevirtual 126, 3) := by decide +kernel
theorem dX4_moveBlocks_6 : decode cX4_moveBlocks 6 = .ok (.iadd, 1) := by decide +kernel
theorem dX4_moveBlocks_7 : decode cX4_moveBlocks 7 = .ok (.iconst 1, 1) := by decide +kernel
theorem dX4_moveBlocks_8 : decode cX4_moveBlocks 8 = .ok (.iadd, 1) := by decide +kernel
theorem dX4_moveBlocks_9 : decode cX4_moveBlocks 9 = .ok (.istore 6, 2) := by decide +kernel
theorem dX4_moveBlocks_11 : decode cX4_moveBlocks 11 = .ok (.aload_n 1, 1) := by decide +kernel
theorem dX4_moveBlocks_12 : decode cX4_moveBlocks 12 = .ok (.iload_n 3, 1) := by decide +kernel
theorem dX4_moveBlocks_13 : decode cX4_moveBlocks 13 = .ok (.invokevirtual 183, 3) := by decide +kernel
theorem dX4_moveBlocks_16 : decode cX4_moveBlocks 16 = .ok (.istore 7, 2) := by decide +kernel
theorem dX4_moveBlocks_18 : decode cX4_moveBlocks 18 = .ok (.iload 7, 2) := by decide +kernel
theorem dX4_moveBlocks_20 : decode cX4_moveBlocks 20 = .ok (.ifCond .ne 12, 3) := by decide +kernel
theorem dX4_moveBlocks_23 : decode cX4_moveBlocks 23 = .ok (.aload 4, 2) := by decide +kernel
theorem dX4_moveBlocks_25 : decode cX4_moveBlocks 25 = .ok (.iload 5, 2) := by decide +kernel
theorem dX4_moveBlocks_27 : decode cX4_moveBlocks 27 = .ok (.invokevirtual 183, 3) := by decide +kernel
theorem dX4_moveBlocks_30 : decode cX4_moveBlocks 30 = .ok (.istore 7, 2) := by decide +kernel
theorem dX4_moveBlocks_32 : decode cX4_moveBlocks 32 = .ok (.iload_n 3, 1) := by decide +kernel
theorem dX4_moveBlocks_33 : decode cX4_moveBlocks 33 = .ok (.istore 8, 2) := by decide +kernel
theorem dX4_moveBlocks_35 : decode cX4_moveBlocks 35 = .ok (.iload 8, 2) := by decide +kernel
theorem dX4_moveBlocks_37 : decode cX4_moveBlocks 37 = .ok (.iload 6, 2) := by decide +kernel
theorem dX4_moveBlocks_39 : decode cX4_moveBlocks 39 = .ok (.if_icmp .gt 35, 3) := by decide +kernel
theorem dX4_moveBlocks_42 : decode cX4_moveBlocks 42 = .ok (.iload 7, 2) := by decide +kernel
theorem dX4_moveBlocks_44 : decode cX4_moveBlocks 44 = .ok (.ifCond .ne 30, 3) := by decide +kernel
theorem dX4_moveBlocks_47 : decode cX4_moveBlocks 47 = .ok (.aload_n 1, 1) := by decide +kernel
theorem dX4_moveBlocks_48 : decode cX4_moveBlocks 48 = .ok (.invokevirtual 197, 3) := by decide +kernel
theorem dX4_moveBlocks_51 : decode cX4_moveBlocks 51 = .ok (.istore 7, 2) := by decide +kernel
theorem dX4_moveBlocks_53 : decode cX4_moveBlocks 53 = .ok (.iload 7, 2) := by decide +kernel
theorem dX4_moveBlocks_55 : decode cX4_moveBlocks 55 = .ok (.ifCond .ne 13, 3) := by decide +kernel
theorem dX4_moveBlocks_58 : decode cX4_moveBlocks 58 = .ok (.aload 4, 2) := by decide +kernel
theorem dX4_moveBlocks_60 : decode cX4_moveBlocks 60 = .ok (.aload_n 2, 1) := by decide +kernel
theorem dX4_moveBlocks_61 : decode cX4_moveBlocks 61 = .ok (.iload 8, 2) := by decide +kernel
theorem dX4_moveBlocks_63 : decode cX4_moveBlocks 63 = .ok (.invokevirtual 186, 3) := by decide +kernel
theorem dX4_moveBlocks_66 : decode cX4_moveBlocks 66 = .ok (.istore 7, 2) := by decide +kernel
theorem dX4_moveBlocks_68 : decode cX4_moveBlocks 68 = .ok (.iinc 8 1, 3) := by decide +kernel
theorem dX4_moveBlocks_71 : decode cX4_moveBlocks 71 = .ok (.goto (-36), 3) := by decide +kernel
theorem dX4_moveBlocks_74 : decode cX4_moveBlocks 74 = .ok (.aload 4, 2) := by decide +kernel
theorem dX4_moveBlocks_76 : decode cX4_moveBlocks 76 = .ok (.iload 5, 2) := by decide +kernel
theorem dX4_moveBlocks_78 : decode cX4_moveBlocks 78 = .ok (.iload 7, 2) := by decide +kernel
theorem dX4_moveBlocks_80 : decode cX4_moveBlocks 80 = .ok (.invokevirtual 190, 3) := by decide +kernel
theorem dX4_moveBlocks_83 : decode cX4_moveBlocks 83 = .ok (.ireturn, 1) := by decide +kernel
theorem dX4_scanJob_0 : decode cX4_scanJob 0 = .ok (.aload_n 0, 1) := by decide +kernel
theorem dX4_scanJob_1 : decode cX4_scanJob 1 = .ok (.aload_n 1, 1) := by decide +kernel
theorem dX4_scanJob_2 : decode cX4_scanJob 2 = .ok (.invokevirtual 166, 3) := by decide +kernel
theorem dX4_scanJob_5 : decode cX4_scanJob 5 = .ok (.astore_n 2, 1) := by decide +kernel
theorem dX4_scanJob_6 : decode cX4_scanJob 6 = .ok (.aload_n 2, 1) := by decide +kernel
theorem dX4_scanJob_7 : decode cX4_scanJob 7 = .ok (.ifnonnull 6, 3) := by decide +kernel
theorem dX4_scanJob_10 : decode cX4_scanJob 10 = .ok (.bipush (-3), 2) := by decide +kernel
theorem dX4_scanJob_12 : decode cX4_scanJob 12 = .ok (.ireturn, 1) := by decide +kernel
theorem dX4_scanJob_13 : decode cX4_scanJob 13 = .ok (.aload_n 2, 1) := by decide +kernel
theorem dX4_scanJob_14 : decode cX4_scanJob 14 = .ok (.aload_n 1, 1) := by decide +kernel
theorem dX4_scanJob_15 : decode cX4_scanJob 15 = .ok (.invokevirtual 170, 3) := by decide +kernel
theorem dX4_scanJob_18 : decode cX4_scanJob 18 = .ok (.istore_n 3, 1) := by decide +kernel
theorem dX4_scanJob_19 : decode cX4_scanJob 19 = .ok (.iload_n 3, 1) := by decide +kernel
theorem dX4_scanJob_20 : decode cX4_scanJob 20 = .ok (.ifCond .ne 8, 3) := by decide +kernel
theorem dX4_scanJob_23 : decode cX4_scanJob 23 = .ok (.aload_n 2, 1) := by decide +kernel
theorem dX4_scanJob_24 : decode cX4_scanJob 24 = .ok (.invokevirtual 211, 3) := by decide +kernel
theorem dX4_scanJob_27 : decode cX4_scanJob 27 = .ok (.istore_n 3, 1) := by decide +kernel
theorem dX4_scanJob_28 : decode cX4_scanJob 28 = .ok (.aload_n 2, 1) := by decide +kernel
theorem dX4_scanJob_29 : decode cX4_scanJob 29 = .ok (.invokevirtual 177, 3) := by decide +kernel
theorem dX4_scanJob_32 : decode cX4_scanJob 32 = .ok (.iload_n 3, 1) := by decide +kernel
theorem dX4_scanJob_33 : decode cX4_scanJob 33 = .ok (.ifCond .ne 10, 3) := by decide +kernel
theorem dX4_scanJob_36 : decode cX4_scanJob 36 = .ok (.aload_n 1, 1) := by decide +kernel
theorem dX4_scanJob_37 : decode cX4_scanJob 37 = .ok (.invokevirtual 214, 3) := by decide +kernel
theorem dX4_scanJob_40 : decode cX4_scanJob 40 = .ok (.goto 4, 3) := by decide +kernel
theorem dX4_scanJob_43 : decode cX4_scanJob 43 = .ok (.iload_n 3, 1) := by decide +kernel
theorem dX4_scanJob_44 : decode cX4_scanJob 44 = .ok (.ireturn, 1) := by decide +kernel
theorem dX5_init_0 : decode cX5_init 0 = .ok (.aload_n 0, 1) := by decide +kernel
theorem dX5_init_1 : decode cX5_init 1 = .ok (.invokespecial 1, 3) := by decide +kernel
theorem dX5_init_4 : decode cX5_init 4 = .ok (.aload_n 0, 1) := by decide +kernel
theorem dX5_init_5 : decode cX5_init 5 = .ok (.bipush 12, 2) := by decide +kernel
theorem dX5_init_7 : decode cX5_init 7 = .ok (.newarray .int, 2) := by decide +kernel
theorem dX5_init_9 : decode cX5_init 9 = .ok (.putfield 7, 3) := by decide +kernel
theorem dX5_init_12 : decode cX5_init 12 = .ok (.aload_n 0, 1) := by decide +kernel
theorem dX5_init_13 : decode cX5_init 13 = .ok (.bipush 12, 2) := by decide +kernel
theorem dX5_init_15 : decode cX5_init 15 = .ok (.newarray .int, 2) := by decide +kernel
theorem dX5_init_17 : decode cX5_init 17 = .ok (.putfield 13, 3) := by decide +kernel
theorem dX5_init_20 : decode cX5_init 20 = .ok (.aload_n 0, 1) := by decide +kernel
theorem dX5_init_21 : decode cX5_init 21 = .ok (.bipush 12, 2) := by decide +kernel
theorem dX5_init_23 : decode cX5_init 23 = .ok (.newarray .int, 2) := by decide +kernel
theorem dX5_init_25 : decode cX5_init 25 = .ok (.putfield 16, 3) := by decide +kernel
theorem dX5_init_28 : decode cX5_init 28 = .ok (.aload_n 0, 1) := by decide +kernel
theorem dX5_init_29 : decode cX5_init 29 = .ok (.bipush 12, 2) := by decide +kernel
theorem dX5_init_31 : decode cX5_init 31 = .ok (.newarray .int, 2) := by decide +kernel
theorem dX5_init_33 : decode cX5_init 33 = .ok (.putfield 19, 3) := by decide +kernel
theorem dX5_init_36 : decode cX5_init 36 = .ok (.aload_n 0, 1) := by decide +kernel
theorem dX5_init_37 : decode cX5_init 37 = .ok (.sipush 1200, 3) := by decide +kernel
theorem dX5_init_40 : decode cX5_init 40 = .ok (.newarray .int, 2) := by decide +kernel
theorem dX5_init_42 : decode cX5_init 42 = .ok (.putfield 22, 3) := by decide +kernel
theorem dX5_init_45 : decode cX5_init 45 = .ok (.aload_n 0, 1) := by decide +kernel
theorem dX5_init_46 : decode cX5_init 46 = .ok (.sipush 1200, 3) := by decide +kernel
theorem dX5_init_49 : decode cX5_init 49 = .ok (.newarray .int, 2) := by decide +kernel
theorem dX5_init_51 : decode cX5_init 51 = .ok (.putfield 25, 3) := by decide +kernel
theorem dX5_init_54 : decode cX5_init 54 = .ok (.aload_n 0, 1) := by decide +kernel
theorem dX5_init_55 : decode cX5_init 55 = .ok (.sipush 1200, 3) := by decide +kernel
theorem dX5_init_58 : decode cX5_init 58 = .ok (.newarray .int, 2) := by decide +kernel
theorem dX5_init_60 : decode cX5_init 60 = .ok (.putfield 28, 3) := by decide +kernel
theorem dX5_init_63 : decode cX5_init 63 = .ok (.aload_n 0, 1) := by decide +kernel
theorem dX5_init_64 : decode cX5_init 64 = .ok (.sipush 1200, 3) := by decide +kernel
theorem dX5_init_67 : decode cX5_init 67 = .ok (.newarray .boolean, 2) := by decide +kernel
theorem dX5_init_69 : decode cX5_init 69 = .ok (.putfield 31, 3) := by decide +kernel
theorem dX5_init_72 : decode cX5_init 72 = .ok (.aload_n 0, 1) := by decide +kernel
theorem dX5_init_73 : decode cX5_init 73 = .ok (.sipush 12000, 3) := by decide +kernel
theorem dX5_init_76 : decode cX5_init 76 = .ok (.newarray .int, 2) := by decide +kernel
theorem dX5_init_78 : decode cX5_init 78 = .ok (.putfield 35, 3) := by decide +kernel
theorem dX5_init_81 : decode cX5_init 81 = .ok (.aload_n 0, 1) := by decide +kernel
theorem dX5_init_82 : decode cX5_init 82 = .ok (.iconst 3, 1) := by decide +kernel
theorem dX5_init_83 : decode cX5_init 83 = .ok (.newarray .boolean, 2) := by decide +kernel
theorem dX5_init_85 : decode cX5_init 85 = .ok (.putfield 38, 3) := by decide +kernel
theorem dX5_init_88 : decode cX5_init 88 = .ok (.aload_n 0, 1) := by decide +kernel
theorem dX5_init_89 : decode cX5_init 89 = .ok (.iconst 3, 1) := by decide +kernel
theorem dX5_init_90 : decode cX5_init 90 = .ok (.newarray .boolean, 2) := by decide +kernel
theorem dX5_init_92 : decode cX5_init 92 = .ok (.putfield 41, 3) := by decide +kernel
theorem dX5_init_95 : decode cX5_init 95 = .ok (.aload_n 0, 1) := by decide +kernel
theorem dX5_init_96 : decode cX5_init 96 = .ok (.iconst 3, 1) := by decide +kernel
theorem dX5_init_97 : decode cX5_init 97 = .ok (.newarray .int, 2) := by decide +kernel
theorem dX5_init_99 : decode cX5_init 99 = .ok (.putfield 44, 3) := by decide +kernel
theorem dX5_init_102 : decode cX5_init 102 = .ok (.aload_n 0, 1) := by decide +kernel
theorem dX5_init_103 : decode cX5_init 103 = .ok (.iconst 3, 1) := by decide +kernel
theorem dX5_init_104 : decode cX5_init 104 = .ok (.newarray .int, 2) := by decide +kernel
theorem dX5_init_106 : decode cX5_init 106 = .ok (.putfield 47, 3) := by decide +kernel
theorem dX5_init_109 : decode cX5_init 109 = .ok (.aload_n 0, 1) := by decide +kernel
theorem dX5_init_110 : decode cX5_init 110 = .ok (.iconst 3, 1) := by decide +kernel
theorem dX5_init_111 : decode cX5_init 111 = .ok (.newarray .int, 2) := by decide +kernel
theorem dX5_init_113 : decode cX5_init 113 = .ok (.putfield 50, 3) := by decide +kernel
theorem dX5_init_116 : decode cX5_init 116 = .ok (.aload_n 0, 1) := by decide +kernel
theorem dX5_init_117 : decode cX5_init 117 = .ok (.iconst 2, 1) := by decide +kernel
theorem dX5_init_118 : decode cX5_init 118 = .ok (.newarray .int, 2) := by decide +kernel
theorem dX5_init_120 : decode cX5_init 120 = .ok (.putfield 53, 3) := by decide +kernel
theorem dX5_init_123 : decode cX5_init 123 = .ok (.aload_n 0, 1) := by decide +kernel
theorem dX5_init_124 : decode cX5_init 124 = .ok (.iconst 2, 1) := by decide +kernel
theorem dX5_init_125 : decode cX5_init 125 = .ok (.newarray .int, 2) := by decide +kernel
theorem dX5_init_127 : decode cX5_init 127 = .ok (.putfield 56, 3) := by decide +kernel
theorem dX5_init_130 : decode cX5_init 130 = .ok (.aload_n 0, 1) := by decide +kernel
theorem dX5_init_131 : decode cX5_init 131 = .ok (.iconst 2, 1) := by decide +kernel
theorem dX5_init_132 : decode cX5_init 132 = .ok (.newarray .int, 2) := by decide +kernel
theorem dX5_init_134 : decode cX5_init 134 = .ok (.putfield 59, 3) := by decide +kernel
theorem dX5_init_137 : decode cX5_init 137 = .ok (.aload_n 0, 1) := by decide +kernel
theorem dX5_init_138 : decode cX5_init 138 = .ok (.iconst 2, 1) := by decide +kernel
theorem dX5_init_139 : decode cX5_init 139 = .ok (.newarray .boolean, 2) := by decide +kernel
theorem dX5_init_141 : decode cX5_init 141 = .ok (.putfield 62, 3) := by decide +kernel
theorem dX5_init_144 : decode cX5_init 144 = .ok (.aload_n 0, 1) := by decide +kernel
theorem dX5_init_145 : decode cX5_init 145 = .ok (.iconst 2, 1) := by decide +kernel
theorem dX5_init_146 : decode cX5_init 146 = .ok (.newarray .int, 2) := by decide +kernel
theorem dX5_init_148 : decode cX5_init 148 = .ok (.putfield 65, 3) := by decide +kernel
theorem dX5_init_151 : decode cX5_init 151 = .ok (.aload_n 0, 1) := by decide +kernel
theorem dX5_init_152 : decode cX5_init 152 = .ok (.iconst 1, 1) := by decide +kernel
theorem dX5_init_153 : decode cX5_init 153 = .ok (.putfield 68, 3) := by decide +kernel
theorem dX5_init_156 : decode cX5_init 156 = .ok (.aload_n 0, 1) := by decide +kernel
theorem dX5_init_157 : decode cX5_init 157 = .ok (.iconst (-1), 1) := by decide +kernel
theorem dX5_init_158 : decode cX5_init 158 = .ok (.putfield 72, 3) := by decide +kernel
theorem dX5_init_161 : decode cX5_init 161 = .ok (.iconst 0, 1) := by decide +kernel
theorem dX5_init_162 : decode cX5_init 162 = .ok (.istore_n 1, 1) := by decide +kernel
theorem dX5_init_163 : decode cX5_init 163 = .ok (.iload_n 1, 1) := by decide +kernel
theorem dX5_init_164 : decode cX5_init 164 = .ok (.iconst 3, 1) := by decide +kernel
theorem dX5_init_165 : decode cX5_init 165 = .ok (.if_icmp .ge 16, 3) := by decide +kernel
theorem dX5_init_168 : decode cX5_init 168 = .ok (.aload_n 0, 1) := by decide +kernel
theorem dX5_init_169 : decode cX5_init 169 = .ok (.getfield 44, 3) := by decide +kernel
theorem dX5_init_172 : decode cX5_init 172 = .ok (.iload_n 1, 1) := by decide +kernel
theorem dX5_init_173 : decode cX5_init 173 = .ok (.iconst (-1), 1) := by decide +kernel
theorem dX5_init_174 : decode cX5_init 174 = .ok (.iastore, 1) := by decide +kernel
theorem dX5_init_175 : decode cX5_init 175 = .ok (.iinc 1 1, 3) := by decide +kernel
theorem dX5_init_178 : decode cX5_init 178 = .ok (.goto (-15), 3) := by decide +kernel
theorem dX5_init_181 : decode cX5_init 181 = .ok (.return_, 1) := by decide +kernel
theorem dX5_in_0 : decode cX5_in 0 = .ok (.iload_n 0, 1) := by decide +kernel
theorem dX5_in_1 : decode cX5_in 1 = .ok (.iload_n 1, 1) := by decide +kernel
theorem dX5_in_2 : decode cX5_in 2 = .ok (.if_icmp .lt 12, 3) := by decide +kernel
theorem dX5_in_5 : decode cX5_in 5 = .ok (.iload_n 0, 1) := by decide +kernel
theorem dX5_in_6 : decode cX5_in 6 = .ok (.iload_n 2, 1) := by decide +kernel
theorem dX5_in_7 : decode cX5_in 7 = .ok (.if_icmp .gt 7, 3) := by decide +kernel
theorem dX5_in_10 : decode cX5_in 10 = .ok (.iconst 1, 1) := by decide +kernel
theorem dX5_in_11 : decode cX5_in 11 = .ok (.goto 4, 3) := by decide +kernel
theorem dX5_in_14 : decode cX5_in 14 = .ok (.iconst 0, 1) := by decide +kernel
theorem dX5_in_15 : decode cX5_in 15 = .ok (.ireturn, 1) := by decide +kernel
theorem dX5_isTape_0 : decode cX5_isTape 0 = .ok (.iload_n 1, 1) := by decide +kernel
theorem dX5_isTape_1 : decode cX5_isTape 1 = .ok (.iconst 0, 1) := by decide +kernel
theorem dX5_isTape_2 : decode cX5_isTape 2 = .ok (.aload_n 0, 1) := by decide +kernel
theorem dX5_isTape_3 : decode cX5_isTape 3 = .ok (.getfield 75, 3) := by decide +kernel
theorem dX5_isTape_6 : decode cX5_isTape 6 = .ok (.iconst 1, 1) := by decide +kernel
theorem dX5_isTape_7 : decode cX5_isTape 7 = .ok (.isub, 1) := by decide +kernel
theorem dX5_isTape_8 : decode cX5_isTape 8 = .ok (.invokestatic 78, 3) := by decide +kernel
theorem dX5_isTape_11 : decode cX5_isTape 11 = .ok (.ireturn, 1) := by decide +kernel
theorem dX5_isName_0 : decode cX5_isName 0 = .ok (.iload_n 0, 1) := by decide +kernel
theorem dX5_isName_1 : decode cX5_isName 1 = .ok (.iconst 0, 1) := by decide +kernel
theorem dX5_isName_2 : decode cX5_isName 2 = .ok (.sipush 999, 3) := by decide +kernel
theorem dX5_isName_5 : decode cX5_isName 5 = .ok (.invokestatic 78, 3) := by decide +kernel
theorem dX5_isName_8 : decode cX5_isName 8 = .ok (.ireturn, 1) := by decide +kernel
theorem dX5_work_0 : decode cX5_work 0 = .ok (.aload_n 0, 1) := by decide +kernel
theorem dX5_work_1 : decode cX5_work 1 = .ok (.getfield 82, 3) := by decide +kernel
theorem dX5_work_4 : decode cX5_work 4 = .ok (.ifCond .eq 5, 3) := by decide +kernel
theorem dX5_work_7 : decode cX5_work 7 = .ok (.iconst 0, 1) := by decide +kernel
theorem dX5_work_8 : decode cX5_work 8 = .ok (.ireturn, 1) := by decide +kernel
theorem dX5_work_9 : decode cX5_work 9 = .ok (.aload_n 0, 1) := by decide +kernel
theorem dX5_work_10 : decode cX5_work 10 = .ok (.getfield 72, 3) := by decide +kernel
theorem dX5_work_13 : decode cX5_work 13 = .ok (.ifCond .ne 16, 3) := by decide +kernel
theorem dX5_work_16 : decode cX5_work 16 = .ok (.aload_n 0, 1) := by decide +kernel
theorem dX5_work_17 : decode cX5_work 17 = .ok (.iconst (-1), 1) := by decide +kernel
theorem dX5_work_18 : decode cX5_work 18 = .ok (.putfield 72, 3) := by decide +kernel
theorem dX5_work_21 : decode cX5_work 21 = .ok (.aload_n 0, 1) := by decide +kernel
theorem dX5_work_22 : decode cX5_work 22 = .ok (.bipush (-4), 2) := by decide +kernel
theorem dX5_work_24 : decode cX5_work 24 = .ok (.putfield 82, 3) := by decide +kernel
theorem dX5_work_27 : decode cX5_work 27 = .ok (.iconst 0, 1) := by decide +kernel
theorem dX5_work_28 : decode cX5_work 28 = .ok (.ireturn, 1) := by decide +kernel
theorem dX5_work_29 : decode cX5_work 29 = .ok (.aload_n 0, 1) := by decide +kernel
theorem dX5_work_30 : decode cX5_work 30 = .ok (.aload_n 0, 1) := by decide +kernel
theorem dX5_work_31 : decode cX5_work 31 = .ok (.getfield 72, 3) := by decide +kernel
theorem dX5_work_34 : decode cX5_work 34 = .ok (.ifCond .le 12, 3) := by decide +kernel
theorem dX5_work_37 : decode cX5_work 37 = .ok (.aload_n 0, 1) := by decide +kernel
theorem dX5_work_38 : decode cX5_work 38 = .ok (.getfield 72, 3) := by decide +kernel
theorem dX5_work_41 : decode cX5_work 41 = .ok (.iconst 1, 1) := by decide +kernel
theorem dX5_work_42 : decode cX5_work 42 = .ok (.isub, 1) := by decide +kernel
theorem dX5_work_43 : decode cX5_work 43 = .ok (.goto 7, 3) := by decide +kernel
theorem dX5_work_46 : decode cX5_work 46 = .ok (.aload_n 0, 1) := by decide +kernel
theorem dX5_work_47 : decode cX5_work 47 = .ok (.getfield 72, 3) := by decide +kernel
theorem dX5_work_50 : decode cX5_work 50 = .ok (.putfield 72, 3) := by decide +kernel
theorem dX5_work_53 : decode cX5_work 53 = .ok (.aload_n 0, 1) := by decide +kernel
theorem dX5_work_54 : decode cX5_work 54 = .ok (.dup, 1) := by decide +kernel
theorem dX5_work_55 : decode cX5_work 55 = .ok (.getfield 85, 3) := by decide +kernel
theorem dX5_work_58 : decode cX5_work 58 = .ok (.iconst 1, 1) := by decide +kernel
theorem dX5_work_59 : decode cX5_work 59 = .ok (.iadd, 1) := by decide +kernel
theorem dX5_work_60 : decode cX5_work 60 = .ok (.putfield 85, 3) := by decide +kernel
theorem dX5_work_63 : decode cX5_work 63 = .ok (.iconst 1, 1) := by decide +kernel
theorem dX5_work_64 : decode cX5_work 64 = .ok (.ireturn, 1) := by decide +kernel
theorem dX5_distance_0 : decode cX5_distance 0 = .ok (.iload_n 0, 1) := by decide +kernel
theorem dX5_distance_1 : decode cX5_distance 1 = .ok (.bipush 8, 2) := by decide +kernel
theorem dX5_distance_3 : decode cX5_distance 3 = .ok (.isub, 1) := by decide +kernel
theorem dX5_distance_4 : decode cX5_distance 4 = .ok (.bipush 8, 2) := by decide +kernel
theorem dX5_distance_6 : decode cX5_distance 6 = .ok (.iload_n 1, 1) := by decide +kernel
theorem dX5_distance_7 : decode cX5_distance 7 = .ok (.imul, 1) := by decide +kernel
theorem dX5_distance_8 : decode cX5_distance 8 = .ok (.isub, 1) := by decide +kernel
theorem dX5_distance_9 : decode cX5_distance 9 = .ok (.istore_n 2, 1) := by decide +kernel
theorem dX5_distance_10 : decode cX5_distance 10 = .ok (.iload_n 2, 1) := by decide +kernel
theorem dX5_distance_11 : decode cX5_distance 11 = .ok (.ifCond .ge 8, 3) := by decide +kernel
theorem dX5_distance_14 : decode cX5_distance 14 = .ok (.iload_n 2, 1) := by decide +kernel
theorem dX5_distance_15 : decode cX5_distance 15 = .ok (.ineg, 1) := by decide +kernel
theorem dX5_distance_16 : decode cX5_distance 16 = .ok (.goto 4, 3) := by decide +kernel
theorem dX5_distance_19 : decode cX5_distance 19 = .ok (.iload_n 2, 1) := by decide +kernel
theorem dX5_distance_20 : decode cX5_distance 20 = .ok (.iconst 1, 1) := by decide +kernel
theorem dX5_distance_21 : decode cX5_distance 21 = .ok (.iadd, 1) := by decide +kernel
theorem dX5_distance_22 : decode cX5_distance 22 = .ok (.ireturn, 1) := by decide +kernel
theorem dX5_mount_0 : decode cX5_mount 0 = .ok (.aload_n 0, 1) := by decide +kernel
theorem dX5_mount_1 : decode cX5_mount 1 = .ok (.getfield 53, 3) := by decide +kernel
theorem dX5_mount_4 : decode cX5_mount 4 = .ok (.iload_n 1, 1) := by decide +kernel
theorem dX5_mount_5 : decode cX5_mount 5 = .ok (.iconst (-1), 1) := by decide +kernel
theorem dX5_mount_6 : decode cX5_mount 6 = .ok (.iastore, 1) := by decide +kernel
theorem dX5_mount_7 : decode cX5_mount 7 = .ok (.aload_n 0, 1) := by decide +kernel
theorem dX5_mount_8 : decode cX5_mount 8 = .ok (.getfield 62, 3) := by decide +kernel
theorem dX5_mount_11 : decode cX5_mount 11 = .ok (.iload_n 1, 1) := by decide +kernel
theorem dX5_mount_12 : decode cX5_mount 12 = .ok (.iconst 0, 1) := by decide +kernel
theorem dX5_mount_13 : decode cX5_mount 13 = .ok (.bastore, 1) := by decide +kernel
theorem dX5_mount_14 : decode cX5_mount 14 = .ok (.aload_n 0, 1) := by decide +kernel
theorem dX5_mount_15 : decode cX5_mount 15 = .ok (.getfield 59, 3) := by decide +kernel
theorem dX5_mount_18 : decode cX5_mount 18 = .ok (.iload_n 1, 1) := by decide +kernel
theorem dX5_mount_19 : decode cX5_mount 19 = .ok (.iconst 0, 1) := by decide +kernel
theorem dX5_mount_20 : decode cX5_mount 20 = .ok (.iastore, 1) := by decide +kernel
theorem dX5_mount_21 : decode cX5_mount 21 = .ok (.aload_n 0, 1) := by decide +kernel
theorem dX5_mount_22 : decode cX5_mount 22 = .ok (.getfield 82, 3) := by decide +kernel
theorem dX5_mount_25 : decode cX5_mount 25 = .ok (.ifCond .eq 4, 3) := by decide +kernel
theorem dX5_mount_28 : decode cX5_mount 28 = .ok (.return_, 1) := by decide +kernel
theorem dX5_mount_29 : decode cX5_mount 29 = .ok (.iconst 2, 1) := by decide +kernel
theorem dX5_mount_30 : decode cX5_mount 30 = .ok (.istore_n 3, 1) := by decide +kernel
theorem dX5_mount_31 : decode cX5_mount 31 = .ok (.iload_n 3, 1) := by decide +kernel
theorem dX5_mount_32 : decode cX5_mount 32 = .ok (.ifCond .lt 92, 3) := by decide +kernel
theorem dX5_mount_35 : decode cX5_mount 35 = .ok (.aload_n 0, 1) := by decide +kernel
theorem dX5_mount_36 : decode cX5_mount 36 = .ok (.getfield 38, 3) := by decide +kernel
theorem dX5_mount_39 : decode cX5_mount 39 = .ok (.iload_n 3, 1) := by decide +kernel
theorem dX5_mount_40 : decode cX5_mount 40 = .ok (.baload, 1) := by decide +kernel
theorem dX5_mount_41 : decode cX5_mount 41 = .ok (.ifCond .ne 16, 3) := by decide +kernel
theorem dX5_mount_44 : decode cX5_mount 44 = .ok (.aload_n 0, 1) := by decide +kernel
theorem dX5_mount_45 : decode cX5_mount 45 = .ok (.getfield 41, 3) := by decide +kernel
theorem dX5_mount_48 : decode cX5_mount 48 = .ok (.iload_n 3, 1) := by decide +kernel
theorem dX5_mount_49 : decode cX5_mount 49 = .ok (.baload, 1) := by decide +kernel
theorem dX5_mount_50 : decode cX5_mount 50 = .ok (.ifCond .ne 7, 3) := by decide +kernel
theorem dX5_mount_53 : decode cX5_mount 53 = .ok (.iconst 1, 1) := by decide +kernel
theorem dX5_mount_54 : decode cX5_mount 54 = .ok (.goto 4, 3) := by decide +kernel
theorem dX5_mount_57 : decode cX5_mount 57 = .ok (.iconst 0, 1) := by decide +kernel
theorem dX5_mount_58 : decode cX5_mount 58 = .ok (.istore 4, 2) := by decide +kernel
theorem dX5_mount_60 : decode cX5_mount 60 = .ok (.aload_n 0, 1) := by decide +kernel
theorem dX5_mount_61 : decode cX5_mount 61 = .ok (.getfield 53, 3) := by decide +kernel
theorem dX5_mount_64 : decode cX5_mount 64 = .ok (.iload_n 1, 1) := by decide +kernel
theorem dX5_mount_65 : decode cX5_mount 65 = .ok (.iload 4, 2) := by decide +kernel
theorem dX5_mount_67 : decode cX5_mount 67 = .ok (.ifCond .eq 44, 3) := by decide +kernel
theorem dX5_mount_70 : decode cX5_mount 70 = .ok (.aload_n 0, 1) := by decide +kernel
theorem dX5_mount_71 : decode cX5_mount 71 = .ok (.getfield 53, 3) := by decide +kernel
theorem dX5_mount_74 : decode cX5_mount 74 = .ok (.iload_n 1, 1) := by decide +kernel
theorem dX5_mount_75 : decode cX5_mount 75 = .ok (.iaload, 1) := by decide +kernel
theorem dX5_mount_76 : decode cX5_mount 76 = .ok (.ifCond .lt 31, 3) := by decide +kernel
theorem dX5_mount_79 : decode cX5_mount 79 = .ok (.aload_n 0, 1) := by decide +kernel
theorem dX5_mount_80 : decode cX5_mount 80 = .ok (.getfield 7, 3) := by decide +kernel
theorem dX5_mount_83 : decode cX5_mount 83 = .ok (.iload_n 2, 1) := by decide +kernel
theorem dX5_mount_84 : decode cX5_mount 84 = .ok (.iaload, 1) := by decide +kernel
theorem dX5_mount_85 : decode cX5_mount 85 = .ok (.iload_n 3, 1) := by decide +kernel
theorem dX5_mount_86 : decode cX5_mount 86 = .ok (.invokestatic 88, 3) := by decide +kernel
theorem dX5_mount_89 : decode cX5_mount 89 = .ok (.aload_n 0, 1) := by decide +kernel
theorem dX5_mount_90 : decode cX5_mount 90 = .ok (.getfield 7, 3) := by decide +kernel
theorem dX5_mount_93 : decode cX5_mount 93 = .ok (.iload_n 2, 1) := by decide +kernel
theorem dX5_mount_94 : decode cX5_mount 94 = .ok (.iaload, 1) := by decide +kernel
theorem dX5_mount_95 : decode cX5_mount 95 = .ok (.aload_n 0, 1) := by decide +kernel
theorem dX5_mount_96 : decode cX5_mount 96 = .ok (.getfield 53, 3) := by decide +kernel
theorem dX5_mount_99 : decode cX5_mount 99 = .ok (.iload_n 1, 1) := by decide +kernel
theorem dX5_mount_100 : decode cX5_mount 100 = .ok (.iaload, 1) := by decide +kernel
theorem dX5_mount_101 : decode cX5_mount 101 = .ok (.invokestatic 88, 3) := by decide +kernel
theorem dX5_mount_104 : decode cX5_mount 104 = .ok (.if_icmp .gt 7, 3) := by decide +kernel
theorem dX5_mount_107 : decode cX5_mount 107 = .ok (.iload_n 3, 1) := by decide +kernel
theorem dX5_mount_108 : decode cX5_mount 108 = .ok (.goto 9, 3) := by decide +kernel
theorem dX5_mount_111 : decode cX5_mount 111 = .ok (.aload_n 0, 1) := by decide +kernel
theorem dX5_mount_112 : decode cX5_mount 112 = .ok (.getfield 53, 3) := by decide +kernel
theorem dX5_mount_115 : decode cX5_mount 115 = .ok (.iload_n 1, 1) := by decide +kernel
theorem dX5_mount_116 : decode cX5_mount 116 = .ok (.iaload, 1) := by decide +kernel
theorem dX5_mount_117 : decode cX5_mount 117 = .ok (.iastore, 1) := by decide +kernel
theorem dX5_mount_118 : decode cX5_mount 118 = .ok (.iinc 3 (-1), 3) := by decide +kernel
theorem dX5_mount_121 : decode cX5_mount 121 = .ok (.goto (-90), 3) := by decide +kernel
theorem dX5_mount_124 : decode cX5_mount 124 = .ok (.aload_n 0, 1) := by decide +kernel
theorem dX5_mount_125 : decode cX5_mount 125 = .ok (.getfield 53, 3) := by decide +kernel
theorem dX5_mount_128 : decode cX5_mount 128 = .ok (.iload_n 1, 1) := by decide +kernel
theorem dX5_mount_129 : decode cX5_mount 129 = .ok (.iaload, 1) := by decide +kernel
theorem dX5_mount_130 : decode cX5_mount 130 = .ok (.ifCond .ge 10, 3) := by decide +kernel
theorem dX5_mount_133 : decode cX5_mount 133 = .ok (.aload_n 0, 1) := by decide +kernel
theorem dX5_mount_134 : decode cX5_mount 134 = .ok (.bipush (-3), 2) := by decide +kernel
theorem dX5_mount_136 : decode cX5_mount 136 = .ok (.putfield 82, 3) := by decide +kernel
theorem dX5_mount_139 : decode cX5_mount 139 = .ok (.return_, 1) := by decide +kernel
theorem dX5_mount_140 : decode cX5_mount 140 = .ok (.aload_n 0, 1) := by decide +kernel
theorem dX5_mount_141 : decode cX5_mount 141 = .ok (.getfield 38, 3) := by decide +kernel
theorem dX5_mount_144 : decode cX5_mount 144 = .ok (.aload_n 0, 1) := by decide +kernel
theorem dX5_mount_145 : decode cX5_mount 145 = .ok (.getfield 53, 3) := by decide +kernel
theorem dX5_mount_148 : decode cX5_mount 148 = .ok (.iload_n 1, 1) := by decide +kernel
theorem dX5_mount_149 : decode cX5_mount 149 = .ok (.iaload, 1) := by decide +kernel
theorem dX5_mount_150 : decode cX5_mount 150 = .ok (.iconst 1, 1) := by decide +kernel
theorem dX5_mount_151 : decode cX5_mount 151 = .ok (.bastore, 1) := by decide +kernel
theorem dX5_mount_152 : decode cX5_mount 152 = .ok (.aload_n 0, 1) := by decide +kernel
theorem dX5_mount_153 : decode cX5_mount 153 = .ok (.getfield 56, 3) := by decide +kernel
theorem dX5_mount_156 : decode cX5_mount 156 = .ok (.iload_n 1, 1) := by decide +kernel
theorem dX5_mount_157 : decode cX5_mount 157 = .ok (.iload_n 2, 1) := by decide +kernel
theorem dX5_mount_158 : decode cX5_mount 158 = .ok (.iastore, 1) := by decide +kernel
theorem dX5_mount_159 : decode cX5_mount 159 = .ok (.aload_n 0, 1) := by decide +kernel
theorem dX5_mount_160 : decode cX5_mount 160 = .ok (.getfield 59, 3) := by decide +kernel
theorem dX5_mount_163 : decode cX5_mount 163 = .ok (.iload_n 1, 1) := by decide +kernel
theorem dX5_mount_164 : decode cX5_mount 164 = .ok (.iaload, 1) := by decide +kernel
theorem dX5_mount_165 : decode cX5_mount 165 = .ok (.aload_n 0, 1) := by decide +kernel
theorem dX5_mount_166 : decode cX5_mount 166 = .ok (.getfield 7, 3) := by decide +kernel
theorem dX5_mount_169 : decode cX5_mount 169 = .ok (.iload_n 2, 1) := by decide +kernel
theorem dX5_mount_170 : decode cX5_mount 170 = .ok (.iaload, 1) := by decide +kernel
theorem dX5_mount_171 : decode cX5_mount 171 = .ok (.aload_n 0, 1) := by decide +kernel
theorem dX5_mount_172 : decode cX5_mount 172 = .ok (.getfield 53, 3) := by decide +kernel
theorem dX5_mount_175 : decode cX5_mount 175 = .ok (.iload_n 1, 1) := by decide +kernel
theorem dX5_mount_176 : decode cX5_mount 176 = .ok (.iaload, 1) := by decide +kernel
theorem dX5_mount_177 : decode cX5_mount 177 = .ok (.invokestatic 88, 3) := by decide +kernel
theorem dX5_mount_180 : decode cX5_mount 180 = .ok (.if_icmp .ge 23, 3) := by decide +kernel
theorem dX5_mount_183 : decode cX5_mount 183 = .ok (.aload_n 0, 1) := by decide +kernel
theorem dX5_mount_184 : decode cX5_mount 184 = .ok (.invokevirtual 92, 3) := by decide +kernel
theorem dX5_mount_187 : decode cX5_mount 187 = .ok (.ifCond .eq 16, 3) := by decide +kernel
theorem dX5_mount_190 : decode cX5_mount 190 = .ok (.aload_n 0, 1) := by decide +kernel
theorem dX5_mount_191 : decode cX5_mount 191 = .ok (.getfield 59, 3) := by decide +kernel
theorem dX5_mount_194 : decode cX5_mount 194 = .ok (.iload_n 1, 1) := by decide +kernel
theorem dX5_mount_195 : decode cX5_mount 195 = .ok (.dup2, 1) := by decide +kernel
theorem dX5_mount_196 : decode cX5_mount 196 = .ok (.iaload, 1) := by decide +kernel
theorem dX5_mount_197 : decode cX5_mount 197 = .ok (.iconst 1, 1) := by decide +kernel
theorem dX5_mount_198 : decode cX5_mount 198 = .ok (.iadd, 1) := by decide +kernel
theorem dX5_mount_199 : decode cX5_mount 199 = .ok (.iastore, 1) := by decide +kernel
theorem dX5_mount_200 : decode cX5_mount 200 = .ok (.goto (-41), 3) := by decide +kernel
theorem dX5_mount_203 : decode cX5_mount 203 = .ok (.aload_n 0, 1) := by decide +kernel
theorem dX5_mount_204 : decode cX5_mount 204 = .ok (.getfield 82, 3) := by decide +kernel
theorem dX5_mount_207 : decode cX5_mount 207 = .ok (.ifCond .ne 42, 3) := by decide +kernel
theorem dX5_mount_210 : decode cX5_mount 210 = .ok (.aload_n 0, 1) := by decide +kernel
theorem dX5_mount_211 : decode cX5_mount 211 = .ok (.getfield 47, 3) := by decide +kernel
theorem dX5_mount_214 : decode cX5_mount 214 = .ok (.aload_n 0, 1) := by decide +kernel
theorem dX5_mount_215 : decode cX5_mount 215 = .ok (.getfield 53, 3) := by decide +kernel
theorem dX5_mount_218 : decode cX5_mount 218 = .ok (.iload_n 1, 1) := by decide +kernel
theorem dX5_mount_219 : decode cX5_mount 219 = .ok (.iaload, 1) := by decide +kernel
theorem dX5_mount_220 : decode cX5_mount 220 = .ok (.dup2, 1) := by decide +kernel
theorem dX5_mount_221 : decode cX5_mount 221 = .ok (.iaload, 1) := by decide +kernel
theorem dX5_mount_222 : decode cX5_mount 222 = .ok (.iconst 1, 1) := by decide +kernel
theorem dX5_mount_223 : decode cX5_mount 223 = .ok (.iadd, 1) := by decide +kernel
theorem dX5_mount_224 : decode cX5_mount 224 = .ok (.iastore, 1) := by decide +kernel
theorem dX5_mount_225 : decode cX5_mount 225 = .ok (.aload_n 0, 1) := by decide +kernel
theorem dX5_mount_226 : decode cX5_mount 226 = .ok (.getfield 16, 3) := by decide +kernel
theorem dX5_mount_229 : decode cX5_mount 229 = .ok (.iload_n 2, 1) := by decide +kernel
theorem dX5_mount_230 : decode cX5_mount 230 = .ok (.dup2, 1) := by decide +kernel
theorem dX5_mount_231 : decode cX5_mount 231 = .ok (.iaload, 1) := by decide +kernel
theorem dX5_mount_232 : decode cX5_mount 232 = .ok (.iconst 1, 1) := by decide +kernel
theorem dX5_mount_233 : decode cX5_mount 233 = .ok (.iadd, 1) := by decide +kernel
theorem dX5_mount_234 : decode cX5_mount 234 = .ok (.iastore, 1) := by decide +kernel
theorem dX5_mount_235 : decode cX5_mount 235 = .ok (.aload_n 0, 1) := by decide +kernel
theorem dX5_mount_236 : decode cX5_mount 236 = .ok (.getfield 62, 3) := by decide +kernel
theorem dX5_mount_239 : decode cX5_mount 239 = .ok (.iload_n 1, 1) := by decide +kernel
theorem dX5_mount_240 : decode cX5_mount 240 = .ok (.iconst 1, 1) := by decide +kernel
theorem dX5_mount_241 : decode cX5_mount 241 = .ok (.bastore, 1) := by decide +kernel
theorem dX5_mount_242 : decode cX5_mount 242 = .ok (.aload_n 0, 1) := by decide +kernel
theorem dX5_mount_243 : decode cX5_mount 243 = .ok (.getfield 65, 3) := by decide +kernel
theorem dX5_mount_246 : decode cX5_mount 246 = .ok (.iload_n 1, 1) := by decide +kernel
theorem dX5_mount_247 : decode cX5_mount 247 = .ok (.iconst 0, 1) := by decide +kernel
theorem dX5_mount_248 : decode cX5_mount 248 = .ok (.iastore, 1) := by decide +kernel
theorem dX5_mount_249 : decode cX5_mount 249 = .ok (.return_, 1) := by decide +kernel
theorem dX5_unmount_0 : decode cX5_unmount 0 = .ok (.aload_n 0, 1) := by decide +kernel
theorem dX5_unmount_1 : decode cX5_unmount 1 = .ok (.getfield 53, 3) := by decide +kernel
theorem dX5_unmount_4 : decode cX5_unmount 4 = .ok (.iload_n 1, 1) := by decide +kernel
theorem dX5_unmount_5 : decode cX5_unmount 5 = .ok (.iaload, 1) := by decide +kernel
theorem dX5_unmount_6 : decode cX5_unmount 6 = .ok (.ifCond .ge 4, 3) := by decide +kernel
theorem dX5_unmount_9 : decode cX5_unmount 9 = .ok (.return_, 1) := by decide +kernel
theorem dX5_unmount_10 : decode cX5_unmount 10 = .ok (.aload_n 0, 1) := by decide +kernel
theorem dX5_unmount_11 : decode cX5_unmount 11 = .ok (.getfield 62, 3) := by decide +kernel
theorem dX5_unmount_14 : decode cX5_unmount 14 = .ok (.iload_n 1, 1) := by decide +kernel
theorem dX5_unmount_15 : decode cX5_unmount 15 = .ok (.baload, 1) := by decide +kernel
theorem dX5_unmount_16 : decode cX5_unmount 16 = .ok (.ifCond .eq 67, 3) := by decide +kernel
theorem dX5_unmount_19 : decode cX5_unmount 19 = .ok (.aload_n 0, 1) := by decide +kernel
theorem dX5_unmount_20 : decode cX5_unmount 20 = .ok (.aload_n 0, 1) := by decide +kernel
theorem dX5_unmount_21 : decode cX5_unmount 21 = .ok (.getfield 96, 3) := by decide +kernel
theorem dX5_unmount_24 : decode cX5_unmount 24 = .ok (.aload_n 0, 1) := by decide +kernel
theorem dX5_unmount_25 : decode cX5_unmount 25 = .ok (.getfield 41, 3) := by decide +kernel
theorem dX5_unmount_28 : decode cX5_unmount 28 = .ok (.aload_n 0, 1) := by decide +kernel
theorem dX5_unmount_29 : decode cX5_unmount 29 = .ok (.getfield 53, 3) := by decide +kernel
theorem dX5_unmount_32 : decode cX5_unmount 32 = .ok (.iload_n 1, 1) := by decide +kernel
theorem dX5_unmount_33 : decode cX5_unmount 33 = .ok (.iaload, 1) := by decide +kernel
theorem dX5_unmount_34 : decode cX5_unmount 34 = .ok (.baload, 1) := by decide +kernel
theorem dX5_unmount_35 : decode cX5_unmount 35 = .ok (.ifCond .eq 7, 3) := by decide +kernel
theorem dX5_unmount_38 : decode cX5_unmount 38 = .ok (.iconst 3, 1) := by decide +kernel
theorem dX5_unmount_39 : decode cX5_unmount 39 = .ok (.goto 4, 3) := by decide +kernel
theorem dX5_unmount_42 : decode cX5_unmount 42 = .ok (.iconst 1, 1) := by decide +kernel
theorem dX5_unmount_43 : decode cX5_unmount 43 = .ok (.aload_n 0, 1) := by decide +kernel
theorem dX5_unmount_44 : decode cX5_unmount 44 = .ok (.getfield 65, 3) := by decide +kernel
theorem dX5_unmount_47 : decode cX5_unmount 47 = .ok (.iload_n 1, 1) := by decide +kernel
theorem dX5_unmount_48 : decode cX5_unmount 48 = .ok (.iaload, 1) := by decide +kernel
theorem dX5_unmount_49 : decode cX5_unmount 49 = .ok (.imul, 1) := by decide +kernel
theorem dX5_unmount_50 : decode cX5_unmount 50 = .ok (.iadd, 1) := by decide +kernel
theorem dX5_unmount_51 : decode cX5_unmount 51 = .ok (.putfield 96, 3) := by decide +kernel
theorem dX5_unmount_54 : decode cX5_unmount 54 = .ok (.aload_n 0, 1) := by decide +kernel
theorem dX5_unmount_55 : decode cX5_unmount 55 = .ok (.getfield 19, 3) := by decide +kernel
theorem dX5_unmount_58 : decode cX5_unmount 58 = .ok (.aload_n 0, 1) := by decide +kernel
theorem dX5_unmount_59 : decode cX5_unmount 59 = .ok (.getfield 56, 3) := by decide +kernel
theorem dX5_unmount_62 : decode cX5_unmount 62 = .ok (.iload_n 1, 1) := by decide +kernel
theorem dX5_unmount_63 : decode cX5_unmount 63 = .ok (.iaload, 1) := by decide +kernel
theorem dX5_unmount_64 : decode cX5_unmount 64 = .ok (.aload_n 0, 1) := by decide +kernel
theorem dX5_unmount_65 : decode cX5_unmount 65 = .ok (.getfield 19, 3) := by decide +kernel
theorem dX5_unmount_68 : decode cX5_unmount 68 = .ok (.aload_n 0, 1) := by decide +kernel
theorem dX5_unmount_69 : decode cX5_unmount 69 = .ok (.getfield 56, 3) := by decide +kernel
theorem dX5_unmount_72 : decode cX5_unmount 72 = .ok (.iload_n 1, 1) := by decide +kernel
theorem dX5_unmount_73 : decode cX5_unmount 73 = .ok (.iaload, 1) := by decide +kernel
theorem dX5_unmount_74 : decode cX5_unmount 74 = .ok (.iaload, 1) := by decide +kernel
theorem dX5_unmount_75 : decode cX5_unmount 75 = .ok (.aload_n 0, 1) := by decide +kernel
theorem dX5_unmount_76 : decode cX5_unmount 76 = .ok (.getfield 65, 3) := by decide +kernel
theorem dX5_unmount_79 : decode cX5_unmount 79 = .ok (.iload_n 1, 1) := by decide +kernel
theorem dX5_unmount_80 : decode cX5_unmount 80 = .ok (.iaload, 1) := by decide +kernel
theorem dX5_unmount_81 : decode cX5_unmount 81 = .ok (.iadd, 1) := by decide +kernel
theorem dX5_unmount_82 : decode cX5_unmount 82 = .ok (.iastore, 1) := by decide +kernel
theorem dX5_unmount_83 : decode cX5_unmount 83 = .ok (.aload_n 0, 1) := by decide +kernel
theorem dX5_unmount_84 : decode cX5_unmount 84 = .ok (.aload_n 0, 1) := by decide +kernel
theorem dX5_unmount_85 : decode cX5_unmount 85 = .ok (.getfield 96, 3) := by decide +kernel
theorem dX5_unmount_88 : decode cX5_unmount 88 = .ok (.aload_n 0, 1) := by decide +kernel
theorem dX5_unmount_89 : decode cX5_unmount 89 = .ok (.getfield 59, 3) := by decide +kernel
theorem dX5_unmount_92 : decode cX5_unmount 92 = .ok (.iload_n 1, 1) := by decide +kernel
theorem dX5_unmount_93 : decode cX5_unmount 93 = .ok (.iaload, 1) := by decide +kernel
theorem dX5_unmount_94 : decode cX5_unmount 94 = .ok (.iadd, 1) := by decide +kernel
theorem dX5_unmount_95 : decode cX5_unmount 95 = .ok (.putfield 96, 3) := by decide +kernel
theorem dX5_unmount_98 : decode cX5_unmount 98 = .ok (.aload_n 0, 1) := by decide +kernel
theorem dX5_unmount_99 : decode cX5_unmount 99 = .ok (.getfield 38, 3) := by decide +kernel
theorem dX5_unmount_102 : decode cX5_unmount 102 = .ok (.aload_n 0, 1) := by decide +kernel
theorem dX5_unmount_103 : decode cX5_unmount 103 = .ok (.getfield 53, 3) := by decide +kernel
theorem dX5_unmount_106 : decode cX5_unmount 106 = .ok (.iload_n 1, 1) := by decide +kernel
theorem dX5_unmount_107 : decode cX5_unmount 107 = .ok (.iaload, 1) := by decide +kernel
theorem dX5_unmount_108 : decode cX5_unmount 108 = .ok (.iconst 0, 1) := by decide +kernel
theorem dX5_unmount_109 : decode cX5_unmount 109 = .ok (.bastore, 1) := by decide +kernel
theorem dX5_unmount_110 : decode cX5_unmount 110 = .ok (.return_, 1) := by decide +kernel
theorem dX5_wind_0 : decode cX5_wind 0 = .ok (.aload_n 0, 1) := by decide +kernel
theorem dX5_wind_1 : decode cX5_wind 1 = .ok (.getfield 82, 3) := by decide +kernel
theorem dX5_wind_4 : decode cX5_wind 4 = .ok (.ifCond .ne 51, 3) := by decide +kernel
theorem dX5_wind_7 : decode cX5_wind 7 = .ok (.aload_n 0, 1) := by decide +kernel
theorem dX5_wind_8 : decode cX5_wind 8 = .ok (.getfield 65, 3) := by decide +kernel
theorem dX5_wind_11 : decode cX5_wind 11 = .ok (.iload_n 1, 1) := by decide +kernel
theorem dX5_wind_12 : decode cX5_wind 12 = .ok (.iaload, 1) := by decide +kernel
theorem dX5_wind_13 : decode cX5_wind 13 = .ok (.iload_n 2, 1) := by decide +kernel
theorem dX5_wind_14 : decode cX5_wind 14 = .ok (.if_icmp .eq 41, 3) := by decide +kernel
theorem dX5_wind_17 : decode cX5_wind 17 = .ok (.aload_n 0, 1) := by decide +kernel
theorem dX5_wind_18 : decode cX5_wind 18 = .ok (.invokevirtual 92, 3) := by decide +kernel
theorem dX5_wind_21 : decode cX5_wind 21 = .ok (.ifCond .eq 34, 3) := by decide +kernel
theorem dX5_wind_24 : decode cX5_wind 24 = .ok (.aload_n 0, 1) := by decide +kernel
theorem dX5_wind_25 : decode cX5_wind 25 = .ok (.getfield 65, 3) := by decide +kernel
theorem dX5_wind_28 : decode cX5_wind 28 = .ok (.iload_n 1, 1) := by decide +kernel
theorem dX5_wind_29 : decode cX5_wind 29 = .ok (.aload_n 0, 1) := by decide +kernel
theorem dX5_wind_30 : decode cX5_wind 30 = .ok (.getfield 65, 3) := by decide +kernel
theorem dX5_wind_33 : decode cX5_wind 33 = .ok (.iload_n 1, 1) := by decide +kernel
theorem dX5_wind_34 : decode cX5_wind 34 = .ok (.iaload, 1) := by decide +kernel
theorem dX5_wind_35 : decode cX5_wind 35 = .ok (.aload_n 0, 1) := by decide +kernel
theorem dX5_wind_36 : decode cX5_wind 36 = .ok (.getfield 65, 3) := by decide +kernel
theorem dX5_wind_39 : decode cX5_wind 39 = .ok (.iload_n 1, 1) := by decide +kernel
theorem dX5_wind_40 : decode cX5_wind 40 = .ok (.iaload, 1) := by decide +kernel
theorem dX5_wind_41 : decode cX5_wind 41 = .ok (.iload_n 2, 1) := by decide +kernel
theorem dX5_wind_42 : decode cX5_wind 42 = .ok (.if_icmp .ge 7, 3) := by decide +kernel
theorem dX5_wind_45 : decode cX5_wind 45 = .ok (.iconst 1, 1) := by decide +kernel
theorem dX5_wind_46 : decode cX5_wind 46 = .ok (.goto 4, 3) := by decide +kernel
theorem dX5_wind_49 : decode cX5_wind 49 = .ok (.iconst (-1), 1) := by decide +kernel
theorem dX5_wind_50 : decode cX5_wind 50 = .ok (.iadd, 1) := by decide +kernel
theorem dX5_wind_51 : decode cX5_wind 51 = .ok (.iastore, 1) := by decide +kernel
theorem dX5_wind_52 : decode cX5_wind 52 = .ok (.goto (-52), 3) := by decide +kernel
theorem dX5_wind_55 : decode cX5_wind 55 = .ok (.return_, 1) := by decide +kernel
theorem dX5_pass_0 : decode cX5_pass 0 = .ok (.aload_n 0, 1) := by decide +kernel
theorem dX5_pass_1 : decode cX5_pass 1 = .ok (.getfield 53, 3) := by decide +kernel
theorem dX5_pass_4 : decode cX5_pass 4 = .ok (.iload_n 1, 1) := by decide +kernel
theorem dX5_pass_5 : decode cX5_pass 5 = .ok (.iaload, 1) := by decide +kernel
theorem dX5_pass_6 : decode cX5_pass 6 = .ok (.istore_n 3, 1) := by decide +kernel
theorem dX5_pass_7 : decode cX5_pass 7 = .ok (.aload_n 0, 1) := by decide +kernel
theorem dX5_pass_8 : decode cX5_pass 8 = .ok (.getfield 82, 3) := by decide +kernel
theorem dX5_pass_11 : decode cX5_pass 11 = .ok (.ifCond .ne 24, 3) := by decide +kernel
theorem dX5_pass_14 : decode cX5_pass 14 = .ok (.iload_n 2, 1) := by decide +kernel
theorem dX5_pass_15 : decode cX5_pass 15 = .ok (.ifCond .eq 20, 3) := by decide +kernel
theorem dX5_pass_18 : decode cX5_pass 18 = .ok (.aload_n 0, 1) := by decide +kernel
theorem dX5_pass_19 : decode cX5_pass 19 = .ok (.getfield 65, 3) := by decide +kernel
theorem dX5_pass_22 : decode cX5_pass 22 = .ok (.iload_n 1, 1) := by decide +kernel
theorem dX5_pass_23 : decode cX5_pass 23 = .ok (.iaload, 1) := by decide +kernel
theorem dX5_pass_24 : decode cX5_pass 24 = .ok (.bipush 100, 2) := by decide +kernel
theorem dX5_pass_26 : decode cX5_pass 26 = .ok (.if_icmp .ne 9, 3) := by decide +kernel
theorem dX5_pass_29 : decode cX5_pass 29 = .ok (.aload_n 0, 1) := by decide +kernel
theorem dX5_pass_30 : decode cX5_pass 30 = .ok (.bipush (-6), 2) := by decide +kernel
theorem dX5_pass_32 : decode cX5_pass 32 = .ok (.putfield 82, 3) := by decide +kernel
theorem dX5_pass_35 : decode cX5_pass 35 = .ok (.aload_n 0, 1) := by decide +kernel
theorem dX5_pass_36 : decode cX5_pass 36 = .ok (.getfield 82, 3) := by decide +kernel
theorem dX5_pass_39 : decode cX5_pass 39 = .ok (.ifCond .ne 32, 3) := by decide +kernel
theorem dX5_pass_42 : decode cX5_pass 42 = .ok (.aload_n 0, 1) := by decide +kernel
theorem dX5_pass_43 : decode cX5_pass 43 = .ok (.getfield 44, 3) := by decide +kernel
theorem dX5_pass_46 : decode cX5_pass 46 = .ok (.iload_n 3, 1) := by decide +kernel
theorem dX5_pass_47 : decode cX5_pass 47 = .ok (.iaload, 1) := by decide +kernel
theorem dX5_pass_48 : decode cX5_pass 48 = .ok (.ifCond .ne 23, 3) := by decide +kernel
theorem dX5_pass_51 : decode cX5_pass 51 = .ok (.aload_n 0, 1) := by decide +kernel
theorem dX5_pass_52 : decode cX5_pass 52 = .ok (.getfield 44, 3) := by decide +kernel
theorem dX5_pass_55 : decode cX5_pass 55 = .ok (.iload_n 3, 1) := by decide +kernel
theorem dX5_pass_56 : decode cX5_pass 56 = .ok (.iconst (-1), 1) := by decide +kernel
theorem dX5_pass_57 : decode cX5_pass 57 = .ok (.iastore, 1) := by decide +kernel
theorem dX5_pass_58 : decode cX5_pass 58 = .ok (.aload_n 0, 1) := by decide +kernel
theorem dX5_pass_59 : decode cX5_pass 59 = .ok (.getfield 41, 3) := by decide +kernel
theorem dX5_pass_62 : decode cX5_pass 62 = .ok (.iload_n 3, 1) := by decide +kernel
theorem dX5_pass_63 : decode cX5_pass 63 = .ok (.iconst 1, 1) := by decide +kernel
theorem dX5_pass_64 : decode cX5_pass 64 = .ok (.bastore, 1) := by decide +kernel
theorem dX5_pass_65 : decode cX5_pass 65 = .ok (.aload_n 0, 1) := by decide +kernel
theorem dX5_pass_66 : decode cX5_pass 66 = .ok (.bipush (-5), 2) := by decide +kernel
theorem dX5_pass_68 : decode cX5_pass 68 = .ok (.putfield 82, 3) := by decide +kernel
theorem dX5_pass_71 : decode cX5_pass 71 = .ok (.aload_n 0, 1) := by decide +kernel
theorem dX5_pass_72 : decode cX5_pass 72 = .ok (.invokevirtual 92, 3) := by decide +kernel
theorem dX5_pass_75 : decode cX5_pass 75 = .ok (.ifCond .eq 55, 3) := by decide +kernel
theorem dX5_pass_78 : decode cX5_pass 78 = .ok (.aload_n 0, 1) := by decide +kernel
theorem dX5_pass_79 : decode cX5_pass 79 = .ok (.getfield 44, 3) := by decide +kernel
theorem dX5_pass_82 : decode cX5_pass 82 = .ok (.iload_n 3, 1) := by decide +kernel
theorem dX5_pass_83 : decode cX5_pass 83 = .ok (.aload_n 0, 1) := by decide +kernel
theorem dX5_pass_84 : decode cX5_pass 84 = .ok (.getfield 44, 3) := by decide +kernel
theorem dX5_pass_87 : decode cX5_pass 87 = .ok (.iload_n 3, 1) := by decide +kernel
theorem dX5_pass_88 : decode cX5_pass 88 = .ok (.iaload, 1) := by decide +kernel
theorem dX5_pass_89 : decode cX5_pass 89 = .ok (.ifCond .le 14, 3) := by decide +kernel
theorem dX5_pass_92 : decode cX5_pass 92 = .ok (.aload_n 0, 1) := by decide +kernel
theorem dX5_pass_93 : decode cX5_pass 93 = .ok (.getfield 44, 3) := by decide +kernel
theorem dX5_pass_96 : decode cX5_pass 96 = .ok (.iload_n 3, 1) := by decide +kernel
theorem dX5_pass_97 : decode cX5_pass 97 = .ok (.iaload, 1) := by decide +kernel
theorem dX5_pass_98 : decode cX5_pass 98 = .ok (.iconst 1, 1) := by decide +kernel
theorem dX5_pass_99 : decode cX5_pass 99 = .ok (.isub, 1) := by decide +kernel
theorem dX5_pass_100 : decode cX5_pass 100 = .ok (.goto 9, 3) := by decide +kernel
theorem dX5_pass_103 : decode cX5_pass 103 = .ok (.aload_n 0, 1) := by decide +kernel
theorem dX5_pass_104 : decode cX5_pass 104 = .ok (.getfield 44, 3) := by decide +kernel
theorem dX5_pass_107 : decode cX5_pass 107 = .ok (.iload_n 3, 1) := by decide +kernel
theorem dX5_pass_108 : decode cX5_pass 108 = .ok (.iaload, 1) := by decide +kernel
theorem dX5_pass_109 : decode cX5_pass 109 = .ok (.iastore, 1) := by decide +kernel
theorem dX5_pass_110 : decode cX5_pass 110 = .ok (.aload_n 0, 1) := by decide +kernel
theorem dX5_pass_111 : decode cX5_pass 111 = .ok (.getfield 50, 3) := by decide +kernel
theorem dX5_pass_114 : decode cX5_pass 114 = .ok (.iload_n 3, 1) := by decide +kernel
theorem dX5_pass_115 : decode cX5_pass 115 = .ok (.dup2, 1) := by decide +kernel
theorem dX5_pass_116 : decode cX5_pass 116 = .ok (.iaload, 1) := by decide +kernel
theorem dX5_pass_117 : decode cX5_pass 117 = .ok (.iconst 1, 1) := by decide +kernel
theorem dX5_pass_118 : decode cX5_pass 118 = .ok (.iadd, 1) := by decide +kernel
theorem dX5_pass_119 : decode cX5_pass 119 = .ok (.iastore, 1) := by decide +kernel
theorem dX5_pass_120 : decode cX5_pass 120 = .ok (.aload_n 0, 1) := by decide +kernel
theorem dX5_pass_121 : decode cX5_pass 121 = .ok (.getfield 65, 3) := by decide +kernel
theorem dX5_pass_124 : decode cX5_pass 124 = .ok (.iload_n 1, 1) := by decide +kernel
theorem dX5_pass_125 : decode cX5_pass 125 = .ok (.dup2, 1) := by decide +kernel
theorem dX5_pass_126 : decode cX5_pass 126 = .ok (.iaload, 1) := by decide +kernel
theorem dX5_pass_127 : decode cX5_pass 127 = .ok (.iconst 1, 1) := by decide +kernel
theorem dX5_pass_128 : decode cX5_pass 128 = .ok (.iadd, 1) := by decide +kernel
theorem dX5_pass_129 : decode cX5_pass 129 = .ok (.iastore, 1) := by decide +kernel
theorem dX5_pass_130 : decode cX5_pass 130 = .ok (.return_, 1) := by decide +kernel
theorem dX5_put_0 : decode cX5_put 0 = .ok (.aload_n 0, 1) := by decide +kernel
theorem dX5_put_1 : decode cX5_put 1 = .ok (.getfield 22, 3) := by decide +kernel
theorem dX5_put_4 : decode cX5_put 4 = .ok (.bipush 100, 2) := by decide +kernel
theorem dX5_put_6 : decode cX5_put 6 = .ok (.iload_n 1, 1) := by decide +kernel
theorem dX5_put_7 : decode cX5_put 7 = .ok (.imul, 1) := by decide +kernel
theorem dX5_put_8 : decode cX5_put 8 = .ok (.iload_n 2, 1) := by decide +kernel
theorem dX5_put_9 : decode cX5_put 9 = .ok (.iadd, 1) := by decide +kernel
theorem dX5_put_10 : decode cX5_put 10 = .ok (.iload_n 3, 1) := by decide +kernel
theorem dX5_put_11 : decode cX5_put 11 = .ok (.iastore, 1) := by decide +kernel
theorem dX5_put_12 : decode cX5_put 12 = .ok (.aload_n 0, 1) := by decide +kernel
theorem dX5_put_13 : decode cX5_put 13 = .ok (.getfield 25, 3) := by decide +kernel
theorem dX5_put_16 : decode cX5_put 16 = .ok (.bipush 100, 2) := by decide +kernel
theorem dX5_put_18 : decode cX5_put 18 = .ok (.iload_n 1, 1) := by decide +kernel
theorem dX5_put_19 : decode cX5_put 19 = .ok (.imul, 1) := by decide +kernel
theorem dX5_put_20 : decode cX5_put 20 = .ok (.iload_n 2, 1) := by decide +kernel
theorem dX5_put_21 : decode cX5_put 21 = .ok (.iadd, 1) := by decide +kernel
theorem dX5_put_22 : decode cX5_put 22 = .ok (.iload 4, 2) := by decide +kernel
theorem dX5_put_24 : decode cX5_put 24 = .ok (.iastore, 1) := by decide +kernel
theorem dX5_put_25 : decode cX5_put 25 = .ok (.aload_n 0, 1) := by decide +kernel
theorem dX5_put_26 : decode cX5_put 26 = .ok (.getfield 28, 3) := by decide +kernel
theorem dX5_put_29 : decode cX5_put 29 = .ok (.bipush 100, 2) := by decide +kernel
theorem dX5_put_31 : decode cX5_put 31 = .ok (.iload_n 1, 1) := by decide +kernel
theorem dX5_put_32 : decode cX5_put 32 = .ok (.imul, 1) := by decide +kernel
theorem dX5_put_33 : decode cX5_put 33 = .ok (.iload_n 2, 1) := by decide +kernel
theorem dX5_put_34 : decode cX5_put 34 = .ok (.iadd, 1) := by decide +kernel
theorem dX5_put_35 : decode cX5_put 35 = .ok (.iload 5, 2) := by decide +kernel
theorem dX5_put_37 : decode cX5_put 37 = .ok (.iastore, 1) := by decide +kernel
theorem dX5_put_38 : decode cX5_put 38 = .ok (.aload_n 0, 1) := by decide +kernel
theorem dX5_put_39 : decode cX5_put 39 = .ok (.getfield 13, 3) := by decide +kernel
theorem dX5_put_42 : decode cX5_put 42 = .ok (.iload_n 1, 1) := by decide +kernel
theorem dX5_put_43 : decode cX5_put 43 = .ok (.dup2, 1) := by decide +kernel
theorem dX5_put_44 : decode cX5_put 44 = .ok (.iaload, 1) := by decide +kernel
theorem dX5_put_45 : decode cX5_put 45 = .ok (.iconst 1, 1) := by decide +kernel
theorem dX5_put_46 : decode cX5_put 46 = .ok (.iadd, 1) := by decide +kernel
theorem dX5_put_47 : decode cX5_put 47 = .ok (.iastore, 1) := by decide +kernel
theorem dX5_put_48 : decode cX5_put 48 = .ok (.return_, 1) := by decide +kernel
theorem dX5_write_0 : decode cX5_write 0 = .ok (.aload_n 0, 1) := by decide +kernel
theorem dX5_write_1 : decode cX5_write 1 = .ok (.iload_n 1, 1) := by decide +kernel
theorem dX5_write_2 : decode cX5_write 2 = .ok (.iconst 1, 1) := by decide +kernel
theorem dX5_write_3 : decode cX5_write 3 = .ok (.invokevirtual 99, 3) := by decide +kernel
theorem dX5_write_6 : decode cX5_write 6 = .ok (.aload_n 0, 1) := by decide +kernel
theorem dX5_write_7 : decode cX5_write 7 = .ok (.getfield 82, 3) := by decide +kernel
theorem dX5_write_10 : decode cX5_write 10 = .ok (.ifCond .ne 25, 3) := by decide +kernel
theorem dX5_write_13 : decode cX5_write 13 = .ok (.aload_n 0, 1) := by decide +kernel
theorem dX5_write_14 : decode cX5_write 14 = .ok (.aload_n 0, 1) := by decide +kernel
theorem dX5_write_15 : decode cX5_write 15 = .ok (.getfield 56, 3) := by decide +kernel
theorem dX5_write_18 : decode cX5_write 18 = .ok (.iload_n 1, 1) := by decide +kernel
theorem dX5_write_19 : decode cX5_write 19 = .ok (.iaload, 1) := by decide +kernel
theorem dX5_write_20 : decode cX5_write 20 = .ok (.aload_n 0, 1) := by decide +kernel
theorem dX5_write_21 : decode cX5_write 21 = .ok (.getfield 65, 3) := by decide +kernel
theorem dX5_write_24 : decode cX5_write 24 = .ok (.iload_n 1, 1) := by decide +kernel
theorem dX5_write_25 : decode cX5_write 25 = .ok (.iaload, 1) := by decide +kernel
theorem dX5_write_26 : decode cX5_write 26 = .ok (.iconst 1, 1) := by decide +kernel
theorem dX5_write_27 : decode cX5_write 27 = .ok (.isub, 1) := by decide +kernel
theorem dX5_write_28 : decode cX5_write 28 = .ok (.iload_n 2, 1) := by decide +kernel
theorem dX5_write_29 : decode cX5_write 29 = .ok (.iload_n 3, 1) := by decide +kernel
theorem dX5_write_30 : decode cX5_write 30 = .ok (.iload 4, 2) := by decide +kernel
theorem dX5_write_32 : decode cX5_write 32 = .ok (.invokevirtual 103, 3) := by decide +kernel
theorem dX5_write_35 : decode cX5_write 35 = .ok (.return_, 1) := by decide +kernel
theorem dX5_take_0 : decode cX5_take 0 = .ok (.bipush 100, 2) := by decide +kernel
theorem dX5_take_2 : decode cX5_take 2 = .ok (.aload_n 0, 1) := by decide +kernel
theorem dX5_take_3 : decode cX5_take 3 = .ok (.getfield 56, 3) := by decide +kernel
theorem dX5_take_6 : decode cX5_take 6 = .ok (.iload_n 1, 1) := by decide +kernel
theorem dX5_take_7 : decode cX5_take 7 = .ok (.iaload, 1) := by decide +kernel
theorem dX5_take_8 : decode cX5_take 8 = .ok (.imul, 1) := by decide +kernel
theorem dX5_take_9 : decode cX5_take 9 = .ok (.aload_n 0, 1) := by decide +kernel
theorem dX5_take_10 : decode cX5_take 10 = .ok (.getfield 65, 3) := by decide +kernel
theorem dX5_take_13 : decode cX5_take 13 = .ok (.iload_n 1, 1) := by decide +kernel
theorem dX5_take_14 : decode cX5_take 14 = .ok (.iaload, 1) := by decide +kernel
theorem dX5_take_15 : decode cX5_take 15 = .ok (.iadd, 1) := by decide +kernel
theorem dX5_take_16 : decode cX5_take 16 = .ok (.istore_n 2, 1) := by decide +kernel
theorem dX5_take_17 : decode cX5_take 17 = .ok (.aload_n 0, 1) := by decide +kernel
theorem dX5_take_18 : decode cX5_take 18 = .ok (.iload_n 1, 1) := by decide +kernel
theorem dX5_take_19 : decode cX5_take 19 = .ok (.iconst 0, 1) := by decide +kernel
theorem dX5_take_20 : decode cX5_take 20 = .ok (.invokevirtual 99, 3) := by decide +kernel
theorem dX5_take_23 : decode cX5_take 23 = .ok (.aload_n 0, 1) := by decide +kernel
theorem dX5_take_24 : decode cX5_take 24 = .ok (.getfield 82, 3) := by decide +kernel
theorem dX5_take_27 : decode cX5_take 27 = .ok (.ifCond .ne 18, 3) := by decide +kernel
theorem dX5_take_30 : decode cX5_take 30 = .ok (.aload_n 0, 1) := by decide +kernel
theorem dX5_take_31 : decode cX5_take 31 = .ok (.getfield 31, 3) := by decide +kernel
theorem dX5_take_34 : decode cX5_take 34 = .ok (.iload_n 2, 1) := by decide +kernel
theorem dX5_take_35 : decode cX5_take 35 = .ok (.baload, 1) := by decide +kernel
theorem dX5_take_36 : decode cX5_take 36 = .ok (.ifCond .eq 9, 3) := by decide +kernel
theorem dX5_take_39 : decode cX5_take 39 = .ok (.aload_n 0, 1) := by decide +kernel
theorem dX5_take_40 : decode cX5_take 40 = .ok (.bipush (-7), 2) := by decide +kernel
theorem dX5_take_42 : decode cX5_take 42 = .ok (.putfield 82, 3) := by decide +kernel
theorem dX5_take_45 : decode cX5_take 45 = .ok (.iload_n 2, 1) := by decide +kernel
theorem dX5_take_46 : decode cX5_take 46 = .ok (.ireturn, 1) := by decide +kernel
theorem dX5_close_0 : decode cX5_close 0 = .ok (.aload_n 0, 1) := by decide +kernel
theorem dX5_close_1 : decode cX5_close 1 = .ok (.getfield 62, 3) := by decide +kernel
theorem dX5_close_4 : decode cX5_close 4 = .ok (.iload_n 1, 1) := by decide +kernel
theorem dX5_close_5 : decode cX5_close 5 = .ok (.baload, 1) := by decide +kernel
theorem dX5_close_6 : decode cX5_close 6 = .ok (.ifCond .eq 29, 3) := by decide +kernel
theorem dX5_close_9 : decode cX5_close 9 = .ok (.aload_n 0, 1) := by decide +kernel
theorem dX5_close_10 : decode cX5_close 10 = .ok (.getfield 82, 3) := by decide +kernel
theorem dX5_close_13 : decode cX5_close 13 = .ok (.ifCond .eq 22, 3) := by decide +kernel
theorem dX5_close_16 : decode cX5_close 16 = .ok (.aload_n 0, 1) := by decide +kernel
theorem dX5_close_17 : decode cX5_close 17 = .ok (.getfield 13, 3) := by decide +kernel
theorem dX5_close_20 : decode cX5_close 20 = .ok (.aload_n 0, 1) := by decide +kernel
theorem dX5_close_21 : decode cX5_close 21 = .ok (.getfield 56, 3) := by decide +kernel
theorem dX5_close_24 : decode cX5_close 24 = .ok (.iload_n 1, 1) := by decide +kernel
theorem dX5_close_25 : decode cX5_close 25 = .ok (.iaload, 1) := by decide +kernel
theorem dX5_close_26 : decode cX5_close 26 = .ok (.iaload, 1) := by decide +kernel
theorem dX5_close_27 : decode cX5_close 27 = .ok (.iload_n 2, 1) := by decide +kernel
theorem dX5_close_28 : decode cX5_close 28 = .ok (.if_icmp .le 7, 3) := by decide +kernel
theorem dX5_close_31 : decode cX5_close 31 = .ok (.iconst 1, 1) := by decide +kernel
theorem dX5_close_32 : decode cX5_close 32 = .ok (.goto 4, 3) := by decide +kernel
theorem dX5_close_35 : decode cX5_close 35 = .ok (.iconst 0, 1) := by decide +kernel
theorem dX5_close_36 : decode cX5_close 36 = .ok (.istore_n 3, 1) := by decide +kernel
theorem dX5_close_37 : decode cX5_close 37 = .ok (.iload_n 3, 1) := by decide +kernel
theorem dX5_close_38 : decode cX5_close 38 = .ok (.ifCond .eq 84, 3) := by decide +kernel
theorem dX5_close_41 : decode cX5_close 41 = .ok (.aload_n 0, 1) := by decide +kernel
theorem dX5_close_42 : decode cX5_close 42 = .ok (.getfield 13, 3) := by decide +kernel
theorem dX5_close_45 : decode cX5_close 45 = .ok (.aload_n 0, 1) := by decide +kernel
theorem dX5_close_46 : decode cX5_close 46 = .ok (.getfield 56, 3) := by decide +kernel
theorem dX5_close_49 : decode cX5_close 49 = .ok (.iload_n 1, 1) := by decide +kernel
theorem dX5_close_50 : decode cX5_close 50 = .ok (.iaload, 1) := by decide +kernel
theorem dX5_close_51 : decode cX5_close 51 = .ok (.iaload, 1) := by decide +kernel
theorem dX5_close_52 : decode cX5_close 52 = .ok (.bipush 100, 2) := by decide +kernel
theorem dX5_close_54 : decode cX5_close 54 = .ok (.if_icmp .ge 68, 3) := by decide +kernel
theorem dX5_close_57 : decode cX5_close 57 = .ok (.aload_n 0, 1) := by decide +kernel
theorem dX5_close_58 : decode cX5_close 58 = .ok (.getfield 41, 3) := by decide +kernel
theorem dX5_close_61 : decode cX5_close 61 = .ok (.aload_n 0, 1) := by decide +kernel
theorem dX5_close_62 : decode cX5_close 62 = .ok (.getfield 53, 3) := by decide +kernel
theorem dX5_close_65 : decode cX5_close 65 = .ok (.iload_n 1, 1) := by decide +kernel
theorem dX5_close_66 : decode cX5_close 66 = .ok (.iaload, 1) := by decide +kernel
theorem dX5_close_67 : decode cX5_close 67 = .ok (.baload, 1) := by decide +kernel
theorem dX5_close_68 : decode cX5_close 68 = .ok (.ifCond .ne 54, 3) := by decide +kernel
theorem dX5_close_71 : decode cX5_close 71 = .ok (.aload_n 0, 1) := by decide +kernel
theorem dX5_close_72 : decode cX5_close 72 = .ok (.dup, 1) := by decide +kernel
theorem dX5_close_73 : decode cX5_close 73 = .ok (.getfield 96, 3) := by decide +kernel
theorem dX5_close_76 : decode cX5_close 76 = .ok (.iconst 1, 1) := by decide +kernel
theorem dX5_close_77 : decode cX5_close 77 = .ok (.iadd, 1) := by decide +kernel
theorem dX5_close_78 : decode cX5_close 78 = .ok (.putfield 96, 3) := by decide +kernel
theorem dX5_close_81 : decode cX5_close 81 = .ok (.aload_n 0, 1) := by decide +kernel
theorem dX5_close_82 : decode cX5_close 82 = .ok (.aload_n 0, 1) := by decide +kernel
theorem dX5_close_83 : decode cX5_close 83 = .ok (.getfield 56, 3) := by decide +kernel
theorem dX5_close_86 : decode cX5_close 86 = .ok (.iload_n 1, 1) := by decide +kernel
theorem dX5_close_87 : decode cX5_close 87 = .ok (.iaload, 1) := by decide +kernel
theorem dX5_close_88 : decode cX5_close 88 = .ok (.aload_n 0, 1) := by decide +kernel
theorem dX5_close_89 : decode cX5_close 89 = .ok (.getfield 13, 3) := by decide +kernel
theorem dX5_close_92 : decode cX5_close 92 = .ok (.aload_n 0, 1) := by decide +kernel
theorem dX5_close_93 : decode cX5_close 93 = .ok (.getfield 56, 3) := by decide +kernel
theorem dX5_close_96 : decode cX5_close 96 = .ok (.iload_n 1, 1) := by decide +kernel
theorem dX5_close_97 : decode cX5_close 97 = .ok (.iaload, 1) := by decide +kernel
theorem dX5_close_98 : decode cX5_close 98 = .ok (.iaload, 1) := by decide +kernel
theorem dX5_close_99 : decode cX5_close 99 = .ok (.iconst 4, 1) := by decide +kernel
theorem dX5_close_100 : decode cX5_close 100 = .ok (.iconst 0, 1) := by decide +kernel
theorem dX5_close_101 : decode cX5_close 101 = .ok (.iconst 0, 1) := by decide +kernel
theorem dX5_close_102 : decode cX5_close 102 = .ok (.invokevirtual 103, 3) := by decide +kernel
theorem dX5_close_105 : decode cX5_close 105 = .ok (.aload_n 0, 1) := by decide +kernel
theorem dX5_close_106 : decode cX5_close 106 = .ok (.getfield 65, 3) := by decide +kernel
theorem dX5_close_109 : decode cX5_close 109 = .ok (.iload_n 1, 1) := by decide +kernel
theorem dX5_close_110 : decode cX5_close 110 = .ok (.aload_n 0, 1) := by decide +kernel
theorem dX5_close_111 : decode cX5_close 111 = .ok (.getfield 13, 3) := by decide +kernel
theorem dX5_close_114 : decode cX5_close 114 = .ok (.aload_n 0, 1) := by decide +kernel
theorem dX5_close_115 : decode cX5_close 115 = .ok (.getfield 56, 3) := by decide +kernel
theorem dX5_close_118 : decode cX5_close 118 = .ok (.iload_n 1, 1) := by decide +kernel
theorem dX5_close_119 : decode cX5_close 119 = .ok (.iaload, 1) := by decide +kernel
theorem dX5_close_120 : decode cX5_close 120 = .ok (.iaload, 1) := by decide +kernel
theorem dX5_close_121 : decode cX5_close 121 = .ok (.iastore, 1) := by decide +kernel
theorem dX5_close_122 : decode cX5_close 122 = .ok (.return_, 1) := by decide +kernel
theorem dX5_begin_0 : decode cX5_begin 0 = .ok (.aload_n 0, 1) := by decide +kernel
theorem dX5_begin_1 : decode cX5_begin 1 = .ok (.iconst 0, 1) := by decide +kernel
theorem dX5_begin_2 : decode cX5_begin 2 = .ok (.putfield 82, 3) := by decide +kernel
theorem dX5_begin_5 : decode cX5_begin 5 = .ok (.aload_n 0, 1) := by decide +kernel
theorem dX5_begin_6 : decode cX5_begin 6 = .ok (.dup, 1) := by decide +kernel
theorem dX5_begin_7 : decode cX5_begin 7 = .ok (.getfield 107, 3) := by decide +kernel
theorem dX5_begin_10 : decode cX5_begin 10 = .ok (.iconst 1, 1) := by decide +kernel
theorem dX5_begin_11 : decode cX5_begin 11 = .ok (.iadd, 1) := by decide +kernel
theorem dX5_begin_12 : decode cX5_begin 12 = .ok (.putfield 107, 3) := by decide +kernel
theorem dX5_begin_15 : decode cX5_begin 15 = .ok (.return_, 1) := by decide +kernel
theorem dX5_ended_0 : decode cX5_ended 0 = .ok (.aload_n 0, 1) := by decide +kernel
theorem dX5_ended_1 : decode cX5_ended 1 = .ok (.aload_n 0, 1) := by decide +kernel
theorem dX5_ended_2 : decode cX5_ended 2 = .ok (.getfield 110, 3) := by decide +kernel
theorem dX5_ended_5 : decode cX5_ended 5 = .ok (.aload_n 0, 1) := by decide +kernel
theorem dX5_ended_6 : decode cX5_ended 6 = .ok (.getfield 82, 3) := by decide +kernel
theorem dX5_ended_9 : decode cX5_ended 9 = .ok (.ifCond .eq 7, 3) := by decide +kernel
theorem dX5_ended_12 : decode cX5_ended 12 = .ok (.iconst 1, 1) := by decide +kernel
theorem dX5_ended_13 : decode cX5_ended 13 = .ok (.goto 4, 3) := by decide +kernel
theorem dX5_ended_16 : decode cX5_ended 16 = .ok (.iconst 0, 1) := by decide +kernel
theorem dX5_ended_17 : decode cX5_ended 17 = .ok (.iadd, 1) := by decide +kernel
theorem dX5_ended_18 : decode cX5_ended 18 = .ok (.putfield 110, 3) := by decide +kernel
theorem dX5_ended_21 : decode cX5_ended 21 = .ok (.aload_n 0, 1) := by decide +kernel
theorem dX5_ended_22 : decode cX5_ended 22 = .ok (.getfield 82, 3) := by decide +kernel
theorem dX5_ended_25 : decode cX5_ended 25 = .ok (.ifCond .eq 10, 3) := by decide +kernel
theorem dX5_ended_28 : decode cX5_ended 28 = .ok (.aload_n 0, 1) := by decide +kernel
theorem dX5_ended_29 : decode cX5_ended 29 = .ok (.getfield 82, 3) := by decide +kernel
theorem dX5_ended_32 : decode cX5_ended 32 = .ok (.goto 4, 3) := by decide +kernel
theorem dX5_ended_35 : decode cX5_ended 35 = .ok (.iload_n 1, 1) := by decide +kernel
theorem dX5_ended_36 : decode cX5_ended 36 = .ok (.ireturn, 1) := by decide +kernel
theorem dX5_tape_0 : decode cX5_tape 0 = .ok (.iload_n 1, 1) := by decide +kernel
theorem dX5_tape_1 : decode cX5_tape 1 = .ok (.iconst 0, 1) := by decide +kernel
theorem dX5_tape_2 : decode cX5_tape 2 = .ok (.bipush 31, 2) := by decide +kernel
theorem dX5_tape_4 : decode cX5_tape 4 = .ok (.invokestatic 78, 3) := by decide +kernel
theorem dX5_tape_7 : decode cX5_tape 7 = .ok (.istore_n 2, 1) := by decide +kernel
theorem dX5_tape_8 : decode cX5_tape 8 = .ok (.iconst 0, 1) := by decide +kernel
theorem dX5_tape_9 : decode cX5_tape 9 = .ok (.istore_n 3, 1) := by decide +kernel
theorem dX5_tape_10 : decode cX5_tape 10 = .ok (.iload_n 3, 1) := by decide +kernel
theorem dX5_tape_11 : decode cX5_tape 11 = .ok (.aload_n 0, 1) := by decide +kernel
theorem dX5_tape_12 : decode cX5_tape 12 = .ok (.getfield 75, 3) := by decide +kernel
theorem dX5_tape_15 : decode cX5_tape 15 = .ok (.if_icmp .ge 29, 3) := by decide +kernel
theorem dX5_tape_18 : decode cX5_tape 18 = .ok (.iload_n 2, 1) := by decide +kernel
theorem dX5_tape_19 : decode cX5_tape 19 = .ok (.ifCond .eq 17, 3) := by decide +kernel
theorem dX5_tape_22 : decode cX5_tape 22 = .ok (.aload_n 0, 1) := by decide +kernel
theorem dX5_tape_23 : decode cX5_tape 23 = .ok (.getfield 7, 3) := by decide +kernel
theorem dX5_tape_26 : decode cX5_tape 26 = .ok (.iload_n 3, 1) := by decide +kernel
theorem dX5_tape_27 : decode cX5_tape 27 = .ok (.iaload, 1) := by decide +kernel
theorem dX5_tape_28 : decode cX5_tape 28 = .ok (.iload_n 1, 1) := by decide +kernel
theorem dX5_tape_29 : decode cX5_tape 29 = .ok (.if_icmp .eq 7, 3) := by decide +kernel
theorem dX5_tape_32 : decode cX5_tape 32 = .ok (.iconst 1, 1) := by decide +kernel
theorem dX5_tape_33 : decode cX5_tape 33 = .ok (.goto 4, 3) := by decide +kernel
theorem dX5_tape_36 : decode cX5_tape 36 = .ok (.iconst 0, 1) := by decide +kernel
theorem dX5_tape_37 : decode cX5_tape 37 = .ok (.istore_n 2, 1) := by decide +kernel
theorem dX5_tape_38 : decode cX5_tape 38 = .ok (.iinc 3 1, 3) := by decide +kernel
theorem dX5_tape_41 : decode cX5_tape 41 = .ok (.goto (-31), 3) := by decide +kernel
theorem dX5_tape_44 : decode cX5_tape 44 = .ok (.iload_n 2, 1) := by decide +kernel
theorem dX5_tape_45 : decode cX5_tape 45 = .ok (.ifCond .ne 5, 3) := by decide +kernel
theorem dX5_tape_48 : decode cX5_tape 48 = .ok (.iconst (-1), 1) := by decide +kernel
theorem dX5_tape_49 : decode cX5_tape 49 = .ok (.ireturn, 1) := by decide +kernel
theorem dX5_tape_50 : decode cX5_tape 50 = .ok (.aload_n 0, 1) := by decide +kernel
theorem dX5_tape_51 : decode cX5_tape 51 = .ok (.getfield 75, 3) := by decide +kernel
theorem dX5_tape_54 : decode cX5_tape 54 = .ok (.bipush 12, 2) := by decide +kernel
theorem dX5_tape_56 : decode cX5_tape 56 = .ok (.if_icmp .ne 6, 3) := by decide +kernel
theorem dX5_tape_59 : decode cX5_tape 59 = .ok (.bipush (-6), 2) := by decide +kernel
theorem dX5_tape_61 : decode cX5_tape 61 = .ok (.ireturn, 1) := by decide +kernel
theorem dX5_tape_62 : decode cX5_tape 62 = .ok (.aload_n 0, 1) := by decide +kernel
theorem dX5_tape_63 : decode cX5_tape 63 = .ok (.getfield 7, 3) := by decide +kernel
theorem dX5_tape_66 : decode cX5_tape 66 = .ok (.aload_n 0, 1) := by decide +kernel
theorem dX5_tape_67 : decode cX5_tape 67 = .ok (.getfield 75, 3) := by decide +kernel
theorem dX5_tape_70 : decode cX5_tape 70 = .ok (.iload_n 1, 1) := by decide +kernel
theorem dX5_tape_71 : decode cX5_tape 71 = .ok (.iastore, 1) := by decide +kernel
theorem dX5_tape_72 : decode cX5_tape 72 = .ok (.aload_n 0, 1) := by decide +kernel
theorem dX5_tape_73 : decode cX5_tape 73 = .ok (.dup, 1) := by decide +kernel
theorem dX5_tape_74 : decode cX5_tape 74 = .ok (.getfield 75, 3) := by decide +kernel
theorem dX5_tape_77 : decode cX5_tape 77 = .ok (.iconst 1, 1) := by decide +kernel
theorem dX5_tape_78 : decode cX5_tape 78 = .ok (.iadd, 1) := by decide +kernel
theorem dX5_tape_79 : decode cX5_tape 79 = .ok (.putfield 75, 3) := by decide +kernel
theorem dX5_tape_82 : decode cX5_tape 82 = .ok (.aload_n 0, 1) := by decide +kernel
theorem dX5_tape_83 : decode cX5_tape 83 = .ok (.getfield 75, 3) := by decide +kernel
theorem dX5_tape_86 : decode cX5_tape 86 = .ok (.iconst 1, 1) := by decide +kernel
theorem dX5_tape_87 : decode cX5_tape 87 = .ok (.isub, 1) := by decide +kernel
theorem dX5_tape_88 : decode cX5_tape 88 = .ok (.ireturn, 1) := by decide +kernel
theorem dX5_stage_0 : decode cX5_stage 0 = .ok (.iload_n 1, 1) := by decide +kernel
theorem dX5_stage_1 : decode cX5_stage 1 = .ok (.invokestatic 113, 3) := by decide +kernel
theorem dX5_stage_4 : decode cX5_stage 4 = .ok (.ifCond .eq 13, 3) := by decide +kernel
theorem dX5_stage_7 : decode cX5_stage 7 = .ok (.iload_n 2, 1) := by decide +kernel
theorem dX5_stage_8 : decode cX5_stage 8 = .ok (.iconst 1, 1) := by decide +kernel
theorem dX5_stage_9 : decode cX5_stage 9 = .ok (.bipush 30, 2) := by decide +kernel
theorem dX5_stage_11 : decode cX5_stage 11 = .ok (.invokestatic 78, 3) := by decide +kernel
theorem dX5_stage_14 : decode cX5_stage 14 = .ok (.ifCond .ne 5, 3) := by decide +kernel
theorem dX5_stage_17 : decode cX5_stage 17 = .ok (.iconst (-1), 1) := by decide +kernel
theorem dX5_stage_18 : decode cX5_stage 18 = .ok (.ireturn, 1) := by decide +kernel
theorem dX5_stage_19 : decode cX5_stage 19 = .ok (.aload_n 0, 1) := by decide +kernel
theorem dX5_stage_20 : decode cX5_stage 20 = .ok (.iload_n 1, 1) := by decide +kernel
theorem dX5_stage_21 : decode cX5_stage 21 = .ok (.putfield 117, 3) := by decide +kernel
theorem dX5_stage_24 : decode cX5_stage 24 = .ok (.aload_n 0, 1) := by decide +kernel
theorem dX5_stage_25 : decode cX5_stage 25 = .ok (.iload_n 2, 1) := by decide +kernel
theorem dX5_stage_26 : decode cX5_stage 26 = .ok (.putfield 120, 3) := by decide +kernel
theorem dX5_stage_29 : decode cX5_stage 29 = .ok (.aload_n 0, 1) := by decide +kernel
theorem dX5_stage_30 : decode cX5_stage 30 = .ok (.iload_n 3, 1) := by decide +kernel
theorem dX5_stage_31 : decode cX5_stage 31 = .ok (.putfield 123, 3) := by decide +kernel
theorem dX5_stage_34 : decode cX5_stage 34 = .ok (.aload_n 0, 1) := by decide +kernel
theorem dX5_stage_35 : decode cX5_stage 35 = .ok (.iload 4, 2) := by decide +kernel
theorem dX5_stage_37 : decode cX5_stage 37 = .ok (.putfield 126, 3) := by decide +kernel
theorem dX5_stage_40 : decode cX5_stage 40 = .ok (.iload_n 2, 1) := by decide +kernel
theorem dX5_stage_41 : decode cX5_stage 41 = .ok (.ireturn, 1) := by decide +kernel
theorem dX5_copy_0 : decode cX5_copy 0 = .ok (.aload_n 0, 1) := by decide +kernel
theorem dX5_copy_1 : decode cX5_copy 1 = .ok (.iload_n 1, 1) := by decide +kernel
theorem dX5_copy_2 : decode cX5_copy 2 = .ok (.invokevirtual 129, 3) := by decide +kernel
theorem dX5_copy_5 : decode cX5_copy 5 = .ok (.ifCond .ne 5, 3) := by decide +kernel
theorem dX5_copy_8 : decode cX5_copy 8 = .ok (.iconst (-1), 1) := by decide +kernel
theorem dX5_copy_9 : decode cX5_copy 9 = .ok (.ireturn, 1) := by decide +kernel
theorem dX5_copy_10 : decode cX5_copy 10 = .ok (.aload_n 0, 1) := by decide +kernel
theorem dX5_copy_11 : decode cX5_copy 11 = .ok (.getfield 120, 3) := by decide +kernel
theorem dX5_copy_14 : decode cX5_copy 14 = .ok (.ifCond .ne 6, 3) := by decide +kernel
theorem dX5_copy_17 : decode cX5_copy 17 = .ok (.bipush (-2), 2) := by decide +kernel
theorem dX5_copy_19 : decode cX5_copy 19 = .ok (.ireturn, 1) := by decide +kernel
theorem dX5_copy_20 : decode cX5_copy 20 = .ok (.aload_n 0, 1) := by decide +kernel
theorem dX5_copy_21 : decode cX5_copy 21 = .ok (.invokevirtual 132, 3) := by decide +kernel
theorem dX5_copy_24 : decode cX5_copy 24 = .ok (.aload_n 0, 1) := by decide +kernel
theorem dX5_copy_25 : decode cX5_copy 25 = .ok (.iconst 0, 1) := by decide +kernel
theorem dX5_copy_26 : decode cX5_copy 26 = .ok (.iload_n 1, 1) := by decide +kernel
theorem dX5_copy_27 : decode cX5_copy 27 = .ok (.invokevirtual 135, 3) := by decide +kernel
theorem dX5_copy_30 : decode cX5_copy 30 = .ok (.aload_n 0, 1) := by decide +kernel
theorem dX5_copy_31 : decode cX5_copy 31 = .ok (.getfield 13, 3) := by decide +kernel
theorem dX5_copy_34 : decode cX5_copy 34 = .ok (.iload_n 1, 1) := by decide +kernel
theorem dX5_copy_35 : decode cX5_copy 35 = .ok (.iaload, 1) := by decide +kernel
theorem dX5_copy_36 : decode cX5_copy 36 = .ok (.istore_n 2, 1) := by decide +kernel
theorem dX5_copy_37 : decode cX5_copy 37 = .ok (.aload_n 0, 1) := by decide +kernel
theorem dX5_copy_38 : decode cX5_copy 38 = .ok (.iconst 0, 1) := by decide +kernel
theorem dX5_copy_39 : decode cX5_copy 39 = .ok (.iload_n 2, 1) := by decide +kernel
theorem dX5_copy_40 : decode cX5_copy 40 = .ok (.invokevirtual 139, 3) := by decide +kernel
theorem dX5_copy_43 : decode cX5_copy 43 = .ok (.aload_n 0, 1) := by decide +kernel
theorem dX5_copy_44 : decode cX5_copy 44 = .ok (.iconst 0, 1) := by decide +kernel
theorem dX5_copy_45 : decode cX5_copy 45 = .ok (.iconst 1, 1) := by decide +kernel
theorem dX5_copy_46 : decode cX5_copy 46 = .ok (.aload_n 0, 1) := by decide +kernel
theorem dX5_copy_47 : decode cX5_copy 47 = .ok (.getfield 117, 3) := by decide +kernel
theorem dX5_copy_50 : decode cX5_copy 50 = .ok (.aload_n 0, 1) := by decide +kernel
theorem dX5_copy_51 : decode cX5_copy 51 = .ok (.getfield 120, 3) := by decide +kernel
theorem dX5_copy_54 : decode cX5_copy 54 = .ok (.invokevirtual 142, 3) := by decide +kernel
theorem dX5_copy_57 : decode cX5_copy 57 = .ok (.iconst 0, 1) := by decide +kernel
theorem dX5_copy_58 : decode cX5_copy 58 = .ok (.istore_n 3, 1) := by decide +kernel
theorem dX5_copy_59 : decode cX5_copy 59 = .ok (.iload_n 3, 1) := by decide +kernel
theorem dX5_copy_60 : decode cX5_copy 60 = .ok (.aload_n 0, 1) := by decide +kernel
theorem dX5_copy_61 : decode cX5_copy 61 = .ok (.getfield 120, 3) := by decide +kernel
theorem dX5_copy_64 : decode cX5_copy 64 = .ok (.if_icmp .ge 27, 3) := by decide +kernel
theorem dX5_copy_67 : decode cX5_copy 67 = .ok (.aload_n 0, 1) := by decide +kernel
theorem dX5_copy_68 : decode cX5_copy 68 = .ok (.iconst 0, 1) := by decide +kernel
theorem dX5_copy_69 : decode cX5_copy 69 = .ok (.iconst 2, 1) := by decide +kernel
theorem dX5_copy_70 : decode cX5_copy 70 = .ok (.aload_n 0, 1) := by decide +kernel
theorem dX5_copy_71 : decode cX5_copy 71 = .ok (.getfield 123, 3) := by decide +kernel
theorem dX5_copy_74 : decode cX5_copy 74 = .ok (.iload_n 3, 1) := by decide +kernel
theorem dX5_copy_75 : decode cX5_copy 75 = .ok (.aload_n 0, 1) := by decide +kernel
theorem dX5_copy_76 : decode cX5_copy 76 = .ok (.getfield 126, 3) := by decide +kernel
theorem dX5_copy_79 : decode cX5_copy 79 = .ok (.imul, 1) := by decide +kernel
theorem dX5_copy_80 : decode cX5_copy 80 = .ok (.iadd, 1) := by decide +kernel
theorem dX5_copy_81 : decode cX5_copy 81 = .ok (.iconst 0, 1) := by decide +kernel
theorem dX5_copy_82 : decode cX5_copy 82 = .ok (.invokevirtual 142, 3) := by decide +kernel
theorem dX5_copy_85 : decode cX5_copy 85 = .ok (.iinc 3 1, 3) := by decide +kernel
theorem dX5_copy_88 : decode cX5_copy 88 = .ok (.goto (-29), 3) := by decide +kernel
theorem dX5_copy_91 : decode cX5_copy 91 = .ok (.aload_n 0, 1) := by decide +kernel
theorem dX5_copy_92 : decode cX5_copy 92 = .ok (.iconst 0, 1) := by decide +kernel
theorem dX5_copy_93 : decode cX5_copy 93 = .ok (.iconst 3, 1) := by decide +kernel
theorem dX5_copy_94 : decode cX5_copy 94 = .ok (.iconst 0, 1) := by decide +kernel
theorem dX5_copy_95 : decode cX5_copy 95 = .ok (.iconst 0, 1) := by decide +kernel
theorem dX5_copy_96 : decode cX5_copy 96 = .ok (.invokevirtual 142, 3) := by decide +kernel
theorem dX5_copy_99 : decode cX5_copy 99 = .ok (.aload_n 0, 1) := by decide +kernel
theorem dX5_copy_100 : decode cX5_copy 100 = .ok (.getfield 82, 3) := by decide +kernel
theorem dX5_copy_103 : decode cX5_copy 103 = .ok (.ifCond .ne 21, 3) := by decide +kernel
theorem dX5_copy_106 : decode cX5_copy 106 = .ok (.aload_n 0, 1) := by decide +kernel
theorem dX5_copy_107 : decode cX5_copy 107 = .ok (.getfield 35, 3) := by decide +kernel
theorem dX5_copy_110 : decode cX5_copy 110 = .ok (.sipush 1000, 3) := by decide +kernel
theorem dX5_copy_113 : decode cX5_copy 113 = .ok (.iload_n 1, 1) := by decide +kernel
theorem dX5_copy_114 : decode cX5_copy 114 = .ok (.imul, 1) := by decide +kernel
theorem dX5_copy_115 : decode cX5_copy 115 = .ok (.aload_n 0, 1) := by decide +kernel
theorem dX5_copy_116 : decode cX5_copy 116 = .ok (.getfield 117, 3) := by decide +kernel
theorem dX5_copy_119 : decode cX5_copy 119 = .ok (.iadd, 1) := by decide +kernel
theorem dX5_copy_120 : decode cX5_copy 120 = .ok (.iload_n 2, 1) := by decide +kernel
theorem dX5_copy_121 : decode cX5_copy 121 = .ok (.iconst 1, 1) := by decide +kernel
theorem dX5_copy_122 : decode cX5_copy 122 = .ok (.iadd, 1) := by decide +kernel
theorem dX5_copy_123 : decode cX5_copy 123 = .ok (.iastore, 1) := by decide +kernel
theorem dX5_copy_124 : decode cX5_copy 124 = .ok (.aload_n 0, 1) := by decide +kernel
theorem dX5_copy_125 : decode cX5_copy 125 = .ok (.iconst 0, 1) := by decide +kernel
theorem dX5_copy_126 : decode cX5_copy 126 = .ok (.iload_n 2, 1) := by decide +kernel
theorem dX5_copy_127 : decode cX5_copy 127 = .ok (.invokevirtual 146, 3) := by decide +kernel
theorem dX5_copy_130 : decode cX5_copy 130 = .ok (.aload_n 0, 1) := by decide +kernel
theorem dX5_copy_131 : decode cX5_copy 131 = .ok (.iconst 0, 1) := by decide +kernel
theorem dX5_copy_132 : decode cX5_copy 132 = .ok (.invokevirtual 149, 3) := by decide +kernel
theorem dX5_copy_135 : decode cX5_copy 135 = .ok (.aload_n 0, 1) := by decide +kernel
theorem dX5_copy_136 : decode cX5_copy 136 = .ok (.iload_n 2, 1) := by decide +kernel
theorem dX5_copy_137 : decode cX5_copy 137 = .ok (.invokevirtual 153, 3) := by decide +kernel
theorem dX5_copy_140 : decode cX5_copy 140 = .ok (.ireturn, 1) := by decide +kernel
theorem dX5_readFile_0 : decode cX5_readFile 0 = .ok (.aload_n 0, 1) := by decide +kernel
theorem dX5_readFile_1 : decode cX5_readFile 1 = .ok (.invokevirtual 132, 3) := by decide +kernel
theorem dX5_readFile_4 : decode cX5_readFile 4 = .ok (.aload_n 0, 1) := by decide +kernel
theorem dX5_readFile_5 : decode cX5_readFile 5 = .ok (.iconst 0, 1) := by decide +kernel
theorem dX5_readFile_6 : decode cX5_readFile 6 = .ok (.iload_n 2, 1) := by decide +kernel
theorem dX5_readFile_7 : decode cX5_readFile 7 = .ok (.invokevirtual 135, 3) := by decide +kernel
theorem dX5_readFile_10 : decode cX5_readFile 10 = .ok (.aload_n 0, 1) := by decide +kernel
theorem dX5_readFile_11 : decode cX5_readFile 11 = .ok (.getfield 35, 3) := by decide +kernel
theorem dX5_readFile_14 : decode cX5_readFile 14 = .ok (.sipush 1000, 3) := by decide +kernel
theorem dX5_readFile_17 : decode cX5_readFile 17 = .ok (.iload_n 2, 1) := by decide +kernel
theorem dX5_readFile_18 : decode cX5_readFile 18 = .ok (.imul, 1) := by decide +kernel
theorem dX5_readFile_19 : decode cX5_readFile 19 = .ok (.iload_n 1, 1) := by decide +kernel
theorem dX5_readFile_20 : decode cX5_readFile 20 = .ok (.iadd, 1) := by decide +kernel
theorem dX5_readFile_21 : decode cX5_readFile 21 = .ok (.iaload, 1) := by decide +kernel
theorem dX5_readFile_22 : decode cX5_readFile 22 = .ok (.iconst 1, 1) := by decide +kernel
theorem dX5_readFile_23 : decode cX5_readFile 23 = .ok (.isub, 1) := by decide +kernel
theorem dX5_readFile_24 : decode cX5_readFile 24 = .ok (.istore_n 3, 1) := by decide +kernel
theorem dX5_readFile_25 : decode cX5_readFile 25 = .ok (.aload_n 0, 1) := by decide +kernel
theorem dX5_readFile_26 : decode cX5_readFile 26 = .ok (.getfield 28, 3) := by decide +kernel
theorem dX5_readFile_29 : decode cX5_readFile 29 = .ok (.bipush 100, 2) := by decide +kernel
theorem dX5_readFile_31 : decode cX5_readFile 31 = .ok (.iload_n 2, 1) := by decide +kernel
theorem dX5_readFile_32 : decode cX5_readFile 32 = .ok (.imul, 1) := by decide +kernel
theorem dX5_readFile_33 : decode cX5_readFile 33 = .ok (.iload_n 3, 1) := by decide +kernel
theorem dX5_readFile_34 : decode cX5_readFile 34 = .ok (.iadd, 1) := by decide +kernel
theorem dX5_readFile_35 : decode cX5_readFile 35 = .ok (.iaload, 1) := by decide +kernel
theorem dX5_readFile_36 : decode cX5_readFile 36 = .ok (.istore 4, 2) := by decide +kernel
theorem dX5_readFile_38 : decode cX5_readFile 38 = .ok (.aload_n 0, 1) := by decide +kernel
theorem dX5_readFile_39 : decode cX5_readFile 39 = .ok (.aload_n 0, 1) := by decide +kernel
theorem dX5_readFile_40 : decode cX5_readFile 40 = .ok (.getfield 82, 3) := by decide +kernel
theorem dX5_readFile_43 : decode cX5_readFile 43 = .ok (.ifCond .ne 7, 3) := by decide +kernel
theorem dX5_readFile_46 : decode cX5_readFile 46 = .ok (.iconst 1, 1) := by decide +kernel
theorem dX5_readFile_47 : decode cX5_readFile 47 = .ok (.goto 7, 3) := by decide +kernel
theorem dX5_readFile_50 : decode cX5_readFile 50 = .ok (.aload_n 0, 1) := by decide +kernel
theorem dX5_readFile_51 : decode cX5_readFile 51 = .ok (.getfield 68, 3) := by decide +kernel
theorem dX5_readFile_54 : decode cX5_readFile 54 = .ok (.putfield 68, 3) := by decide +kernel
theorem dX5_readFile_57 : decode cX5_readFile 57 = .ok (.aload_n 0, 1) := by decide +kernel
theorem dX5_readFile_58 : decode cX5_readFile 58 = .ok (.iconst 0, 1) := by decide +kernel
theorem dX5_readFile_59 : decode cX5_readFile 59 = .ok (.iload_n 3, 1) := by decide +kernel
theorem dX5_readFile_60 : decode cX5_readFile 60 = .ok (.invokevirtual 139, 3) := by decide +kernel
theorem dX5_readFile_63 : decode cX5_readFile 63 = .ok (.iconst 0, 1) := by decide +kernel
theorem dX5_readFile_64 : decode cX5_readFile 64 = .ok (.istore 5, 2) := by decide +kernel
theorem dX5_readFile_66 : decode cX5_readFile 66 = .ok (.iload 5, 2) := by decide +kernel
theorem dX5_readFile_68 : decode cX5_readFile 68 = .ok (.iload 4, 2) := by decide +kernel
theorem dX5_readFile_70 : decode cX5_readFile 70 = .ok (.iconst 2, 1) := by decide +kernel
theorem dX5_readFile_71 : decode cX5_readFile 71 = .ok (.iadd, 1) := by decide +kernel
theorem dX5_readFile_72 : decode cX5_readFile 72 = .ok (.if_icmp .ge 67, 3) := by decide +kernel
theorem dX5_readFile_75 : decode cX5_readFile 75 = .ok (.aload_n 0, 1) := by decide +kernel
theorem dX5_readFile_76 : decode cX5_readFile 76 = .ok (.getfield 82, 3) := by decide +kernel
theorem dX5_readFile_79 : decode cX5_readFile 79 = .ok (.ifCond .ne 60, 3) := by decide +kernel
theorem dX5_readFile_82 : decode cX5_readFile 82 = .ok (.aload_n 0, 1) := by decide +kernel
theorem dX5_readFile_83 : decode cX5_readFile 83 = .ok (.iconst 0, 1) := by decide +kernel
theorem dX5_readFile_84 : decode cX5_readFile 84 = .ok (.invokevirtual 157, 3) := by decide +kernel
theorem dX5_readFile_87 : decode cX5_readFile 87 = .ok (.istore 6, 2) := by decide +kernel
theorem dX5_readFile_89 : decode cX5_readFile 89 = .ok (.aload_n 0, 1) := by decide +kernel
theorem dX5_readFile_90 : decode cX5_readFile 90 = .ok (.aload_n 0, 1) := by decide +kernel
theorem dX5_readFile_91 : decode cX5_readFile 91 = .ok (.getfield 82, 3) := by decide +kernel
theorem dX5_readFile_94 : decode cX5_readFile 94 = .ok (.ifCond .ne 32, 3) := by decide +kernel
theorem dX5_readFile_97 : decode cX5_readFile 97 = .ok (.aload_n 0, 1) := by decide +kernel
theorem dX5_readFile_98 : decode cX5_readFile 98 = .ok (.getfield 22, 3) := by decide +kernel
theorem dX5_readFile_101 : decode cX5_readFile 101 = .ok (.iload 6, 2) := by decide +kernel
theorem dX5_readFile_103 : decode cX5_readFile 103 = .ok (.iaload, 1) := by decide +kernel
theorem dX5_readFile_104 : decode cX5_readFile 104 = .ok (.iconst 2, 1) := by decide +kernel
theorem dX5_readFile_105 : decode cX5_readFile 105 = .ok (.if_icmp .ne 21, 3) := by decide +kernel
theorem dX5_readFile_108 : decode cX5_readFile 108 = .ok (.bipush 31, 2) := by decide +kernel
theorem dX5_readFile_110 : decode cX5_readFile 110 = .ok (.aload_n 0, 1) := by decide +kernel
theorem dX5_readFile_111 : decode cX5_readFile 111 = .ok (.getfield 68, 3) := by decide +kernel
theorem dX5_readFile_114 : decode cX5_readFile 114 = .ok (.imul, 1) := by decide +kernel
theorem dX5_readFile_115 : decode cX5_readFile 115 = .ok (.aload_n 0, 1) := by decide +kernel
theorem dX5_readFile_116 : decode cX5_readFile 116 = .ok (.getfield 25, 3) := by decide +kernel
theorem dX5_readFile_119 : decode cX5_readFile 119 = .ok (.iload 6, 2) := by decide +kernel
theorem dX5_readFile_121 : decode cX5_readFile 121 = .ok (.iaload, 1) := by decide +kernel
theorem dX5_readFile_122 : decode cX5_readFile 122 = .ok (.iadd, 1) := by decide +kernel
theorem dX5_readFile_123 : decode cX5_readFile 123 = .ok (.goto 7, 3) := by decide +kernel
theorem dX5_readFile_126 : decode cX5_readFile 126 = .ok (.aload_n 0, 1) := by decide +kernel
theorem dX5_readFile_127 : decode cX5_readFile 127 = .ok (.getfield 68, 3) := by decide +kernel
theorem dX5_readFile_130 : decode cX5_readFile 130 = .ok (.putfield 68, 3) := by decide +kernel
theorem dX5_readFile_133 : decode cX5_readFile 133 = .ok (.iinc 5 1, 3) := by decide +kernel
theorem dX5_readFile_136 : decode cX5_readFile 136 = .ok (.goto (-70), 3) := by decide +kernel
theorem dX5_readFile_139 : decode cX5_readFile 139 = .ok (.aload_n 0, 1) := by decide +kernel
theorem dX5_readFile_140 : decode cX5_readFile 140 = .ok (.iconst 0, 1) := by decide +kernel
theorem dX5_readFile_141 : decode cX5_readFile 141 = .ok (.invokevirtual 149, 3) := by decide +kernel
theorem dX5_readFile_144 : decode cX5_readFile 144 = .ok (.aload_n 0, 1) := by decide +kernel
theorem dX5_readFile_145 : decode cX5_readFile 145 = .ok (.iload 4, 2) := by decide +kernel
theorem dX5_readFile_147 : decode cX5_readFile 147 = .ok (.invokevirtual 153, 3) := by decide +kernel
theorem dX5_readFile_150 : decode cX5_readFile 150 = .ok (.ireturn, 1) := by decide +kernel
theorem dX5_read_0 : decode cX5_read 0 = .ok (.iload_n 1, 1) := by decide +kernel
theorem dX5_read_1 : decode cX5_read 1 = .ok (.invokestatic 113, 3) := by decide +kernel
theorem dX5_read_4 : decode cX5_read 4 = .ok (.ifCond .eq 11, 3) := by decide +kernel
theorem dX5_read_7 : decode cX5_read 7 = .ok (.aload_n 0, 1) := by decide +kernel
theorem dX5_read_8 : decode cX5_read 8 = .ok (.iload_n 2, 1) := by decide +kernel
theorem dX5_read_9 : decode cX5_read 9 = .ok (.invokevirtual 129, 3) := by decide +kernel
theorem dX5_read_12 : decode cX5_read 12 = .ok (.ifCond .ne 5, 3) := by decide +kernel
theorem dX5_read_15 : decode cX5_read 15 = .ok (.iconst (-1), 1) := by decide +kernel
theorem dX5_read_16 : decode cX5_read 16 = .ok (.ireturn, 1) := by decide +kernel
theorem dX5_read_17 : decode cX5_read 17 = .ok (.aload_n 0, 1) := by decide +kernel
theorem dX5_read_18 : decode cX5_read 18 = .ok (.getfield 35, 3) := by decide +kernel
theorem dX5_read_21 : decode cX5_read 21 = .ok (.sipush 1000, 3) := by decide +kernel
theorem dX5_read_24 : decode cX5_read 24 = .ok (.iload_n 2, 1) := by decide +kernel
theorem dX5_read_25 : decode cX5_read 25 = .ok (.imul, 1) := by decide +kernel
theorem dX5_read_26 : decode cX5_read 26 = .ok (.iload_n 1, 1) := by decide +kernel
theorem dX5_read_27 : decode cX5_read 27 = .ok (.iadd, 1) := by decide +kernel
theorem dX5_read_28 : decode cX5_read 28 = .ok (.iaload, 1) := by decide +kernel
theorem dX5_read_29 : decode cX5_read 29 = .ok (.ifCond .ne 8, 3) := by decide +kernel
theorem dX5_read_32 : decode cX5_read 32 = .ok (.bipush (-2), 2) := by decide +kernel
theorem dX5_read_34 : decode cX5_read 34 = .ok (.goto 9, 3) := by decide +kernel
theorem dX5_read_37 : decode cX5_read 37 = .ok (.aload_n 0, 1) := by decide +kernel
theorem dX5_read_38 : decode cX5_read 38 = .ok (.iload_n 1, 1) := by decide +kernel
theorem dX5_read_39 : decode cX5_read 39 = .ok (.iload_n 2, 1) := by decide +kernel
theorem dX5_read_40 : decode cX5_read 40 = .ok (.invokevirtual 160, 3) := by decide +kernel
theorem dX5_read_43 : decode cX5_read 43 = .ok (.ireturn, 1) := by decide +kernel
theorem dX5_move_0 : decode cX5_move 0 = .ok (.iload_n 1, 1) := by decide +kernel
theorem dX5_move_1 : decode cX5_move 1 = .ok (.invokestatic 113, 3) := by decide +kernel
theorem dX5_move_4 : decode cX5_move 4 = .ok (.ifCond .eq 24, 3) := by decide +kernel
theorem dX5_move_7 : decode cX5_move 7 = .ok (.aload_n 0, 1) := by decide +kernel
theorem dX5_move_8 : decode cX5_move 8 = .ok (.iload_n 2, 1) := by decide +kernel
theorem dX5_move_9 : decode cX5_move 9 = .ok (.invokevirtual 129, 3) := by decide +kernel
theorem dX5_move_12 : decode cX5_move 12 = .ok (.ifCond .eq 16, 3) := by decide +kernel
theorem dX5_move_15 : decode cX5_move 15 = .ok (.aload_n 0, 1) := by decide +kernel
theorem dX5_move_16 : decode cX5_move 16 = .ok (.iload_n 3, 1) := by decide +kernel
theorem dX5_move_17 : decode cX5_move 17 = .ok (.invokevirtual 129, 3) := by decide +kernel
theorem dX5_move_20 : decode cX5_move 20 = .ok (.ifCond .eq 8, 3) := by decide +kernel
theorem dX5_move_23 : decode cX5_move 23 = .ok (.iload_n 2, 1) := by decide +kernel
theorem dX5_move_24 : decode cX5_move 24 = .ok (.iload_n 3, 1) := by decide +kernel
theorem dX5_move_25 : decode cX5_move 25 = .ok (.if_icmp .ne 5, 3) := by decide +kernel
theorem dX5_move_28 : decode cX5_move 28 = .ok (.iconst (-1), 1) := by decide +kernel
theorem dX5_move_29 : decode cX5_move 29 = .ok (.ireturn, 1) := by decide +kernel
theorem dX5_move_30 : decode cX5_move 30 = .ok (.aload_n 0, 1) := by decide +kernel
theorem dX5_move_31 : decode cX5_move 31 = .ok (.getfield 35, 3) := by decide +kernel
theorem dX5_move_34 : decode cX5_move 34 = .ok (.sipush 1000, 3) := by decide +kernel
theorem dX5_move_37 : decode cX5_move 37 = .ok (.iload_n 2, 1) := by decide +kernel
theorem dX5_move_38 : decode cX5_move 38 = .ok (.imul, 1) := by decide +kernel
theorem dX5_move_39 : decode cX5_move 39 = .ok (.iload_n 1, 1) := by decide +kernel
theorem dX5_move_40 : decode cX5_move 40 = .ok (.iadd, 1) := by decide +kernel
theorem dX5_move_41 : decode cX5_move 41 = .ok (.iaload, 1) := by decide +kernel
theorem dX5_move_42 : decode cX5_move 42 = .ok (.ifCond .ne 6, 3) := by decide +kernel
theorem dX5_move_45 : decode cX5_move 45 = .ok (.bipush (-2), 2) := by decide +kernel
theorem dX5_move_47 : decode cX5_move 47 = .ok (.ireturn, 1) := by decide +kernel
theorem dX5_move_48 : decode cX5_move 48 = .ok (.aload_n 0, 1) := by decide +kernel
theorem dX5_move_49 : decode cX5_move 49 = .ok (.invokevirtual 132, 3) := by decide +kernel
theorem dX5_move_52 : decode cX5_move 52 = .ok (.aload_n 0, 1) := by decide +kernel
theorem dX5_move_53 : decode cX5_move 53 = .ok (.getfield 35, 3) := by decide +kernel
theorem dX5_move_56 : decode cX5_move 56 = .ok (.sipush 1000, 3) := by decide +kernel
theorem dX5_move_59 : decode cX5_move 59 = .ok (.iload_n 2, 1) := by decide +kernel
theorem dX5_move_60 : decode cX5_move 60 = .ok (.imul, 1) := by decide +kernel
theorem dX5_move_61 : decode cX5_move 61 = .ok (.iload_n 1, 1) := by decide +kernel
theorem dX5_move_62 : decode cX5_move 62 = .ok (.iadd, 1) := by decide +kernel
theorem dX5_move_63 : decode cX5_move 63 = .ok (.iaload, 1) := by decide +kernel
theorem dX5_move_64 : decode cX5_move 64 = .ok (.iconst 1, 1) := by decide +kernel
theorem dX5_move_65 : decode cX5_move 65 = .ok (.isub, 1) := by decide +kernel
theorem dX5_move_66 : decode cX5_move 66 = .ok (.istore 4, 2) := by decide +kernel
theorem dX5_move_68 : decode cX5_move 68 = .ok (.aload_n 0, 1) := by decide +kernel
theorem dX5_move_69 : decode cX5_move 69 = .ok (.getfield 28, 3) := by decide +kernel
theorem dX5_move_72 : decode cX5_move 72 = .ok (.bipush 100, 2) := by decide +kernel
theorem dX5_move_74 : decode cX5_move 74 = .ok (.iload_n 2, 1) := by decide +kernel
theorem dX5_move_75 : decode cX5_move 75 = .ok (.imul, 1) := by decide +kernel
theorem dX5_move_76 : decode cX5_move 76 = .ok (.iload 4, 2) := by decide +kernel
theorem dX5_move_78 : decode cX5_move 78 = .ok (.iadd, 1) := by decide +kernel
theorem dX5_move_79 : decode cX5_move 79 = .ok (.iaload, 1) := by decide +kernel
theorem dX5_move_80 : decode cX5_move 80 = .ok (.istore 5, 2) := by decide +kernel
theorem dX5_move_82 : decode cX5_move 82 = .ok (.aload_n 0, 1) := by decide +kernel
theorem dX5_move_83 : decode cX5_move 83 = .ok (.getfield 13, 3) := by decide +kernel
theorem dX5_move_86 : decode cX5_move 86 = .ok (.iload_n 3, 1) := by decide +kernel
theorem dX5_move_87 : decode cX5_move 87 = .ok (.iaload, 1) := by decide +kernel
theorem dX5_move_88 : decode cX5_move 88 = .ok (.istore 6, 2) := by decide +kernel
theorem dX5_move_90 : decode cX5_move 90 = .ok (.aload_n 0, 1) := by decide +kernel
theorem dX5_move_91 : decode cX5_move 91 = .ok (.iconst 0, 1) := by decide +kernel
theorem dX5_move_92 : decode cX5_move 92 = .ok (.iload_n 2, 1) := by decide +kernel
theorem dX5_move_93 : decode cX5_move 93 = .ok (.invokevirtual 135, 3) := by decide +kernel
theorem dX5_move_96 : decode cX5_move 96 = .ok (.aload_n 0, 1) := by decide +kernel
theorem dX5_move_97 : decode cX5_move 97 = .ok (.iconst 1, 1) := by decide +kernel
theorem dX5_move_98 : decode cX5_move 98 = .ok (.iload_n 3, 1) := by decide +kernel
theorem dX5_move_99 : decode cX5_move 99 = .ok (.invokevirtual 135, 3) := by decide +kernel
theorem dX5_move_102 : decode cX5_move 102 = .ok (.aload_n 0, 1) := by decide +kernel
theorem dX5_move_103 : decode cX5_move 103 = .ok (.iconst 0, 1) := by decide +kernel
theorem dX5_move_104 : decode cX5_move 104 = .ok (.iload 4, 2) := by decide +kernel
theorem dX5_move_106 : decode cX5_move 106 = .ok (.invokevirtual 139, 3) := by decide +kernel
theorem dX5_move_109 : decode cX5_move 109 = .ok (.aload_n 0, 1) := by decide +kernel
theorem dX5_move_110 : decode cX5_move 110 = .ok (.iconst 1, 1) := by decide +kernel
theorem dX5_move_111 : decode cX5_move 111 = .ok (.iload 6, 2) := by decide +kernel
theorem dX5_move_113 : decode cX5_move 113 = .ok (.invokevirtual 139, 3) := by decide +kernel
theorem dX5_move_116 : decode cX5_move 116 = .ok (.iconst 0, 1) := by decide +kernel
theorem dX5_move_117 : decode cX5_move 117 = .ok (.istore 7, 2) := by decide +kernel
theorem dX5_move_119 : decode cX5_move 119 = .ok (.iload 7, 2) := by decide +kernel
theorem dX5_move_121 : decode cX5_move 121 = .ok (.iload 5, 2) := by decide +kernel
theorem dX5_move_123 : decode cX5_move 123 = .ok (.iconst 2, 1) := by decide +kernel
theorem dX5_move_124 : decode cX5_move 124 = .ok (.iadd, 1) := by decide +kernel
theorem dX5_move_125 : decode cX5_move 125 = .ok (.if_icmp .ge 49, 3) := by decide +kernel
theorem dX5_move_128 : decode cX5_move 128 = .ok (.aload_n 0, 1) := by decide +kernel
theorem dX5_move_129 : decode cX5_move 129 = .ok (.getfield 82, 3) := by decide +kernel
theorem dX5_move_132 : decode cX5_move 132 = .ok (.ifCond .ne 42, 3) := by decide +kernel
theorem dX5_move_135 : decode cX5_move 135 = .ok (.aload_n 0, 1) := by decide +kernel
theorem dX5_move_136 : decode cX5_move 136 = .ok (.iconst 0, 1) := by decide +kernel
theorem dX5_move_137 : decode cX5_move 137 = .ok (.invokevirtual 157, 3) := by decide +kernel
theorem dX5_move_140 : decode cX5_move 140 = .ok (.istore 8, 2) := by decide +kernel
theorem dX5_move_142 : decode cX5_move 142 = .ok (.aload_n 0, 1) := by decide +kernel
theorem dX5_move_143 : decode cX5_move 143 = .ok (.iconst 1, 1) := by decide +kernel
theorem dX5_move_144 : decode cX5_move 144 = .ok (.aload_n 0, 1) := by decide +kernel
theorem dX5_move_145 : decode cX5_move 145 = .ok (.getfield 22, 3) := by decide +kernel
theorem dX5_move_148 : decode cX5_move 148 = .ok (.iload 8, 2) := by decide +kernel
theorem dX5_move_150 : decode cX5_move 150 = .ok (.iaload, 1) := by decide +kernel
theorem dX5_move_151 : decode cX5_move 151 = .ok (.aload_n 0, 1) := by decide +kernel
theorem dX5_move_152 : decode cX5_move 152 = .ok (.getfield 25, 3) := by decide +kernel
theorem dX5_move_155 : decode cX5_move 155 = .ok (.iload 8, 2) := by decide +kernel
theorem dX5_move_157 : decode cX5_move 157 = .ok (.iaload, 1) := by decide +kernel
theorem dX5_move_158 : decode cX5_move 158 = .ok (.aload_n 0, 1) := by decide +kernel
theorem dX5_move_159 : decode cX5_move 159 = .ok (.getfield 28, 3) := by decide +kernel
theorem dX5_move_162 : decode cX5_move 162 = .ok (.iload 8, 2) := by decide +kernel
theorem dX5_move_164 : decode cX5_move 164 = .ok (.iaload, 1) := by decide +kernel
theorem dX5_move_165 : decode cX5_move 165 = .ok (.invokevirtual 142, 3) := by decide +kernel
theorem dX5_move_168 : decode cX5_move 168 = .ok (.iinc 7 1, 3) := by decide +kernel
theorem dX5_move_171 : decode cX5_move 171 = .ok (.goto (-52), 3) := by decide +kernel
theorem dX5_move_174 : decode cX5_move 174 = .ok (.aload_n 0, 1) := by decide +kernel
theorem dX5_move_175 : decode cX5_move 175 = .ok (.getfield 82, 3) := by decide +kernel
theorem dX5_move_178 : decode cX5_move 178 = .ok (.ifCond .ne 32, 3) := by decide +kernel
theorem dX5_move_181 : decode cX5_move 181 = .ok (.aload_n 0, 1) := by decide +kernel
theorem dX5_move_182 : decode cX5_move 182 = .ok (.getfield 35, 3) := by decide +kernel
theorem dX5_move_185 : decode cX5_move 185 = .ok (.sipush 1000, 3) := by decide +kernel
theorem dX5_move_188 : decode cX5_move 188 = .ok (.iload_n 3, 1) := by decide +kernel
theorem dX5_move_189 : decode cX5_move 189 = .ok (.imul, 1) := by decide +kernel
theorem dX5_move_190 : decode cX5_move 190 = .ok (.iload_n 1, 1) := by decide +kernel
theorem dX5_move_191 : decode cX5_move 191 = .ok (.iadd, 1) := by decide +kernel
theorem dX5_move_192 : decode cX5_move 192 = .ok (.iload 6, 2) := by decide +kernel
theorem dX5_move_194 : decode cX5_move 194 = .ok (.iconst 1, 1) := by decide +kernel
theorem dX5_move_195 : decode cX5_move 195 = .ok (.iadd, 1) := by decide +kernel
theorem dX5_move_196 : decode cX5_move 196 = .ok (.iastore, 1) := by decide +kernel
theorem dX5_move_197 : decode cX5_move 197 = .ok (.aload_n 0, 1) := by decide +kernel
theorem dX5_move_198 : decode cX5_move 198 = .ok (.getfield 35, 3) := by decide +kernel
theorem dX5_move_201 : decode cX5_move 201 = .ok (.sipush 1000, 3) := by decide +kernel
theorem dX5_move_204 : decode cX5_move 204 = .ok (.iload_n 2, 1) := by decide +kernel
theorem dX5_move_205 : decode cX5_move 205 = .ok (.imul, 1) := by decide +kernel
theorem dX5_move_206 : decode cX5_move 206 = .ok (.iload_n 1, 1) := by decide +kernel
theorem dX5_move_207 : decode cX5_move 207 = .ok (.iadd, 1) := by decide +kernel
theorem dX5_move_208 : decode cX5_move 208 = .ok (.iconst 0, 1) := by decide +kernel
theorem dX5_move_209 : decode cX5_move 209 = .ok (.iastore, 1) := by decide +kernel
theorem dX5_move_210 : decode cX5_move 210 = .ok (.aload_n 0, 1) := by decide +kernel
theorem dX5_move_211 : decode cX5_move 211 = .ok (.iconst 1, 1) := by decide +kernel
theorem dX5_move_212 : decode cX5_move 212 = .ok (.iload 6, 2) := by decide +kernel
theorem dX5_move_214 : decode cX5_move 214 = .ok (.invokevirtual 146, 3) := by decide +kernel
theorem dX5_move_217 : decode cX5_move 217 = .ok (.aload_n 0, 1) := by decide +kernel
theorem dX5_move_218 : decode cX5_move 218 = .ok (.iconst 1, 1) := by decide +kernel
theorem dX5_move_219 : decode cX5_move 219 = .ok (.invokevirtual 149, 3) := by decide +kernel
theorem dX5_move_222 : decode cX5_move 222 = .ok (.aload_n 0, 1) := by decide +kernel
theorem dX5_move_223 : decode cX5_move 223 = .ok (.iconst 0, 1) := by decide +kernel
theorem dX5_move_224 : decode cX5_move 224 = .ok (.invokevirtual 149, 3) := by decide +kernel
theorem dX5_move_227 : decode cX5_move 227 = .ok (.aload_n 0, 1) := by decide +kernel
theorem dX5_move_228 : decode cX5_move 228 = .ok (.iload 6, 2) := by decide +kernel
theorem dX5_move_230 : decode cX5_move 230 = .ok (.invokevirtual 153, 3) := by decide +kernel
theorem dX5_move_233 : decode cX5_move 233 = .ok (.ireturn, 1) := by decide +kernel
theorem dX5_salvage_0 : decode cX5_salvage 0 = .ok (.iload_n 1, 1) := by decide +kernel
theorem dX5_salvage_1 : decode cX5_salvage 1 = .ok (.invokestatic 113, 3) := by decide +kernel
theorem dX5_salvage_4 : decode cX5_salvage 4 = .ok (.ifCond .ne 5, 3) := by decide +kernel
theorem dX5_salvage_7 : decode cX5_salvage 7 = .ok (.iconst (-1), 1) := by decide +kernel
theorem dX5_salvage_8 : decode cX5_salvage 8 = .ok (.ireturn, 1) := by decide +kernel
theorem dX5_salvage_9 : decode cX5_salvage 9 = .ok (.bipush (-2), 2) := by decide +kernel
theorem dX5_salvage_11 : decode cX5_salvage 11 = .ok (.istore_n 2, 1) := by decide +kernel
theorem dX5_salvage_12 : decode cX5_salvage 12 = .ok (.iconst 0, 1) := by decide +kernel
theorem dX5_salvage_13 : decode cX5_salvage 13 = .ok (.istore_n 3, 1) := by decide +kernel
theorem dX5_salvage_14 : decode cX5_salvage 14 = .ok (.iload_n 3, 1) := by decide +kernel
theorem dX5_salvage_15 : decode cX5_salvage 15 = .ok (.aload_n 0, 1) := by decide +kernel
theorem dX5_salvage_16 : decode cX5_salvage 16 = .ok (.getfield 75, 3) := by decide +kernel
theorem dX5_salvage_19 : decode cX5_salvage 19 = .ok (.if_icmp .ge 43, 3) := by decide +kernel
theorem dX5_salvage_22 : decode cX5_salvage 22 = .ok (.iload_n 2, 1) := by decide +kernel
theorem dX5_salvage_23 : decode cX5_salvage 23 = .ok (.bipush (-4), 2) := by decide +kernel
theorem dX5_salvage_25 : decode cX5_salvage 25 = .ok (.if_icmp .eq 37, 3) := by decide +kernel
theorem dX5_salvage_28 : decode cX5_salvage 28 = .ok (.aload_n 0, 1) := by decide +kernel
theorem dX5_salvage_29 : decode cX5_salvage 29 = .ok (.getfield 35, 3) := by decide +kernel
theorem dX5_salvage_32 : decode cX5_salvage 32 = .ok (.sipush 1000, 3) := by decide +kernel
theorem dX5_salvage_35 : decode cX5_salvage 35 = .ok (.iload_n 3, 1) := by decide +kernel
theorem dX5_salvage_36 : decode cX5_salvage 36 = .ok (.imul, 1) := by decide +kernel
theorem dX5_salvage_37 : decode cX5_salvage 37 = .ok (.iload_n 1, 1) := by decide +kernel
theorem dX5_salvage_38 : decode cX5_salvage 38 = .ok (.iadd, 1) := by decide +kernel
theorem dX5_salvage_39 : decode cX5_salvage 39 = .ok (.iaload, 1) := by decide +kernel
theorem dX5_salvage_40 : decode cX5_salvage 40 = .ok (.ifCond .le 16, 3) := by decide +kernel
theorem dX5_salvage_43 : decode cX5_salvage 43 = .ok (.aload_n 0, 1) := by decide +kernel
theorem dX5_salvage_44 : decode cX5_salvage 44 = .ok (.iload_n 1, 1) := by decide +kernel
theorem dX5_salvage_45 : decode cX5_salvage 45 = .ok (.iload_n 3, 1) := by decide +kernel
theorem dX5_salvage_46 : decode cX5_salvage 46 = .ok (.invokevirtual 160, 3) := by decide +kernel
theorem dX5_salvage_49 : decode cX5_salvage 49 = .ok (.istore_n 2, 1) := by decide +kernel
theorem dX5_salvage_50 : decode cX5_salvage 50 = .ok (.iload_n 2, 1) := by decide +kernel
theorem dX5_salvage_51 : decode cX5_salvage 51 = .ok (.ifCond .lt 5, 3) := by decide +kernel
theorem dX5_salvage_54 : decode cX5_salvage 54 = .ok (.iload_n 3, 1) := by decide +kernel
theorem dX5_salvage_55 : decode cX5_salvage 55 = .ok (.ireturn, 1) := by decide +kernel
theorem dX5_salvage_56 : decode cX5_salvage 56 = .ok (.iinc 3 1, 3) := by decide +kernel
theorem dX5_salvage_59 : decode cX5_salvage 59 = .ok (.goto (-45), 3) := by decide +kernel
theorem dX5_salvage_62 : decode cX5_salvage 62 = .ok (.iload_n 2, 1) := by decide +kernel
theorem dX5_salvage_63 : decode cX5_salvage 63 = .ok (.ireturn, 1) := by decide +kernel
theorem dX5_isFile_0 : decode cX5_isFile 0 = .ok (.bipush 100, 2) := by decide +kernel
theorem dX5_isFile_2 : decode cX5_isFile 2 = .ok (.iload_n 1, 1) := by decide +kernel
theorem dX5_isFile_3 : decode cX5_isFile 3 = .ok (.imul, 1) := by decide +kernel
theorem dX5_isFile_4 : decode cX5_isFile 4 = .ok (.iload_n 2, 1) := by decide +kernel
theorem dX5_isFile_5 : decode cX5_isFile 5 = .ok (.iadd, 1) := by decide +kernel
theorem dX5_isFile_6 : decode cX5_isFile 6 = .ok (.istore_n 3, 1) := by decide +kernel
theorem dX5_isFile_7 : decode cX5_isFile 7 = .ok (.aload_n 0, 1) := by decide +kernel
theorem dX5_isFile_8 : decode cX5_isFile 8 = .ok (.getfield 22, 3) := by decide +kernel
theorem dX5_isFile_11 : decode cX5_isFile 11 = .ok (.iload_n 3, 1) := by decide +kernel
theorem dX5_isFile_12 : decode cX5_isFile 12 = .ok (.iaload, 1) := by decide +kernel
theorem dX5_isFile_13 : decode cX5_isFile 13 = .ok (.iconst 1, 1) := by decide +kernel
theorem dX5_isFile_14 : decode cX5_isFile 14 = .ok (.if_icmp .ne 35, 3) := by decide +kernel
theorem dX5_isFile_17 : decode cX5_isFile 17 = .ok (.iload_n 2, 1) := by decide +kernel
theorem dX5_isFile_18 : decode cX5_isFile 18 = .ok (.aload_n 0, 1) := by decide +kernel
theorem dX5_isFile_19 : decode cX5_isFile 19 = .ok (.getfield 28, 3) := by decide +kernel
theorem dX5_isFile_22 : decode cX5_isFile 22 = .ok (.iload_n 3, 1) := by decide +kernel
theorem dX5_isFile_23 : decode cX5_isFile 23 = .ok (.iaload, 1) := by decide +kernel
theorem dX5_isFile_24 : decode cX5_isFile 24 = .ok (.iadd, 1) := by decide +kernel
theorem dX5_isFile_25 : decode cX5_isFile 25 = .ok (.iconst 1, 1) := by decide +kernel
theorem dX5_isFile_26 : decode cX5_isFile 26 = .ok (.iadd, 1) := by decide +kernel
theorem dX5_isFile_27 : decode cX5_isFile 27 = .ok (.aload_n 0, 1) := by decide +kernel
theorem dX5_isFile_28 : decode cX5_isFile 28 = .ok (.getfield 13, 3) := by decide +kernel
theorem dX5_isFile_31 : decode cX5_isFile 31 = .ok (.iload_n 1, 1) := by decide +kernel
theorem dX5_isFile_32 : decode cX5_isFile 32 = .ok (.iaload, 1) := by decide +kernel
theorem dX5_isFile_33 : decode cX5_isFile 33 = .ok (.if_icmp .ge 16, 3) := by decide +kernel
theorem dX5_isFile_36 : decode cX5_isFile 36 = .ok (.aload_n 0, 1) := by decide +kernel
theorem dX5_isFile_37 : decode cX5_isFile 37 = .ok (.getfield 31, 3) := by decide +kernel
theorem dX5_isFile_40 : decode cX5_isFile 40 = .ok (.iload_n 3, 1) := by decide +kernel
theorem dX5_isFile_41 : decode cX5_isFile 41 = .ok (.baload, 1) := by decide +kernel
theorem dX5_isFile_42 : decode cX5_isFile 42 = .ok (.ifCond .ne 7, 3) := by decide +kernel
theorem dX5_isFile_45 : decode cX5_isFile 45 = .ok (.iconst 1, 1) := by decide +kernel
theorem dX5_isFile_46 : decode cX5_isFile 46 = .ok (.goto 4, 3) := by decide +kernel
theorem dX5_isFile_49 : decode cX5_isFile 49 = .ok (.iconst 0, 1) := by decide +kernel
theorem dX5_isFile_50 : decode cX5_isFile 50 = .ok (.istore 4, 2) := by decide +kernel
theorem dX5_isFile_52 : decode cX5_isFile 52 = .ok (.aload_n 0, 1) := by decide +kernel
theorem dX5_isFile_53 : decode cX5_isFile 53 = .ok (.getfield 28, 3) := by decide +kernel
theorem dX5_isFile_56 : decode cX5_isFile 56 = .ok (.iload_n 3, 1) := by decide +kernel
theorem dX5_isFile_57 : decode cX5_isFile 57 = .ok (.iaload, 1) := by decide +kernel
theorem dX5_isFile_58 : decode cX5_isFile 58 = .ok (.istore 5, 2) := by decide +kernel
theorem dX5_isFile_60 : decode cX5_isFile 60 = .ok (.iconst 1, 1) := by decide +kernel
theorem dX5_isFile_61 : decode cX5_isFile 61 = .ok (.istore 6, 2) := by decide +kernel
theorem dX5_isFile_63 : decode cX5_isFile 63 = .ok (.iload 6, 2) := by decide +kernel
theorem dX5_isFile_65 : decode cX5_isFile 65 = .ok (.iload 5, 2) := by decide +kernel
theorem dX5_isFile_67 : decode cX5_isFile 67 = .ok (.iconst 1, 1) := by decide +kernel
theorem dX5_isFile_68 : decode cX5_isFile 68 = .ok (.iadd, 1) := by decide +kernel
theorem dX5_isFile_69 : decode cX5_isFile 69 = .ok (.if_icmp .gt 57, 3) := by decide +kernel
theorem dX5_isFile_72 : decode cX5_isFile 72 = .ok (.iload 4, 2) := by decide +kernel
theorem dX5_isFile_74 : decode cX5_isFile 74 = .ok (.ifCond .eq 52, 3) := by decide +kernel
theorem dX5_isFile_77 : decode cX5_isFile 77 = .ok (.aload_n 0, 1) := by decide +kernel
theorem dX5_isFile_78 : decode cX5_isFile 78 = .ok (.getfield 22, 3) := by decide +kernel
theorem dX5_isFile_81 : decode cX5_isFile 81 = .ok (.iload_n 3, 1) := by decide +kernel
theorem dX5_isFile_82 : decode cX5_isFile 82 = .ok (.iload 6, 2) := by decide +kernel
theorem dX5_isFile_84 : decode cX5_isFile 84 = .ok (.iadd, 1) := by decide +kernel
theorem dX5_isFile_85 : decode cX5_isFile 85 = .ok (.iaload, 1) := by decide +kernel
theorem dX5_isFile_86 : decode cX5_isFile 86 = .ok (.iload 6, 2) := by decide +kernel
theorem dX5_isFile_88 : decode cX5_isFile 88 = .ok (.iload 5, 2) := by decide +kernel
theorem dX5_isFile_90 : decode cX5_isFile 90 = .ok (.if_icmp .gt 7, 3) := by decide +kernel
theorem dX5_isFile_93 : decode cX5_isFile 93 = .ok (.iconst 2, 1) := by decide +kernel
theorem dX5_isFile_94 : decode cX5_isFile 94 = .ok (.goto 4, 3) := by decide +kernel
theorem dX5_isFile_97 : decode cX5_isFile 97 = .ok (.iconst 3, 1) := by decide +kernel
theorem dX5_isFile_98 : decode cX5_isFile 98 = .ok (.if_icmp .ne 19, 3) := by decide +kernel
theorem dX5_isFile_101 : decode cX5_isFile 101 = .ok (.aload_n 0, 1) := by decide +kernel
theorem dX5_isFile_102 : decode cX5_isFile 102 = .ok (.getfield 31, 3) := by decide +kernel
theorem dX5_isFile_105 : decode cX5_isFile 105 = .ok (.iload_n 3, 1) := by decide +kernel
theorem dX5_isFile_106 : decode cX5_isFile 106 = .ok (.iload 6, 2) := by decide +kernel
theorem dX5_isFile_108 : decode cX5_isFile 108 = .ok (.iadd, 1) := by decide +kernel
theorem dX5_isFile_109 : decode cX5_isFile 109 = .ok (.baload, 1) := by decide +kernel
theorem dX5_isFile_110 : decode cX5_isFile 110 = .ok (.ifCond .ne 7, 3) := by decide +kernel
theorem dX5_isFile_113 : decode cX5_isFile 113 = .ok (.iconst 1, 1) := by decide +kernel
theorem dX5_isFile_114 : decode cX5_isFile 114 = .ok (.goto 4, 3) := by decide +kernel
theorem dX5_isFile_117 : decode cX5_isFile 117 = .ok (.iconst 0, 1) := by decide +kernel
theorem dX5_isFile_118 : decode cX5_isFile 118 = .ok (.istore 4, 2) := by decide +kernel
theorem dX5_isFile_120 : decode cX5_isFile 120 = .ok (.iinc 6 1, 3) := by decide +kernel
theorem dX5_isFile_123 : decode cX5_isFile 123 = .ok (.goto (-60), 3) := by decide +kernel
theorem dX5_isFile_126 : decode cX5_isFile 126 = .ok (.iload 4, 2) := by decide +kernel
theorem dX5_isFile_128 : decode cX5_isFile 128 = .ok (.ireturn, 1) := by decide +kernel
theorem dX5_scan_0 : decode cX5_scan 0 = .ok (.aload_n 0, 1) := by decide +kernel
theorem dX5_scan_1 : decode cX5_scan 1 = .ok (.iload_n 1, 1) := by decide +kernel
theorem dX5_scan_2 : decode cX5_scan 2 = .ok (.invokevirtual 129, 3) := by decide +kernel
theorem dX5_scan_5 : decode cX5_scan 5 = .ok (.ifCond .ne 5, 3) := by decide +kernel
theorem dX5_scan_8 : decode cX5_scan 8 = .ok (.iconst (-1), 1) := by decide +kernel
theorem dX5_scan_9 : decode cX5_scan 9 = .ok (.ireturn, 1) := by decide +kernel
theorem dX5_scan_10 : decode cX5_scan 10 = .ok (.aload_n 0, 1) := by decide +kernel
theorem dX5_scan_11 : decode cX5_scan 11 = .ok (.invokevirtual 132, 3) := by decide +kernel
theorem dX5_scan_14 : decode cX5_scan 14 = .ok (.aload_n 0, 1) := by decide +kernel
theorem dX5_scan_15 : decode cX5_scan 15 = .ok (.iconst 0, 1) := by decide +kernel
theorem dX5_scan_16 : decode cX5_scan 16 = .ok (.iload_n 1, 1) := by decide +kernel
theorem dX5_scan_17 : decode cX5_scan 17 = .ok (.invokevirtual 135, 3) := by decide +kernel
theorem dX5_scan_20 : decode cX5_scan 20 = .ok (.aload_n 0, 1) := by decide +kernel
theorem dX5_scan_21 : decode cX5_scan 21 = .ok (.getfield 13, 3) := by decide +kernel
theorem dX5_scan_24 : decode cX5_scan 24 = .ok (.iload_n 1, 1) := by decide +kernel
theorem dX5_scan_25 : decode cX5_scan 25 = .ok (.iaload, 1) := by decide +kernel
theorem dX5_scan_26 : decode cX5_scan 26 = .ok (.istore_n 2, 1) := by decide +kernel
theorem dX5_scan_27 : decode cX5_scan 27 = .ok (.iconst 0, 1) := by decide +kernel
theorem dX5_scan_28 : decode cX5_scan 28 = .ok (.istore_n 3, 1) := by decide +kernel
theorem dX5_scan_29 : decode cX5_scan 29 = .ok (.iload_n 3, 1) := by decide +kernel
theorem dX5_scan_30 : decode cX5_scan 30 = .ok (.iload_n 2, 1) := by decide +kernel
theorem dX5_scan_31 : decode cX5_scan 31 = .ok (.if_icmp .ge 43, 3) := by decide +kernel
theorem dX5_scan_34 : decode cX5_scan 34 = .ok (.aload_n 0, 1) := by decide +kernel
theorem dX5_scan_35 : decode cX5_scan 35 = .ok (.getfield 82, 3) := by decide +kernel
theorem dX5_scan_38 : decode cX5_scan 38 = .ok (.ifCond .ne 36, 3) := by decide +kernel
theorem dX5_scan_41 : decode cX5_scan 41 = .ok (.aload_n 0, 1) := by decide +kernel
theorem dX5_scan_42 : decode cX5_scan 42 = .ok (.iconst 0, 1) := by decide +kernel
theorem dX5_scan_43 : decode cX5_scan 43 = .ok (.invokevirtual 157, 3) := by decide +kernel
theorem dX5_scan_46 : decode cX5_scan 46 = .ok (.pop, 1) := by decide +kernel
theorem dX5_scan_47 : decode cX5_scan 47 = .ok (.aload_n 0, 1) := by decide +kernel
theorem dX5_scan_48 : decode cX5_scan 48 = .ok (.aload_n 0, 1) := by decide +kernel
theorem dX5_scan_49 : decode cX5_scan 49 = .ok (.getfield 82, 3) := by decide +kernel
theorem dX5_scan_52 : decode cX5_scan 52 = .ok (.bipush (-7), 2) := by decide +kernel
theorem dX5_scan_54 : decode cX5_scan 54 = .ok (.if_icmp .ne 7, 3) := by decide +kernel
theorem dX5_scan_57 : decode cX5_scan 57 = .ok (.iconst 0, 1) := by decide +kernel
theorem dX5_scan_58 : decode cX5_scan 58 = .ok (.goto 7, 3) := by decide +kernel
theorem dX5_scan_61 : decode cX5_scan 61 = .ok (.aload_n 0, 1) := by decide +kernel
theorem dX5_scan_62 : decode cX5_scan 62 = .ok (.getfield 82, 3) := by decide +kernel
theorem dX5_scan_65 : decode cX5_scan 65 = .ok (.putfield 82, 3) := by decide +kernel
theorem dX5_scan_68 : decode cX5_scan 68 = .ok (.iinc 3 1, 3) := by decide +kernel
theorem dX5_scan_71 : decode cX5_scan 71 = .ok (.goto (-42), 3) := by decide +kernel
theorem dX5_scan_74 : decode cX5_scan 74 = .ok (.iconst 0, 1) := by decide +kernel
theorem dX5_scan_75 : decode cX5_scan 75 = .ok (.istore_n 3, 1) := by decide +kernel
theorem dX5_scan_76 : decode cX5_scan 76 = .ok (.aload_n 0, 1) := by decide +kernel
theorem dX5_scan_77 : decode cX5_scan 77 = .ok (.getfield 82, 3) := by decide +kernel
theorem dX5_scan_80 : decode cX5_scan 80 = .ok (.ifCond .ne 83, 3) := by decide +kernel
theorem dX5_scan_83 : decode cX5_scan 83 = .ok (.aload_n 0, 1) := by decide +kernel
theorem dX5_scan_84 : decode cX5_scan 84 = .ok (.iload_n 1, 1) := by decide +kernel
theorem dX5_scan_85 : decode cX5_scan 85 = .ok (.invokevirtual 163, 3) := by decide +kernel
theorem dX5_scan_88 : decode cX5_scan 88 = .ok (.pop, 1) := by decide +kernel
theorem dX5_scan_89 : decode cX5_scan 89 = .ok (.iconst 0, 1) := by decide +kernel
theorem dX5_scan_90 : decode cX5_scan 90 = .ok (.istore 4, 2) := by decide +kernel
theorem dX5_scan_92 : decode cX5_scan 92 = .ok (.iload 4, 2) := by decide +kernel
theorem dX5_scan_94 : decode cX5_scan 94 = .ok (.iload_n 2, 1) := by decide +kernel
theorem dX5_scan_95 : decode cX5_scan 95 = .ok (.if_icmp .ge 68, 3) := by decide +kernel
theorem dX5_scan_98 : decode cX5_scan 98 = .ok (.aload_n 0, 1) := by decide +kernel
theorem dX5_scan_99 : decode cX5_scan 99 = .ok (.iload_n 1, 1) := by decide +kernel
theorem dX5_scan_100 : decode cX5_scan 100 = .ok (.iload 4, 2) := by decide +kernel
theorem dX5_scan_102 : decode cX5_scan 102 = .ok (.invokevirtual 166, 3) := by decide +kernel
theorem dX5_scan_105 : decode cX5_scan 105 = .ok (.ifCond .eq 52, 3) := by decide +kernel
theorem dX5_scan_108 : decode cX5_scan 108 = .ok (.sipush 1000, 3) := by decide +kernel
theorem dX5_scan_111 : decode cX5_scan 111 = .ok (.iload_n 1, 1) := by decide +kernel
theorem dX5_scan_112 : decode cX5_scan 112 = .ok (.imul, 1) := by decide +kernel
theorem dX5_scan_113 : decode cX5_scan 113 = .ok (.aload_n 0, 1) := by decide +kernel
theorem dX5_scan_114 : decode cX5_scan 114 = .ok (.getfield 25, 3) := by decide +kernel
theorem dX5_scan_117 : decode cX5_scan 117 = .ok (.bipush 100, 2) := by decide +kernel
theorem dX5_scan_119 : decode cX5_scan 119 = .ok (.iload_n 1, 1) := by decide +kernel
theorem dX5_scan_120 : decode cX5_scan 120 = .ok (.imul, 1) := by decide +kernel
theorem dX5_scan_121 : decode cX5_scan 121 = .ok (.iload 4, 2) := by decide +kernel
theorem dX5_scan_123 : decode cX5_scan 123 = .ok (.iadd, 1) := by decide +kernel
theorem dX5_scan_124 : decode cX5_scan 124 = .ok (.iaload, 1) := by decide +kernel
theorem dX5_scan_125 : decode cX5_scan 125 = .ok (.iadd, 1) := by decide +kernel
theorem dX5_scan_126 : decode cX5_scan 126 = .ok (.istore 5, 2) := by decide +kernel
theorem dX5_scan_128 : decode cX5_scan 128 = .ok (.aload_n 0, 1) := by decide +kernel
theorem dX5_scan_129 : decode cX5_scan 129 = .ok (.getfield 35, 3) := by decide +kernel
theorem dX5_scan_132 : decode cX5_scan 132 = .ok (.iload 5, 2) := by decide +kernel
theorem dX5_scan_134 : decode cX5_scan 134 = .ok (.iaload, 1) := by decide +kernel
theorem dX5_scan_135 : decode cX5_scan 135 = .ok (.ifCond .ne 9, 3) := by decide +kernel
theorem dX5_scan_138 : decode cX5_scan 138 = .ok (.iload_n 3, 1) := by decide +kernel
theorem dX5_scan_139 : decode cX5_scan 139 = .ok (.iconst 1, 1) := by decide +kernel
theorem dX5_scan_140 : decode cX5_scan 140 = .ok (.iadd, 1) := by decide +kernel
theorem dX5_scan_141 : decode cX5_scan 141 = .ok (.goto 4, 3) := by decide +kernel
theorem dX5_scan_144 : decode cX5_scan 144 = .ok (.iload_n 3, 1) := by decide +kernel
theorem dX5_scan_145 : decode cX5_scan 145 = .ok (.istore_n 3, 1) := by decide +kernel
theorem dX5_scan_146 : decode cX5_scan 146 = .ok (.aload_n 0, 1) := by decide +kernel
theorem dX5_scan_147 : decode cX5_scan 147 = .ok (.getfield 35, 3) := by decide +kernel
theorem dX5_scan_150 : decode cX5_scan 150 = .ok (.iload 5, 2) := by decide +kernel
theorem dX5_scan_152 : decode cX5_scan 152 = .ok (.iload 4, 2) := by decide +kernel
theorem dX5_scan_154 : decode cX5_scan 154 = .ok (.iconst 1, 1) := by decide +kernel
theorem dX5_scan_155 : decode cX5_scan 155 = .ok (.iadd, 1) := by decide +kernel
theorem dX5_scan_156 : decode cX5_scan 156 = .ok (.iastore, 1) := by decide +kernel
theorem dX5_scan_157 : decode cX5_scan 157 = .ok (.iinc 4 1, 3) := by decide +kernel
theorem dX5_scan_160 : decode cX5_scan 160 = .ok (.goto (-68), 3) := by decide +kernel
theorem dX5_scan_163 : decode cX5_scan 163 = .ok (.aload_n 0, 1) := by decide +kernel
theorem dX5_scan_164 : decode cX5_scan 164 = .ok (.iconst 0, 1) := by decide +kernel
theorem dX5_scan_165 : decode cX5_scan 165 = .ok (.invokevirtual 149, 3) := by decide +kernel
theorem dX5_scan_168 : decode cX5_scan 168 = .ok (.aload_n 0, 1) := by decide +kernel
theorem dX5_scan_169 : decode cX5_scan 169 = .ok (.iload_n 3, 1) := by decide +kernel
theorem dX5_scan_170 : decode cX5_scan 170 = .ok (.invokevirtual 153, 3) := by decide +kernel
theorem dX5_scan_173 : decode cX5_scan 173 = .ok (.ireturn, 1) := by decide +kernel
theorem dX5_forget_0 : decode cX5_forget 0 = .ok (.iconst 0, 1) := by decide +kernel
theorem dX5_forget_1 : decode cX5_forget 1 = .ok (.istore_n 2, 1) := by decide +kernel
theorem dX5_forget_2 : decode cX5_forget 2 = .ok (.iconst 0, 1) := by decide +kernel
theorem dX5_forget_3 : decode cX5_forget 3 = .ok (.istore_n 3, 1) := by decide +kernel
theorem dX5_forget_4 : decode cX5_forget 4 = .ok (.iload_n 3, 1) := by decide +kernel
theorem dX5_forget_5 : decode cX5_forget 5 = .ok (.sipush 1000, 3) := by decide +kernel
theorem dX5_forget_8 : decode cX5_forget 8 = .ok (.if_icmp .ge 45, 3) := by decide +kernel
theorem dX5_forget_11 : decode cX5_forget 11 = .ok (.aload_n 0, 1) := by decide +kernel
theorem dX5_forget_12 : decode cX5_forget 12 = .ok (.getfield 35, 3) := by decide +kernel
theorem dX5_forget_15 : decode cX5_forget 15 = .ok (.sipush 1000, 3) := by decide +kernel
theorem dX5_forget_18 : decode cX5_forget 18 = .ok (.iload_n 1, 1) := by decide +kernel
theorem dX5_forget_19 : decode cX5_forget 19 = .ok (.imul, 1) := by decide +kernel
theorem dX5_forget_20 : decode cX5_forget 20 = .ok (.iload_n 3, 1) := by decide +kernel
theorem dX5_forget_21 : decode cX5_forget 21 = .ok (.iadd, 1) := by decide +kernel
theorem dX5_forget_22 : decode cX5_forget 22 = .ok (.iaload, 1) := by decide +kernel
theorem dX5_forget_23 : decode cX5_forget 23 = .ok (.ifCond .le 9, 3) := by decide +kernel
theorem dX5_forget_26 : decode cX5_forget 26 = .ok (.iload_n 2, 1) := by decide +kernel
theorem dX5_forget_27 : decode cX5_forget 27 = .ok (.iconst 1, 1) := by decide +kernel
theorem dX5_forget_28 : decode cX5_forget 28 = .ok (.iadd, 1) := by decide +kernel
theorem dX5_forget_29 : decode cX5_forget 29 = .ok (.goto 4, 3) := by decide +kernel
theorem dX5_forget_32 : decode cX5_forget 32 = .ok (.iload_n 2, 1) := by decide +kernel
theorem dX5_forget_33 : decode cX5_forget 33 = .ok (.istore_n 2, 1) := by decide +kernel
theorem dX5_forget_34 : decode cX5_forget 34 = .ok (.aload_n 0, 1) := by decide +kernel
theorem dX5_forget_35 : decode cX5_forget 35 = .ok (.getfield 35, 3) := by decide +kernel
theorem dX5_forget_38 : decode cX5_forget 38 = .ok (.sipush 1000, 3) := by decide +kernel
theorem dX5_forget_41 : decode cX5_forget 41 = .ok (.iload_n 1, 1) := by decide +kernel
theorem dX5_forget_42 : decode cX5_forget 42 = .ok (.imul, 1) := by decide +kernel
theorem dX5_forget_43 : decode cX5_forget 43 = .ok (.iload_n 3, 1) := by decide +kernel
theorem dX5_forget_44 : decode cX5_forget 44 = .ok (.iadd, 1) := by decide +kernel
theorem dX5_forget_45 : decode cX5_forget 45 = .ok (.iconst 0, 1) := by decide +kernel
theorem dX5_forget_46 : decode cX5_forget 46 = .ok (.iastore, 1) := by decide +kernel
theorem dX5_forget_47 : decode cX5_forget 47 = .ok (.iinc 3 1, 3) := by decide +kernel
theorem dX5_forget_50 : decode cX5_forget 50 = .ok (.goto (-46), 3) := by decide +kernel
theorem dX5_forget_53 : decode cX5_forget 53 = .ok (.iload_n 2, 1) := by decide +kernel
theorem dX5_forget_54 : decode cX5_forget 54 = .ok (.ireturn, 1) := by decide +kernel
theorem dX5_lose_0 : decode cX5_lose 0 = .ok (.aload_n 0, 1) := by decide +kernel
theorem dX5_lose_1 : decode cX5_lose 1 = .ok (.iload_n 1, 1) := by decide +kernel
theorem dX5_lose_2 : decode cX5_lose 2 = .ok (.invokevirtual 129, 3) := by decide +kernel
theorem dX5_lose_5 : decode cX5_lose 5 = .ok (.ifCond .eq 11, 3) := by decide +kernel
theorem dX5_lose_8 : decode cX5_lose 8 = .ok (.aload_n 0, 1) := by decide +kernel
theorem dX5_lose_9 : decode cX5_lose 9 = .ok (.iload_n 1, 1) := by decide +kernel
theorem dX5_lose_10 : decode cX5_lose 10 = .ok (.invokevirtual 163, 3) := by decide +kernel
theorem dX5_lose_13 : decode cX5_lose 13 = .ok (.goto 4, 3) := by decide +kernel
theorem dX5_lose_16 : decode cX5_lose 16 = .ok (.iconst (-1), 1) := by decide +kernel
theorem dX5_lose_17 : decode cX5_lose 17 = .ok (.ireturn, 1) := by decide +kernel
theorem dX5_damage_0 : decode cX5_damage 0 = .ok (.aload_n 0, 1) := by decide +kernel
theorem dX5_damage_1 : decode cX5_damage 1 = .ok (.iload_n 1, 1) := by decide +kernel
theorem dX5_damage_2 : decode cX5_damage 2 = .ok (.invokevirtual 129, 3) := by decide +kernel
theorem dX5_damage_5 : decode cX5_damage 5 = .ok (.ifCond .eq 25, 3) := by decide +kernel
theorem dX5_damage_8 : decode cX5_damage 8 = .ok (.iload_n 2, 1) := by decide +kernel
theorem dX5_damage_9 : decode cX5_damage 9 = .ok (.iconst 0, 1) := by decide +kernel
theorem dX5_damage_10 : decode cX5_damage 10 = .ok (.bipush 99, 2) := by decide +kernel
theorem dX5_damage_12 : decode cX5_damage 12 = .ok (.invokestatic 78, 3) := by decide +kernel
theorem dX5_damage_15 : decode cX5_damage 15 = .ok (.ifCond .eq 15, 3) := by decide +kernel
theorem dX5_damage_18 : decode cX5_damage 18 = .ok (.iload_n 3, 1) := by decide +kernel
theorem dX5_damage_19 : decode cX5_damage 19 = .ok (.iconst 1, 1) := by decide +kernel
theorem dX5_damage_20 : decode cX5_damage 20 = .ok (.bipush 100, 2) := by decide +kernel
theorem dX5_damage_22 : decode cX5_damage 22 = .ok (.iload_n 2, 1) := by decide +kernel
theorem dX5_damage_23 : decode cX5_damage 23 = .ok (.isub, 1) := by decide +kernel
theorem dX5_damage_24 : decode cX5_damage 24 = .ok (.invokestatic 78, 3) := by decide +kernel
theorem dX5_damage_27 : decode cX5_damage 27 = .ok (.ifCond .ne 5, 3) := by decide +kernel
theorem dX5_damage_30 : decode cX5_damage 30 = .ok (.iconst (-1), 1) := by decide +kernel
theorem dX5_damage_31 : decode cX5_damage 31 = .ok (.ireturn, 1) := by decide +kernel
theorem dX5_damage_32 : decode cX5_damage 32 = .ok (.iconst 0, 1) := by decide +kernel
theorem dX5_damage_33 : decode cX5_damage 33 = .ok (.istore 4, 2) := by decide +kernel
theorem dX5_damage_35 : decode cX5_damage 35 = .ok (.iconst 0, 1) := by decide +kernel
theorem dX5_damage_36 : decode cX5_damage 36 = .ok (.istore 5, 2) := by decide +kernel
theorem dX5_damage_38 : decode cX5_damage 38 = .ok (.iload 5, 2) := by decide +kernel
theorem dX5_damage_40 : decode cX5_damage 40 = .ok (.iload_n 3, 1) := by decide +kernel
theorem dX5_damage_41 : decode cX5_damage 41 = .ok (.if_icmp .ge 52, 3) := by decide +kernel
theorem dX5_damage_44 : decode cX5_damage 44 = .ok (.aload_n 0, 1) := by decide +kernel
theorem dX5_damage_45 : decode cX5_damage 45 = .ok (.getfield 31, 3) := by decide +kernel
theorem dX5_damage_48 : decode cX5_damage 48 = .ok (.bipush 100, 2) := by decide +kernel
theorem dX5_damage_50 : decode cX5_damage 50 = .ok (.iload_n 1, 1) := by decide +kernel
theorem dX5_damage_51 : decode cX5_damage 51 = .ok (.imul, 1) := by decide +kernel
theorem dX5_damage_52 : decode cX5_damage 52 = .ok (.iload_n 2, 1) := by decide +kernel
theorem dX5_damage_53 : decode cX5_damage 53 = .ok (.iadd, 1) := by decide +kernel
theorem dX5_damage_54 : decode cX5_damage 54 = .ok (.iload 5, 2) := by decide +kernel
theorem dX5_damage_56 : decode cX5_damage 56 = .ok (.iadd, 1) := by decide +kernel
theorem dX5_damage_57 : decode cX5_damage 57 = .ok (.baload, 1) := by decide +kernel
theorem dX5_damage_58 : decode cX5_damage 58 = .ok (.ifCond .eq 8, 3) := by decide +kernel
theorem dX5_damage_61 : decode cX5_damage 61 = .ok (.iload 4, 2) := by decide +kernel
theorem dX5_damage_63 : decode cX5_damage 63 = .ok (.goto 7, 3) := by decide +kernel
theorem dX5_damage_66 : decode cX5_damage 66 = .ok (.iload 4, 2) := by decide +kernel
theorem dX5_damage_68 : decode cX5_damage 68 = .ok (.iconst 1, 1) := by decide +kernel
theorem dX5_damage_69 : decode cX5_damage 69 = .ok (.iadd, 1) := by decide +kernel
theorem dX5_damage_70 : decode cX5_damage 70 = .ok (.istore 4, 2) := by decide +kernel
theorem dX5_damage_72 : decode cX5_damage 72 = .ok (.aload_n 0, 1) := by decide +kernel
theorem dX5_damage_73 : decode cX5_damage 73 = .ok (.getfield 31, 3) := by decide +kernel
theorem dX5_damage_76 : decode cX5_damage 76 = .ok (.bipush 100, 2) := by decide +kernel
theorem dX5_damage_78 : decode cX5_damage 78 = .ok (.iload_n 1, 1) := by decide +kernel
theorem dX5_damage_79 : decode cX5_damage 79 = .ok (.imul, 1) := by decide +kernel
theorem dX5_damage_80 : decode cX5_damage 80 = .ok (.iload_n 2, 1) := by decide +kernel
theorem dX5_damage_81 : decode cX5_damage 81 = .ok (.iadd, 1) := by decide +kernel
theorem dX5_damage_82 : decode cX5_damage 82 = .ok (.iload 5, 2) := by decide +kernel
theorem dX5_damage_84 : decode cX5_damage 84 = .ok (.iadd, 1) := by decide +kernel
theorem dX5_damage_85 : decode cX5_damage 85 = .ok (.iconst 1, 1) := by decide +kernel
theorem dX5_damage_86 : decode cX5_damage 86 = .ok (.bastore, 1) := by decide +kernel
theorem dX5_damage_87 : decode cX5_damage 87 = .ok (.iinc 5 1, 3) := by decide +kernel
theorem dX5_damage_90 : decode cX5_damage 90 = .ok (.goto (-52), 3) := by decide +kernel
theorem dX5_damage_93 : decode cX5_damage 93 = .ok (.iload 4, 2) := by decide +kernel
theorem dX5_damage_95 : decode cX5_damage 95 = .ok (.ireturn, 1) := by decide +kernel
theorem dX5_jam_0 : decode cX5_jam 0 = .ok (.iload_n 1, 1) := by decide +kernel
theorem dX5_jam_1 : decode cX5_jam 1 = .ok (.iconst 0, 1) := by decide +kernel
theorem dX5_jam_2 : decode cX5_jam 2 = .ok (.iconst 2, 1) := by decide +kernel
theorem dX5_jam_3 : decode cX5_jam 3 = .ok (.invokestatic 78, 3) := by decide +kernel
theorem dX5_jam_6 : decode cX5_jam 6 = .ok (.ifCond .eq 23, 3) := by decide +kernel
theorem dX5_jam_9 : decode cX5_jam 9 = .ok (.aload_n 0, 1) := by decide +kernel
theorem dX5_jam_10 : decode cX5_jam 10 = .ok (.getfield 41, 3) := by decide +kernel
theorem dX5_jam_13 : decode cX5_jam 13 = .ok (.iload_n 1, 1) := by decide +kernel
theorem dX5_jam_14 : decode cX5_jam 14 = .ok (.baload, 1) := by decide +kernel
theorem dX5_jam_15 : decode cX5_jam 15 = .ok (.ifCond .ne 14, 3) := by decide +kernel
theorem dX5_jam_18 : decode cX5_jam 18 = .ok (.iload_n 2, 1) := by decide +kernel
theorem dX5_jam_19 : decode cX5_jam 19 = .ok (.iconst (-1), 1) := by decide +kernel
theorem dX5_jam_20 : decode cX5_jam 20 = .ok (.sipush 1000, 3) := by decide +kernel
theorem dX5_jam_23 : decode cX5_jam 23 = .ok (.invokestatic 78, 3) := by decide +kernel
theorem dX5_jam_26 : decode cX5_jam 26 = .ok (.ifCond .ne 5, 3) := by decide +kernel
theorem dX5_jam_29 : decode cX5_jam 29 = .ok (.iconst (-1), 1) := by decide +kernel
theorem dX5_jam_30 : decode cX5_jam 30 = .ok (.ireturn, 1) := by decide +kernel
theorem dX5_jam_31 : decode cX5_jam 31 = .ok (.aload_n 0, 1) := by decide +kernel
theorem dX5_jam_32 : decode cX5_jam 32 = .ok (.getfield 44, 3) := by decide +kernel
theorem dX5_jam_35 : decode cX5_jam 35 = .ok (.iload_n 1, 1) := by decide +kernel
theorem dX5_jam_36 : decode cX5_jam 36 = .ok (.iload_n 2, 1) := by decide +kernel
theorem dX5_jam_37 : decode cX5_jam 37 = .ok (.iastore, 1) := by decide +kernel
theorem dX5_jam_38 : decode cX5_jam 38 = .ok (.iload_n 2, 1) := by decide +kernel
theorem dX5_jam_39 : decode cX5_jam 39 = .ok (.ireturn, 1) := by decide +kernel
theorem dX5_fix_0 : decode cX5_fix 0 = .ok (.iload_n 1, 1) := by decide +kernel
theorem dX5_fix_1 : decode cX5_fix 1 = .ok (.iconst 0, 1) := by decide +kernel
theorem dX5_fix_2 : decode cX5_fix 2 = .ok (.iconst 2, 1) := by decide +kernel
theorem dX5_fix_3 : decode cX5_fix 3 = .ok (.invokestatic 78, 3) := by decide +kernel
theorem dX5_fix_6 : decode cX5_fix 6 = .ok (.ifCond .ne 5, 3) := by decide +kernel
theorem dX5_fix_9 : decode cX5_fix 9 = .ok (.iconst (-1), 1) := by decide +kernel
theorem dX5_fix_10 : decode cX5_fix 10 = .ok (.ireturn, 1) := by decide +kernel
theorem dX5_fix_11 : decode cX5_fix 11 = .ok (.aload_n 0, 1) := by decide +kernel
theorem dX5_fix_12 : decode cX5_fix 12 = .ok (.getfield 41, 3) := by decide +kernel
theorem dX5_fix_15 : decode cX5_fix 15 = .ok (.iload_n 1, 1) := by decide +kernel
theorem dX5_fix_16 : decode cX5_fix 16 = .ok (.baload, 1) := by decide +kernel
theorem dX5_fix_17 : decode cX5_fix 17 = .ok (.ifCond .eq 7, 3) := by decide +kernel
theorem dX5_fix_20 : decode cX5_fix 20 = .ok (.iconst 1, 1) := by decide +kernel
theorem dX5_fix_21 : decode cX5_fix 21 = .ok (.goto 4, 3) := by decide +kernel
theorem dX5_fix_24 : decode cX5_fix 24 = .ok (.iconst 0, 1) := by decide +kernel
theorem dX5_fix_25 : decode cX5_fix 25 = .ok (.istore_n 2, 1) := by decide +kernel
theorem dX5_fix_26 : decode cX5_fix 26 = .ok (.aload_n 0, 1) := by decide +kernel
theorem dX5_fix_27 : decode cX5_fix 27 = .ok (.getfield 41, 3) := by decide +kernel
theorem dX5_fix_30 : decode cX5_fix 30 = .ok (.iload_n 1, 1) := by decide +kernel
theorem dX5_fix_31 : decode cX5_fix 31 = .ok (.iconst 0, 1) := by decide +kernel
theorem dX5_fix_32 : decode cX5_fix 32 = .ok (.bastore, 1) := by decide +kernel
theorem dX5_fix_33 : decode cX5_fix 33 = .ok (.aload_n 0, 1) := by decide +kernel
theorem dX5_fix_34 : decode cX5_fix 34 = .ok (.getfield 44, 3) := by decide +kernel
theorem dX5_fix_37 : decode cX5_fix 37 = .ok (.iload_n 1, 1) := by decide +kernel
theorem dX5_fix_38 : decode cX5_fix 38 = .ok (.iconst (-1), 1) := by decide +kernel
theorem dX5_fix_39 : decode cX5_fix 39 = .ok (.iastore, 1) := by decide +kernel
theorem dX5_fix_40 : decode cX5_fix 40 = .ok (.iload_n 2, 1) := by decide +kernel
theorem dX5_fix_41 : decode cX5_fix 41 = .ok (.ireturn, 1) := by decide +kernel
theorem dX5_power_0 : decode cX5_power 0 = .ok (.iload_n 1, 1) := by decide +kernel
theorem dX5_power_1 : decode cX5_power 1 = .ok (.iconst (-1), 1) := by decide +kernel
theorem dX5_power_2 : decode cX5_power 2 = .ok (.ldc 170, 2) := by decide +kernel
theorem dX5_power_4 : decode cX5_power 4 = .ok (.invokestatic 78, 3) := by decide +kernel
theorem dX5_power_7 : decode cX5_power 7 = .ok (.ifCond .ne 5, 3) := by decide +kernel
theorem dX5_power_10 : decode cX5_power 10 = .ok (.iconst (-1), 1) := by decide +kernel
theorem dX5_power_11 : decode cX5_power 11 = .ok (.ireturn, 1) := by decide +kernel
theorem dX5_power_12 : decode cX5_power 12 = .ok (.aload_n 0, 1) := by decide +kernel
theorem dX5_power_13 : decode cX5_power 13 = .ok (.iload_n 1, 1) := by decide +kernel
theorem dX5_power_14 : decode cX5_power 14 = .ok (.putfield 72, 3) := by decide +kernel
theorem dX5_power_17 : decode cX5_power 17 = .ok (.iload_n 1, 1) := by decide +kernel
theorem dX5_power_18 : decode cX5_power 18 = .ok (.ireturn, 1) := by decide +kernel
theorem dX5_place_0 : decode cX5_place 0 = .ok (.iload_n 1, 1) := by decide +kernel
theorem dX5_place_1 : decode cX5_place 1 = .ok (.invokestatic 113, 3) := by decide +kernel
theorem dX5_place_4 : decode cX5_place 4 = .ok (.ifCond .eq 11, 3) := by decide +kernel
theorem dX5_place_7 : decode cX5_place 7 = .ok (.aload_n 0, 1) := by decide +kernel
theorem dX5_place_8 : decode cX5_place 8 = .ok (.iload_n 2, 1) := by decide +kernel
theorem dX5_place_9 : decode cX5_place 9 = .ok (.invokevirtual 129, 3) := by decide +kernel
theorem dX5_place_12 : decode cX5_place 12 = .ok (.ifCond .ne 5, 3) := by decide +kernel
theorem dX5_place_15 : decode cX5_place 15 = .ok (.iconst (-1), 1) := by decide +kernel
theorem dX5_place_16 : decode cX5_place 16 = .ok (.ireturn, 1) := by decide +kernel
theorem dX5_place_17 : decode cX5_place 17 = .ok (.aload_n 0, 1) := by decide +kernel
theorem dX5_place_18 : decode cX5_place 18 = .ok (.getfield 35, 3) := by decide +kernel
theorem dX5_place_21 : decode cX5_place 21 = .ok (.sipush 1000, 3) := by decide +kernel
theorem dX5_place_24 : decode cX5_place 24 = .ok (.iload_n 2, 1) := by decide +kernel
theorem dX5_place_25 : decode cX5_place 25 = .ok (.imul, 1) := by decide +kernel
theorem dX5_place_26 : decode cX5_place 26 = .ok (.iload_n 1, 1) := by decide +kernel
theorem dX5_place_27 : decode cX5_place 27 = .ok (.iadd, 1) := by decide +kernel
theorem dX5_place_28 : decode cX5_place 28 = .ok (.iaload, 1) := by decide +kernel
theorem dX5_place_29 : decode cX5_place 29 = .ok (.istore_n 3, 1) := by decide +kernel
theorem dX5_place_30 : decode cX5_place 30 = .ok (.iload_n 3, 1) := by decide +kernel
theorem dX5_place_31 : decode cX5_place 31 = .ok (.ifCond .ne 8, 3) := by decide +kernel
theorem dX5_place_34 : decode cX5_place 34 = .ok (.bipush (-2), 2) := by decide +kernel
theorem dX5_place_36 : decode cX5_place 36 = .ok (.goto 6, 3) := by decide +kernel
theorem dX5_place_39 : decode cX5_place 39 = .ok (.iload_n 3, 1) := by decide +kernel
theorem dX5_place_40 : decode cX5_place 40 = .ok (.iconst 1, 1) := by decide +kernel
theorem dX5_place_41 : decode cX5_place 41 = .ok (.isub, 1) := by decide +kernel
theorem dX5_place_42 : decode cX5_place 42 = .ok (.ireturn, 1) := by decide +kernel
theorem dX5_block_0 : decode cX5_block 0 = .ok (.aload_n 0, 1) := by decide +kernel
theorem dX5_block_1 : decode cX5_block 1 = .ok (.iload_n 1, 1) := by decide +kernel
theorem dX5_block_2 : decode cX5_block 2 = .ok (.invokevirtual 129, 3) := by decide +kernel
theorem dX5_block_5 : decode cX5_block 5 = .ok (.ifCond .eq 22, 3) := by decide +kernel
theorem dX5_block_8 : decode cX5_block 8 = .ok (.iload_n 2, 1) := by decide +kernel
theorem dX5_block_9 : decode cX5_block 9 = .ok (.iconst 0, 1) := by decide +kernel
theorem dX5_block_10 : decode cX5_block 10 = .ok (.bipush 99, 2) := by decide +kernel
theorem dX5_block_12 : decode cX5_block 12 = .ok (.invokestatic 78, 3) := by decide +kernel
theorem dX5_block_15 : decode cX5_block 15 = .ok (.ifCond .eq 12, 3) := by decide +kernel
theorem dX5_block_18 : decode cX5_block 18 = .ok (.iload_n 3, 1) := by decide +kernel
theorem dX5_block_19 : decode cX5_block 19 = .ok (.iconst 0, 1) := by decide +kernel
theorem dX5_block_20 : decode cX5_block 20 = .ok (.iconst 3, 1) := by decide +kernel
theorem dX5_block_21 : decode cX5_block 21 = .ok (.invokestatic 78, 3) := by decide +kernel
theorem dX5_block_24 : decode cX5_block 24 = .ok (.ifCond .ne 5, 3) := by decide +kernel
theorem dX5_block_27 : decode cX5_block 27 = .ok (.iconst (-1), 1) := by decide +kernel
theorem dX5_block_28 : decode cX5_block 28 = .ok (.ireturn, 1) := by decide +kernel
theorem dX5_block_29 : decode cX5_block 29 = .ok (.bipush 100, 2) := by decide +kernel
theorem dX5_block_31 : decode cX5_block 31 = .ok (.iload_n 1, 1) := by decide +kernel
theorem dX5_block_32 : decode cX5_block 32 = .ok (.imul, 1) := by decide +kernel
theorem dX5_block_33 : decode cX5_block 33 = .ok (.iload_n 2, 1) := by decide +kernel
theorem dX5_block_34 : decode cX5_block 34 = .ok (.iadd, 1) := by decide +kernel
theorem dX5_block_35 : decode cX5_block 35 = .ok (.istore 4, 2) := by decide +kernel
theorem dX5_block_37 : decode cX5_block 37 = .ok (.iload_n 3, 1) := by decide +kernel
theorem dX5_block_38 : decode cX5_block 38 = .ok (.ifCond .ne 13, 3) := by decide +kernel
theorem dX5_block_41 : decode cX5_block 41 = .ok (.aload_n 0, 1) := by decide +kernel
theorem dX5_block_42 : decode cX5_block 42 = .ok (.getfield 22, 3) := by decide +kernel
theorem dX5_block_45 : decode cX5_block 45 = .ok (.iload 4, 2) := by decide +kernel
theorem dX5_block_47 : decode cX5_block 47 = .ok (.iaload, 1) := by decide +kernel
theorem dX5_block_48 : decode cX5_block 48 = .ok (.goto 48, 3) := by decide +kernel
theorem dX5_block_51 : decode cX5_block 51 = .ok (.iload_n 3, 1) := by decide +kernel
theorem dX5_block_52 : decode cX5_block 52 = .ok (.iconst 1, 1) := by decide +kernel
theorem dX5_block_53 : decode cX5_block 53 = .ok (.if_icmp .ne 13, 3) := by decide +kernel
theorem dX5_block_56 : decode cX5_block 56 = .ok (.aload_n 0, 1) := by decide +kernel
theorem dX5_block_57 : decode cX5_block 57 = .ok (.getfield 25, 3) := by decide +kernel
theorem dX5_block_60 : decode cX5_block 60 = .ok (.iload 4, 2) := by decide +kernel
theorem dX5_block_62 : decode cX5_block 62 = .ok (.iaload, 1) := by decide +kernel
theorem dX5_block_63 : decode cX5_block 63 = .ok (.goto 33, 3) := by decide +kernel
theorem dX5_block_66 : decode cX5_block 66 = .ok (.iload_n 3, 1) := by decide +kernel
theorem dX5_block_67 : decode cX5_block 67 = .ok (.iconst 2, 1) := by decide +kernel
theorem dX5_block_68 : decode cX5_block 68 = .ok (.if_icmp .ne 13, 3) := by decide +kernel
theorem dX5_block_71 : decode cX5_block 71 = .ok (.aload_n 0, 1) := by decide +kernel
theorem dX5_block_72 : decode cX5_block 72 = .ok (.getfield 28, 3) := by decide +kernel
theorem dX5_block_75 : decode cX5_block 75 = .ok (.iload 4, 2) := by decide +kernel
theorem dX5_block_77 : decode cX5_block 77 = .ok (.iaload, 1) := by decide +kernel
theorem dX5_block_78 : decode cX5_block 78 = .ok (.goto 18, 3) := by decide +kernel
theorem dX5_block_81 : decode cX5_block 81 = .ok (.aload_n 0, 1) := by decide +kernel
theorem dX5_block_82 : decode cX5_block 82 = .ok (.getfield 31, 3) := by decide +kernel
theorem dX5_block_85 : decode cX5_block 85 = .ok (.iload 4, 2) := by decide +kernel
theorem dX5_block_87 : decode cX5_block 87 = .ok (.baload, 1) := by decide +kernel
theorem dX5_block_88 : decode cX5_block 88 = .ok (.ifCond .eq 7, 3) := by decide +kernel
theorem dX5_block_91 : decode cX5_block 91 = .ok (.iconst 1, 1) := by decide +kernel
theorem dX5_block_92 : decode cX5_block 92 = .ok (.goto 4, 3) := by decide +kernel
theorem dX5_block_95 : decode cX5_block 95 = .ok (.iconst 0, 1) := by decide +kernel
theorem dX5_block_96 : decode cX5_block 96 = .ok (.ireturn, 1) := by decide +kernel
theorem dX5_tapeTold_0 : decode cX5_tapeTold 0 = .ok (.aload_n 0, 1) := by decide +kernel
theorem dX5_tapeTold_1 : decode cX5_tapeTold 1 = .ok (.iload_n 1, 1) := by decide +kernel
theorem dX5_tapeTold_2 : decode cX5_tapeTold 2 = .ok (.invokevirtual 129, 3) := by decide +kernel
theorem dX5_tapeTold_5 : decode cX5_tapeTold 5 = .ok (.ifCond .eq 12, 3) := by decide +kernel
theorem dX5_tapeTold_8 : decode cX5_tapeTold 8 = .ok (.iload_n 2, 1) := by decide +kernel
theorem dX5_tapeTold_9 : decode cX5_tapeTold 9 = .ok (.iconst 0, 1) := by decide +kernel
theorem dX5_tapeTold_10 : decode cX5_tapeTold 10 = .ok (.iconst 3, 1) := by decide +kernel
theorem dX5_tapeTold_11 : decode cX5_tapeTold 11 = .ok (.invokestatic 78, 3) := by decide +kernel
theorem dX5_tapeTold_14 : decode cX5_tapeTold 14 = .ok (.ifCond .ne 5, 3) := by decide +kernel
theorem dX5_tapeTold_17 : decode cX5_tapeTold 17 = .ok (.iconst (-1), 1) := by decide +kernel
theorem dX5_tapeTold_18 : decode cX5_tapeTold 18 = .ok (.ireturn, 1) := by decide +kernel
theorem dX5_tapeTold_19 : decode cX5_tapeTold 19 = .ok (.iload_n 2, 1) := by decide +kernel
theorem dX5_tapeTold_20 : decode cX5_tapeTold 20 = .ok (.ifCond .ne 12, 3) := by decide +kernel
theorem dX5_tapeTold_23 : decode cX5_tapeTold 23 = .ok (.aload_n 0, 1) := by decide +kernel
theorem dX5_tapeTold_24 : decode cX5_tapeTold 24 = .ok (.getfield 7, 3) := by decide +kernel
theorem dX5_tapeTold_27 : decode cX5_tapeTold 27 = .ok (.iload_n 1, 1) := by decide +kernel
theorem dX5_tapeTold_28 : decode cX5_tapeTold 28 = .ok (.iaload, 1) := by decide +kernel
theorem dX5_tapeTold_29 : decode cX5_tapeTold 29 = .ok (.goto 37, 3) := by decide +kernel
theorem dX5_tapeTold_32 : decode cX5_tapeTold 32 = .ok (.iload_n 2, 1) := by decide +kernel
theorem dX5_tapeTold_33 : decode cX5_tapeTold 33 = .ok (.iconst 1, 1) := by decide +kernel
theorem dX5_tapeTold_34 : decode cX5_tapeTold 34 = .ok (.if_icmp .ne 12, 3) := by decide +kernel
theorem dX5_tapeTold_37 : decode cX5_tapeTold 37 = .ok (.aload_n 0, 1) := by decide +kernel
theorem dX5_tapeTold_38 : decode cX5_tapeTold 38 = .ok (.getfield 13, 3) := by decide +kernel
theorem dX5_tapeTold_41 : decode cX5_tapeTold 41 = .ok (.iload_n 1, 1) := by decide +kernel
theorem dX5_tapeTold_42 : decode cX5_tapeTold 42 = .ok (.iaload, 1) := by decide +kernel
theorem dX5_tapeTold_43 : decode cX5_tapeTold 43 = .ok (.goto 23, 3) := by decide +kernel
theorem dX5_tapeTold_46 : decode cX5_tapeTold 46 = .ok (.iload_n 2, 1) := by decide +kernel
theorem dX5_tapeTold_47 : decode cX5_tapeTold 47 = .ok (.iconst 2, 1) := by decide +kernel
theorem dX5_tapeTold_48 : decode cX5_tapeTold 48 = .ok (.if_icmp .ne 12, 3) := by decide +kernel
theorem dX5_tapeTold_51 : decode cX5_tapeTold 51 = .ok (.aload_n 0, 1) := by decide +kernel
theorem dX5_tapeTold_52 : decode cX5_tapeTold 52 = .ok (.getfield 16, 3) := by decide +kernel
theorem dX5_tapeTold_55 : decode cX5_tapeTold 55 = .ok (.iload_n 1, 1) := by decide +kernel
theorem dX5_tapeTold_56 : decode cX5_tapeTold 56 = .ok (.iaload, 1) := by decide +kernel
theorem dX5_tapeTold_57 : decode cX5_tapeTold 57 = .ok (.goto 9, 3) := by decide +kernel
theorem dX5_tapeTold_60 : decode cX5_tapeTold 60 = .ok (.aload_n 0, 1) := by decide +kernel
theorem dX5_tapeTold_61 : decode cX5_tapeTold 61 = .ok (.getfield 19, 3) := by decide +kernel
theorem dX5_tapeTold_64 : decode cX5_tapeTold 64 = .ok (.iload_n 1, 1) := by decide +kernel
theorem dX5_tapeTold_65 : decode cX5_tapeTold 65 = .ok (.iaload, 1) := by decide +kernel
theorem dX5_tapeTold_66 : decode cX5_tapeTold 66 = .ok (.ireturn, 1) := by decide +kernel
theorem dX5_driveTold_0 : decode cX5_driveTold 0 = .ok (.iload_n 1, 1) := by decide +kernel
theorem dX5_driveTold_1 : decode cX5_driveTold 1 = .ok (.iconst 0, 1) := by decide +kernel
theorem dX5_driveTold_2 : decode cX5_driveTold 2 = .ok (.iconst 2, 1) := by decide +kernel
theorem dX5_driveTold_3 : decode cX5_driveTold 3 = .ok (.invokestatic 78, 3) := by decide +kernel
theorem dX5_driveTold_6 : decode cX5_driveTold 6 = .ok (.ifCond .eq 12, 3) := by decide +kernel
theorem dX5_driveTold_9 : decode cX5_driveTold 9 = .ok (.iload_n 2, 1) := by decide +kernel
theorem dX5_driveTold_10 : decode cX5_driveTold 10 = .ok (.iconst 0, 1) := by decide +kernel
theorem dX5_driveTold_11 : decode cX5_driveTold 11 = .ok (.iconst 2, 1) := by decide +kernel
theorem dX5_driveTold_12 : decode cX5_driveTold 12 = .ok (.invokestatic 78, 3) := by decide +kernel
theorem dX5_driveTold_15 : decode cX5_driveTold 15 = .ok (.ifCond .ne 5, 3) := by decide +kernel
theorem dX5_driveTold_18 : decode cX5_driveTold 18 = .ok (.iconst (-1), 1) := by decide +kernel
theorem dX5_driveTold_19 : decode cX5_driveTold 19 = .ok (.ireturn, 1) := by decide +kernel
theorem dX5_driveTold_20 : decode cX5_driveTold 20 = .ok (.iload_n 2, 1) := by decide +kernel
theorem dX5_driveTold_21 : decode cX5_driveTold 21 = .ok (.ifCond .ne 12, 3) := by decide +kernel
theorem dX5_driveTold_24 : decode cX5_driveTold 24 = .ok (.aload_n 0, 1) := by decide +kernel
theorem dX5_driveTold_25 : decode cX5_driveTold 25 = .ok (.getfield 47, 3) := by decide +kernel
theorem dX5_driveTold_28 : decode cX5_driveTold 28 = .ok (.iload_n 1, 1) := by decide +kernel
theorem dX5_driveTold_29 : decode cX5_driveTold 29 = .ok (.iaload, 1) := by decide +kernel
theorem dX5_driveTold_30 : decode cX5_driveTold 30 = .ok (.goto 31, 3) := by decide +kernel
theorem dX5_driveTold_33 : decode cX5_driveTold 33 = .ok (.iload_n 2, 1) := by decide +kernel
theorem dX5_driveTold_34 : decode cX5_driveTold 34 = .ok (.iconst 1, 1) := by decide +kernel
theorem dX5_driveTold_35 : decode cX5_driveTold 35 = .ok (.if_icmp .ne 12, 3) := by decide +kernel
theorem dX5_driveTold_38 : decode cX5_driveTold 38 = .ok (.aload_n 0, 1) := by decide +kernel
theorem dX5_driveTold_39 : decode cX5_driveTold 39 = .ok (.getfield 50, 3) := by decide +kernel
theorem dX5_driveTold_42 : decode cX5_driveTold 42 = .ok (.iload_n 1, 1) := by decide +kernel
theorem dX5_driveTold_43 : decode cX5_driveTold 43 = .ok (.iaload, 1) := by decide +kernel
theorem dX5_driveTold_44 : decode cX5_driveTold 44 = .ok (.goto 17, 3) := by decide +kernel
theorem dX5_driveTold_47 : decode cX5_driveTold 47 = .ok (.aload_n 0, 1) := by decide +kernel
theorem dX5_driveTold_48 : decode cX5_driveTold 48 = .ok (.getfield 41, 3) := by decide +kernel
theorem dX5_driveTold_51 : decode cX5_driveTold 51 = .ok (.iload_n 1, 1) := by decide +kernel
theorem dX5_driveTold_52 : decode cX5_driveTold 52 = .ok (.baload, 1) := by decide +kernel
theorem dX5_driveTold_53 : decode cX5_driveTold 53 = .ok (.ifCond .eq 7, 3) := by decide +kernel
theorem dX5_driveTold_56 : decode cX5_driveTold 56 = .ok (.iconst 1, 1) := by decide +kernel
theorem dX5_driveTold_57 : decode cX5_driveTold 57 = .ok (.goto 4, 3) := by decide +kernel
theorem dX5_driveTold_60 : decode cX5_driveTold 60 = .ok (.iconst 0, 1) := by decide +kernel
theorem dX5_driveTold_61 : decode cX5_driveTold 61 = .ok (.ireturn, 1) := by decide +kernel
theorem dX5_told_0 : decode cX5_told 0 = .ok (.iload_n 1, 1) := by decide +kernel
theorem dX5_told_1 : decode cX5_told 1 = .ok (.ifCond .ne 10, 3) := by decide +kernel
theorem dX5_told_4 : decode cX5_told 4 = .ok (.aload_n 0, 1) := by decide +kernel
theorem dX5_told_5 : decode cX5_told 5 = .ok (.getfield 85, 3) := by decide +kernel
theorem dX5_told_8 : decode cX5_told 8 = .ok (.goto 52, 3) := by decide +kernel
theorem dX5_told_11 : decode cX5_told 11 = .ok (.iload_n 1, 1) := by decide +kernel
theorem dX5_told_12 : decode cX5_told 12 = .ok (.iconst 1, 1) := by decide +kernel
theorem dX5_told_13 : decode cX5_told 13 = .ok (.if_icmp .ne 10, 3) := by decide +kernel
theorem dX5_told_16 : decode cX5_told 16 = .ok (.aload_n 0, 1) := by decide +kernel
theorem dX5_told_17 : decode cX5_told 17 = .ok (.getfield 96, 3) := by decide +kernel
theorem dX5_told_20 : decode cX5_told 20 = .ok (.goto 40, 3) := by decide +kernel
theorem dX5_told_23 : decode cX5_told 23 = .ok (.iload_n 1, 1) := by decide +kernel
theorem dX5_told_24 : decode cX5_told 24 = .ok (.iconst 2, 1) := by decide +kernel
theorem dX5_told_25 : decode cX5_told 25 = .ok (.if_icmp .ne 10, 3) := by decide +kernel
theorem dX5_told_28 : decode cX5_told 28 = .ok (.aload_n 0, 1) := by decide +kernel
theorem dX5_told_29 : decode cX5_told 29 = .ok (.getfield 107, 3) := by decide +kernel
theorem dX5_told_32 : decode cX5_told 32 = .ok (.goto 28, 3) := by decide +kernel
theorem dX5_told_35 : decode cX5_told 35 = .ok (.iload_n 1, 1) := by decide +kernel
theorem dX5_told_36 : decode cX5_told 36 = .ok (.iconst 3, 1) := by decide +kernel
theorem dX5_told_37 : decode cX5_told 37 = .ok (.if_icmp .ne 10, 3) := by decide +kernel
theorem dX5_told_40 : decode cX5_told 40 = .ok (.aload_n 0, 1) := by decide +kernel
theorem dX5_told_41 : decode cX5_told 41 = .ok (.getfield 110, 3) := by decide +kernel
theorem dX5_told_44 : decode cX5_told 44 = .ok (.goto 16, 3) := by decide +kernel
theorem dX5_told_47 : decode cX5_told 47 = .ok (.iload_n 1, 1) := by decide +kernel
theorem dX5_told_48 : decode cX5_told 48 = .ok (.iconst 4, 1) := by decide +kernel
theorem dX5_told_49 : decode cX5_told 49 = .ok (.if_icmp .ne 10, 3) := by decide +kernel
theorem dX5_told_52 : decode cX5_told 52 = .ok (.aload_n 0, 1) := by decide +kernel
theorem dX5_told_53 : decode cX5_told 53 = .ok (.getfield 72, 3) := by decide +kernel
theorem dX5_told_56 : decode cX5_told 56 = .ok (.goto 4, 3) := by decide +kernel
theorem dX5_told_59 : decode cX5_told 59 = .ok (.iconst (-1), 1) := by decide +kernel
theorem dX5_told_60 : decode cX5_told 60 = .ok (.ireturn, 1) := by decide +kernel
theorem dX5_fold_0 : decode cX5_fold 0 = .ok (.aload_n 0, 1) := by decide +kernel
theorem dX5_fold_1 : decode cX5_fold 1 = .ok (.getfield 68, 3) := by decide +kernel
theorem dX5_fold_4 : decode cX5_fold 4 = .ok (.ireturn, 1) := by decide +kernel
theorem dJ9_abs_0f7a4_0 : decode cJ9_abs_0f7a4 0 = .ok (.iload_n 0, 1) := by decide +kernel
theorem dJ9_abs_0f7a4_1 : decode cJ9_abs_0f7a4 1 = .ok (.ifCond .ge 8, 3) := by decide +kernel
theorem dJ9_abs_0f7a4_4 : decode cJ9_abs_0f7a4 4 = .ok (.iload_n 0, 1) := by decide +kernel
theorem dJ9_abs_0f7a4_5 : decode cJ9_abs_0f7a4 5 = .ok (.ineg, 1) := by decide +kernel
theorem dJ9_abs_0f7a4_6 : decode cJ9_abs_0f7a4 6 = .ok (.goto 4, 3) := by decide +kernel
theorem dJ9_abs_0f7a4_9 : decode cJ9_abs_0f7a4 9 = .ok (.iload_n 0, 1) := by decide +kernel
theorem dJ9_abs_0f7a4_10 : decode cJ9_abs_0f7a4 10 = .ok (.ireturn, 1) := by decide +kernel
theorem dL_law_0 : decode cL_law 0 = .ok (.new 7, 3) := by decide +kernel
theorem dL_law_3 : decode cL_law 3 = .ok (.dup, 1) := by decide +kernel
theorem dL_law_4 : decode cL_law 4 = .ok (.invokespecial 9, 3) := by decide +kernel
theorem dL_law_7 : decode cL_law 7 = .ok (.astore_n 1, 1) := by decide +kernel
theorem dL_law_8 : decode cL_law 8 = .ok (.new 10, 3) := by decide +kernel
theorem dL_law_11 : decode cL_law 11 = .ok (.dup, 1) := by decide +kernel
theorem dL_law_12 : decode cL_law 12 = .ok (.invokespecial 12, 3) := by decide +kernel
theorem dL_law_15 : decode cL_law 15 = .ok (.astore_n 2, 1) := by decide +kernel
theorem dL_law_16 : decode cL_law 16 = .ok (.iconst 0, 1) := by decide +kernel
theorem dL_law_17 : decode cL_law 17 = .ok (.istore_n 3, 1) := by decide +kernel
theorem dL_law_18 : decode cL_law 18 = .ok (.iload_n 3, 1) := by decide +kernel
theorem dL_law_19 : decode cL_law 19 = .ok (.aload_n 0, 1) := by decide +kernel
theorem dL_law_20 : decode cL_law 20 = .ok (.arraylength, 1) := by decide +kernel
theorem dL_law_21 : decode cL_law 21 = .ok (.iconst 5, 1) := by decide +kernel
theorem dL_law_22 : decode cL_law 22 = .ok (.isub, 1) := by decide +kernel
theorem dL_law_23 : decode cL_law 23 = .ok (.if_icmp .gt 647, 3) := by decide +kernel
theorem dL_law_26 : decode cL_law 26 = .ok (.aload_n 0, 1) := by decide +kernel
theorem dL_law_27 : decode cL_law 27 = .ok (.iload_n 3, 1) := by decide +kernel
theorem dL_law_28 : decode cL_law 28 = .ok (.iaload, 1) := by decide +kernel
theorem dL_law_29 : decode cL_law 29 = .ok (.bipush 31, 2) := by decide +kernel
theorem dL_law_31 : decode cL_law 31 = .ok (.iand, 1) := by decide +kernel
theorem dL_law_32 : decode cL_law 32 = .ok (.tableswitch 632 0 17 #[88, 111, 164, 187, 220, 263, 286, 309, 332, 375, 408, 431, 454, 487, 530, 563, 596, 619], 88) := by decide +kernel
theorem dL_law_120 : decode cL_law 120 = .ok (.aload_n 1, 1) := by decide +kernel
theorem dL_law_121 : decode cL_law 121 = .ok (.aload_n 0, 1) := by decide +kernel
theorem dL_law_122 : decode cL_law 122 = .ok (.iload_n 3, 1) := by decide +kernel
theorem dL_law_123 : decode cL_law 123 = .ok (.iconst 1, 1) := by decide +kernel
theorem dL_law_124 : decode cL_law 124 = .ok (.iadd, 1) := by decide +kernel
theorem dL_law_125 : decode cL_law 125 = .ok (.iaload, 1) := by decide +kernel
theorem dL_law_126 : decode cL_law 126 = .ok (.invokevirtual 13, 3) := by decide +kernel
theorem dL_law_129 : decode cL_law 129 = .ok (.aload_n 2, 1) := by decide +kernel
theorem dL_law_130 : decode cL_law 130 = .ok (.aload_n 0, 1) := by decide +kernel
theorem dL_law_131 : decode cL_law 131 = .ok (.iload_n 3, 1) := by decide +kernel
theorem dL_law_132 : decode cL_law 132 = .ok (.iconst 1, 1) := by decide +kernel
theorem dL_law_133 : decode cL_law 133 = .ok (.iadd, 1) := by decide +kernel
theorem dL_law_134 : decode cL_law 134 = .ok (.iaload, 1) := by decide +kernel
theorem dL_law_135 : decode cL_law 135 = .ok (.invokevirtual 17, 3) := by decide +kernel
theorem dL_law_138 : decode cL_law 138 = .ok (.if_icmp .eq 526, 3) := by decide +kernel
theorem dL_law_141 : decode cL_law 141 = .ok (.iconst 0, 1) := by decide +kernel
theorem dL_law_142 : decode cL_law 142 = .ok (.ireturn, 1) := by decide +kernel
theorem dL_law_143 : decode cL_law 143 = .ok (.aload_n 1, 1) := by decide +kernel
theorem dL_law_144 : decode cL_law 144 = .ok (.aload_n 0, 1) := by decide +kernel
theorem dL_law_145 : decode cL_law 145 = .ok (.iload_n 3, 1) := by decide +kernel
theorem dL_law_146 : decode cL_law 146 = .ok (.iconst 1, 1) := by decide +kernel
theorem dL_law_147 : decode cL_law 147 = .ok (.iadd, 1) := by decide +kernel
theorem dL_law_148 : decode cL_law 148 = .ok (.iaload, 1) := by decide +kernel
theorem dL_law_149 : decode cL_law 149 = .ok (.aload_n 0, 1) := by decide +kernel
theorem dL_law_150 : decode cL_law 150 = .ok (.iload_n 3, 1) := by decide +kernel
theorem dL_law_151 : decode cL_law 151 = .ok (.iconst 2, 1) := by decide +kernel
theorem dL_law_152 : decode cL_law 152 = .ok (.iadd, 1) := by decide +kernel
theorem dL_law_153 : decode cL_law 153 = .ok (.iaload, 1) := by decide +kernel
theorem dL_law_154 : decode cL_law 154 = .ok (.aload_n 0, 1) := by decide +kernel
theorem dL_law_155 : decode cL_law 155 = .ok (.iload_n 3, 1) := by decide +kernel
theorem dL_law_156 : decode cL_law 156 = .ok (.iconst 3, 1) := by decide +kernel
theorem dL_law_157 : decode cL_law 157 = .ok (.iadd, 1) := by decide +kernel
theorem dL_law_158 : decode cL_law 158 = .ok (.iaload, 1) := by decide +kernel
theorem dL_law_159 : decode cL_law 159 = .ok (.aload_n 0, 1) := by decide +kernel
theorem dL_law_160 : decode cL_law 160 = .ok (.iload_n 3, 1) := by decide +kernel
theorem dL_law_161 : decode cL_law 161 = .ok (.iconst 4, 1) := by decide +kernel
theorem dL_law_162 : decode cL_law 162 = .ok (.iadd, 1) := by decide +kernel
theorem dL_law_163 : decode cL_law 163 = .ok (.iaload, 1) := by decide +kernel
theorem dL_law_164 : decode cL_law 164 = .ok (.invokevirtual 18, 3) := by decide +kernel
theorem dL_law_167 : decode cL_law 167 = .ok (.aload_n 2, 1) := by decide +kernel
theorem dL_law_168 : decode cL_law 168 = .ok (.aload_n 0, 1) := by decide +kernel
theorem dL_law_169 : decode cL_law 169 = .ok (.iload_n 3, 1) := by decide +kernel
theorem dL_law_170 : decode cL_law 170 = .ok (.iconst 1, 1) := by decide +kernel
theorem dL_law_171 : decode cL_law 171 = .ok (.iadd, 1) := by decide +kernel
theorem dL_law_172 : decode cL_law 172 = .ok (.iaload, 1) := by decide +kernel
theorem dL_law_173 : decode cL_law 173 = .ok (.aload_n 0, 1) := by decide +kernel
theorem dL_law_174 : decode cL_law 174 = .ok (.iload_n 3, 1) := by decide +kernel
theorem dL_law_175 : decode cL_law 175 = .ok (.iconst 2, 1) := by decide +kernel
theorem dL_law_176 : decode cL_law 176 = .ok (.iadd, 1) := by decide +kernel
theorem dL_law_177 : decode cL_law 177 = .ok (.iaload, 1) := by decide +kernel
theorem dL_law_178 : decode cL_law 178 = .ok (.aload_n 0, 1) := by decide +kernel
theorem dL_law_179 : decode cL_law 179 = .ok (.iload_n 3, 1) := by decide +kernel
theorem dL_law_180 : decode cL_law 180 = .ok (.iconst 3, 1) := by decide +kernel
theorem dL_law_181 : decode cL_law 181 = .ok (.iadd, 1) := by decide +kernel
theorem dL_law_182 : decode cL_law 182 = .ok (.iaload, 1) := by decide +kernel
theorem dL_law_183 : decode cL_law 183 = .ok (.aload_n 0, 1) := by decide +kernel
theorem dL_law_184 : decode cL_law 184 = .ok (.iload_n 3, 1) := by decide +kernel
theorem dL_law_185 : decode cL_law 185 = .ok (.iconst 4, 1) := by decide +kernel
theorem dL_law_186 : decode cL_law 186 = .ok (.iadd, 1) := by decide +kernel
theorem dL_law_187 : decode cL_law 187 = .ok (.iaload, 1) := by decide +kernel
theorem dL_law_188 : decode cL_law 188 = .ok (.invokevirtual 22, 3) := by decide +kernel
theorem dL_law_191 : decode cL_law 191 = .ok (.if_icmp .eq 473, 3) := by decide +kernel
theorem dL_law_194 : decode cL_law 194 = .ok (.iconst 0, 1) := by decide +kernel
theorem dL_law_195 : decode cL_law 195 = .ok (.ireturn, 1) := by decide +kernel
theorem dL_law_196 : decode cL_law 196 = .ok (.aload_n 1, 1) := by decide +kernel
theorem dL_law_197 : decode cL_law 197 = .ok (.aload_n 0, 1) := by decide +kernel
theorem dL_law_198 : decode cL_law 198 = .ok (.iload_n 3, 1) := by decide +kernel
theorem dL_law_199 : decode cL_law 199 = .ok (.iconst 1, 1) := by decide +kernel
theorem dL_law_200 : decode cL_law 200 = .ok (.iadd, 1) := by decide +kernel
theorem dL_law_201 : decode cL_law 201 = .ok (.iaload, 1) := by decide +kernel
theorem dL_law_202 : decode cL_law 202 = .ok (.invokevirtual 23, 3) := by decide +kernel
theorem dL_law_205 : decode cL_law 205 = .ok (.aload_n 2, 1) := by decide +kernel
theorem dL_law_206 : decode cL_law 206 = .ok (.aload_n 0, 1) := by decide +kernel
theorem dL_law_207 : decode cL_law 207 = .ok (.iload_n 3, 1) := by decide +kernel
theorem dL_law_208 : decode cL_law 208 = .ok (.iconst 1, 1) := by decide +kernel
theorem dL_law_209 : decode cL_law 209 = .ok (.iadd, 1) := by decide +kernel
theorem dL_law_210 : decode cL_law 210 = .ok (.iaload, 1) := by decide +kernel
theorem dL_law_211 : decode cL_law 211 = .ok (.invokevirtual 26, 3) := by decide +kernel
theorem dL_law_214 : decode cL_law 214 = .ok (.if_icmp .eq 450, 3) := by decide +kernel
theorem dL_law_217 : decode cL_law 217 = .ok (.iconst 0, 1) := by decide +kernel
theorem dL_law_218 : decode cL_law 218 = .ok (.ireturn, 1) := by decide +kernel
theorem dL_law_219 : decode cL_law 219 = .ok (.aload_n 1, 1) := by decide +kernel
theorem dL_law_220 : decode cL_law 220 = .ok (.aload_n 0, 1) := by decide +kernel
theorem dL_law_221 : decode cL_law 221 = .ok (.iload_n 3, 1) := by decide +kernel
theorem dL_law_222 : decode cL_law 222 = .ok (.iconst 1, 1) := by decide +kernel
theorem dL_law_223 : decode cL_law 223 = .ok (.iadd, 1) := by decide +kernel
theorem dL_law_224 : decode cL_law 224 = .ok (.iaload, 1) := by decide +kernel
theorem dL_law_225 : decode cL_law 225 = .ok (.aload_n 0, 1) := by decide +kernel
theorem dL_law_226 : decode cL_law 226 = .ok (.iload_n 3, 1) := by decide +kernel
theorem dL_law_227 : decode cL_law 227 = .ok (.iconst 2, 1) := by decide +kernel
theorem dL_law_228 : decode cL_law 228 = .ok (.iadd, 1) := by decide +kernel
theorem dL_law_229 : decode cL_law 229 = .ok (.iaload, 1) := by decide +kernel
theorem dL_law_230 : decode cL_law 230 = .ok (.invokevirtual 27, 3) := by decide +kernel
theorem dL_law_233 : decode cL_law 233 = .ok (.aload_n 2, 1) := by decide +kernel
theorem dL_law_234 : decode cL_law 234 = .ok (.aload_n 0, 1) := by decide +kernel
theorem dL_law_235 : decode cL_law 235 = .ok (.iload_n 3, 1) := by decide +kernel
theorem dL_law_236 : decode cL_law 236 = .ok (.iconst 1, 1) := by decide +kernel
theorem dL_law_237 : decode cL_law 237 = .ok (.iadd, 1) := by decide +kernel
theorem dL_law_238 : decode cL_law 238 = .ok (.iaload, 1) := by decide +kernel
theorem dL_law_239 : decode cL_law 239 = .ok (.aload_n 0, 1) := by decide +kernel
theorem dL_law_240 : decode cL_law 240 = .ok (.iload_n 3, 1) := by decide +kernel
theorem dL_law_241 : decode cL_law 241 = .ok (.iconst 2, 1) := by decide +kernel
theorem dL_law_242 : decode cL_law 242 = .ok (.iadd, 1) := by decide +kernel
theorem dL_law_243 : decode cL_law 243 = .ok (.iaload, 1) := by decide +kernel
theorem dL_law_244 : decode cL_law 244 = .ok (.invokevirtual 31, 3) := by decide +kernel
theorem dL_law_247 : decode cL_law 247 = .ok (.if_icmp .eq 417, 3) := by decide +kernel
theorem dL_law_250 : decode cL_law 250 = .ok (.iconst 0, 1) := by decide +kernel
theorem dL_law_251 : decode cL_law 251 = .ok (.ireturn, 1) := by decide +kernel
theorem dL_law_252 : decode cL_law 252 = .ok (.aload_n 1, 1) := by decide +kernel
theorem dL_law_253 : decode cL_law 253 = .ok (.aload_n 0, 1) := by decide +kernel
theorem dL_law_254 : decode cL_law 254 = .ok (.iload_n 3, 1) := by decide +kernel
theorem dL_law_255 : decode cL_law 255 = .ok (.iconst 1, 1) := by decide +kernel
theorem dL_law_256 : decode cL_law 256 = .ok (.iadd, 1) := by decide +kernel
theorem dL_law_257 : decode cL_law 257 = .ok (.iaload, 1) := by decide +kernel
theorem dL_law_258 : decode cL_law 258 = .ok (.aload_n 0, 1) := by decide +kernel
theorem dL_law_259 : decode cL_law 259 = .ok (.iload_n 3, 1) := by decide +kernel
theorem dL_law_260 : decode cL_law 260 = .ok (.iconst 2, 1) := by decide +kernel
theorem dL_law_261 : decode cL_law 261 = .ok (.iadd, 1) := by decide +kernel
theorem dL_law_262 : decode cL_law 262 = .ok (.iaload, 1) := by decide +kernel
theorem dL_law_263 : decode cL_law 263 = .ok (.aload_n 0, 1) := by decide +kernel
theorem dL_law_264 : decode cL_law 264 = .ok (.iload_n 3, 1) := by decide +kernel
theorem dL_law_265 : decode cL_law 265 = .ok (.iconst 3, 1) := by decide +kernel
theorem dL_law_266 : decode cL_law 266 = .ok (.iadd, 1) := by decide +kernel
theorem dL_law_267 : decode cL_law 267 = .ok (.iaload, 1) := by decide +kernel
theorem dL_law_268 : decode cL_law 268 = .ok (.invokevirtual 32, 3) := by decide +kernel
theorem dL_law_271 : decode cL_law 271 = .ok (.aload_n 2, 1) := by decide +kernel
theorem dL_law_272 : decode cL_law 272 = .ok (.aload_n 0, 1) := by decide +kernel
theorem dL_law_273 : decode cL_law 273 = .ok (.iload_n 3, 1) := by decide +kernel
theorem dL_law_274 : decode cL_law 274 = .ok (.iconst 1, 1) := by decide +kernel
theorem dL_law_275 : decode cL_law 275 = .ok (.iadd, 1) := by decide +kernel
theorem dL_law_276 : decode cL_law 276 = .ok (.iaload, 1) := by decide +kernel
theorem dL_law_277 : decode cL_law 277 = .ok (.aload_n 0, 1) := by decide +kernel
theorem dL_law_278 : decode cL_law 278 = .ok (.iload_n 3, 1) := by decide +kernel
theorem dL_law_279 : decode cL_law 279 = .ok (.iconst 2, 1) := by decide +kernel
theorem dL_law_280 : decode cL_law 280 = .ok (.iadd, 1) := by decide +kernel
theorem dL_law_281 : decode cL_law 281 = .ok (.iaload, 1) := by decide +kernel
theorem dL_law_282 : decode cL_law 282 = .ok (.aload_n 0, 1) := by decide +kernel
theorem dL_law_283 : decode cL_law 283 = .ok (.iload_n 3, 1) := by decide +kernel
theorem dL_law_284 : decode cL_law 284 = .ok (.iconst 3, 1) := by decide +kernel
theorem dL_law_285 : decode cL_law 285 = .ok (.iadd, 1) := by decide +kernel
theorem dL_law_286 : decode cL_law 286 = .ok (.iaload, 1) := by decide +kernel
theorem dL_law_287 : decode cL_law 287 = .ok (.invokevirtual 36, 3) := by decide +kernel
theorem dL_law_290 : decode cL_law 290 = .ok (.if_icmp .eq 374, 3) := by decide +kernel
theorem dL_law_293 : decode cL_law 293 = .ok (.iconst 0, 1) := by decide +kernel
theorem dL_law_294 : decode cL_law 294 = .ok (.ireturn, 1) := by decide +kernel
theorem dL_law_295 : decode cL_law 295 = .ok (.aload_n 1, 1) := by decide +kernel
theorem dL_law_296 : decode cL_law 296 = .ok (.aload_n 0, 1) := by decide +kernel
theorem dL_law_297 : decode cL_law 297 = .ok (.iload_n 3, 1) := by decide +kernel
theorem dL_law_298 : decode cL_law 298 = .ok (.iconst 1, 1) := by decide +kernel
theorem dL_law_299 : decode cL_law 299 = .ok (.iadd, 1) := by decide +kernel
theorem dL_law_300 : decode cL_law 300 = .ok (.iaload, 1) := by decide +kernel
theorem dL_law_301 : decode cL_law 301 = .ok (.invokevirtual 37, 3) := by decide +kernel
theorem dL_law_304 : decode cL_law 304 = .ok (.aload_n 2, 1) := by decide +kernel
theorem dL_law_305 : decode cL_law 305 = .ok (.aload_n 0, 1) := by decide +kernel
theorem dL_law_306 : decode cL_law 306 = .ok (.iload_n 3, 1) := by decide +kernel
theorem dL_law_307 : decode cL_law 307 = .ok (.iconst 1, 1) := by decide +kernel
theorem dL_law_308 : decode cL_law 308 = .ok (.iadd, 1) := by decide +kernel
theorem dL_law_309 : decode cL_law 309 = .ok (.iaload, 1) := by decide +kernel
theorem dL_law_310 : decode cL_law 310 = .ok (.invokevirtual 40, 3) := by decide +kernel
theorem dL_law_313 : decode cL_law 313 = .ok (.if_icmp .eq 351, 3) := by decide +kernel
theorem dL_law_316 : decode cL_law 316 = .ok (.iconst 0, 1) := by decide +kernel
theorem dL_law_317 : decode cL_law 317 = .ok (.ireturn, 1) := by decide +kernel
theorem dL_law_318 : decode cL_law 318 = .ok (.aload_n 1, 1) := by decide +kernel
theorem dL_law_319 : decode cL_law 319 = .ok (.aload_n 0, 1) := by decide +kernel
theorem dL_law_320 : decode cL_law 320 = .ok (.iload_n 3, 1) := by decide +kernel
theorem dL_law_321 : decode cL_law 321 = .ok (.iconst 1, 1) := by decide +kernel
theorem dL_law_322 : decode cL_law 322 = .ok (.iadd, 1) := by decide +kernel
theorem dL_law_323 : decode cL_law 323 = .ok (.iaload, 1) := by decide +kernel
theorem dL_law_324 : decode cL_law 324 = .ok (.invokevirtual 41, 3) := by decide +kernel
theorem dL_law_327 : decode cL_law 327 = .ok (.aload_n 2, 1) := by decide +kernel
theorem dL_law_328 : decode cL_law 328 = .ok (.aload_n 0, 1) := by decide +kernel
theorem dL_law_329 : decode cL_law 329 = .ok (.iload_n 3, 1) := by decide +kernel
theorem dL_law_330 : decode cL_law 330 = .ok (.iconst 1, 1) := by decide +kernel
theorem dL_law_331 : decode cL_law 331 = .ok (.iadd, 1) := by decide +kernel
theorem dL_law_332 : decode cL_law 332 = .ok (.iaload, 1) := by decide +kernel
theorem dL_law_333 : decode cL_law 333 = .ok (.invokevirtual 44, 3) := by decide +kernel
theorem dL_law_336 : decode cL_law 336 = .ok (.if_icmp .eq 328, 3) := by decide +kernel
theorem dL_law_339 : decode cL_law 339 = .ok (.iconst 0, 1) := by decide +kernel
theorem dL_law_340 : decode cL_law 340 = .ok (.ireturn, 1) := by decide +kernel
theorem dL_law_341 : decode cL_law 341 = .ok (.aload_n 1, 1) := by decide +kernel
theorem dL_law_342 : decode cL_law 342 = .ok (.aload_n 0, 1) := by decide +kernel
theorem dL_law_343 : decode cL_law 343 = .ok (.iload_n 3, 1) := by decide +kernel
theorem dL_law_344 : decode cL_law 344 = .ok (.iconst 1, 1) := by decide +kernel
theorem dL_law_345 : decode cL_law 345 = .ok (.iadd, 1) := by decide +kernel
theorem dL_law_346 : decode cL_law 346 = .ok (.iaload, 1) := by decide +kernel
theorem dL_law_347 : decode cL_law 347 = .ok (.invokevirtual 45, 3) := by decide +kernel
theorem dL_law_350 : decode cL_law 350 = .ok (.aload_n 2, 1) := by decide +kernel
theorem dL_law_351 : decode cL_law 351 = .ok (.aload_n 0, 1) := by decide +kernel
theorem dL_law_352 : decode cL_law 352 = .ok (.iload_n 3, 1) := by decide +kernel
theorem dL_law_353 : decode cL_law 353 = .ok (.iconst 1, 1) := by decide +kernel
theorem dL_law_354 : decode cL_law 354 = .ok (.iadd, 1) := by decide +kernel
theorem dL_law_355 : decode cL_law 355 = .ok (.iaload, 1) := by decide +kernel
theorem dL_law_356 : decode cL_law 356 = .ok (.invokevirtual 48, 3) := by decide +kernel
theorem dL_law_359 : decode cL_law 359 = .ok (.if_icmp .eq 305, 3) := by decide +kernel
theorem dL_law_362 : decode cL_law 362 = .ok (.iconst 0, 1) := by decide +kernel
theorem dL_law_363 : decode cL_law 363 = .ok (.ireturn, 1) := by decide +kernel
theorem dL_law_364 : decode cL_law 364 = .ok (.aload_n 1, 1) := by decide +kernel
theorem dL_law_365 : decode cL_law 365 = .ok (.aload_n 0, 1) := by decide +kernel
theorem dL_law_366 : decode cL_law 366 = .ok (.iload_n 3, 1) := by decide +kernel
theorem dL_law_367 : decode cL_law 367 = .ok (.iconst 1, 1) := by decide +kernel
theorem dL_law_368 : decode cL_law 368 = .ok (.iadd, 1) := by decide +kernel
theorem dL_law_369 : decode cL_law 369 = .ok (.iaload, 1) := by decide +kernel
theorem dL_law_370 : decode cL_law 370 = .ok (.aload_n 0, 1) := by decide +kernel
theorem dL_law_371 : decode cL_law 371 = .ok (.iload_n 3, 1) := by decide +kernel
theorem dL_law_372 : decode cL_law 372 = .ok (.iconst 2, 1) := by decide +kernel
theorem dL_law_373 : decode cL_law 373 = .ok (.iadd, 1) := by decide +kernel
theorem dL_law_374 : decode cL_law 374 = .ok (.iaload, 1) := by decide +kernel
theorem dL_law_375 : decode cL_law 375 = .ok (.aload_n 0, 1) := by decide +kernel
theorem dL_law_376 : decode cL_law 376 = .ok (.iload_n 3, 1) := by decide +kernel
theorem dL_law_377 : decode cL_law 377 = .ok (.iconst 3, 1) := by decide +kernel
theorem dL_law_378 : decode cL_law 378 = .ok (.iadd, 1) := by decide +kernel
theorem dL_law_379 : decode cL_law 379 = .ok (.iaload, 1) := by decide +kernel
theorem dL_law_380 : decode cL_law 380 = .ok (.invokevirtual 49, 3) := by decide +kernel
theorem dL_law_383 : decode cL_law 383 = .ok (.aload_n 2, 1) := by decide +kernel
theorem dL_law_384 : decode cL_law 384 = .ok (.aload_n 0, 1) := by decide +kernel
theorem dL_law_385 : decode cL_law 385 = .ok (.iload_n 3, 1) := by decide +kernel
theorem dL_law_386 : decode cL_law 386 = .ok (.iconst 1, 1) := by decide +kernel
theorem dL_law_387 : decode cL_law 387 = .ok (.iadd, 1) := by decide +kernel
theorem dL_law_388 : decode cL_law 388 = .ok (.iaload, 1) := by decide +kernel
theorem dL_law_389 : decode cL_law 389 = .ok (.aload_n 0, 1) := by decide +kernel
theorem dL_law_390 : decode cL_law 390 = .ok (.iload_n 3, 1) := by decide +kernel
theorem dL_law_391 : decode cL_law 391 = .ok (.iconst 2, 1) := by decide +kernel
theorem dL_law_392 : decode cL_law 392 = .ok (.iadd, 1) := by decide +kernel
theorem dL_law_393 : decode cL_law 393 = .ok (.iaload, 1) := by decide +kernel
theorem dL_law_394 : decode cL_law 394 = .ok (.aload_n 0, 1) := by decide +kernel
theorem dL_law_395 : decode cL_law 395 = .ok (.iload_n 3, 1) := by decide +kernel
theorem dL_law_396 : decode cL_law 396 = .ok (.iconst 3, 1) := by decide +kernel
theorem dL_law_397 : decode cL_law 397 = .ok (.iadd, 1) := by decide +kernel
theorem dL_law_398 : decode cL_law 398 = .ok (.iaload, 1) := by decide +kernel
theorem dL_law_399 : decode cL_law 399 = .ok (.invokevirtual 52, 3) := by decide +kernel
theorem dL_law_402 : decode cL_law 402 = .ok (.if_icmp .eq 262, 3) := by decide +kernel
theorem dL_law_405 : decode cL_law 405 = .ok (.iconst 0, 1) := by decide +kernel
theorem dL_law_406 : decode cL_law 406 = .ok (.ireturn, 1) := by decide +kernel
theorem dL_law_407 : decode cL_law 407 = .ok (.aload_n 1, 1) := by decide +kernel
theorem dL_law_408 : decode cL_law 408 = .ok (.aload_n 0, 1) := by decide +kernel
theorem dL_law_409 : decode cL_law 409 = .ok (.iload_n 3, 1) := by decide +kernel
theorem dL_law_410 : decode cL_law 410 = .ok (.iconst 1, 1) := by decide +kernel
theorem dL_law_411 : decode cL_law 411 = .ok (.iadd, 1) := by decide +kernel
theorem dL_law_412 : decode cL_law 412 = .ok (.iaload, 1) := by decide +kernel
theorem dL_law_413 : decode cL_law 413 = .ok (.aload_n 0, 1) := by decide +kernel
theorem dL_law_414 : decode cL_law 414 = .ok (.iload_n 3, 1) := by decide +kernel
theorem dL_law_415 : decode cL_law 415 = .ok (.iconst 2, 1) := by decide +kernel
theorem dL_law_416 : decode cL_law 416 = .ok (.iadd, 1) := by decide +kernel
theorem dL_law_417 : decode cL_law 417 = .ok (.iaload, 1) := by decide +kernel
theorem dL_law_418 : decode cL_law 418 = .ok (.invokevirtual 53, 3) := by decide +kernel
theorem dL_law_421 : decode cL_law 421 = .ok (.aload_n 2, 1) := by decide +kernel
theorem dL_law_422 : decode cL_law 422 = .ok (.aload_n 0, 1) := by decide +kernel
theorem dL_law_423 : decode cL_law 423 = .ok (.iload_n 3, 1) := by decide +kernel
theorem dL_law_424 : decode cL_law 424 = .ok (.iconst 1, 1) := by decide +kernel
theorem dL_law_425 : decode cL_law 425 = .ok (.iadd, 1) := by decide +kernel
theorem dL_law_426 : decode cL_law 426 = .ok (.iaload, 1) := by decide +kernel
theorem dL_law_427 : decode cL_law 427 = .ok (.aload_n 0, 1) := by decide +kernel
theorem dL_law_428 : decode cL_law 428 = .ok (.iload_n 3, 1) := by decide +kernel
theorem dL_law_429 : decode cL_law 429 = .ok (.iconst 2, 1) := by decide +kernel
theorem dL_law_430 : decode cL_law 430 = .ok (.iadd, 1) := by decide +kernel
theorem dL_law_431 : decode cL_law 431 = .ok (.iaload, 1) := by decide +kernel
theorem dL_law_432 : decode cL_law 432 = .ok (.invokevirtual 56, 3) := by decide +kernel
theorem dL_law_435 : decode cL_law 435 = .ok (.if_icmp .eq 229, 3) := by decide +kernel
theorem dL_law_438 : decode cL_law 438 = .ok (.iconst 0, 1) := by decide +kernel
theorem dL_law_439 : decode cL_law 439 = .ok (.ireturn, 1) := by decide +kernel
theorem dL_law_440 : decode cL_law 440 = .ok (.aload_n 1, 1) := by decide +kernel
theorem dL_law_441 : decode cL_law 441 = .ok (.aload_n 0, 1) := by decide +kernel
theorem dL_law_442 : decode cL_law 442 = .ok (.iload_n 3, 1) := by decide +kernel
theorem dL_law_443 : decode cL_law 443 = .ok (.iconst 1, 1) := by decide +kernel
theorem dL_law_444 : decode cL_law 444 = .ok (.iadd, 1) := by decide +kernel
theorem dL_law_445 : decode cL_law 445 = .ok (.iaload, 1) := by decide +kernel
theorem dL_law_446 : decode cL_law 446 = .ok (.invokevirtual 57, 3) := by decide +kernel
theorem dL_law_449 : decode cL_law 449 = .ok (.aload_n 2, 1) := by decide +kernel
theorem dL_law_450 : decode cL_law 450 = .ok (.aload_n 0, 1) := by decide +kernel
theorem dL_law_451 : decode cL_law 451 = .ok (.iload_n 3, 1) := by decide +kernel
theorem dL_law_452 : decode cL_law 452 = .ok (.iconst 1, 1) := by decide +kernel
theorem dL_law_453 : decode cL_law 453 = .ok (.iadd, 1) := by decide +kernel
theorem dL_law_454 : decode cL_law 454 = .ok (.iaload, 1) := by decide +kernel
theorem dL_law_455 : decode cL_law 455 = .ok (.invokevirtual 60, 3) := by decide +kernel
theorem dL_law_458 : decode cL_law 458 = .ok (.if_icmp .eq 206, 3) := by decide +kernel
theorem dL_law_461 : decode cL_law 461 = .ok (.iconst 0, 1) := by decide +kernel
theorem dL_law_462 : decode cL_law 462 = .ok (.ireturn, 1) := by decide +kernel
theorem dL_law_463 : decode cL_law 463 = .ok (.aload_n 1, 1) := by decide +kernel
theorem dL_law_464 : decode cL_law 464 = .ok (.aload_n 0, 1) := by decide +kernel
theorem dL_law_465 : decode cL_law 465 = .ok (.iload_n 3, 1) := by decide +kernel
theorem dL_law_466 : decode cL_law 466 = .ok (.iconst 1, 1) := by decide +kernel
theorem dL_law_467 : decode cL_law 467 = .ok (.iadd, 1) := by decide +kernel
theorem dL_law_468 : decode cL_law 468 = .ok (.iaload, 1) := by decide +kernel
theorem dL_law_469 : decode cL_law 469 = .ok (.invokevirtual 61, 3) := by decide +kernel
theorem dL_law_472 : decode cL_law 472 = .ok (.aload_n 2, 1) := by decide +kernel
theorem dL_law_473 : decode cL_law 473 = .ok (.aload_n 0, 1) := by decide +kernel
theorem dL_law_474 : decode cL_law 474 = .ok (.iload_n 3, 1) := by decide +kernel
theorem dL_law_475 : decode cL_law 475 = .ok (.iconst 1, 1) := by decide +kernel
theorem dL_law_476 : decode cL_law 476 = .ok (.iadd, 1) := by decide +kernel
theorem dL_law_477 : decode cL_law 477 = .ok (.iaload, 1) := by decide +kernel
theorem dL_law_478 : decode cL_law 478 = .ok (.invokevirtual 64, 3) := by decide +kernel
theorem dL_law_481 : decode cL_law 481 = .ok (.if_icmp .eq 183, 3) := by decide +kernel
theorem dL_law_484 : decode cL_law 484 = .ok (.iconst 0, 1) := by decide +kernel
theorem dL_law_485 : decode cL_law 485 = .ok (.ireturn, 1) := by decide +kernel
theorem dL_law_486 : decode cL_law 486 = .ok (.aload_n 1, 1) := by decide +kernel
theorem dL_law_487 : decode cL_law 487 = .ok (.aload_n 0, 1) := by decide +kernel
theorem dL_law_488 : decode cL_law 488 = .ok (.iload_n 3, 1) := by decide +kernel
theorem dL_law_489 : decode cL_law 489 = .ok (.iconst 1, 1) := by decide +kernel
theorem dL_law_490 : decode cL_law 490 = .ok (.iadd, 1) := by decide +kernel
theorem dL_law_491 : decode cL_law 491 = .ok (.iaload, 1) := by decide +kernel
theorem dL_law_492 : decode cL_law 492 = .ok (.aload_n 0, 1) := by decide +kernel
theorem dL_law_493 : decode cL_law 493 = .ok (.iload_n 3, 1) := by decide +kernel
theorem dL_law_494 : decode cL_law 494 = .ok (.iconst 2, 1) := by decide +kernel
theorem dL_law_495 : decode cL_law 495 = .ok (.iadd, 1) := by decide +kernel
theorem dL_law_496 : decode cL_law 496 = .ok (.iaload, 1) := by decide +kernel
theorem dL_law_497 : decode cL_law 497 = .ok (.invokevirtual 65, 3) := by decide +kernel
theorem dL_law_500 : decode cL_law 500 = .ok (.aload_n 2, 1) := by decide +kernel
theorem dL_law_501 : decode cL_law 501 = .ok (.aload_n 0, 1) := by decide +kernel
theorem dL_law_502 : decode cL_law 502 = .ok (.iload_n 3, 1) := by decide +kernel
theorem dL_law_503 : decode cL_law 503 = .ok (.iconst 1, 1) := by decide +kernel
theorem dL_law_504 : decode cL_law 504 = .ok (.iadd, 1) := by decide +kernel
theorem dL_law_505 : decode cL_law 505 = .ok (.iaload, 1) := by decide +kernel
theorem dL_law_506 : decode cL_law 506 = .ok (.aload_n 0, 1) := by decide +kernel
theorem dL_law_507 : decode cL_law 507 = .ok (.iload_n 3, 1) := by decide +kernel
theorem dL_law_508 : decode cL_law 508 = .ok (.iconst 2, 1) := by decide +kernel
theorem dL_law_509 : decode cL_law 509 = .ok (.iadd, 1) := by decide +kernel
theorem dL_law_510 : decode cL_law 510 = .ok (.iaload, 1) := by decide +kernel
theorem dL_law_511 : decode cL_law 511 = .ok (.invokevirtual 68, 3) := by decide +kernel
theorem dL_law_514 : decode cL_law 514 = .ok (.if_icmp .eq 150, 3) := by decide +kernel
theorem dL_law_517 : decode cL_law 517 = .ok (.iconst 0, 1) := by decide +kernel
theorem dL_law_518 : decode cL_law 518 = .ok (.ireturn, 1) := by decide +kernel
theorem dL_law_519 : decode cL_law 519 = .ok (.aload_n 1, 1) := by decide +kernel
theorem dL_law_520 : decode cL_law 520 = .ok (.aload_n 0, 1) := by decide +kernel
theorem dL_law_521 : decode cL_law 521 = .ok (.iload_n 3, 1) := by decide +kernel
theorem dL_law_522 : decode cL_law 522 = .ok (.iconst 1, 1) := by decide +kernel
theorem dL_law_523 : decode cL_law 523 = .ok (.iadd, 1) := by decide +kernel
theorem dL_law_524 : decode cL_law 524 = .ok (.iaload, 1) := by decide +kernel
theorem dL_law_525 : decode cL_law 525 = .ok (.aload_n 0, 1) := by decide +kernel
theorem dL_law_526 : decode cL_law 526 = .ok (.iload_n 3, 1) := by decide +kernel
theorem dL_law_527 : decode cL_law 527 = .ok (.iconst 2, 1) := by decide +kernel
theorem dL_law_528 : decode cL_law 528 = .ok (.iadd, 1) := by decide +kernel
theorem dL_law_529 : decode cL_law 529 = .ok (.iaload, 1) := by decide +kernel
theorem dL_law_530 : decode cL_law 530 = .ok (.aload_n 0, 1) := by decide +kernel
theorem dL_law_531 : decode cL_law 531 = .ok (.iload_n 3, 1) := by decide +kernel
theorem dL_law_532 : decode cL_law 532 = .ok (.iconst 3, 1) := by decide +kernel
theorem dL_law_533 : decode cL_law 533 = .ok (.iadd, 1) := by decide +kernel
theorem dL_law_534 : decode cL_law 534 = .ok (.iaload, 1) := by decide +kernel
theorem dL_law_535 : decode cL_law 535 = .ok (.invokevirtual 69, 3) := by decide +kernel
theorem dL_law_538 : decode cL_law 538 = .ok (.aload_n 2, 1) := by decide +kernel
theorem dL_law_539 : decode cL_law 539 = .ok (.aload_n 0, 1) := by decide +kernel
theorem dL_law_540 : decode cL_law 540 = .ok (.iload_n 3, 1) := by decide +kernel
theorem dL_law_541 : decode cL_law 541 = .ok (.iconst 1, 1) := by decide +kernel
theorem dL_law_542 : decode cL_law 542 = .ok (.iadd, 1) := by decide +kernel
theorem dL_law_543 : decode cL_law 543 = .ok (.iaload, 1) := by decide +kernel
theorem dL_law_544 : decode cL_law 544 = .ok (.aload_n 0, 1) := by decide +kernel
theorem dL_law_545 : decode cL_law 545 = .ok (.iload_n 3, 1) := by decide +kernel
theorem dL_law_546 : decode cL_law 546 = .ok (.iconst 2, 1) := by decide +kernel
theorem dL_law_547 : decode cL_law 547 = .ok (.iadd, 1) := by decide +kernel
theorem dL_law_548 : decode cL_law 548 = .ok (.iaload, 1) := by decide +kernel
theorem dL_law_549 : decode cL_law 549 = .ok (.aload_n 0, 1) := by decide +kernel
theorem dL_law_550 : decode cL_law 550 = .ok (.iload_n 3, 1) := by decide +kernel
theorem dL_law_551 : decode cL_law 551 = .ok (.iconst 3, 1) := by decide +kernel
theorem dL_law_552 : decode cL_law 552 = .ok (.iadd, 1) := by decide +kernel
theorem dL_law_553 : decode cL_law 553 = .ok (.iaload, 1) := by decide +kernel
theorem dL_law_554 : decode cL_law 554 = .ok (.invokevirtual 72, 3) := by decide +kernel
theorem dL_law_557 : decode cL_law 557 = .ok (.if_icmp .eq 107, 3) := by decide +kernel
theorem dL_law_560 : decode cL_law 560 = .ok (.iconst 0, 1) := by decide +kernel
theorem dL_law_561 : decode cL_law 561 = .ok (.ireturn, 1) := by decide +kernel
theorem dL_law_562 : decode cL_law 562 = .ok (.aload_n 1, 1) := by decide +kernel
theorem dL_law_563 : decode cL_law 563 = .ok (.aload_n 0, 1) := by decide +kernel
theorem dL_law_564 : decode cL_law 564 = .ok (.iload_n 3, 1) := by decide +kernel
theorem dL_law_565 : decode cL_law 565 = .ok (.iconst 1, 1) := by decide +kernel
theorem dL_law_566 : decode cL_law 566 = .ok (.iadd, 1) := by decide +kernel
theorem dL_law_567 : decode cL_law 567 = .ok (.iaload, 1) := by decide +kernel
theorem dL_law_568 : decode cL_law 568 = .ok (.aload_n 0, 1) := by decide +kernel
theorem dL_law_569 : decode cL_law 569 = .ok (.iload_n 3, 1) := by decide +kernel
theorem dL_law_570 : decode cL_law 570 = .ok (.iconst 2, 1) := by decide +kernel
theorem dL_law_571 : decode cL_law 571 = .ok (.iadd, 1) := by decide +kernel
theorem dL_law_572 : decode cL_law 572 = .ok (.iaload, 1) := by decide +kernel
theorem dL_law_573 : decode cL_law 573 = .ok (.invokevirtual 73, 3) := by decide +kernel
theorem dL_law_576 : decode cL_law 576 = .ok (.aload_n 2, 1) := by decide +kernel
theorem dL_law_577 : decode cL_law 577 = .ok (.aload_n 0, 1) := by decide +kernel
theorem dL_law_578 : decode cL_law 578 = .ok (.iload_n 3, 1) := by decide +kernel
theorem dL_law_579 : decode cL_law 579 = .ok (.iconst 1, 1) := by decide +kernel
theorem dL_law_580 : decode cL_law 580 = .ok (.iadd, 1) := by decide +kernel
theorem dL_law_581 : decode cL_law 581 = .ok (.iaload, 1) := by decide +kernel
theorem dL_law_582 : decode cL_law 582 = .ok (.aload_n 0, 1) := by decide +kernel
theorem dL_law_583 : decode cL_law 583 = .ok (.iload_n 3, 1) := by decide +kernel
theorem dL_law_584 : decode cL_law 584 = .ok (.iconst 2, 1) := by decide +kernel
theorem dL_law_585 : decode cL_law 585 = .ok (.iadd, 1) := by decide +kernel
theorem dL_law_586 : decode cL_law 586 = .ok (.iaload, 1) := by decide +kernel
theorem dL_law_587 : decode cL_law 587 = .ok (.invokevirtual 76, 3) := by decide +kernel
theorem dL_law_590 : decode cL_law 590 = .ok (.if_icmp .eq 74, 3) := by decide +kernel
theorem dL_law_593 : decode cL_law 593 = .ok (.iconst 0, 1) := by decide +kernel
theorem dL_law_594 : decode cL_law 594 = .ok (.ireturn, 1) := by decide +kernel
theorem dL_law_595 : decode cL_law 595 = .ok (.aload_n 1, 1) := by decide +kernel
theorem dL_law_596 : decode cL_law 596 = .ok (.aload_n 0, 1) := by decide +kernel
theorem dL_law_597 : decode cL_law 597 = .ok (.iload_n 3, 1) := by decide +kernel
theorem dL_law_598 : decode cL_law 598 = .ok (.iconst 1, 1) := by decide +kernel
theorem dL_law_599 : decode cL_law 599 = .ok (.iadd, 1) := by decide +kernel
theorem dL_law_600 : decode cL_law 600 = .ok (.iaload, 1) := by decide +kernel
theorem dL_law_601 : decode cL_law 601 = .ok (.aload_n 0, 1) := by decide +kernel
theorem dL_law_602 : decode cL_law 602 = .ok (.iload_n 3, 1) := by decide +kernel
theorem dL_law_603 : decode cL_law 603 = .ok (.iconst 2, 1) := by decide +kernel
theorem dL_law_604 : decode cL_law 604 = .ok (.iadd, 1) := by decide +kernel
theorem dL_law_605 : decode cL_law 605 = .ok (.iaload, 1) := by decide +kernel
theorem dL_law_606 : decode cL_law 606 = .ok (.invokevirtual 77, 3) := by decide +kernel
theorem dL_law_609 : decode cL_law 609 = .ok (.aload_n 2, 1) := by decide +kernel
theorem dL_law_610 : decode cL_law 610 = .ok (.aload_n 0, 1) := by decide +kernel
theorem dL_law_611 : decode cL_law 611 = .ok (.iload_n 3, 1) := by decide +kernel
theorem dL_law_612 : decode cL_law 612 = .ok (.iconst 1, 1) := by decide +kernel
theorem dL_law_613 : decode cL_law 613 = .ok (.iadd, 1) := by decide +kernel
theorem dL_law_614 : decode cL_law 614 = .ok (.iaload, 1) := by decide +kernel
theorem dL_law_615 : decode cL_law 615 = .ok (.aload_n 0, 1) := by decide +kernel
theorem dL_law_616 : decode cL_law 616 = .ok (.iload_n 3, 1) := by decide +kernel
theorem dL_law_617 : decode cL_law 617 = .ok (.iconst 2, 1) := by decide +kernel
theorem dL_law_618 : decode cL_law 618 = .ok (.iadd, 1) := by decide +kernel
theorem dL_law_619 : decode cL_law 619 = .ok (.iaload, 1) := by decide +kernel
theorem dL_law_620 : decode cL_law 620 = .ok (.invokevirtual 80, 3) := by decide +kernel
theorem dL_law_623 : decode cL_law 623 = .ok (.if_icmp .eq 41, 3) := by decide +kernel
theorem dL_law_626 : decode cL_law 626 = .ok (.iconst 0, 1) := by decide +kernel
theorem dL_law_627 : decode cL_law 627 = .ok (.ireturn, 1) := by decide +kernel
theorem dL_law_628 : decode cL_law 628 = .ok (.aload_n 1, 1) := by decide +kernel
theorem dL_law_629 : decode cL_law 629 = .ok (.aload_n 0, 1) := by decide +kernel
theorem dL_law_630 : decode cL_law 630 = .ok (.iload_n 3, 1) := by decide +kernel
theorem dL_law_631 : decode cL_law 631 = .ok (.iconst 1, 1) := by decide +kernel
theorem dL_law_632 : decode cL_law 632 = .ok (.iadd, 1) := by decide +kernel
theorem dL_law_633 : decode cL_law 633 = .ok (.iaload, 1) := by decide +kernel
theorem dL_law_634 : decode cL_law 634 = .ok (.invokevirtual 81, 3) := by decide +kernel
theorem dL_law_637 : decode cL_law 637 = .ok (.aload_n 2, 1) := by decide +kernel
theorem dL_law_638 : decode cL_law 638 = .ok (.aload_n 0, 1) := by decide +kernel
theorem dL_law_639 : decode cL_law 639 = .ok (.iload_n 3, 1) := by decide +kernel
theorem dL_law_640 : decode cL_law 640 = .ok (.iconst 1, 1) := by decide +kernel
theorem dL_law_641 : decode cL_law 641 = .ok (.iadd, 1) := by decide +kernel
theorem dL_law_642 : decode cL_law 642 = .ok (.iaload, 1) := by decide +kernel
theorem dL_law_643 : decode cL_law 643 = .ok (.invokevirtual 84, 3) := by decide +kernel
theorem dL_law_646 : decode cL_law 646 = .ok (.if_icmp .eq 18, 3) := by decide +kernel
theorem dL_law_649 : decode cL_law 649 = .ok (.iconst 0, 1) := by decide +kernel
theorem dL_law_650 : decode cL_law 650 = .ok (.ireturn, 1) := by decide +kernel
theorem dL_law_651 : decode cL_law 651 = .ok (.aload_n 1, 1) := by decide +kernel
theorem dL_law_652 : decode cL_law 652 = .ok (.invokevirtual 85, 3) := by decide +kernel
theorem dL_law_655 : decode cL_law 655 = .ok (.aload_n 2, 1) := by decide +kernel
theorem dL_law_656 : decode cL_law 656 = .ok (.invokevirtual 89, 3) := by decide +kernel
theorem dL_law_659 : decode cL_law 659 = .ok (.if_icmp .eq 5, 3) := by decide +kernel
theorem dL_law_662 : decode cL_law 662 = .ok (.iconst 0, 1) := by decide +kernel
theorem dL_law_663 : decode cL_law 663 = .ok (.ireturn, 1) := by decide +kernel
theorem dL_law_664 : decode cL_law 664 = .ok (.iinc 3 5, 3) := by decide +kernel
theorem dL_law_667 : decode cL_law 667 = .ok (.goto (-649), 3) := by decide +kernel
theorem dL_law_670 : decode cL_law 670 = .ok (.iconst 1, 1) := by decide +kernel
theorem dL_law_671 : decode cL_law 671 = .ok (.ireturn, 1) := by decide +kernel
end
section
/-! ===== the world: what each cell holds, by a kind and a number ===== -/
abbrev GG : Type := va_G × ((ClassId × ClassId) × (ClassId × ClassId)) × (Nat → Nat → Nat) × Nat
def gD (G : GG) : va_G := G.1
def gI (G : GG) : ClassId := G.2.1.1.1
def gZ (G : GG) : ClassId := G.2.1.1.2
def gR (G : GG) : ClassId := G.2.1.2.1
def gT (G : GG) : ClassId := G.2.1.2.2
def zad (G : GG) : Nat → Nat → Nat := G.2.2.1
/-- how many tapes there are -/
def zn (G : GG) : Nat := G.2.2.2
abbrev TYS (G : GG) : List (ClassId × FieldType) := [(gI G, .int), (gZ G, .boolean), (gR G, .object RX1), (gT G, .object RX3)]
/-- the class's state: ints of objects, small numbers of objects, rows, the tape that a drive is taken for -/
abbrev CS : Type := (Nat → Nat → Nat → Int32) × (Nat → Nat → Nat → Nat) × (Nat → Nat → Nat → Int32) × (Nat → Option Nat)
def cF (C : CS) : Nat → Nat → Nat → Int32 := C.1
def cN (C : CS) : Nat → Nat → Nat → Nat := C.2.1
def cB (C : CS) : Nat → Nat → Nat → Int32 := C.2.2.1
def cM (C : CS) : Nat → Option Nat := C.2.2.2
def up3 {α : Type} (h : Nat → Nat → Nat → α) (f i k : Nat) (v : α) : Nat → Nat → Nat → α := fun f' i' k' => if k' = k ∧ f' = f ∧ i' = i then v else h f' i' k'
def sF (C : CS) (f i k : Nat) (v : Int32) : CS := (up3 C.1 f i k v, C.2)
def sN (C : CS) (f i k : Nat) (v : Nat) : CS := (C.1, up3 C.2.1 f i k v, C.2.2)
def sB (C : CS) (f i k : Nat) (v : Int32) : CS := (C.1, C.2.1, up3 C.2.2.1 f i k v, C.2.2.2)
def sM (C : CS) (d : Nat) (v : Option Nat) : CS := (C.1, C.2.1, C.2.2.1, va_up C.2.2.2 d v)
/-- the reference's state: its ints, its rows -/
abbrev MS : Type := (Nat → Int32) × (Nat → Nat → Int32)
def mF (M : MS) : Nat → Int32 := M.1
def mA (M : MS) : Nat → Nat → Int32 := M.2
def smF (M : MS) (k : Nat) (v : Int32) : MS := (upd M.1 k v, M.2)
def smA (M : MS) (j k : Nat) (v : Int32) : MS := (M.1, va_up M.2 j (upd (M.2 j) k v))
def cap (b : Nat) : Nat := if b = 12 then 32 else 100
def mlen (j : Nat) : Nat := match j with
  | 1 => 12 | 2 => 12 | 3 => 12 | 4 => 12
  | 5 => 1200 | 6 => 1200 | 7 => 1200 | 8 => 1200 | 9 => 12000
  | 10 => 3 | 11 => 3 | 12 => 3 | 13 => 3 | 14 => 3
  | _ => 2
def mcl (G : GG) (j : Nat) : ClassId := match j with
  | 8 => gZ G | 10 => gZ G | 11 => gZ G | 18 => gZ G
  | _ => gI G
def fsV (G : GG) (F : Nat → Int32) (n : Nat) : List Value := [.ref (zad G 1 0), .ref (zad G 2 0), .ref (zad G 4 0), .ref (zad G 5 12), .int (nI n), .int (F 5), .int (F 6), .int (F 7)]
def fsE (F : Nat → Int32) : List Value := [.int (F 0), .int (F 1), .int (F 2)]
def fsD (G : GG) (F : Nat → Int32) (N : Nat → Nat) (M : Option Nat) (d : Nat) : List Value := [.int (nI (8 + 8 * d)), .ref (zad G 1 0), .int (F 2), .int (F 3), .int (F 4), .int (F 5), va_rf (M.map (zad G 9)), .int (nI (N 7)), .int (nI (N 8))]
def fsB (G : GG) (N : Nat → Nat) (b : Nat) : List Value := [.ref (zad G 6 b), .ref (zad G 7 b), .ref (zad G 8 b), .int (nI (N 3))]
def fsT (G : GG) (F : Nat → Int32) (N : Nat → Nat) (t : Nat) : List Value := [.int (nI (N 0)), .ref (zad G 5 t), .ref (zad G 10 t), .ref (zad G 11 t), .int (F 4), .int (F 5)]
def fsM (G : GG) (F : Nat → Int32) : List Value := [.int (F 0), .ref (zad G 13 1), .ref (zad G 13 2), .ref (zad G 13 3), .ref (zad G 13 4), .ref (zad G 13 5), .ref (zad G 13 6), .ref (zad G 13 7), .ref (zad G 13 8), .ref (zad G 13 9), .ref (zad G 13 10), .ref (zad G 13 11), .ref (zad G 13 12), .ref (zad G 13 13), .ref (zad G 13 14), .ref (zad G 13 15), .ref (zad G 13 16), .ref (zad G 13 17), .ref (zad G 13 18), .ref (zad G 13 19), .int (F 20), .int (F 21), .int (F 22), .int (F 23), .int (F 24), .int (F 25), .int (F 26), .int (F 27), .int (F 28), .int (F 29), .int (F 30)]
def rowR (G : GG) : Nat → Option Nat := fun j => some (zad G 3 j)
def rowT (G : GG) (n : Nat) : Nat → Option Nat := fun j => if j < n then some (zad G 9 j) else none
def enc0 (G : GG) (cF : Nat → Nat → Nat → Int32) (cN : Nat → Nat → Nat → Nat) (cB : Nat → Nat → Nat → Int32) (cM : Nat → Option Nat) (n : Nat) (mF : Nat → Int32) (mA : Nat → Nat → Int32) (f i : Nat) : va_E := match f with
  | 0 => .inr (4, fsV G (cF 0 i) n)
  | 1 => .inr (2, fsE (cF 1 i))
  | 2 => .inl (gR G, 3, .inr (.inr (.inr (.inr (rowR G)))))
  | 3 => .inr (1, fsD G (cF 3 i) (cN 3 i) (cM i) i)
  | 4 => .inl (gT G, 12, .inr (.inr (.inr (.inr (rowT G n)))))
  | 5 => .inr (0, fsB G (cN 5 i) i)
  | 6 => .inl (gI G, cap i, .inl (cB 6 i))
  | 7 => .inl (gI G, cap i, .inl (cB 7 i))
  | 8 => .inl (gI G, cap i, .inl (cB 8 i))
  | 9 => .inr (3, fsT G (cF 9 i) (cN 9 i) i)
  | 10 => .inl (gZ G, 100, .inl (cB 10 i))
  | 11 => .inl (gZ G, 100, .inl (cB 11 i))
  | 12 => .inr (5, fsM G (if i = 0 then mF else fun _ => 0))
  | 13 => .inl (mcl G i, mlen i, .inl (mA i))
  | _ => .inr (9, [])
def enc (G : GG) (C : CS) (M : MS) (f i : Nat) : va_E := enc0 G (cF C) (cN C) (cB C) (cM C) (zn G) (mF M) (mA M) f i
def LL (n : Nat) : List (Nat × Nat) := [(0, 0), (1, 0), (2, 0), (3, 0), (3, 1), (3, 2), (4, 0), (5, 12), (6, 12), (7, 12), (8, 12), (12, 0), (13, 1), (13, 2), (13, 3), (13, 4), (13, 5), (13, 6), (13, 7), (13, 8), (13, 9), (13, 10), (13, 11), (13, 12), (13, 13), (13, 14), (13, 15), (13, 16), (13, 17), (13, 18), (13, 19)] ++ (List.range n).flatMap (fun t => [(9, t), (5, t), (6, t), (7, t), (8, t), (10, t), (11, t)])
def world (G : GG) (C : CS) (M : MS) : va_W := (LL (zn G)).map (fun q => (zad G q.1 q.2, enc G C M q.1 q.2))
/-- what stands at a point of a walk -/
def Wd (G : GG) (s : State) (A : Nat → Prop) (H0 H : Heap) (locs : List Loc) (C : CS) (M : MS) : Prop :=
  va_K (gD G) vwCl (TYS G) s ∧ va_P (gD G) vwCl (world G C M) H ∧ va_D A (world G C M) ∧ va_S A H0 H locs ∧ ∀ q : Nat, H0.size ≤ q → A q
/-- a contract: from the state C, M the method y at the arguments vs answers r, and the state is C', M' -/
def Ct (l : Launch) (G : GG) (y : MethodName) (bytes : ByteArray) (maxL : Nat) (ret : Option FieldType) (fr lo : Nat) (vs : List Value) (C : CS) (M : MS) (r : Option Value) (C' : CS) (M' : MS) : Prop :=
  ∀ sz : Nat, Met l y (Cond.code y bytes maxL ret :: TT) { frames := fr, cells := 0, slots := 0, locals := lo }
    (va_Pc vs (fun U => U.heap.size = sz ∧ va_P (gD G) vwCl (world G C M) U.heap ∧ va_K (gD G) vwCl (TYS G) U ∧ va_D (fun _ => True) (world G C M)))
    (fun _ st oc t => (oc = .returned r ∧ va_P (gD G) vwCl (world G C' M') t.heap ∧ va_K (gD G) vwCl (TYS G) t ∧ va_D (va_A (world G C M) sz) (world G C' M')) ∧ va_F (va_A (world G C M) sz) st t)
    0 0 (va_A (world G C M) sz)
/-! what the numbers of a world are -/
theorem cF_sF {C : CS} {f i k f' i' k' : Nat} {v : Int32} : cF (sF C f i k v) f' i' k' = if k' = k ∧ f' = f ∧ i' = i then v else cF C f' i' k' := rfl
theorem cN_sN {C : CS} {f i k f' i' k' : Nat} {v : Nat} : cN (sN C f i k v) f' i' k' = if k' = k ∧ f' = f ∧ i' = i then v else cN C f' i' k' := rfl
theorem cB_sB {C : CS} {f i k f' i' k' : Nat} {v : Int32} : cB (sB C f i k v) f' i' k' = if k' = k ∧ f' = f ∧ i' = i then v else cB C f' i' k' := rfl
theorem cM_sM {C : CS} {d d' : Nat} {v : Option Nat} : cM (sM C d v) d' = if d' = d then v else cM C d' := rfl
theorem cN_sF {C : CS} {f i k : Nat} {v : Int32} : cN (sF C f i k v) = cN C := rfl
theorem cB_sF {C : CS} {f i k : Nat} {v : Int32} : cB (sF C f i k v) = cB C := rfl
theorem cM_sF {C : CS} {f i k : Nat} {v : Int32} : cM (sF C f i k v) = cM C := rfl
theorem cF_sN {C : CS} {f i k : Nat} {v : Nat} : cF (sN C f i k v) = cF C := rfl
theorem cB_sN {C : CS} {f i k : Nat} {v : Nat} : cB (sN C f i k v) = cB C := rfl
theorem cM_sN {C : CS} {f i k : Nat} {v : Nat} : cM (sN C f i k v) = cM C := rfl
theorem cF_sB {C : CS} {f i k : Nat} {v : Int32} : cF (sB C f i k v) = cF C := rfl
theorem cN_sB {C : CS} {f i k : Nat} {v : Int32} : cN (sB C f i k v) = cN C := rfl
theorem cM_sB {C : CS} {f i k : Nat} {v : Int32} : cM (sB C f i k v) = cM C := rfl
theorem cF_sM {C : CS} {d : Nat} {v : Option Nat} : cF (sM C d v) = cF C := rfl
theorem cN_sM {C : CS} {d : Nat} {v : Option Nat} : cN (sM C d v) = cN C := rfl
theorem cB_sM {C : CS} {d : Nat} {v : Option Nat} : cB (sM C d v) = cB C := rfl
theorem mF_smF {M : MS} {k k' : Nat} {v : Int32} : mF (smF M k v) k' = if k' = k then v else mF M k' := rfl
theorem mA_smF {M : MS} {k : Nat} {v : Int32} : mA (smF M k v) = mA M := rfl
theorem mF_smA {M : MS} {j k : Nat} {v : Int32} : mF (smA M j k v) = mF M := rfl
theorem mA_smA {M : MS} {j k j' k' : Nat} {v : Int32} : mA (smA M j k v) j' k' = if j' = j ∧ k' = k then v else mA M j' k' := by
  show (va_up M.2 j (upd (M.2 j) k v)) j' k' = _
  unfold va_up upd mA
  by_cases h : j' = j
  · subst h; simp
  · simp [h]
/-! the cells -/
theorem LL_0 {n : Nat} : (0, 0) ∈ LL n := List.mem_append_left _ (by decide)
theorem LL_1 {n : Nat} : (1, 0) ∈ LL n := List.mem_append_left _ (by decide)
theorem LL_2 {n : Nat} : (2, 0) ∈ LL n := List.mem_append_left _ (by decide)
theorem LL_3 {n d : Nat} (h : d < 3) : (3, d) ∈ LL n := by
  rcases (show d = 0 ∨ d = 1 ∨ d = 2 by omega) with rfl | rfl | rfl <;> exact List.mem_append_left _ (by decide)
theorem LL_4 {n : Nat} : (4, 0) ∈ LL n := List.mem_append_left _ (by decide)
theorem LL_t {n t f : Nat} (h : t < n) (hf : (f, t) ∈ [(9, t), (5, t), (6, t), (7, t), (8, t), (10, t), (11, t)]) : (f, t) ∈ LL n :=
  List.mem_append_right _ (List.mem_flatMap.mpr ⟨t, List.mem_range.mpr h, hf⟩)
/-- the rows of blocks that there are: the tapes', and the stage's -/
def isB (n b : Nat) : Prop := b < n ∨ b = 12
theorem LL_5 {n b : Nat} (h : isB n b) : (5, b) ∈ LL n := by
  rcases h with h | rfl
  · exact LL_t h (by simp)
  · exact List.mem_append_left _ (by decide)
theorem LL_6 {n b : Nat} (h : isB n b) : (6, b) ∈ LL n := by
  rcases h with h | rfl
  · exact LL_t h (by simp)
  · exact List.mem_append_left _ (by decide)
theorem LL_7 {n b : Nat} (h : isB n b) : (7, b) ∈ LL n := by
  rcases h with h | rfl
  · exact LL_t h (by simp)
  · exact List.mem_append_left _ (by decide)
theorem LL_8 {n b : Nat} (h : isB n b) : (8, b) ∈ LL n := by
  rcases h with h | rfl
  · exact LL_t h (by simp)
  · exact List.mem_append_left _ (by decide)
theorem LL_9 {n t : Nat} (h : t < n) : (9, t) ∈ LL n := LL_t h (by simp)
theorem LL_10 {n t : Nat} (h : t < n) : (10, t) ∈ LL n := LL_t h (by simp)
theorem LL_11 {n t : Nat} (h : t < n) : (11, t) ∈ LL n := LL_t h (by simp)
theorem LL_12 {n : Nat} : (12, 0) ∈ LL n := List.mem_append_left _ (by decide)
theorem LL_13 {n j : Nat} (h : (13, j) ∈ LL 0) : (13, j) ∈ LL n := List.mem_append_left _ (by simpa [LL] using h)
theorem w_get {G : GG} {C : CS} {M : MS} {f i : Nat} (h : (f, i) ∈ LL (zn G)) : ∃ k : Nat, (world G C M)[k]? = some (zad G f i, enc G C M f i) :=
  List.getElem?_of_mem (List.mem_map.mpr ⟨(f, i), h, rfl⟩)
theorem w_set {A : Nat → Prop} {G : GG} {C C' : CS} {M M' : MS} {k f i : Nat} {e : va_E} (hD : va_D A (world G C M)) (hk : (world G C M)[k]? = some (zad G f i, enc G C M f i)) (hm : (f, i) ∈ LL (zn G)) (he : enc G C' M' f i = e) (ho : ∀ f' i' : Nat, (f', i') ≠ (f, i) → enc G C' M' f' i' = enc G C M f' i') : (world G C M).set k (zad G f i, e) = world G C' M' := by
  obtain ⟨k2, hk2⟩ := List.getElem?_of_mem hm
  have hw2 : (world G C M)[k2]? = some (zad G f i, enc G C M f i) := by simp [world, List.getElem?_map, hk2]
  have hkk : k = k2 := hD.1 k k2 _ _ hk hw2 rfl
  subst hkk
  have hl := (List.getElem?_eq_some_iff.mp hk).1
  apply List.ext_getElem?
  intro j
  by_cases hj : k = j
  · subst hj
    rw [List.getElem?_set_self hl]
    simp [world, List.getElem?_map, hk2, he]
  · rw [List.getElem?_set_ne hj]
    simp only [world, List.getElem?_map]
    cases hb : (LL (zn G))[j]? with
    | none => rfl
    | some b =>
      have hne : (b.1, b.2) ≠ (f, i) := by
        intro hbe
        have hwj : (world G C M)[j]? = some (zad G f i, enc G C M f i) := by
          have h1 : b.1 = f := congrArg Prod.fst hbe
          have h2 : b.2 = i := congrArg Prod.snd hbe
          simp [world, List.getElem?_map, hb, h1, h2]
        exact hj (hD.1 k j _ _ hk hwj rfl)
      simp only [Option.map_some, ho b.1 b.2 hne]
theorem w_len {G : GG} {C C' : CS} {M M' : MS} : ∀ (k q : Nat), (∃ e, (world G C' M')[k]? = some (q, e)) → ∃ e, (world G C M)[k]? = some (q, e) := by
  intro k q ⟨e, h⟩
  simp only [world, List.getElem?_map] at h ⊢
  cases hb : (LL (zn G))[k]? with
  | none => rw [hb] at h; cases h
  | some b =>
    rw [hb] at h
    simp only [Option.map_some, Option.some.injEq, Prod.mk.injEq] at h ⊢
    exact ⟨_, h.1, rfl⟩
theorem w_A {G : GG} {C C' : CS} {M M' : MS} {sz : Nat} (q : Nat) (h : va_A (world G C' M') sz q) : va_A (world G C M) sz q := by
  rcases h with ⟨k, e, h⟩ | h
  · obtain ⟨e', h'⟩ := w_len (C := C) (M := M) k q ⟨e, h⟩
    exact Or.inl ⟨k, e', h'⟩
  · exact Or.inr h
theorem e_ne {f i f' i' : Nat} (h : (f', i') ≠ (f, i)) : ¬ (f' = f ∧ i' = i) := fun q => h (by rw [q.1, q.2])
theorem enc_sF {G : GG} {C : CS} {M : MS} {f i k f' i' : Nat} {v : Int32} (h : (f', i') ≠ (f, i)) : enc G (sF C f i k v) M f' i' = enc G C M f' i' := by
  have hx : cF (sF C f i k v) f' i' = cF C f' i' := by
    funext k'
    rw [cF_sF, if_neg (fun q => e_ne h ⟨q.2.1, q.2.2⟩)]
  unfold enc enc0
  rw [cN_sF, cB_sF, cM_sF]
  split <;> first | rfl | rw [hx]
theorem enc_sN {G : GG} {C : CS} {M : MS} {f i k f' i' v : Nat} (h : (f', i') ≠ (f, i)) : enc G (sN C f i k v) M f' i' = enc G C M f' i' := by
  have hx : cN (sN C f i k v) f' i' = cN C f' i' := by
    funext k'
    rw [cN_sN, if_neg (fun q => e_ne h ⟨q.2.1, q.2.2⟩)]
  unfold enc enc0
  rw [cF_sN, cB_sN, cM_sN]
  split <;> first | rfl | rw [hx]
theorem enc_sB {G : GG} {C : CS} {M : MS} {f i k f' i' : Nat} {v : Int32} (h : (f', i') ≠ (f, i)) : enc G (sB C f i k v) M f' i' = enc G C M f' i' := by
  have hx : cB (sB C f i k v) f' i' = cB C f' i' := by
    funext k'
    rw [cB_sB, if_neg (fun q => e_ne h ⟨q.2.1, q.2.2⟩)]
  unfold enc enc0
  rw [cF_sB, cN_sB, cM_sB]
  split <;> first | rfl | rw [hx]
theorem enc_sM {G : GG} {C : CS} {M : MS} {d f' i' : Nat} {v : Option Nat} (h : (f', i') ≠ (3, d)) : enc G (sM C d v) M f' i' = enc G C M f' i' := by
  unfold enc enc0
  rw [cF_sM, cN_sM, cB_sM]
  split
  case h_4 => rw [cM_sM, if_neg (fun q => h (by rw [q]))]
  all_goals rfl
theorem enc_smF {G : GG} {C : CS} {M : MS} {k f' i' : Nat} {v : Int32} (h : (f', i') ≠ (12, 0)) : enc G C (smF M k v) f' i' = enc G C M f' i' := by
  unfold enc enc0
  rw [mA_smF]
  split
  case h_13 =>
    have hi : i' ≠ 0 := fun q => h (by rw [q])
    rw [if_neg hi, if_neg hi]
  all_goals rfl
theorem enc_smA {G : GG} {C : CS} {M : MS} {j k f' i' : Nat} {v : Int32} (h : (f', i') ≠ (13, j)) : enc G C (smA M j k v) f' i' = enc G C M f' i' := by
  unfold enc enc0
  rw [mF_smA]
  split
  case h_14 =>
    have hx : mA (smA M j k v) i' = mA M i' := by
      funext k'
      rw [mA_smA, if_neg (fun q => h (by rw [q.1]))]
    rw [hx]
  all_goals rfl
end
section
/-! ===== the rows of a walk over the world ===== -/
/-- what a caller needs of a method's words -/
def MW (y : MethodName) (bytes : ByteArray) (maxL : Nat) (ret : Option FieldType) (n : Nat) : Prop :=
  Cond.code y bytes maxL ret ∈ TT ∧ Cond.initialized y.cls ∈ TT ∧ (y.cls ≠ "java/lang/invoke/MethodHandle" ∧ y.cls ≠ "java/lang/invoke/VarHandle") ∧ (parseMethodDescriptor y.desc).map (fun d => d.parameters.length) = some n
def MWv (y : MethodName) : Prop := Cond.instanceMethod y ∈ TT ∧ Cond.selects y.cls y y ∈ TT
theorem code_pay {y : MethodName} {bytes : ByteArray} {maxL : Nat} {ret : Option FieldType} {args : Array Value} {s : State} (hts : ∀ w ∈ TT, w.before args s = true) (hc : Cond.code y bytes maxL ret ∈ TT) : ∀ w ∈ Cond.code y bytes maxL ret :: TT, ∀ (a' : Array Value) (U : State), s.WarmedH U.vm → w.before a' U = true := by
  intro w hw
  rcases List.mem_cons.mp hw with rfl | hw
  · exact pay_in hts TT_good _ hc
  · exact pay_in hts TT_good _ hw
section ZR
variable {p : Program} {l : Launch} {e : Env} {R : Room} {s : State} {m : MethodId} {args : Array Value} {below : List Frame} {meth : Method} {c : Code} {H : Heap} {locs : List Loc} {cells slots : Nat} {Q : State → Prop}
variable {cc : ByteArray} {nL : Nat} {own : String} {pc : Nat} {ls : Array Slot} {rest st0 : List Value} {G : GG} {A : Nat → Prop} {H0 : Heap} {C : CS} {M : MS}
theorem z_get (hC : CallFix p m c cc nL s args TT own) (hW : Wd G s A H0 H locs C M) {f i ci index N : Nat} {fs : List Value} {Cn : String} {T : u_T} (hi : (f, i) ∈ LL (zn G)) (he : enc G C M f i = .inr (ci, fs)) (hc : vwCl[ci]? = some (Cn, T, N)) (hin : ∀ w ∈ u_ws Cn T N, w ∈ TT) (k : Nat) (hk : k < N) (hl : Cond.fieldLink own index (T k).1 (T k).2.1 (T k).2.2.1 ∈ TT) {v : Value} (hv : fs[k]? = some v) (hdg : decode cc pc = .ok (.getfield index, 3))
    (kk : W p l e R s m args below meth c H locs cells slots Q (F0 m (pc + 3) ls (v :: rest))) : W p l e R s m args below meth c H locs cells slots Q (F0 m pc ls (.ref (zad G f i) :: rest)) := by
  obtain ⟨q0, hq⟩ := w_get (G := G) (M := M) hi
  rw [he] at hq
  exact va_get hC.1 hC.2.1 hC.2.2.2.2 hin hC.2.2.2.1 hW.1 hW.2.1 q0 hq hc k hk (hC.2.2.2.2 _ hl) (fun _ h => h) hv hdg kk
theorem z_put (hC : CallFix p m c cc nL s args TT own) (hW : Wd G s A H0 H locs C M) {f i ci index N : Nat} {fs : List Value} {Cn : String} {T : u_T} (hi : (f, i) ∈ LL (zn G)) (he : enc G C M f i = .inr (ci, fs)) (hc : vwCl[ci]? = some (Cn, T, N)) (hin : ∀ w ∈ u_ws Cn T N, w ∈ TT) (ty0 : Nat → FieldType) (hty : ∀ k, k < N → parseFieldDescriptor (T k).2.2.1 = some (ty0 k)) (hnm : ∀ a, a < N → ∀ b, b < N → a ≠ b → (T a).2.1 ≠ (T b).2.1) (k : Nat) (hk : k < N) (hl : Cond.fieldLink own index (T k).1 (T k).2.1 (T k).2.2.1 ∈ TT) (hfin : (T k).2.2.2 = false) {ty : FieldType} {v : Value} (hd : parseFieldDescriptor (T k).2.2.1 = some ty) (hn : narrow ty v = v) (hfit : fits ty v = true) (hlen : k < fs.length)
    {C' : CS} {M' : MS} (he' : enc G C' M' f i = .inr (ci, fs.set k v)) (ho : ∀ f' i' : Nat, (f', i') ≠ (f, i) → enc G C' M' f' i' = enc G C M f' i') (hdg : decode cc pc = .ok (.putfield index, 3))
    (kk : ∀ (H1 : Heap) (locs1 : List Loc), Wd G s A H0 H1 locs1 C' M' → W p l e R s m args below meth c H1 locs1 cells slots Q (F0 m (pc + 3) ls rest)) : W p l e R s m args below meth c H locs cells slots Q (F0 m pc ls (v :: .ref (zad G f i) :: rest)) := by
  obtain ⟨q0, hq⟩ := w_get (G := G) (M := M) hi
  have hs := w_set hW.2.2.1 hq hi he' ho
  rw [he] at hq
  refine va_put hC.1 hC.2.1 hC.2.2.2.2 hin ty0 hty hnm hC.2.2.2.1 hW.1 hW.2.1 hW.2.2.1 hW.2.2.2.1 q0 hq hc k hk (hC.2.2.2.2 _ hl) (fun _ h => h) hfin hd hn hfit hlen hdg (fun H1 locs1 hP hD hS => ?_)
  rw [hs] at hP hD
  exact kk H1 locs1 ⟨hW.1, hP, hD, hS, hW.2.2.2.2⟩
theorem z_iald (hC : CallFix p m c cc nL s args TT own) (hW : Wd G s A H0 H locs C M) {f i n : Nat} {g : Nat → Int32} (hi : (f, i) ∈ LL (zn G)) (he : enc G C M f i = .inl (gI G, n, .inl g)) {x : Int32} (hin : vp_in x n) (hdg : decode cc pc = .ok (.iaload, 1))
    (kk : W p l e R s m args below meth c H locs cells slots Q (F0 m (pc + 1) ls (.int (g x.toNatClampNeg) :: rest))) : W p l e R s m args below meth c H locs cells slots Q (F0 m pc ls (.int x :: .ref (zad G f i) :: rest)) := by
  obtain ⟨q0, hq⟩ := w_get (G := G) (M := M) hi
  rw [he] at hq
  exact va_iald hC.1 hC.2.1 hW.1 hW.2.1 q0 0 hq rfl hin hdg kk
theorem z_zald (hC : CallFix p m c cc nL s args TT own) (hW : Wd G s A H0 H locs C M) {f i n : Nat} {g : Nat → Int32} (hi : (f, i) ∈ LL (zn G)) (he : enc G C M f i = .inl (gZ G, n, .inl g)) {x : Int32} (hin : vp_in x n) (hdg : decode cc pc = .ok (.baload, 1))
    (kk : W p l e R s m args below meth c H locs cells slots Q (F0 m (pc + 1) ls (.int (g x.toNatClampNeg) :: rest))) : W p l e R s m args below meth c H locs cells slots Q (F0 m pc ls (.int x :: .ref (zad G f i) :: rest)) := by
  obtain ⟨q0, hq⟩ := w_get (G := G) (M := M) hi
  rw [he] at hq
  exact va_zald hC.1 hC.2.1 hW.1 hW.2.1 q0 1 hq rfl hin hdg kk
theorem z_iast (hC : CallFix p m c cc nL s args TT own) (hW : Wd G s A H0 H locs C M) {f i n : Nat} {g : Nat → Int32} (hi : (f, i) ∈ LL (zn G)) (he : enc G C M f i = .inl (gI G, n, .inl g)) {x v : Int32} (hin : vp_in x n)
    {C' : CS} {M' : MS} (he' : enc G C' M' f i = .inl (gI G, n, .inl (upd g x.toNatClampNeg v))) (ho : ∀ f' i' : Nat, (f', i') ≠ (f, i) → enc G C' M' f' i' = enc G C M f' i') (hdg : decode cc pc = .ok (.iastore, 1))
    (kk : ∀ (H1 : Heap) (locs1 : List Loc), Wd G s A H0 H1 locs1 C' M' → W p l e R s m args below meth c H1 locs1 cells slots Q (F0 m (pc + 1) ls rest)) : W p l e R s m args below meth c H locs cells slots Q (F0 m pc ls (.int v :: .int x :: .ref (zad G f i) :: rest)) := by
  obtain ⟨q0, hq⟩ := w_get (G := G) (M := M) hi
  have hs := w_set hW.2.2.1 hq hi he' ho
  rw [he] at hq
  refine va_iast hC.1 hC.2.1 hW.1 hW.2.1 hW.2.2.1 hW.2.2.2.1 q0 0 hq rfl hin hdg (fun H1 locs1 hP hD hS => ?_)
  rw [hs] at hP hD
  exact kk H1 locs1 ⟨hW.1, hP, hD, hS, hW.2.2.2.2⟩
theorem z_zast (hC : CallFix p m c cc nL s args TT own) (hW : Wd G s A H0 H locs C M) {f i n : Nat} {g : Nat → Int32} (hi : (f, i) ∈ LL (zn G)) (he : enc G C M f i = .inl (gZ G, n, .inl g)) {x v : Int32} (hin : vp_in x n) (hv : v = 0 ∨ v = 1)
    {C' : CS} {M' : MS} (he' : enc G C' M' f i = .inl (gZ G, n, .inl (upd g x.toNatClampNeg v))) (ho : ∀ f' i' : Nat, (f', i') ≠ (f, i) → enc G C' M' f' i' = enc G C M f' i') (hdg : decode cc pc = .ok (.bastore, 1))
    (kk : ∀ (H1 : Heap) (locs1 : List Loc), Wd G s A H0 H1 locs1 C' M' → W p l e R s m args below meth c H1 locs1 cells slots Q (F0 m (pc + 1) ls rest)) : W p l e R s m args below meth c H locs cells slots Q (F0 m pc ls (.int v :: .int x :: .ref (zad G f i) :: rest)) := by
  obtain ⟨q0, hq⟩ := w_get (G := G) (M := M) hi
  have hs := w_set hW.2.2.1 hq hi he' ho
  rw [he] at hq
  have hnar : vp_nar .boolean v = v := by rcases hv with rfl | rfl <;> decide
  refine va_zast hC.1 hC.2.1 hW.1 hW.2.1 hW.2.2.1 hW.2.2.2.1 q0 1 hq rfl hin hdg (fun H1 locs1 hP hD hS => ?_)
  rw [hnar, hs] at hP hD
  exact kk H1 locs1 ⟨hW.1, hP, hD, hS, hW.2.2.2.2⟩
/-! fields of the class's and the reference's objects -/
theorem g0 (hC : CallFix p m c cc nL s args TT own) (hW : Wd G s A H0 H locs C M) {k index : Nat} (hk : k < 8) (hl : Cond.fieldLink own index (TX4 k).1 (TX4 k).2.1 (TX4 k).2.2.1 ∈ TT) {v : Value} (hv : (fsV G (cF C 0 0) (zn G))[k]? = some v) (hdg : decode cc pc = .ok (.getfield index, 3))
    (kk : W p l e R s m args below meth c H locs cells slots Q (F0 m (pc + 3) ls (v :: rest))) : W p l e R s m args below meth c H locs cells slots Q (F0 m pc ls (.ref (zad G 0 0) :: rest)) :=
  z_get hC hW LL_0 rfl rfl uW4 k hk hl hv hdg kk
theorem g1 (hC : CallFix p m c cc nL s args TT own) (hW : Wd G s A H0 H locs C M) {k index : Nat} (hk : k < 3) (hl : Cond.fieldLink own index (TX2 k).1 (TX2 k).2.1 (TX2 k).2.2.1 ∈ TT) {v : Value} (hv : (fsE (cF C 1 0))[k]? = some v) (hdg : decode cc pc = .ok (.getfield index, 3))
    (kk : W p l e R s m args below meth c H locs cells slots Q (F0 m (pc + 3) ls (v :: rest))) : W p l e R s m args below meth c H locs cells slots Q (F0 m pc ls (.ref (zad G 1 0) :: rest)) :=
  z_get hC hW LL_1 rfl rfl uW2 k hk hl hv hdg kk
theorem g3 (hC : CallFix p m c cc nL s args TT own) (hW : Wd G s A H0 H locs C M) {d k index : Nat} (hd : d < 3) (hk : k < 9) (hl : Cond.fieldLink own index (TX1 k).1 (TX1 k).2.1 (TX1 k).2.2.1 ∈ TT) {v : Value} (hv : (fsD G (cF C 3 d) (cN C 3 d) (cM C d) d)[k]? = some v) (hdg : decode cc pc = .ok (.getfield index, 3))
    (kk : W p l e R s m args below meth c H locs cells slots Q (F0 m (pc + 3) ls (v :: rest))) : W p l e R s m args below meth c H locs cells slots Q (F0 m pc ls (.ref (zad G 3 d) :: rest)) :=
  z_get hC hW (LL_3 hd) rfl rfl uW1 k hk hl hv hdg kk
theorem g5 (hC : CallFix p m c cc nL s args TT own) (hW : Wd G s A H0 H locs C M) {b k index : Nat} (hb : isB (zn G) b) (hk : k < 4) (hl : Cond.fieldLink own index (TX0 k).1 (TX0 k).2.1 (TX0 k).2.2.1 ∈ TT) {v : Value} (hv : (fsB G (cN C 5 b) b)[k]? = some v) (hdg : decode cc pc = .ok (.getfield index, 3))
    (kk : W p l e R s m args below meth c H locs cells slots Q (F0 m (pc + 3) ls (v :: rest))) : W p l e R s m args below meth c H locs cells slots Q (F0 m pc ls (.ref (zad G 5 b) :: rest)) :=
  z_get hC hW (LL_5 hb) rfl rfl uW0 k hk hl hv hdg kk
theorem g9 (hC : CallFix p m c cc nL s args TT own) (hW : Wd G s A H0 H locs C M) {t k index : Nat} (ht : t < zn G) (hk : k < 6) (hl : Cond.fieldLink own index (TX3 k).1 (TX3 k).2.1 (TX3 k).2.2.1 ∈ TT) {v : Value} (hv : (fsT G (cF C 9 t) (cN C 9 t) t)[k]? = some v) (hdg : decode cc pc = .ok (.getfield index, 3))
    (kk : W p l e R s m args below meth c H locs cells slots Q (F0 m (pc + 3) ls (v :: rest))) : W p l e R s m args below meth c H locs cells slots Q (F0 m pc ls (.ref (zad G 9 t) :: rest)) :=
  z_get hC hW (LL_9 ht) rfl rfl uW3 k hk hl hv hdg kk
theorem g12 (hC : CallFix p m c cc nL s args TT own) (hW : Wd G s A H0 H locs C M) {k index : Nat} (hk : k < 31) (hl : Cond.fieldLink own index (TX5 k).1 (TX5 k).2.1 (TX5 k).2.2.1 ∈ TT) {v : Value} (hv : (fsM G (mF M))[k]? = some v) (hdg : decode cc pc = .ok (.getfield index, 3))
    (kk : W p l e R s m args below meth c H locs cells slots Q (F0 m (pc + 3) ls (v :: rest))) : W p l e R s m args below meth c H locs cells slots Q (F0 m pc ls (.ref (zad G 12 0) :: rest)) :=
  z_get hC hW LL_12 rfl rfl uW5 k hk hl hv hdg kk
theorem p0 (hC : CallFix p m c cc nL s args TT own) (hW : Wd G s A H0 H locs C M) {k index : Nat} {v : Int32} (hk : k = 5 ∨ k = 6 ∨ k = 7) (hl : Cond.fieldLink own index (TX4 k).1 (TX4 k).2.1 (TX4 k).2.2.1 ∈ TT) (hdg : decode cc pc = .ok (.putfield index, 3))
    (kk : ∀ (C1 : CS), C1 = sF C 0 0 k v → ∀ (H1 : Heap) (locs1 : List Loc), Wd G s A H0 H1 locs1 C1 M → W p l e R s m args below meth c H1 locs1 cells slots Q (F0 m (pc + 3) ls rest)) : W p l e R s m args below meth c H locs cells slots Q (F0 m pc ls (.int v :: .ref (zad G 0 0) :: rest)) := by
  rcases hk with rfl | rfl | rfl <;> exact z_put hC hW LL_0 rfl rfl uW4 tyX4 tyX4_ok nmX4 _ (by decide) hl rfl (ty := .int) (by decide +kernel) rfl rfl (Nat.le_of_ble_eq_true rfl) (C' := sF C 0 0 _ v) rfl (fun f' i' h => enc_sF h) hdg (kk _ rfl)
theorem p1 (hC : CallFix p m c cc nL s args TT own) (hW : Wd G s A H0 H locs C M) {k index : Nat} {v : Int32} (hk : k = 0 ∨ k = 1 ∨ k = 2) (hl : Cond.fieldLink own index (TX2 k).1 (TX2 k).2.1 (TX2 k).2.2.1 ∈ TT) (hdg : decode cc pc = .ok (.putfield index, 3))
    (kk : ∀ (C1 : CS), C1 = sF C 1 0 k v → ∀ (H1 : Heap) (locs1 : List Loc), Wd G s A H0 H1 locs1 C1 M → W p l e R s m args below meth c H1 locs1 cells slots Q (F0 m (pc + 3) ls rest)) : W p l e R s m args below meth c H locs cells slots Q (F0 m pc ls (.int v :: .ref (zad G 1 0) :: rest)) := by
  rcases hk with rfl | rfl | rfl <;> exact z_put hC hW LL_1 rfl rfl uW2 tyX2 tyX2_ok nmX2 _ (by decide) hl rfl (ty := .int) (by decide +kernel) rfl rfl (Nat.le_of_ble_eq_true rfl) (C' := sF C 1 0 _ v) rfl (fun f' i' h => enc_sF h) hdg (kk _ rfl)
theorem fsD_F (G : GG) (C : CS) (d k : Nat) (v : Int32) (hk : k = 2 ∨ k = 3 ∨ k = 4 ∨ k = 5) : fsD G (cF (sF C 3 d k v) 3 d) (cN (sF C 3 d k v) 3 d) (cM (sF C 3 d k v) d) d = (fsD G (cF C 3 d) (cN C 3 d) (cM C d) d).set k (.int v) := by
  rcases hk with rfl | rfl | rfl | rfl <;> simp [fsD, cF_sF, cN_sF, cM_sF]
theorem p3F (hC : CallFix p m c cc nL s args TT own) (hW : Wd G s A H0 H locs C M) {d k index : Nat} {v : Int32} (hd : d < 3) (hk : k = 2 ∨ k = 3 ∨ k = 5) (hl : Cond.fieldLink own index (TX1 k).1 (TX1 k).2.1 (TX1 k).2.2.1 ∈ TT) (hdg : decode cc pc = .ok (.putfield index, 3))
    (kk : ∀ (C1 : CS), C1 = sF C 3 d k v → ∀ (H1 : Heap) (locs1 : List Loc), Wd G s A H0 H1 locs1 C1 M → W p l e R s m args below meth c H1 locs1 cells slots Q (F0 m (pc + 3) ls rest)) : W p l e R s m args below meth c H locs cells slots Q (F0 m pc ls (.int v :: .ref (zad G 3 d) :: rest)) := by
  rcases hk with rfl | rfl | rfl
  · exact z_put hC hW (LL_3 hd) rfl rfl uW1 tyX1 tyX1_ok nmX1 2 (by decide) hl rfl (ty := .int) (by decide +kernel) rfl rfl (Nat.le_of_ble_eq_true rfl) (C' := sF C 3 d 2 v) (congrArg (fun z => (Sum.inr (1, z) : va_E)) (fsD_F G C d 2 v (by decide))) (fun f' i' h => enc_sF h) hdg (kk _ rfl)
  · exact z_put hC hW (LL_3 hd) rfl rfl uW1 tyX1 tyX1_ok nmX1 3 (by decide) hl rfl (ty := .int) (by decide +kernel) rfl rfl (Nat.le_of_ble_eq_true rfl) (C' := sF C 3 d 3 v) (congrArg (fun z => (Sum.inr (1, z) : va_E)) (fsD_F G C d 3 v (by decide))) (fun f' i' h => enc_sF h) hdg (kk _ rfl)
  · exact z_put hC hW (LL_3 hd) rfl rfl uW1 tyX1 tyX1_ok nmX1 5 (by decide) hl rfl (ty := .int) (by decide +kernel) rfl rfl (Nat.le_of_ble_eq_true rfl) (C' := sF C 3 d 5 v) (congrArg (fun z => (Sum.inr (1, z) : va_E)) (fsD_F G C d 5 v (by decide))) (fun f' i' h => enc_sF h) hdg (kk _ rfl)
theorem p3J (hC : CallFix p m c cc nL s args TT own) (hW : Wd G s A H0 H locs C M) {d index : Nat} {v : Int32} (hd : d < 3) (hv : v = 0 ∨ v = 1) (hl : Cond.fieldLink own index (TX1 4).1 (TX1 4).2.1 (TX1 4).2.2.1 ∈ TT) (hdg : decode cc pc = .ok (.putfield index, 3))
    (kk : ∀ (C1 : CS), C1 = sF C 3 d 4 v → ∀ (H1 : Heap) (locs1 : List Loc), Wd G s A H0 H1 locs1 C1 M → W p l e R s m args below meth c H1 locs1 cells slots Q (F0 m (pc + 3) ls rest)) : W p l e R s m args below meth c H locs cells slots Q (F0 m pc ls (.int v :: .ref (zad G 3 d) :: rest)) := by
  exact z_put hC hW (LL_3 hd) rfl rfl uW1 tyX1 tyX1_ok nmX1 _ (by decide) hl rfl (ty := .boolean) (by decide +kernel) (by rcases hv with rfl | rfl <;> rfl) (by rcases hv with rfl | rfl <;> rfl) (Nat.le_of_ble_eq_true rfl) (C' := sF C 3 d 4 v) (congrArg (fun z => (Sum.inr (1, z) : va_E)) (fsD_F G C d 4 v (by decide))) (fun f' i' h => enc_sF h) hdg (kk _ rfl)
theorem fsD_N (G : GG) (C : CS) (d k v : Nat) (hk : k = 7 ∨ k = 8) : fsD G (cF (sN C 3 d k v) 3 d) (cN (sN C 3 d k v) 3 d) (cM (sN C 3 d k v) d) d = (fsD G (cF C 3 d) (cN C 3 d) (cM C d) d).set k (.int (nI v)) := by
  rcases hk with rfl | rfl <;> simp [fsD, cN_sN, cF_sN, cM_sN]
theorem p3N (hC : CallFix p m c cc nL s args TT own) (hW : Wd G s A H0 H locs C M) {d k index v : Nat} {x : Int32} (hd : d < 3) (hk : k = 7 ∨ k = 8) (hx : x = nI v) (hl : Cond.fieldLink own index (TX1 k).1 (TX1 k).2.1 (TX1 k).2.2.1 ∈ TT) (hdg : decode cc pc = .ok (.putfield index, 3))
    (kk : ∀ (C1 : CS), C1 = sN C 3 d k v → ∀ (H1 : Heap) (locs1 : List Loc), Wd G s A H0 H1 locs1 C1 M → W p l e R s m args below meth c H1 locs1 cells slots Q (F0 m (pc + 3) ls rest)) : W p l e R s m args below meth c H locs cells slots Q (F0 m pc ls (.int x :: .ref (zad G 3 d) :: rest)) := by
  subst hx
  rcases hk with rfl | rfl
  · exact z_put hC hW (LL_3 hd) rfl rfl uW1 tyX1 tyX1_ok nmX1 7 (by decide) hl rfl (ty := .int) (by decide +kernel) rfl rfl (Nat.le_of_ble_eq_true rfl) (C' := sN C 3 d 7 v) (congrArg (fun z => (Sum.inr (1, z) : va_E)) (fsD_N G C d 7 v (by decide))) (fun f' i' h => enc_sN h) hdg (kk _ rfl)
  · exact z_put hC hW (LL_3 hd) rfl rfl uW1 tyX1 tyX1_ok nmX1 8 (by decide) hl rfl (ty := .int) (by decide +kernel) rfl rfl (Nat.le_of_ble_eq_true rfl) (C' := sN C 3 d 8 v) (congrArg (fun z => (Sum.inr (1, z) : va_E)) (fsD_N G C d 8 v (by decide))) (fun f' i' h => enc_sN h) hdg (kk _ rfl)
theorem fsD_M (G : GG) (C : CS) (d : Nat) (v : Option Nat) : fsD G (cF (sM C d v) 3 d) (cN (sM C d v) 3 d) (cM (sM C d v) d) d = (fsD G (cF C 3 d) (cN C 3 d) (cM C d) d).set 6 (va_rf (v.map (zad G 9))) := by
  simp [fsD, cM_sM, cF_sM, cN_sM]
theorem p3M (hC : CallFix p m c cc nL s args TT own) (hW : Wd G s A H0 H locs C M) {d index t : Nat} (hd : d < 3) (hl : Cond.fieldLink own index (TX1 6).1 (TX1 6).2.1 (TX1 6).2.2.1 ∈ TT) (hdg : decode cc pc = .ok (.putfield index, 3))
    (kk : ∀ (C1 : CS), C1 = sM C d (some t) → ∀ (H1 : Heap) (locs1 : List Loc), Wd G s A H0 H1 locs1 C1 M → W p l e R s m args below meth c H1 locs1 cells slots Q (F0 m (pc + 3) ls rest)) : W p l e R s m args below meth c H locs cells slots Q (F0 m pc ls (.ref (zad G 9 t) :: .ref (zad G 3 d) :: rest)) := by
  exact z_put hC hW (LL_3 hd) rfl rfl uW1 tyX1 tyX1_ok nmX1 6 (by decide) hl rfl (ty := .object RX3) (by decide +kernel) rfl rfl (Nat.le_of_ble_eq_true rfl) (C' := sM C d (some t)) (congrArg (fun z => (Sum.inr (1, z) : va_E)) (fsD_M G C d (some t))) (fun f' i' h => enc_sM h) hdg (kk _ rfl)
theorem p3Mn (hC : CallFix p m c cc nL s args TT own) (hW : Wd G s A H0 H locs C M) {d index : Nat} (hd : d < 3) (hl : Cond.fieldLink own index (TX1 6).1 (TX1 6).2.1 (TX1 6).2.2.1 ∈ TT) (hdg : decode cc pc = .ok (.putfield index, 3))
    (kk : ∀ (C1 : CS), C1 = sM C d none → ∀ (H1 : Heap) (locs1 : List Loc), Wd G s A H0 H1 locs1 C1 M → W p l e R s m args below meth c H1 locs1 cells slots Q (F0 m (pc + 3) ls rest)) : W p l e R s m args below meth c H locs cells slots Q (F0 m pc ls (.null :: .ref (zad G 3 d) :: rest)) := by
  exact z_put hC hW (LL_3 hd) rfl rfl uW1 tyX1 tyX1_ok nmX1 6 (by decide) hl rfl (ty := .object RX3) (by decide +kernel) rfl rfl (Nat.le_of_ble_eq_true rfl) (C' := sM C d none) (congrArg (fun z => (Sum.inr (1, z) : va_E)) (fsD_M G C d none)) (fun f' i' h => enc_sM h) hdg (kk _ rfl)
theorem p5 (hC : CallFix p m c cc nL s args TT own) (hW : Wd G s A H0 H locs C M) {b index v : Nat} {x : Int32} (hb : isB (zn G) b) (hx : x = nI v) (hl : Cond.fieldLink own index (TX0 3).1 (TX0 3).2.1 (TX0 3).2.2.1 ∈ TT) (hdg : decode cc pc = .ok (.putfield index, 3))
    (kk : ∀ (C1 : CS), C1 = sN C 5 b 3 v → ∀ (H1 : Heap) (locs1 : List Loc), Wd G s A H0 H1 locs1 C1 M → W p l e R s m args below meth c H1 locs1 cells slots Q (F0 m (pc + 3) ls rest)) : W p l e R s m args below meth c H locs cells slots Q (F0 m pc ls (.int x :: .ref (zad G 5 b) :: rest)) := by
  subst hx
  exact z_put hC hW (LL_5 hb) rfl rfl uW0 tyX0 tyX0_ok nmX0 _ (by decide) hl rfl (ty := .int) (by decide +kernel) rfl rfl (Nat.le_of_ble_eq_true rfl) (C' := sN C 5 b 3 v) (congrArg (fun z => (Sum.inr (0, z) : va_E)) (by simp [fsB, cN_sN])) (fun f' i' h => enc_sN h) hdg (kk _ rfl)
theorem p9 (hC : CallFix p m c cc nL s args TT own) (hW : Wd G s A H0 H locs C M) {t k index : Nat} {v : Int32} (ht : t < zn G) (hk : k = 4 ∨ k = 5) (hl : Cond.fieldLink own index (TX3 k).1 (TX3 k).2.1 (TX3 k).2.2.1 ∈ TT) (hdg : decode cc pc = .ok (.putfield index, 3))
    (kk : ∀ (C1 : CS), C1 = sF C 9 t k v → ∀ (H1 : Heap) (locs1 : List Loc), Wd G s A H0 H1 locs1 C1 M → W p l e R s m args below meth c H1 locs1 cells slots Q (F0 m (pc + 3) ls rest)) : W p l e R s m args below meth c H locs cells slots Q (F0 m pc ls (.int v :: .ref (zad G 9 t) :: rest)) := by
  rcases hk with rfl | rfl <;> exact z_put hC hW (LL_9 ht) rfl rfl uW3 tyX3 tyX3_ok nmX3 _ (by decide) hl rfl (ty := .int) (by decide +kernel) rfl rfl (Nat.le_of_ble_eq_true rfl) (C' := sF C 9 t _ v) (congrArg (fun z => (Sum.inr (3, z) : va_E)) (by simp [fsT, cF_sF, cN_sF])) (fun f' i' h => enc_sF h) hdg (kk _ rfl)
theorem p12 (hC : CallFix p m c cc nL s args TT own) (hW : Wd G s A H0 H locs C M) {k index : Nat} {v : Int32} (hk : k = 0 ∨ k = 20 ∨ k = 21 ∨ k = 22 ∨ k = 23 ∨ k = 24 ∨ k = 25 ∨ k = 26 ∨ k = 27 ∨ k = 28 ∨ k = 29 ∨ k = 30) (hl : Cond.fieldLink own index (TX5 k).1 (TX5 k).2.1 (TX5 k).2.2.1 ∈ TT) (hdg : decode cc pc = .ok (.putfield index, 3))
    (kk : ∀ (M1 : MS), M1 = smF M k v → ∀ (H1 : Heap) (locs1 : List Loc), Wd G s A H0 H1 locs1 C M1 → W p l e R s m args below meth c H1 locs1 cells slots Q (F0 m (pc + 3) ls rest)) : W p l e R s m args below meth c H locs cells slots Q (F0 m pc ls (.int v :: .ref (zad G 12 0) :: rest)) := by
  rcases hk with rfl | rfl | rfl | rfl | rfl | rfl | rfl | rfl | rfl | rfl | rfl | rfl <;> exact z_put hC hW LL_12 rfl rfl uW5 tyX5 tyX5_ok nmX5 _ (by decide) hl rfl (ty := .int) (by decide +kernel) rfl rfl (Nat.le_of_ble_eq_true rfl) (C' := C) (M' := smF M _ v) rfl (fun f' i' h => enc_smF h) hdg (kk _ rfl)
/-! rows of numbers -/
theorem a6 (hC : CallFix p m c cc nL s args TT own) (hW : Wd G s A H0 H locs C M) {b j : Nat} {x : Int32} (hb : isB (zn G) b) (hx : x = nI j) (hj : j < cap b) (hdg : decode cc pc = .ok (.iaload, 1))
    (kk : W p l e R s m args below meth c H locs cells slots Q (F0 m (pc + 1) ls (.int (cB C 6 b j) :: rest))) : W p l e R s m args below meth c H locs cells slots Q (F0 m pc ls (.int x :: .ref (zad G 6 b) :: rest)) := by
  subst hx
  have hc : cap b < 2 ^ 31 := by unfold cap; split <;> decide
  refine z_iald hC hW (LL_6 hb) rfl (vp_in_nI hj hc) hdg ?_
  rw [nI_clamp (by omega)]
  exact kk
theorem a7 (hC : CallFix p m c cc nL s args TT own) (hW : Wd G s A H0 H locs C M) {b j : Nat} {x : Int32} (hb : isB (zn G) b) (hx : x = nI j) (hj : j < cap b) (hdg : decode cc pc = .ok (.iaload, 1))
    (kk : W p l e R s m args below meth c H locs cells slots Q (F0 m (pc + 1) ls (.int (cB C 7 b j) :: rest))) : W p l e R s m args below meth c H locs cells slots Q (F0 m pc ls (.int x :: .ref (zad G 7 b) :: rest)) := by
  subst hx
  have hc : cap b < 2 ^ 31 := by unfold cap; split <;> decide
  refine z_iald hC hW (LL_7 hb) rfl (vp_in_nI hj hc) hdg ?_
  rw [nI_clamp (by omega)]
  exact kk
theorem a8 (hC : CallFix p m c cc nL s args TT own) (hW : Wd G s A H0 H locs C M) {b j : Nat} {x : Int32} (hb : isB (zn G) b) (hx : x = nI j) (hj : j < cap b) (hdg : decode cc pc = .ok (.iaload, 1))
    (kk : W p l e R s m args below meth c H locs cells slots Q (F0 m (pc + 1) ls (.int (cB C 8 b j) :: rest))) : W p l e R s m args below meth c H locs cells slots Q (F0 m pc ls (.int x :: .ref (zad G 8 b) :: rest)) := by
  subst hx
  have hc : cap b < 2 ^ 31 := by unfold cap; split <;> decide
  refine z_iald hC hW (LL_8 hb) rfl (vp_in_nI hj hc) hdg ?_
  rw [nI_clamp (by omega)]
  exact kk
theorem a10 (hC : CallFix p m c cc nL s args TT own) (hW : Wd G s A H0 H locs C M) {t j : Nat} {x : Int32} (ht : t < zn G) (hx : x = nI j) (hj : j < 100) (hdg : decode cc pc = .ok (.baload, 1))
    (kk : W p l e R s m args below meth c H locs cells slots Q (F0 m (pc + 1) ls (.int (cB C 10 t j) :: rest))) : W p l e R s m args below meth c H locs cells slots Q (F0 m pc ls (.int x :: .ref (zad G 10 t) :: rest)) := by
  subst hx
  refine z_zald hC hW (LL_10 ht) rfl (vp_in_nI hj (by decide)) hdg ?_
  rw [nI_clamp (by omega)]
  exact kk
theorem a11 (hC : CallFix p m c cc nL s args TT own) (hW : Wd G s A H0 H locs C M) {t j : Nat} {x : Int32} (ht : t < zn G) (hx : x = nI j) (hj : j < 100) (hdg : decode cc pc = .ok (.baload, 1))
    (kk : W p l e R s m args below meth c H locs cells slots Q (F0 m (pc + 1) ls (.int (cB C 11 t j) :: rest))) : W p l e R s m args below meth c H locs cells slots Q (F0 m pc ls (.int x :: .ref (zad G 11 t) :: rest)) := by
  subst hx
  refine z_zald hC hW (LL_11 ht) rfl (vp_in_nI hj (by decide)) hdg ?_
  rw [nI_clamp (by omega)]
  exact kk
theorem cB_upd {C : CS} {f b j : Nat} {v : Int32} : cB (sB C f b j v) f b = upd (cB C f b) j v := by
  funext k
  unfold upd
  rw [cB_sB]
  by_cases h : k = j <;> simp [h]
theorem s678 (hC : CallFix p m c cc nL s args TT own) (hW : Wd G s A H0 H locs C M) {f b j : Nat} {x v : Int32} (hf : f = 6 ∨ f = 7 ∨ f = 8) (hb : isB (zn G) b) (hx : x = nI j) (hj : j < cap b) (hdg : decode cc pc = .ok (.iastore, 1))
    (kk : ∀ (C1 : CS), C1 = sB C f b j v → ∀ (H1 : Heap) (locs1 : List Loc), Wd G s A H0 H1 locs1 C1 M → W p l e R s m args below meth c H1 locs1 cells slots Q (F0 m (pc + 1) ls rest)) : W p l e R s m args below meth c H locs cells slots Q (F0 m pc ls (.int v :: .int x :: .ref (zad G f b) :: rest)) := by
  subst hx
  have hc : cap b < 2 ^ 31 := by unfold cap; split <;> decide
  have hv : (nI j).toNatClampNeg = j := nI_clamp (by omega)
  rcases hf with rfl | rfl | rfl
  · exact z_iast hC hW (LL_6 hb) rfl (vp_in_nI hj hc) (C' := sB C 6 b j v) (by rw [hv]; exact congrArg (fun z => (Sum.inl (gI G, cap b, Sum.inl z) : va_E)) cB_upd) (fun f' i' h => enc_sB h) hdg (kk _ rfl)
  · exact z_iast hC hW (LL_7 hb) rfl (vp_in_nI hj hc) (C' := sB C 7 b j v) (by rw [hv]; exact congrArg (fun z => (Sum.inl (gI G, cap b, Sum.inl z) : va_E)) cB_upd) (fun f' i' h => enc_sB h) hdg (kk _ rfl)
  · exact z_iast hC hW (LL_8 hb) rfl (vp_in_nI hj hc) (C' := sB C 8 b j v) (by rw [hv]; exact congrArg (fun z => (Sum.inl (gI G, cap b, Sum.inl z) : va_E)) cB_upd) (fun f' i' h => enc_sB h) hdg (kk _ rfl)
theorem s1011 (hC : CallFix p m c cc nL s args TT own) (hW : Wd G s A H0 H locs C M) {f t j : Nat} {x v : Int32} (hf : f = 10 ∨ f = 11) (ht : t < zn G) (hx : x = nI j) (hj : j < 100) (hv : v = 0 ∨ v = 1) (hdg : decode cc pc = .ok (.bastore, 1))
    (kk : ∀ (C1 : CS), C1 = sB C f t j v → ∀ (H1 : Heap) (locs1 : List Loc), Wd G s A H0 H1 locs1 C1 M → W p l e R s m args below meth c H1 locs1 cells slots Q (F0 m (pc + 1) ls rest)) : W p l e R s m args below meth c H locs cells slots Q (F0 m pc ls (.int v :: .int x :: .ref (zad G f t) :: rest)) := by
  subst hx
  have hx : (nI j).toNatClampNeg = j := nI_clamp (by omega)
  rcases hf with rfl | rfl
  · exact z_zast hC hW (LL_10 ht) rfl (vp_in_nI hj (by decide)) hv (C' := sB C 10 t j v) (by rw [hx]; exact congrArg (fun z => (Sum.inl (gZ G, 100, Sum.inl z) : va_E)) cB_upd) (fun f' i' h => enc_sB h) hdg (kk _ rfl)
  · exact z_zast hC hW (LL_11 ht) rfl (vp_in_nI hj (by decide)) hv (C' := sB C 11 t j v) (by rw [hx]; exact congrArg (fun z => (Sum.inl (gZ G, 100, Sum.inl z) : va_E)) cB_upd) (fun f' i' h => enc_sB h) hdg (kk _ rfl)
theorem am (hC : CallFix p m c cc nL s args TT own) (hW : Wd G s A H0 H locs C M) {j i n : Nat} {x : Int32} (hj : (13, j) ∈ LL 0) (hc : mcl G j = gI G) (hn : mlen j = n) (hx : x = nI i) (hi : i < n) (hdg : decode cc pc = .ok (.iaload, 1))
    (kk : W p l e R s m args below meth c H locs cells slots Q (F0 m (pc + 1) ls (.int (mA M j i) :: rest))) : W p l e R s m args below meth c H locs cells slots Q (F0 m pc ls (.int x :: .ref (zad G 13 j) :: rest)) := by
  subst hx; subst hn
  have hm : mlen j < 2 ^ 31 := by unfold mlen; split <;> decide
  refine z_iald hC hW (LL_13 hj) (show enc G C M 13 j = .inl (gI G, mlen j, .inl (mA M j)) by rw [← hc]; rfl) (vp_in_nI hi hm) hdg ?_
  rw [nI_clamp (by omega)]
  exact kk
theorem amz (hC : CallFix p m c cc nL s args TT own) (hW : Wd G s A H0 H locs C M) {j i n : Nat} {x : Int32} (hj : (13, j) ∈ LL 0) (hc : mcl G j = gZ G) (hn : mlen j = n) (hx : x = nI i) (hi : i < n) (hdg : decode cc pc = .ok (.baload, 1))
    (kk : W p l e R s m args below meth c H locs cells slots Q (F0 m (pc + 1) ls (.int (mA M j i) :: rest))) : W p l e R s m args below meth c H locs cells slots Q (F0 m pc ls (.int x :: .ref (zad G 13 j) :: rest)) := by
  subst hx; subst hn
  have hm : mlen j < 2 ^ 31 := by unfold mlen; split <;> decide
  refine z_zald hC hW (LL_13 hj) (show enc G C M 13 j = .inl (gZ G, mlen j, .inl (mA M j)) by rw [← hc]; rfl) (vp_in_nI hi hm) hdg ?_
  rw [nI_clamp (by omega)]
  exact kk
theorem mA_upd {M : MS} {j i : Nat} {v : Int32} : mA (smA M j i v) j = upd (mA M j) i v := by
  funext k
  unfold upd
  rw [mA_smA]
  by_cases h : k = i <;> simp [h]
theorem sm (hC : CallFix p m c cc nL s args TT own) (hW : Wd G s A H0 H locs C M) {j i n : Nat} {x v : Int32} (hj : (13, j) ∈ LL 0) (hc : mcl G j = gI G) (hn : mlen j = n) (hx : x = nI i) (hi : i < n) (hdg : decode cc pc = .ok (.iastore, 1))
    (kk : ∀ (M1 : MS), M1 = smA M j i v → ∀ (H1 : Heap) (locs1 : List Loc), Wd G s A H0 H1 locs1 C M1 → W p l e R s m args below meth c H1 locs1 cells slots Q (F0 m (pc + 1) ls rest)) : W p l e R s m args below meth c H locs cells slots Q (F0 m pc ls (.int v :: .int x :: .ref (zad G 13 j) :: rest)) := by
  subst hx; subst hn
  have hm : mlen j < 2 ^ 31 := by unfold mlen; split <;> decide
  have hv : (nI i).toNatClampNeg = i := nI_clamp (by omega)
  exact z_iast hC hW (LL_13 hj) (show enc G C M 13 j = .inl (gI G, mlen j, .inl (mA M j)) by rw [← hc]; rfl) (vp_in_nI hi hm) (C' := C) (M' := smA M j i v) (by rw [hv, ← mA_upd, ← hc]; rfl) (fun f' i' h => enc_smA h) hdg (kk _ rfl)
theorem smz (hC : CallFix p m c cc nL s args TT own) (hW : Wd G s A H0 H locs C M) {j i n : Nat} {x v : Int32} (hj : (13, j) ∈ LL 0) (hc : mcl G j = gZ G) (hn : mlen j = n) (hx : x = nI i) (hi : i < n) (hv : v = 0 ∨ v = 1) (hdg : decode cc pc = .ok (.bastore, 1))
    (kk : ∀ (M1 : MS), M1 = smA M j i v → ∀ (H1 : Heap) (locs1 : List Loc), Wd G s A H0 H1 locs1 C M1 → W p l e R s m args below meth c H1 locs1 cells slots Q (F0 m (pc + 1) ls rest)) : W p l e R s m args below meth c H locs cells slots Q (F0 m pc ls (.int v :: .int x :: .ref (zad G 13 j) :: rest)) := by
  subst hx; subst hn
  have hm : mlen j < 2 ^ 31 := by unfold mlen; split <;> decide
  have hx : (nI i).toNatClampNeg = i := nI_clamp (by omega)
  exact z_zast hC hW (LL_13 hj) (show enc G C M 13 j = .inl (gZ G, mlen j, .inl (mA M j)) by rw [← hc]; rfl) (vp_in_nI hi hm) hv (C' := C) (M' := smA M j i v) (by rw [hx, ← mA_upd, ← hc]; rfl) (fun f' i' h => enc_smA h) hdg (kk _ rfl)
/-- kinds.length -/
theorem alen6 (hC : CallFix p m c cc nL s args TT own) (hW : Wd G s A H0 H locs C M) {b : Nat} (hb : isB (zn G) b) (hdg : decode cc pc = .ok (.arraylength, 1))
    (kk : W p l e R s m args below meth c H locs cells slots Q (F0 m (pc + 1) ls (.int (nI (cap b)) :: rest))) : W p l e R s m args below meth c H locs cells slots Q (F0 m pc ls (.ref (zad G 6 b) :: rest)) := by
  obtain ⟨q0, hq⟩ := w_get (G := G) (M := M) (LL_6 hb)
  exact va_alen hC.1 hC.2.1 hW.1 hW.2.1 q0 0 hq rfl (v := nI (cap b)) rfl hdg kk
/-- drives[d] -/
theorem ar (hC : CallFix p m c cc nL s args TT own) (hW : Wd G s A H0 H locs C M) {d : Nat} {x : Int32} (hx : x = nI d) (hd : d < 3) (hdg : decode cc pc = .ok (.aaload, 1))
    (kk : W p l e R s m args below meth c H locs cells slots Q (F0 m (pc + 1) ls (.ref (zad G 3 d) :: rest))) : W p l e R s m args below meth c H locs cells slots Q (F0 m pc ls (.int x :: .ref (zad G 2 0) :: rest)) := by
  subst hx
  obtain ⟨q0, hq⟩ := w_get (G := G) (M := M) (C := C) LL_2
  refine va_aldq hC.1 hC.2.1 hW.1 hW.2.1 q0 2 hq rfl (vp_in_nI hd (by decide)) hdg ?_
  rw [nI_clamp (by omega)]
  exact kk
/-- tapes[t] -/
theorem at9 (hC : CallFix p m c cc nL s args TT own) (hW : Wd G s A H0 H locs C M) {t : Nat} {x : Int32} (hx : x = nI t) (ht : t < zn G) (h12 : zn G ≤ 12) (hdg : decode cc pc = .ok (.aaload, 1))
    (kk : W p l e R s m args below meth c H locs cells slots Q (F0 m (pc + 1) ls (.ref (zad G 9 t) :: rest))) : W p l e R s m args below meth c H locs cells slots Q (F0 m pc ls (.int x :: .ref (zad G 4 0) :: rest)) := by
  subst hx
  obtain ⟨q0, hq⟩ := w_get (G := G) (M := M) (C := C) LL_4
  refine va_aldq hC.1 hC.2.1 hW.1 hW.2.1 q0 3 hq rfl (vp_in_nI (N := 12) (by omega) (by decide)) hdg ?_
  rw [nI_clamp (by omega), show rowT G (zn G) t = some (zad G 9 t) from if_pos ht]
  exact kk
end ZR
end
section
/-! ===== calls, and a method's start and end ===== -/
section ZC
variable {p : Program} {l : Launch} {e : Env} {R : Room} {s : State} {m : MethodId} {args : Array Value} {below : List Frame} {meth : Method} {c : Code} {H : Heap} {locs : List Loc} {cells slots : Nat} {Q : State → Prop}
variable {cc : ByteArray} {nL : Nat} {own : String} {pc : Nat} {ls : Array Slot} {rest st0 st1 : List Value} {G : GG} {A : Nat → Prop} {H0 : Heap} {C C' : CS} {M M' : MS} {r : Option Value}
variable {y : MethodName} {bytes : ByteArray} {maxL fr lo n : Nat} {ret : Option FieldType} {vs : List Value}
def Pct (G : GG) (vs : List Value) (C : CS) (M : MS) (sz : Nat) : Array Value → State → Prop := va_Pc vs (fun U => U.heap.size = sz ∧ va_P (gD G) vwCl (world G C M) U.heap ∧ va_K (gD G) vwCl (TYS G) U ∧ va_D (fun _ => True) (world G C M))
def Qct (G : GG) (C : CS) (M : MS) (r : Option Value) (C' : CS) (M' : MS) (sz : Nat) : Array Value → State → Outcome → State → Prop := fun _ st oc t => (oc = .returned r ∧ va_P (gD G) vwCl (world G C' M') t.heap ∧ va_K (gD G) vwCl (TYS G) t ∧ va_D (va_A (world G C M) sz) (world G C' M')) ∧ va_F (va_A (world G C M) sz) st t
theorem Ct.met (h : Ct l G y bytes maxL ret fr lo vs C M r C' M') (sz : Nat) : Met l y (Cond.code y bytes maxL ret :: TT) { frames := fr, cells := 0, slots := 0, locals := lo } (Pct G vs C M sz) (Qct G C M r C' M' sz) 0 0 (va_A (world G C M) sz) := h sz
theorem Pct.blind {sz : Nat} : FrameBlind (Pct G vs C M sz) := fun a U g mk q => by
  obtain ⟨q0, q1, qP, qK, qD⟩ := q
  exact ⟨q0, q1, qP, va_K.moved (u := U) (U := U.calling g mk a) (Vm.Alike.refl U.vm) qK, qD⟩
theorem Pct.of (hW : Wd G s A H0 H locs C M) {U : State} (hU : U.heap = H) (hw : s.WarmedH U.vm) : Pct G vs C M H.size vs.toArray U :=
  ⟨rfl, by rw [hU], by rw [hU]; exact hW.2.1, va_K.moved hw.alike hW.1, hW.2.2.1.weaken (fun _ _ _ _ => trivial)⟩
theorem Wd.free (hW : Wd G s A H0 H locs C M) (q : Nat) (h : va_A (world G C M) H.size q) : A q := by
  rcases h with ⟨k, e, h⟩ | h
  · exact hW.2.2.1.2 k _ h
  · exact hW.2.2.2.2 q (Nat.le_trans hW.2.2.2.1.1 h)
theorem z_back (hW : Wd G s A H0 H locs C M) (hr : va_Run p l e R s m args below meth c H locs cells slots 0 0 (F0 m pc ls st0) rest (Qct G C M r C' M' H.size vs.toArray) (va_A (world G C M) H.size))
    (kk : ∀ (H1 : Heap) (locs1 : List Loc), Wd G s A H0 H1 locs1 C' M' → W p l e R s m args below meth c H1 locs1 cells slots Q (F0 m (pc + 3) ls (r.toList ++ rest))) : W p l e R s m args below meth c H locs cells slots Q (F0 m pc ls st0) := by
  intro T hT X
  obtain ⟨v, st₀, t, T', L, h0, X', hL, e1, e2, ⟨⟨hv, hP1, hK1, hD1⟩, hz, hk⟩, st⟩ := hr T hT X
  cases hv
  rw [h0] at hz hk
  obtain ⟨t2, a1, b1⟩ := kk T'.heap (locs ++ L) ⟨hW.1, by rw [e1]; exact hP1, hD1.weaken (fun k q _ h => hW.free q.1 h), ⟨Nat.le_trans hW.2.2.2.1.1 (by rw [e1]; exact hz), fun q h1 h2 => by
      rw [e1, hk q (Nat.lt_of_lt_of_le h1 hW.2.2.2.1.1) (fun z => h2 (hW.free q z))]
      exact hW.2.2.2.1.2.1 q h1 h2, fun q hq => by
      rcases List.mem_append.mp hq with h | h
      · exact hW.2.2.2.1.2.2 q h
      · exact hW.free _ (hL q h)⟩, hW.2.2.2.2⟩ T' rfl X'
  exact ⟨t2, st t2 a1, b1⟩
theorem z_cb {index : Nat} (hC : CallFix p m c cc nL s args TT own) (hw : MW y bytes maxL ret n) (hlk : Cond.methodLink own index y ∈ TT) (hR : fr + 1 ≤ R.frames ∧ 8 + (maxL + 11) + lo ≤ R.locals) :
    CallB R s args own index y bytes maxL ret (Cond.code y bytes maxL ret :: TT) { frames := fr, cells := 0, slots := 0, locals := lo } 0 0 n :=
  ⟨rfl, rfl, hR.1, hR.2, code_pay hC.2.2.2.2 hw.1, List.mem_cons_self, hC.2.2.2.2 _ hw.1, hC.2.2.2.2 _ hw.2.1, hw.2.2.1, fun sig h => by
    have h2 := hw.2.2.2
    rw [h] at h2
    exact (Option.some.inj h2).symm, hC.2.2.2.2 _ hlk⟩
/-- a call of an object's method -/
theorem z_callV {f i ci index N : Nat} {fs As : List Value} {Cn : String} {T : u_T} (hC : CallFix p m c cc nL s args TT own) (hW : Wd G s A H0 H locs C M) (hi : (f, i) ∈ LL (zn G)) (he : enc G C M f i = .inr (ci, fs)) (hc : vwCl[ci]? = some (Cn, T, N)) (hy : y.cls = Cn)
    (hM : Ct l G y bytes maxL ret fr lo (.ref (zad G f i) :: As) C M r C' M') (hw : MW y bytes maxL ret n) (hv : MWv y) (hlk : Cond.methodLink own index y ∈ TT) (hR : fr + 1 ≤ R.frames ∧ 8 + (maxL + 11) + lo ≤ R.locals)
    (hn : As.length = n) (hst : st0 = As.reverse ++ .ref (zad G f i) :: rest) (hsz : ls.size = nL) (hroom : 2 * (F0 m pc ls st0).monitorRoom + (rest.map fun v => v.category).sum ≤ 8) (hdg : decode cc pc = .ok (.invokevirtual index, 3)) (h1 : r.toList ++ rest = st1)
    (kk : ∀ (H1 : Heap) (locs1 : List Loc), Wd G s A H0 H1 locs1 C' M' → W p l e R s m args below meth c H1 locs1 cells slots Q (F0 m (pc + 3) ls st1)) (hf : cells ≤ R.cells ∧ slots ≤ R.slots) : W p l e R s m args below meth c H locs cells slots Q (F0 m pc ls st0) := by
  subst h1
  obtain ⟨q0, hq⟩ := w_get (G := G) (M := M) hi
  rw [he] at hq
  have hs : Cond.selects Cn y y ∈ TT := by rw [← hy]; exact hv.2
  refine z_back hW (va_runV (C := Cn) (As := As) (rest := rest) hC (hM.met H.size) ⟨z_cb hC hw hlk hR, hC.2.2.2.2 _ hv.1, hC.2.2.2.2 _ hs⟩ ⟨Pct.blind, va_recv hW.1 hW.2.1 hc hq, fun U hU hWm => Pct.of hW hU hWm⟩ rfl hn hsz hst hroom hdg hf) kk
/-- a call of a static method -/
theorem z_callS {index : Nat} (hC : CallFix p m c cc nL s args TT own) (hW : Wd G s A H0 H locs C M)
    (hM : Ct l G y bytes maxL ret fr lo vs C M r C' M') (hw : MW y bytes maxL ret n) (hv : Cond.static y ∈ TT) (hlk : Cond.methodLink own index y ∈ TT) (hR : fr + 1 ≤ R.frames ∧ 8 + (maxL + 11) + lo ≤ R.locals)
    (hn : vs.length = n) (hst : st0 = vs.reverse ++ rest) (hsz : ls.size = nL) (hroom : 2 * (F0 m pc ls st0).monitorRoom + (rest.map fun v => v.category).sum ≤ 8) (hdg : decode cc pc = .ok (.invokestatic index, 3)) (h1 : r.toList ++ rest = st1)
    (kk : ∀ (H1 : Heap) (locs1 : List Loc), Wd G s A H0 H1 locs1 C' M' → W p l e R s m args below meth c H1 locs1 cells slots Q (F0 m (pc + 3) ls st1)) (hf : cells ≤ R.cells ∧ slots ≤ R.slots) : W p l e R s m args below meth c H locs cells slots Q (F0 m pc ls st0) := by
  subst h1
  exact z_back hW (va_runS (As := vs) (rest := rest) hC (hM.met H.size) ⟨z_cb hC hw hlk hR, hC.2.2.2.2 _ hv⟩ ⟨Pct.blind, fun U hU hWm => Pct.of hW hU hWm⟩ rfl hn hsz hst hroom hdg hf) kk
end ZC
/-- a method's body, from its entry: ends are given -/
def Bod (l : Launch) (G : GG) (y : MethodName) (bytes : ByteArray) (maxL fr lo : Nat) (vs : List Value) (C : CS) (M : MS) (E : (JFrame → Heap → List Loc → Prop) → MethodId → State → (Nat → Prop) → Prop) : Prop :=
  ∀ {p : Program} {e : Env} {s : State} {m : MethodId} {args : Array Value} {below : List Frame} {meth : Method} {c : Code} {A : Nat → Prop} {Q : State → Prop} {ls : Array Slot},
    CallFix p m c bytes maxL s args TT y.cls → Wd G s A s.heap s.heap [] C M → lv_has ls maxL (lv_args 0 vs) →
    E (fun g H locs => W p l e { frames := fr, cells := 0, slots := 0, locals := lo } s m args below meth c H locs 0 0 Q g) m s A →
    W p l e { frames := fr, cells := 0, slots := 0, locals := lo } s m args below meth c s.heap [] 0 0 Q (F0 m 0 ls [])
section ZS
variable {l : Launch} {G : GG} {y : MethodName} {bytes : ByteArray} {maxL fr lo : Nat} {vs : List Value} {C C' : CS} {M M' : MS}
theorem Ct_i {x : Int32} (hy : plainName y.cls = true) (hfit : (lg_sl vs).length ≤ maxL) (body : Bod l G y bytes maxL fr lo vs C M (fun P m s A => ∀ {H : Heap} {locs : List Loc} {pc : Nat} {ls : Array Slot} {z : Int32}, Wd G s A s.heap H locs C' M' → z = x → decode bytes pc = .ok (.ireturn, 1) → P (F0 m pc ls [.int z]) H locs)) :
    Ct l G y bytes maxL (some .int) fr lo vs C M (some (.int x)) C' M' := by
  intro sz
  refine Met.ofW (cc := bytes) (maxL := maxL) (ret := some .int) hy rfl ?_
  intro p e s m args below meth c s₁ B hml hv
  obtain ⟨rfl, hsz, hP, hK, hD0⟩ := hv
  have hx := B.exec
  have hb := B.bytes
  have hr := B.returns
  have hts := atoms_spec (ws := Cond.code y bytes maxL (some .int) :: TT) B.pre
  have hown : s.vm.findClass y.cls = some m.cls := findClass_of_methodNamed B.named
  have hlocks := B.notSynchronized
  subst hsz
  have hD := hD0.self (sz := s.heap.size)
  have hl := lv_entry vs (n := maxL) hfit
  rw [lg_entry_eq]
  refine body (A := va_A (world G C M) s.heap.size) ⟨hx, hb, hml, hown, fun w h => hts w (List.mem_cons_of_mem _ h)⟩ ⟨hK, hP, hD, va_S.rf, fun q h => Or.inr h⟩ hl ?_
  intro H locs pc ls z hW hz hdg
  subst hz
  exact W.iret hx hb hr (fun t ht hWm => ⟨⟨rfl, by rw [ht]; exact hW.2.1, va_K.moved hWm.alike hW.1, hW.2.2.1⟩, hW.2.2.2.1.F ht⟩) hW.2.2.2.1.2.2 hdg
theorem Ct_z {x : Int32} (hy : plainName y.cls = true) (hfit : (lg_sl vs).length ≤ maxL) (hb01 : x = 0 ∨ x = 1) (body : Bod l G y bytes maxL fr lo vs C M (fun P m s A => ∀ {H : Heap} {locs : List Loc} {pc : Nat} {ls : Array Slot} {z : Int32}, Wd G s A s.heap H locs C' M' → z = x → decode bytes pc = .ok (.ireturn, 1) → P (F0 m pc ls [.int z]) H locs)) :
    Ct l G y bytes maxL (some .boolean) fr lo vs C M (some (.int x)) C' M' := by
  intro sz
  refine Met.ofW (cc := bytes) (maxL := maxL) (ret := some .boolean) hy rfl ?_
  intro p e s m args below meth c s₁ B hml hv
  obtain ⟨rfl, hsz, hP, hK, hD0⟩ := hv
  have hx := B.exec
  have hb := B.bytes
  have hr := B.returns
  have hts := atoms_spec (ws := Cond.code y bytes maxL (some .boolean) :: TT) B.pre
  have hown : s.vm.findClass y.cls = some m.cls := findClass_of_methodNamed B.named
  have hlocks := B.notSynchronized
  subst hsz
  have hD := hD0.self (sz := s.heap.size)
  have hl := lv_entry vs (n := maxL) hfit
  rw [lg_entry_eq]
  refine body (A := va_A (world G C M) s.heap.size) ⟨hx, hb, hml, hown, fun w h => hts w (List.mem_cons_of_mem _ h)⟩ ⟨hK, hP, hD, va_S.rf, fun q h => Or.inr h⟩ hl ?_
  intro H locs pc ls z hW hz hdg
  subst hz
  exact W.zret hx hb hr (by rcases hb01 with rfl | rfl <;> rfl) (fun t ht hWm => ⟨⟨rfl, by rw [ht]; exact hW.2.1, va_K.moved hWm.alike hW.1, hW.2.2.1⟩, hW.2.2.2.1.F ht⟩) hW.2.2.2.1.2.2 hdg
theorem Ct_v (hy : plainName y.cls = true) (hfit : (lg_sl vs).length ≤ maxL) (body : Bod l G y bytes maxL fr lo vs C M (fun P m s A => ∀ {H : Heap} {locs : List Loc} {pc : Nat} {ls : Array Slot}, Wd G s A s.heap H locs C' M' → decode bytes pc = .ok (.return_, 1) → P (F0 m pc ls []) H locs)) :
    Ct l G y bytes maxL none fr lo vs C M none C' M' := by
  intro sz
  refine Met.ofW (cc := bytes) (maxL := maxL) (ret := none) hy rfl ?_
  intro p e s m args below meth c s₁ B hml hv
  obtain ⟨rfl, hsz, hP, hK, hD0⟩ := hv
  have hx := B.exec
  have hb := B.bytes
  have hr := B.returns
  have hts := atoms_spec (ws := Cond.code y bytes maxL none :: TT) B.pre
  have hown : s.vm.findClass y.cls = some m.cls := findClass_of_methodNamed B.named
  have hlocks := B.notSynchronized
  subst hsz
  have hD := hD0.self (sz := s.heap.size)
  have hl := lv_entry vs (n := maxL) hfit
  rw [lg_entry_eq]
  refine body (A := va_A (world G C M) s.heap.size) ⟨hx, hb, hml, hown, fun w h => hts w (List.mem_cons_of_mem _ h)⟩ ⟨hK, hP, hD, va_S.rf, fun q h => Or.inr h⟩ hl ?_
  intro H locs pc ls hW hdg
  exact W.vret hx hb hr (fun t ht hWm => ⟨⟨rfl, by rw [ht]; exact hW.2.1, va_K.moved hWm.alike hW.1, hW.2.2.1⟩, hW.2.2.2.1.F ht⟩) hW.2.2.2.1.2.2 hdg
theorem Ct_r {nm : String} {v : Value} (hy : plainName y.cls = true) (hfit : (lg_sl vs).length ≤ maxL) (hvr : v = .null ∨ ∃ a, v = .ref a) (body : Bod l G y bytes maxL fr lo vs C M (fun P m s A => ∀ {H : Heap} {locs : List Loc} {pc : Nat} {ls : Array Slot} {z : Value}, Wd G s A s.heap H locs C' M' → z = v → decode bytes pc = .ok (.areturn, 1) → P (F0 m pc ls [z]) H locs)) :
    Ct l G y bytes maxL (some (.object nm)) fr lo vs C M (some v) C' M' := by
  intro sz
  refine Met.ofW (cc := bytes) (maxL := maxL) (ret := some (.object nm)) hy rfl ?_
  intro p e s m args below meth c s₁ B hml hv
  obtain ⟨rfl, hsz, hP, hK, hD0⟩ := hv
  have hx := B.exec
  have hb := B.bytes
  have hr := B.returns
  have hts := atoms_spec (ws := Cond.code y bytes maxL (some (.object nm)) :: TT) B.pre
  have hown : s.vm.findClass y.cls = some m.cls := findClass_of_methodNamed B.named
  have hlocks := B.notSynchronized
  subst hsz
  have hD := hD0.self (sz := s.heap.size)
  have hl := lv_entry vs (n := maxL) hfit
  rw [lg_entry_eq]
  refine body (A := va_A (world G C M) s.heap.size) ⟨hx, hb, hml, hown, fun w h => hts w (List.mem_cons_of_mem _ h)⟩ ⟨hK, hP, hD, va_S.rf, fun q h => Or.inr h⟩ hl ?_
  intro H locs pc ls z hW hz hdg
  subst hz
  exact W.aret hx hb hr (Or.inl ⟨nm, rfl⟩) hvr (fun t ht hWm => ⟨⟨rfl, by rw [ht]; exact hW.2.1, va_K.moved hWm.alike hW.1, hW.2.2.1⟩, hW.2.2.2.1.F ht⟩) hW.2.2.2.1.2.2 hdg
end ZS
end
section
/-! ===== small numbers on the stack ===== -/
section ZI
variable {p : Program} {l : Launch} {e : Env} {R : Room} {s : State} {m : MethodId} {args : Array Value} {below : List Frame} {meth : Method} {c : Code} {H : Heap} {locs : List Loc} {cells slots : Nat} {Q : State → Prop}
variable {cc : ByteArray} {pc : Nat} {ls : Array Slot} {rest : List Value}
theorem z_top {x y : Int32} (h : x = y) (kk : W p l e R s m args below meth c H locs cells slots Q (F0 m pc ls (.int y :: rest))) : W p l e R s m args below meth c H locs cells slots Q (F0 m pc ls (.int x :: rest)) := by rw [h]; exact kk
theorem zi_add (hx : p.tables.exec = Jvm.exec) (hb : c.code = cc) {x y : Int32} {i j : Nat} (h1 : x = nI i) (h2 : y = nI j) (hdg : decode cc pc = .ok (.iadd, 1))
    (kk : W p l e R s m args below meth c H locs cells slots Q (F0 m (pc + 1) ls (.int (nI (i + j)) :: rest))) : W p l e R s m args below meth c H locs cells slots Q (F0 m pc ls (.int y :: .int x :: rest)) := by
  refine lv_iadd hx hb hdg ?_
  rw [h1, h2, nI_add]
  exact kk
theorem zi_mul (hx : p.tables.exec = Jvm.exec) (hb : c.code = cc) {x y : Int32} {i j : Nat} (h1 : x = nI i) (h2 : y = nI j) (hdg : decode cc pc = .ok (.imul, 1))
    (kk : W p l e R s m args below meth c H locs cells slots Q (F0 m (pc + 1) ls (.int (nI (i * j)) :: rest))) : W p l e R s m args below meth c H locs cells slots Q (F0 m pc ls (.int y :: .int x :: rest)) := by
  refine lv_imul hx hb hdg ?_
  rw [h1, h2, pk_mul]
  exact kk
theorem zi_sub (hx : p.tables.exec = Jvm.exec) (hb : c.code = cc) {x y : Int32} {i j : Nat} (h1 : x = nI i) (h2 : y = nI j) (h : j ≤ i) (hdg : decode cc pc = .ok (.isub, 1))
    (kk : W p l e R s m args below meth c H locs cells slots Q (F0 m (pc + 1) ls (.int (nI (i - j)) :: rest))) : W p l e R s m args below meth c H locs cells slots Q (F0 m pc ls (.int y :: .int x :: rest)) := by
  refine lv_isub hx hb hdg ?_
  rw [h1, h2, pk_sub h]
  exact kk
theorem zc_lt (hx : p.tables.exec = Jvm.exec) (hb : c.code = cc) {x y : Int32} {i j : Nat} {off : Int} {tgt : Nat} (h1 : x = nI i) (h2 : y = nI j) (hi : i < 2 ^ 31) (hj : j < 2 ^ 31) (hdg : decode cc pc = .ok (.if_icmp .lt off, 3)) (ht : (pc : Int) + off = (tgt : Int))
    (kt : i < j → W p l e R s m args below meth c H locs cells slots Q (F0 m tgt ls rest)) (kf : j ≤ i → W p l e R s m args below meth c H locs cells slots Q (F0 m (pc + 3) ls rest)) : W p l e R s m args below meth c H locs cells slots Q (F0 m pc ls (.int y :: .int x :: rest)) := by
  subst h1; subst h2
  refine lv_icmp_lt hx hb hdg ht (fun h => kt ?_) (fun h => kf ?_)
  · exact (nI_ltI hi hj).mp h
  · exact Nat.le_of_not_lt (fun q => h ((nI_ltI hi hj).mpr q))
theorem zc_ge (hx : p.tables.exec = Jvm.exec) (hb : c.code = cc) {x y : Int32} {i j : Nat} {off : Int} {tgt : Nat} (h1 : x = nI i) (h2 : y = nI j) (hi : i < 2 ^ 31) (hj : j < 2 ^ 31) (hdg : decode cc pc = .ok (.if_icmp .ge off, 3)) (ht : (pc : Int) + off = (tgt : Int))
    (kt : j ≤ i → W p l e R s m args below meth c H locs cells slots Q (F0 m tgt ls rest)) (kf : i < j → W p l e R s m args below meth c H locs cells slots Q (F0 m (pc + 3) ls rest)) : W p l e R s m args below meth c H locs cells slots Q (F0 m pc ls (.int y :: .int x :: rest)) := by
  subst h1; subst h2
  refine lv_icmp_ge hx hb hdg ht (fun h => kt ?_) (fun h => kf ?_)
  · exact (nI_leI hj hi).mp h
  · exact Nat.lt_of_not_le (fun q => h ((nI_leI hj hi).mpr q))
theorem zc_gt (hx : p.tables.exec = Jvm.exec) (hb : c.code = cc) {x y : Int32} {i j : Nat} {off : Int} {tgt : Nat} (h1 : x = nI i) (h2 : y = nI j) (hi : i < 2 ^ 31) (hj : j < 2 ^ 31) (hdg : decode cc pc = .ok (.if_icmp .gt off, 3)) (ht : (pc : Int) + off = (tgt : Int))
    (kt : j < i → W p l e R s m args below meth c H locs cells slots Q (F0 m tgt ls rest)) (kf : i ≤ j → W p l e R s m args below meth c H locs cells slots Q (F0 m (pc + 3) ls rest)) : W p l e R s m args below meth c H locs cells slots Q (F0 m pc ls (.int y :: .int x :: rest)) := by
  subst h1; subst h2
  refine lv_icmp_gt hx hb hdg ht (fun h => kt ?_) (fun h => kf ?_)
  · exact (nI_ltI hj hi).mp h
  · exact Nat.le_of_not_lt (fun q => h ((nI_ltI hj hi).mpr q))
theorem zc_le (hx : p.tables.exec = Jvm.exec) (hb : c.code = cc) {x y : Int32} {i j : Nat} {off : Int} {tgt : Nat} (h1 : x = nI i) (h2 : y = nI j) (hi : i < 2 ^ 31) (hj : j < 2 ^ 31) (hdg : decode cc pc = .ok (.if_icmp .le off, 3)) (ht : (pc : Int) + off = (tgt : Int))
    (kt : i ≤ j → W p l e R s m args below meth c H locs cells slots Q (F0 m tgt ls rest)) (kf : j < i → W p l e R s m args below meth c H locs cells slots Q (F0 m (pc + 3) ls rest)) : W p l e R s m args below meth c H locs cells slots Q (F0 m pc ls (.int y :: .int x :: rest)) := by
  subst h1; subst h2
  refine lv_icmp_le hx hb hdg ht (fun h => kt ?_) (fun h => kf ?_)
  · exact (nI_leI hi hj).mp h
  · exact Nat.lt_of_not_le (fun q => h ((nI_leI hi hj).mpr q))
theorem zc_eq (hx : p.tables.exec = Jvm.exec) (hb : c.code = cc) {x y : Int32} {i j : Nat} {off : Int} {tgt : Nat} (h1 : x = nI i) (h2 : y = nI j) (hi : i < 2 ^ 31) (hj : j < 2 ^ 31) (hdg : decode cc pc = .ok (.if_icmp .eq off, 3)) (ht : (pc : Int) + off = (tgt : Int))
    (kt : i = j → W p l e R s m args below meth c H locs cells slots Q (F0 m tgt ls rest)) (kf : i ≠ j → W p l e R s m args below meth c H locs cells slots Q (F0 m (pc + 3) ls rest)) : W p l e R s m args below meth c H locs cells slots Q (F0 m pc ls (.int y :: .int x :: rest)) := by
  subst h1; subst h2
  refine lv_icmp_eq hx hb hdg ht (fun h => kt ?_) (fun h => kf ?_)
  · exact (nI_eq hi hj).mp h
  · exact fun q => h ((nI_eq hi hj).mpr q)
theorem zc_ne (hx : p.tables.exec = Jvm.exec) (hb : c.code = cc) {x y : Int32} {i j : Nat} {off : Int} {tgt : Nat} (h1 : x = nI i) (h2 : y = nI j) (hi : i < 2 ^ 31) (hj : j < 2 ^ 31) (hdg : decode cc pc = .ok (.if_icmp .ne off, 3)) (ht : (pc : Int) + off = (tgt : Int))
    (kt : i ≠ j → W p l e R s m args below meth c H locs cells slots Q (F0 m tgt ls rest)) (kf : i = j → W p l e R s m args below meth c H locs cells slots Q (F0 m (pc + 3) ls rest)) : W p l e R s m args below meth c H locs cells slots Q (F0 m pc ls (.int y :: .int x :: rest)) := by
  subst h1; subst h2
  refine lv_icmp_ne hx hb hdg ht (fun h => kt ?_) (fun h => kf ?_)
  · exact fun q => h ((nI_eq hi hj).mpr q)
  · exact (nI_eq hi hj).mp h
/-- a small number is compared with 0 -/
theorem zf_lt (hx : p.tables.exec = Jvm.exec) (hb : c.code = cc) {x : Int32} {i : Nat} {off : Int} {tgt : Nat} (h1 : x = nI i) (hi : i < 2 ^ 31) (hdg : decode cc pc = .ok (.ifCond .lt off, 3)) (ht : (pc : Int) + off = (tgt : Int))
    (kf : W p l e R s m args below meth c H locs cells slots Q (F0 m (pc + 3) ls rest)) : W p l e R s m args below meth c H locs cells slots Q (F0 m pc ls (.int x :: rest)) := by
  subst h1
  exact lv_if_lt hx hb hdg ht (fun h => absurd h (nI_pos hi)) (fun h => kf)
theorem zf_ge (hx : p.tables.exec = Jvm.exec) (hb : c.code = cc) {x : Int32} {i : Nat} {off : Int} {tgt : Nat} (h1 : x = nI i) (hi : i < 2 ^ 31) (hdg : decode cc pc = .ok (.ifCond .ge off, 3)) (ht : (pc : Int) + off = (tgt : Int))
    (kt : W p l e R s m args below meth c H locs cells slots Q (F0 m tgt ls rest)) : W p l e R s m args below meth c H locs cells slots Q (F0 m pc ls (.int x :: rest)) := by
  subst h1
  exact lv_if_ge hx hb hdg ht (fun h => kt) (fun h => absurd (nI_pos' hi) h)
theorem zf_eq (hx : p.tables.exec = Jvm.exec) (hb : c.code = cc) {x : Int32} {i : Nat} {off : Int} {tgt : Nat} (h1 : x = nI i) (hi : i < 2 ^ 31) (hdg : decode cc pc = .ok (.ifCond .eq off, 3)) (ht : (pc : Int) + off = (tgt : Int))
    (kt : i = 0 → W p l e R s m args below meth c H locs cells slots Q (F0 m tgt ls rest)) (kf : i ≠ 0 → W p l e R s m args below meth c H locs cells slots Q (F0 m (pc + 3) ls rest)) : W p l e R s m args below meth c H locs cells slots Q (F0 m pc ls (.int x :: rest)) := by
  subst h1
  refine lv_if_eq hx hb hdg ht (fun h => kt ?_) (fun h => kf ?_)
  · exact Classical.byContradiction (fun q => nI_ne0 (Nat.pos_of_ne_zero q) hi h)
  · intro q; subst q; exact h rfl
theorem zf_ne (hx : p.tables.exec = Jvm.exec) (hb : c.code = cc) {x : Int32} {i : Nat} {off : Int} {tgt : Nat} (h1 : x = nI i) (hi : i < 2 ^ 31) (hdg : decode cc pc = .ok (.ifCond .ne off, 3)) (ht : (pc : Int) + off = (tgt : Int))
    (kt : i ≠ 0 → W p l e R s m args below meth c H locs cells slots Q (F0 m tgt ls rest)) (kf : i = 0 → W p l e R s m args below meth c H locs cells slots Q (F0 m (pc + 3) ls rest)) : W p l e R s m args below meth c H locs cells slots Q (F0 m pc ls (.int x :: rest)) := by
  subst h1
  refine lv_if_ne hx hb hdg ht (fun h => kt ?_) (fun h => kf ?_)
  · intro q; subst q; exact h rfl
  · exact Classical.byContradiction (fun q => nI_ne0 (Nat.pos_of_ne_zero q) hi h)
theorem zf_le (hx : p.tables.exec = Jvm.exec) (hb : c.code = cc) {x : Int32} {i : Nat} {off : Int} {tgt : Nat} (h1 : x = nI i) (hi : i < 2 ^ 31) (hdg : decode cc pc = .ok (.ifCond .le off, 3)) (ht : (pc : Int) + off = (tgt : Int))
    (kt : i = 0 → W p l e R s m args below meth c H locs cells slots Q (F0 m tgt ls rest)) (kf : i ≠ 0 → W p l e R s m args below meth c H locs cells slots Q (F0 m (pc + 3) ls rest)) : W p l e R s m args below meth c H locs cells slots Q (F0 m pc ls (.int x :: rest)) := by
  subst h1
  refine lv_if_le hx hb hdg ht (fun h => kt ?_) (fun h => kf ?_)
  · exact Classical.byContradiction (fun q => nI_nle (Nat.pos_of_ne_zero q) hi h)
  · intro q; subst q; exact h (by decide)
theorem zf_gt (hx : p.tables.exec = Jvm.exec) (hb : c.code = cc) {x : Int32} {i : Nat} {off : Int} {tgt : Nat} (h1 : x = nI i) (hi : i < 2 ^ 31) (hdg : decode cc pc = .ok (.ifCond .gt off, 3)) (ht : (pc : Int) + off = (tgt : Int))
    (kt : 0 < i → W p l e R s m args below meth c H locs cells slots Q (F0 m tgt ls rest)) (kf : i = 0 → W p l e R s m args below meth c H locs cells slots Q (F0 m (pc + 3) ls rest)) : W p l e R s m args below meth c H locs cells slots Q (F0 m pc ls (.int x :: rest)) := by
  subst h1
  refine lv_if_gt hx hb hdg ht (fun h => kt ?_) (fun h => kf ?_)
  · exact Nat.pos_of_ne_zero (fun q => by subst q; exact absurd h (by decide))
  · exact Classical.byContradiction (fun q => h ((nI_ltI (a := 0) (by decide) hi).mpr (Nat.pos_of_ne_zero q)))
end ZI
theorem nI_inc (a : Nat) : nI a + Int32.ofInt 1 = nI (a + 1) := nI_1 a
/-! ===== a boolean of a condition ===== -/
def bI (P : Prop) [Decidable P] : Int32 := if P then 1 else 0
theorem bI_t {P : Prop} [Decidable P] (h : P) : (1 : Int32) = bI P := (if_pos h).symm
theorem bI_f {P : Prop} [Decidable P] (h : ¬ P) : (0 : Int32) = bI P := (if_neg h).symm
theorem bI_01 (P : Prop) [Decidable P] : bI P = 0 ∨ bI P = 1 := by unfold bI; split <;> simp
theorem bI_e0 {P : Prop} [Decidable P] : bI P = 0 ↔ ¬ P := by unfold bI; split <;> simp [*]
section ZB
variable {p : Program} {l : Launch} {e : Env} {R : Room} {s : State} {m : MethodId} {args : Array Value} {below : List Frame} {meth : Method} {c : Code} {H : Heap} {locs : List Loc} {cells slots : Nat} {Q : State → Prop}
variable {cc : ByteArray} {pc : Nat} {ls : Array Slot} {rest : List Value}
theorem zb_eq (hx : p.tables.exec = Jvm.exec) (hb : c.code = cc) (P : Prop) [Decidable P] {x : Int32} {off : Int} {tgt : Nat} (h1 : x = bI P) (hdg : decode cc pc = .ok (.ifCond .eq off, 3)) (ht : (pc : Int) + off = (tgt : Int))
    (kt : ¬ P → W p l e R s m args below meth c H locs cells slots Q (F0 m tgt ls rest)) (kf : P → W p l e R s m args below meth c H locs cells slots Q (F0 m (pc + 3) ls rest)) : W p l e R s m args below meth c H locs cells slots Q (F0 m pc ls (.int x :: rest)) := by
  subst h1
  exact lv_if_eq hx hb hdg ht (fun h => kt (bI_e0.mp h)) (fun h => kf (Classical.byContradiction (fun q => h (bI_e0.mpr q))))
theorem zb_ne (hx : p.tables.exec = Jvm.exec) (hb : c.code = cc) (P : Prop) [Decidable P] {x : Int32} {off : Int} {tgt : Nat} (h1 : x = bI P) (hdg : decode cc pc = .ok (.ifCond .ne off, 3)) (ht : (pc : Int) + off = (tgt : Int))
    (kt : P → W p l e R s m args below meth c H locs cells slots Q (F0 m tgt ls rest)) (kf : ¬ P → W p l e R s m args below meth c H locs cells slots Q (F0 m (pc + 3) ls rest)) : W p l e R s m args below meth c H locs cells slots Q (F0 m pc ls (.int x :: rest)) := by
  subst h1
  exact lv_if_ne hx hb hdg ht (fun h => kt (Classical.byContradiction (fun q => h (bI_e0.mpr q)))) (fun h => kf (bI_e0.mp h))
end ZB
end
section
theorem mw_X4_tape : MW yX4_tape cX4_tape 2 (some .int) 1 := ⟨mC_X4_tape, mN_X4, ⟨by decide, by decide⟩, by decide +kernel⟩
theorem mv_X4_tape : MWv yX4_tape := ⟨mI_X4_tape, mS_X4_tape⟩
theorem mw_X4_isHome : MW yX4_isHome cX4_isHome 3 (some .boolean) 1 := ⟨mC_X4_isHome, mN_X4, ⟨by decide, by decide⟩, by decide +kernel⟩
theorem mv_X4_isHome : MWv yX4_isHome := ⟨mI_X4_isHome, mS_X4_isHome⟩
theorem mw_X4_stage : MW yX4_stage cX4_stage 6 (some .int) 4 := ⟨mC_X4_stage, mN_X4, ⟨by decide, by decide⟩, by decide +kernel⟩
theorem mv_X4_stage : MWv yX4_stage := ⟨mI_X4_stage, mS_X4_stage⟩
theorem mw_X4_isName : MW yX4_isName cX4_isName 1 (some .boolean) 1 := ⟨mC_X4_isName, mN_X4, ⟨by decide, by decide⟩, by decide +kernel⟩
theorem mw_X0_clear : MW yX0_clear cX0_clear 1 none 0 := ⟨mC_X0_clear, mN_X0, ⟨by decide, by decide⟩, by decide +kernel⟩
theorem mv_X0_clear : MWv yX0_clear := ⟨mI_X0_clear, mS_X0_clear⟩
theorem mw_X0_add : MW yX0_add cX0_add 4 none 3 := ⟨mC_X0_add, mN_X0, ⟨by decide, by decide⟩, by decide +kernel⟩
theorem mv_X0_add : MWv yX0_add := ⟨mI_X0_add, mS_X0_add⟩
theorem mw_X0_isFull : MW yX0_isFull cX0_isFull 1 (some .boolean) 0 := ⟨mC_X0_isFull, mN_X0, ⟨by decide, by decide⟩, by decide +kernel⟩
theorem mv_X0_isFull : MWv yX0_isFull := ⟨mI_X0_isFull, mS_X0_isFull⟩
theorem mw_X4_copy : MW yX4_copy cX4_copy 3 (some .int) 1 := ⟨mC_X4_copy, mN_X4, ⟨by decide, by decide⟩, by decide +kernel⟩
theorem mv_X4_copy : MWv yX4_copy := ⟨mI_X4_copy, mS_X4_copy⟩
theorem mw_X4_findTape : MW yX4_findTape cX4_findTape 2 (some (.object "TapeVault$Tape")) 1 := ⟨mC_X4_findTape, mN_X4, ⟨by decide, by decide⟩, by decide +kernel⟩
theorem mv_X4_findTape : MWv yX4_findTape := ⟨mI_X4_findTape, mS_X4_findTape⟩
theorem mw_X4_copyJob : MW yX4_copyJob cX4_copyJob 4 (some .int) 1 := ⟨mC_X4_copyJob, mN_X4, ⟨by decide, by decide⟩, by decide +kernel⟩
theorem mv_X4_copyJob : MWv yX4_copyJob := ⟨mI_X4_copyJob, mS_X4_copyJob⟩
theorem mw_X4_nearestDrive : MW yX4_nearestDrive cX4_nearestDrive 5 (some (.object "TapeVault$Drive")) 1 := ⟨mC_X4_nearestDrive, mN_X4, ⟨by decide, by decide⟩, by decide +kernel⟩
theorem mv_X4_nearestDrive : MWv yX4_nearestDrive := ⟨mI_X4_nearestDrive, mS_X4_nearestDrive⟩
theorem mw_X1_isReady : MW yX1_isReady cX1_isReady 1 (some .boolean) 0 := ⟨mC_X1_isReady, mN_X1, ⟨by decide, by decide⟩, by decide +kernel⟩
theorem mv_X1_isReady : MWv yX1_isReady := ⟨mI_X1_isReady, mS_X1_isReady⟩
theorem mw_X1_distance : MW yX1_distance cX1_distance 2 (some .int) 1 := ⟨mC_X1_distance, mN_X1, ⟨by decide, by decide⟩, by decide +kernel⟩
theorem mv_X1_distance : MWv yX1_distance := ⟨mI_X1_distance, mS_X1_distance⟩
theorem mw_X1_carry : MW yX1_carry cX1_carry 3 (some .int) 1 := ⟨mC_X1_carry, mN_X1, ⟨by decide, by decide⟩, by decide +kernel⟩
theorem mv_X1_carry : MWv yX1_carry := ⟨mI_X1_carry, mS_X1_carry⟩
theorem mw_X2_work : MW yX2_work cX2_work 1 (some .boolean) 0 := ⟨mC_X2_work, mN_X2, ⟨by decide, by decide⟩, by decide +kernel⟩
theorem mv_X2_work : MWv yX2_work := ⟨mI_X2_work, mS_X2_work⟩
theorem mw_X4_writeStaged : MW yX4_writeStaged cX4_writeStaged 5 (some .int) 2 := ⟨mC_X4_writeStaged, mN_X4, ⟨by decide, by decide⟩, by decide +kernel⟩
theorem mv_X4_writeStaged : MWv yX4_writeStaged := ⟨mI_X4_writeStaged, mS_X4_writeStaged⟩
theorem mw_X1_windTo : MW yX1_windTo cX1_windTo 2 (some .int) 1 := ⟨mC_X1_windTo, mN_X1, ⟨by decide, by decide⟩, by decide +kernel⟩
theorem mv_X1_windTo : MWv yX1_windTo := ⟨mI_X1_windTo, mS_X1_windTo⟩
theorem mw_X1_writeBlock : MW yX1_writeBlock cX1_writeBlock 4 (some .int) 2 := ⟨mC_X1_writeBlock, mN_X1, ⟨by decide, by decide⟩, by decide +kernel⟩
theorem mv_X1_writeBlock : MWv yX1_writeBlock := ⟨mI_X1_writeBlock, mS_X1_writeBlock⟩
theorem mw_X1_passBlock : MW yX1_passBlock cX1_passBlock 1 (some .int) 0 := ⟨mC_X1_passBlock, mN_X1, ⟨by decide, by decide⟩, by decide +kernel⟩
theorem mv_X1_passBlock : MWv yX1_passBlock := ⟨mI_X1_passBlock, mS_X1_passBlock⟩
theorem mw_X0_kindAt : MW yX0_kindAt cX0_kindAt 2 (some .int) 1 := ⟨mC_X0_kindAt, mN_X0, ⟨by decide, by decide⟩, by decide +kernel⟩
theorem mv_X0_kindAt : MWv yX0_kindAt := ⟨mI_X0_kindAt, mS_X0_kindAt⟩
theorem mw_X0_has : MW yX0_has cX0_has 2 (some .boolean) 1 := ⟨mC_X0_has, mN_X0, ⟨by decide, by decide⟩, by decide +kernel⟩
theorem mv_X0_has : MWv yX0_has := ⟨mI_X0_has, mS_X0_has⟩
theorem mw_X0_valueAt : MW yX0_valueAt cX0_valueAt 2 (some .int) 1 := ⟨mC_X0_valueAt, mN_X0, ⟨by decide, by decide⟩, by decide +kernel⟩
theorem mv_X0_valueAt : MWv yX0_valueAt := ⟨mI_X0_valueAt, mS_X0_valueAt⟩
theorem mw_X0_sizeAt : MW yX0_sizeAt cX0_sizeAt 2 (some .int) 1 := ⟨mC_X0_sizeAt, mN_X0, ⟨by decide, by decide⟩, by decide +kernel⟩
theorem mv_X0_sizeAt : MWv yX0_sizeAt := ⟨mI_X0_sizeAt, mS_X0_sizeAt⟩
theorem mw_X1_endWriting : MW yX1_endWriting cX1_endWriting 3 (some .int) 2 := ⟨mC_X1_endWriting, mN_X1, ⟨by decide, by decide⟩, by decide +kernel⟩
theorem mv_X1_endWriting : MWv yX1_endWriting := ⟨mI_X1_endWriting, mS_X1_endWriting⟩
theorem mw_X1_closeWithVoid : MW yX1_closeWithVoid cX1_closeWithVoid 2 none 1 := ⟨mC_X1_closeWithVoid, mN_X1, ⟨by decide, by decide⟩, by decide +kernel⟩
theorem mv_X1_closeWithVoid : MWv yX1_closeWithVoid := ⟨mI_X1_closeWithVoid, mS_X1_closeWithVoid⟩
theorem mw_X1_bringHome : MW yX1_bringHome cX1_bringHome 1 none 0 := ⟨mC_X1_bringHome, mN_X1, ⟨by decide, by decide⟩, by decide +kernel⟩
theorem mv_X1_bringHome : MWv yX1_bringHome := ⟨mI_X1_bringHome, mS_X1_bringHome⟩
theorem mw_X3_list : MW yX3_list cX3_list 2 none 1 := ⟨mC_X3_list, mN_X3, ⟨by decide, by decide⟩, by decide +kernel⟩
theorem mv_X3_list : MWv yX3_list := ⟨mI_X3_list, mS_X3_list⟩
theorem mw_X3_listedHead : MW yX3_listedHead cX3_listedHead 3 (some .int) 1 := ⟨mC_X3_listedHead, mN_X3, ⟨by decide, by decide⟩, by decide +kernel⟩
theorem mv_X3_listedHead : MWv yX3_listedHead := ⟨mI_X3_listedHead, mS_X3_listedHead⟩
theorem mw_X3_unlist : MW yX3_unlist cX3_unlist 2 none 1 := ⟨mC_X3_unlist, mN_X3, ⟨by decide, by decide⟩, by decide +kernel⟩
theorem mv_X3_unlist : MWv yX3_unlist := ⟨mI_X3_unlist, mS_X3_unlist⟩
theorem mw_X4_counted : MW yX4_counted cX4_counted 2 (some .int) 1 := ⟨mC_X4_counted, mN_X4, ⟨by decide, by decide⟩, by decide +kernel⟩
theorem mv_X4_counted : MWv yX4_counted := ⟨mI_X4_counted, mS_X4_counted⟩
theorem mw_X4_read : MW yX4_read cX4_read 5 (some .int) 2 := ⟨mC_X4_read, mN_X4, ⟨by decide, by decide⟩, by decide +kernel⟩
theorem mv_X4_read : MWv yX4_read := ⟨mI_X4_read, mS_X4_read⟩
theorem mw_X4_readJob : MW yX4_readJob cX4_readJob 5 (some .int) 2 := ⟨mC_X4_readJob, mN_X4, ⟨by decide, by decide⟩, by decide +kernel⟩
theorem mv_X4_readJob : MWv yX4_readJob := ⟨mI_X4_readJob, mS_X4_readJob⟩
theorem mw_X4_readFile : MW yX4_readFile cX4_readFile 8 (some .int) 3 := ⟨mC_X4_readFile, mN_X4, ⟨by decide, by decide⟩, by decide +kernel⟩
theorem mv_X4_readFile : MWv yX4_readFile := ⟨mI_X4_readFile, mS_X4_readFile⟩
theorem mw_X1_readBlock : MW yX1_readBlock cX1_readBlock 3 (some .int) 0 := ⟨mC_X1_readBlock, mN_X1, ⟨by decide, by decide⟩, by decide +kernel⟩
theorem mv_X1_readBlock : MWv yX1_readBlock := ⟨mI_X1_readBlock, mS_X1_readBlock⟩
theorem mw_X3_isDamaged : MW yX3_isDamaged cX3_isDamaged 2 (some .boolean) 1 := ⟨mC_X3_isDamaged, mN_X3, ⟨by decide, by decide⟩, by decide +kernel⟩
theorem mv_X3_isDamaged : MWv yX3_isDamaged := ⟨mI_X3_isDamaged, mS_X3_isDamaged⟩
theorem mw_X4_move : MW yX4_move cX4_move 7 (some .int) 3 := ⟨mC_X4_move, mN_X4, ⟨by decide, by decide⟩, by decide +kernel⟩
theorem mv_X4_move : MWv yX4_move := ⟨mI_X4_move, mS_X4_move⟩
theorem mw_X4_moveJob : MW yX4_moveJob cX4_moveJob 6 (some .int) 3 := ⟨mC_X4_moveJob, mN_X4, ⟨by decide, by decide⟩, by decide +kernel⟩
theorem mv_X4_moveJob : MWv yX4_moveJob := ⟨mI_X4_moveJob, mS_X4_moveJob⟩
theorem mw_X4_moveInto : MW yX4_moveInto cX4_moveInto 7 (some .int) 4 := ⟨mC_X4_moveInto, mN_X4, ⟨by decide, by decide⟩, by decide +kernel⟩
theorem mv_X4_moveInto : MWv yX4_moveInto := ⟨mI_X4_moveInto, mS_X4_moveInto⟩
theorem mw_X4_moveBlocks : MW yX4_moveBlocks cX4_moveBlocks 9 (some .int) 5 := ⟨mC_X4_moveBlocks, mN_X4, ⟨by decide, by decide⟩, by decide +kernel⟩
theorem mv_X4_moveBlocks : MWv yX4_moveBlocks := ⟨mI_X4_moveBlocks, mS_X4_moveBlocks⟩
theorem mw_X4_salvage : MW yX4_salvage cX4_salvage 5 (some .int) 1 := ⟨mC_X4_salvage, mN_X4, ⟨by decide, by decide⟩, by decide +kernel⟩
theorem mv_X4_salvage : MWv yX4_salvage := ⟨mI_X4_salvage, mS_X4_salvage⟩
theorem mw_X4_scan : MW yX4_scan cX4_scan 3 (some .int) 1 := ⟨mC_X4_scan, mN_X4, ⟨by decide, by decide⟩, by decide +kernel⟩
theorem mv_X4_scan : MWv yX4_scan := ⟨mI_X4_scan, mS_X4_scan⟩
theorem mw_X4_scanJob : MW yX4_scanJob cX4_scanJob 4 (some .int) 1 := ⟨mC_X4_scanJob, mN_X4, ⟨by decide, by decide⟩, by decide +kernel⟩
theorem mv_X4_scanJob : MWv yX4_scanJob := ⟨mI_X4_scanJob, mS_X4_scanJob⟩
theorem mw_X1_lookThrough : MW yX1_lookThrough cX1_lookThrough 4 (some .int) 0 := ⟨mC_X1_lookThrough, mN_X1, ⟨by decide, by decide⟩, by decide +kernel⟩
theorem mv_X1_lookThrough : MWv yX1_lookThrough := ⟨mI_X1_lookThrough, mS_X1_lookThrough⟩
theorem mw_X3_listAllThatTell : MW yX3_listAllThatTell cX3_listAllThatTell 2 (some .int) 0 := ⟨mC_X3_listAllThatTell, mN_X3, ⟨by decide, by decide⟩, by decide +kernel⟩
theorem mv_X3_listAllThatTell : MWv yX3_listAllThatTell := ⟨mI_X3_listAllThatTell, mS_X3_listAllThatTell⟩
theorem mw_X3_unlistAll : MW yX3_unlistAll cX3_unlistAll 3 (some .int) 0 := ⟨mC_X3_unlistAll, mN_X3, ⟨by decide, by decide⟩, by decide +kernel⟩
theorem mv_X3_unlistAll : MWv yX3_unlistAll := ⟨mI_X3_unlistAll, mS_X3_unlistAll⟩
theorem mw_X3_tellsFile : MW yX3_tellsFile cX3_tellsFile 4 (some .boolean) 1 := ⟨mC_X3_tellsFile, mN_X3, ⟨by decide, by decide⟩, by decide +kernel⟩
theorem mv_X3_tellsFile : MWv yX3_tellsFile := ⟨mI_X3_tellsFile, mS_X3_tellsFile⟩
theorem mw_X3_tells : MW yX3_tells cX3_tells 3 (some .boolean) 2 := ⟨mC_X3_tells, mN_X3, ⟨by decide, by decide⟩, by decide +kernel⟩
theorem mv_X3_tells : MWv yX3_tells := ⟨mI_X3_tells, mS_X3_tells⟩
theorem mw_X3_listedCount : MW yX3_listedCount cX3_listedCount 3 (some .int) 0 := ⟨mC_X3_listedCount, mN_X3, ⟨by decide, by decide⟩, by decide +kernel⟩
theorem mv_X3_listedCount : MWv yX3_listedCount := ⟨mI_X3_listedCount, mS_X3_listedCount⟩
theorem mw_X4_lose : MW yX4_lose cX4_lose 3 (some .int) 1 := ⟨mC_X4_lose, mN_X4, ⟨by decide, by decide⟩, by decide +kernel⟩
theorem mv_X4_lose : MWv yX4_lose := ⟨mI_X4_lose, mS_X4_lose⟩
theorem mw_X4_damage : MW yX4_damage cX4_damage 5 (some .int) 3 := ⟨mC_X4_damage, mN_X4, ⟨by decide, by decide⟩, by decide +kernel⟩
theorem mv_X4_damage : MWv yX4_damage := ⟨mI_X4_damage, mS_X4_damage⟩
theorem mw_X4_isPlace : MW yX4_isPlace cX4_isPlace 1 (some .boolean) 1 := ⟨mC_X4_isPlace, mN_X4, ⟨by decide, by decide⟩, by decide +kernel⟩
theorem mw_X3_spoil : MW yX3_spoil cX3_spoil 5 (some .int) 2 := ⟨mC_X3_spoil, mN_X3, ⟨by decide, by decide⟩, by decide +kernel⟩
theorem mv_X3_spoil : MWv yX3_spoil := ⟨mI_X3_spoil, mS_X3_spoil⟩
theorem mw_X4_jam : MW yX4_jam cX4_jam 4 (some .int) 2 := ⟨mC_X4_jam, mN_X4, ⟨by decide, by decide⟩, by decide +kernel⟩
theorem mv_X4_jam : MWv yX4_jam := ⟨mI_X4_jam, mS_X4_jam⟩
theorem mw_X4_findDrive : MW yX4_findDrive cX4_findDrive 2 (some (.object "TapeVault$Drive")) 1 := ⟨mC_X4_findDrive, mN_X4, ⟨by decide, by decide⟩, by decide +kernel⟩
theorem mv_X4_findDrive : MWv yX4_findDrive := ⟨mI_X4_findDrive, mS_X4_findDrive⟩
theorem mw_X4_fix : MW yX4_fix cX4_fix 4 (some .int) 1 := ⟨mC_X4_fix, mN_X4, ⟨by decide, by decide⟩, by decide +kernel⟩
theorem mv_X4_fix : MWv yX4_fix := ⟨mI_X4_fix, mS_X4_fix⟩
theorem mw_X4_power : MW yX4_power cX4_power 2 (some .int) 1 := ⟨mC_X4_power, mN_X4, ⟨by decide, by decide⟩, by decide +kernel⟩
theorem mv_X4_power : MWv yX4_power := ⟨mI_X4_power, mS_X4_power⟩
theorem mw_X4_place : MW yX4_place cX4_place 4 (some .int) 2 := ⟨mC_X4_place, mN_X4, ⟨by decide, by decide⟩, by decide +kernel⟩
theorem mv_X4_place : MWv yX4_place := ⟨mI_X4_place, mS_X4_place⟩
theorem mw_X4_block : MW yX4_block cX4_block 5 (some .int) 3 := ⟨mC_X4_block, mN_X4, ⟨by decide, by decide⟩, by decide +kernel⟩
theorem mv_X4_block : MWv yX4_block := ⟨mI_X4_block, mS_X4_block⟩
theorem mw_X4_tapeTold : MW yX4_tapeTold cX4_tapeTold 4 (some .int) 2 := ⟨mC_X4_tapeTold, mN_X4, ⟨by decide, by decide⟩, by decide +kernel⟩
theorem mv_X4_tapeTold : MWv yX4_tapeTold := ⟨mI_X4_tapeTold, mS_X4_tapeTold⟩
theorem mw_X4_driveTold : MW yX4_driveTold cX4_driveTold 4 (some .int) 2 := ⟨mC_X4_driveTold, mN_X4, ⟨by decide, by decide⟩, by decide +kernel⟩
theorem mv_X4_driveTold : MWv yX4_driveTold := ⟨mI_X4_driveTold, mS_X4_driveTold⟩
theorem mw_X4_told : MW yX4_told cX4_told 2 (some .int) 1 := ⟨mC_X4_told, mN_X4, ⟨by decide, by decide⟩, by decide +kernel⟩
theorem mv_X4_told : MWv yX4_told := ⟨mI_X4_told, mS_X4_told⟩
theorem mw_X4_fold : MW yX4_fold cX4_fold 1 (some .int) 0 := ⟨mC_X4_fold, mN_X4, ⟨by decide, by decide⟩, by decide +kernel⟩
theorem mv_X4_fold : MWv yX4_fold := ⟨mI_X4_fold, mS_X4_fold⟩
theorem mw_X5_tape : MW yX5_tape cX5_tape 4 (some .int) 1 := ⟨mC_X5_tape, mN_X5, ⟨by decide, by decide⟩, by decide +kernel⟩
theorem mv_X5_tape : MWv yX5_tape := ⟨mI_X5_tape, mS_X5_tape⟩
theorem mw_X5_in : MW yX5_in cX5_in 3 (some .boolean) 3 := ⟨mC_X5_in, mN_X5, ⟨by decide, by decide⟩, by decide +kernel⟩
theorem mw_X5_stage : MW yX5_stage cX5_stage 5 (some .int) 4 := ⟨mC_X5_stage, mN_X5, ⟨by decide, by decide⟩, by decide +kernel⟩
theorem mv_X5_stage : MWv yX5_stage := ⟨mI_X5_stage, mS_X5_stage⟩
theorem mw_X5_isName : MW yX5_isName cX5_isName 1 (some .boolean) 1 := ⟨mC_X5_isName, mN_X5, ⟨by decide, by decide⟩, by decide +kernel⟩
theorem mw_X5_copy : MW yX5_copy cX5_copy 4 (some .int) 1 := ⟨mC_X5_copy, mN_X5, ⟨by decide, by decide⟩, by decide +kernel⟩
theorem mv_X5_copy : MWv yX5_copy := ⟨mI_X5_copy, mS_X5_copy⟩
theorem mw_X5_isTape : MW yX5_isTape cX5_isTape 2 (some .boolean) 1 := ⟨mC_X5_isTape, mN_X5, ⟨by decide, by decide⟩, by decide +kernel⟩
theorem mv_X5_isTape : MWv yX5_isTape := ⟨mI_X5_isTape, mS_X5_isTape⟩
theorem mw_X5_begin : MW yX5_begin cX5_begin 1 none 0 := ⟨mC_X5_begin, mN_X5, ⟨by decide, by decide⟩, by decide +kernel⟩
theorem mv_X5_begin : MWv yX5_begin := ⟨mI_X5_begin, mS_X5_begin⟩
theorem mw_X5_mount : MW yX5_mount cX5_mount 5 none 2 := ⟨mC_X5_mount, mN_X5, ⟨by decide, by decide⟩, by decide +kernel⟩
theorem mv_X5_mount : MWv yX5_mount := ⟨mI_X5_mount, mS_X5_mount⟩
theorem mw_X5_distance : MW yX5_distance cX5_distance 3 (some .int) 2 := ⟨mC_X5_distance, mN_X5, ⟨by decide, by decide⟩, by decide +kernel⟩
theorem mw_X5_work : MW yX5_work cX5_work 1 (some .boolean) 0 := ⟨mC_X5_work, mN_X5, ⟨by decide, by decide⟩, by decide +kernel⟩
theorem mv_X5_work : MWv yX5_work := ⟨mI_X5_work, mS_X5_work⟩
theorem mw_X5_wind : MW yX5_wind cX5_wind 3 none 2 := ⟨mC_X5_wind, mN_X5, ⟨by decide, by decide⟩, by decide +kernel⟩
theorem mv_X5_wind : MWv yX5_wind := ⟨mI_X5_wind, mS_X5_wind⟩
theorem mw_X5_write : MW yX5_write cX5_write 5 none 4 := ⟨mC_X5_write, mN_X5, ⟨by decide, by decide⟩, by decide +kernel⟩
theorem mv_X5_write : MWv yX5_write := ⟨mI_X5_write, mS_X5_write⟩
theorem mw_X5_pass : MW yX5_pass cX5_pass 4 none 2 := ⟨mC_X5_pass, mN_X5, ⟨by decide, by decide⟩, by decide +kernel⟩
theorem mv_X5_pass : MWv yX5_pass := ⟨mI_X5_pass, mS_X5_pass⟩
theorem mw_X5_put : MW yX5_put cX5_put 6 none 5 := ⟨mC_X5_put, mN_X5, ⟨by decide, by decide⟩, by decide +kernel⟩
theorem mv_X5_put : MWv yX5_put := ⟨mI_X5_put, mS_X5_put⟩
theorem mw_X5_close : MW yX5_close cX5_close 4 none 2 := ⟨mC_X5_close, mN_X5, ⟨by decide, by decide⟩, by decide +kernel⟩
theorem mv_X5_close : MWv yX5_close := ⟨mI_X5_close, mS_X5_close⟩
theorem mw_X5_unmount : MW yX5_unmount cX5_unmount 2 none 1 := ⟨mC_X5_unmount, mN_X5, ⟨by decide, by decide⟩, by decide +kernel⟩
theorem mv_X5_unmount : MWv yX5_unmount := ⟨mI_X5_unmount, mS_X5_unmount⟩
theorem mw_X5_ended : MW yX5_ended cX5_ended 2 (some .int) 1 := ⟨mC_X5_ended, mN_X5, ⟨by decide, by decide⟩, by decide +kernel⟩
theorem mv_X5_ended : MWv yX5_ended := ⟨mI_X5_ended, mS_X5_ended⟩
theorem mw_X5_read : MW yX5_read cX5_read 3 (some .int) 2 := ⟨mC_X5_read, mN_X5, ⟨by decide, by decide⟩, by decide +kernel⟩
theorem mv_X5_read : MWv yX5_read := ⟨mI_X5_read, mS_X5_read⟩
theorem mw_X5_readFile : MW yX5_readFile cX5_readFile 7 (some .int) 2 := ⟨mC_X5_readFile, mN_X5, ⟨by decide, by decide⟩, by decide +kernel⟩
theorem mv_X5_readFile : MWv yX5_readFile := ⟨mI_X5_readFile, mS_X5_readFile⟩
theorem mw_X5_take : MW yX5_take cX5_take 3 (some .int) 1 := ⟨mC_X5_take, mN_X5, ⟨by decide, by decide⟩, by decide +kernel⟩
theorem mv_X5_take : MWv yX5_take := ⟨mI_X5_take, mS_X5_take⟩
theorem mw_X5_move : MW yX5_move cX5_move 9 (some .int) 3 := ⟨mC_X5_move, mN_X5, ⟨by decide, by decide⟩, by decide +kernel⟩
theorem mv_X5_move : MWv yX5_move := ⟨mI_X5_move, mS_X5_move⟩
theorem mw_X5_salvage : MW yX5_salvage cX5_salvage 4 (some .int) 1 := ⟨mC_X5_salvage, mN_X5, ⟨by decide, by decide⟩, by decide +kernel⟩
theorem mv_X5_salvage : MWv yX5_salvage := ⟨mI_X5_salvage, mS_X5_salvage⟩
theorem mw_X5_scan : MW yX5_scan cX5_scan 6 (some .int) 1 := ⟨mC_X5_scan, mN_X5, ⟨by decide, by decide⟩, by decide +kernel⟩
theorem mv_X5_scan : MWv yX5_scan := ⟨mI_X5_scan, mS_X5_scan⟩
theorem mw_X5_forget : MW yX5_forget cX5_forget 4 (some .int) 1 := ⟨mC_X5_forget, mN_X5, ⟨by decide, by decide⟩, by decide +kernel⟩
theorem mv_X5_forget : MWv yX5_forget := ⟨mI_X5_forget, mS_X5_forget⟩
theorem mw_X5_isFile : MW yX5_isFile cX5_isFile 7 (some .boolean) 2 := ⟨mC_X5_isFile, mN_X5, ⟨by decide, by decide⟩, by decide +kernel⟩
theorem mv_X5_isFile : MWv yX5_isFile := ⟨mI_X5_isFile, mS_X5_isFile⟩
theorem mw_X5_lose : MW yX5_lose cX5_lose 2 (some .int) 1 := ⟨mC_X5_lose, mN_X5, ⟨by decide, by decide⟩, by decide +kernel⟩
theorem mv_X5_lose : MWv yX5_lose := ⟨mI_X5_lose, mS_X5_lose⟩
theorem mw_X5_damage : MW yX5_damage cX5_damage 6 (some .int) 3 := ⟨mC_X5_damage, mN_X5, ⟨by decide, by decide⟩, by decide +kernel⟩
theorem mv_X5_damage : MWv yX5_damage := ⟨mI_X5_damage, mS_X5_damage⟩
theorem mw_X5_jam : MW yX5_jam cX5_jam 3 (some .int) 2 := ⟨mC_X5_jam, mN_X5, ⟨by decide, by decide⟩, by decide +kernel⟩
theorem mv_X5_jam : MWv yX5_jam := ⟨mI_X5_jam, mS_X5_jam⟩
theorem mw_X5_fix : MW yX5_fix cX5_fix 3 (some .int) 1 := ⟨mC_X5_fix, mN_X5, ⟨by decide, by decide⟩, by decide +kernel⟩
theorem mv_X5_fix : MWv yX5_fix := ⟨mI_X5_fix, mS_X5_fix⟩
theorem mw_X5_power : MW yX5_power cX5_power 2 (some .int) 1 := ⟨mC_X5_power, mN_X5, ⟨by decide, by decide⟩, by decide +kernel⟩
theorem mv_X5_power : MWv yX5_power := ⟨mI_X5_power, mS_X5_power⟩
theorem mw_X5_place : MW yX5_place cX5_place 4 (some .int) 2 := ⟨mC_X5_place, mN_X5, ⟨by decide, by decide⟩, by decide +kernel⟩
theorem mv_X5_place : MWv yX5_place := ⟨mI_X5_place, mS_X5_place⟩
theorem mw_X5_block : MW yX5_block cX5_block 5 (some .int) 3 := ⟨mC_X5_block, mN_X5, ⟨by decide, by decide⟩, by decide +kernel⟩
theorem mv_X5_block : MWv yX5_block := ⟨mI_X5_block, mS_X5_block⟩
theorem mw_X5_tapeTold : MW yX5_tapeTold cX5_tapeTold 3 (some .int) 2 := ⟨mC_X5_tapeTold, mN_X5, ⟨by decide, by decide⟩, by decide +kernel⟩
theorem mv_X5_tapeTold : MWv yX5_tapeTold := ⟨mI_X5_tapeTold, mS_X5_tapeTold⟩
theorem mw_X5_driveTold : MW yX5_driveTold cX5_driveTold 3 (some .int) 2 := ⟨mC_X5_driveTold, mN_X5, ⟨by decide, by decide⟩, by decide +kernel⟩
theorem mv_X5_driveTold : MWv yX5_driveTold := ⟨mI_X5_driveTold, mS_X5_driveTold⟩
theorem mw_X5_told : MW yX5_told cX5_told 2 (some .int) 1 := ⟨mC_X5_told, mN_X5, ⟨by decide, by decide⟩, by decide +kernel⟩
theorem mv_X5_told : MWv yX5_told := ⟨mI_X5_told, mS_X5_told⟩
theorem mw_X5_fold : MW yX5_fold cX5_fold 1 (some .int) 0 := ⟨mC_X5_fold, mN_X5, ⟨by decide, by decide⟩, by decide +kernel⟩
theorem mv_X5_fold : MWv yX5_fold := ⟨mI_X5_fold, mS_X5_fold⟩
end
section
/-! ===== the class: Effort, Blocks: what each method does ===== -/
def wkR (C : CS) : Int32 := bI (cF C 1 0 2 ≠ 0)
def wkC (C : CS) : CS := if cF C 1 0 2 = 0 then sF C 1 0 2 (-1) else if cF C 1 0 2 ≤ 0 then sF C 1 0 0 (cF C 1 0 0 + 1) else sF (sF C 1 0 2 (cF C 1 0 2 - 1)) 1 0 0 (cF C 1 0 0 + 1)
def fullP (C : CS) (b : Nat) : Prop := cap b ≤ cN C 5 b 3
/-- kind, value, size at a place, 0 where there is no block -/
def kAt (C : CS) (f b a : Nat) : Int32 := if a < cN C 5 b 3 then cB C f b a else 0
def addC (C : CS) (b : Nat) (k v z : Int32) : CS := if cap b ≤ cN C 5 b 3 then C else sN (sB (sB (sB C 6 b (cN C 5 b 3) k) 7 b (cN C 5 b 3) v) 8 b (cN C 5 b 3) z) 5 b 3 (cN C 5 b 3 + 1)
theorem cap_le (b : Nat) : cap b ≤ 100 := by unfold cap; split <;> decide
theorem cap_12 : cap 12 = 32 := rfl
theorem cap_t {b : Nat} (h : b < 12) : cap b = 100 := if_neg (by omega)

set_option maxHeartbeats 4000000 in
set_option maxRecDepth 100000 in
theorem c_X2_work (l : Launch) (G : GG) (C : CS) (M : MS)  : Ct l G yX2_work cX2_work 1 (some .boolean) 0 0 [.ref (zad G 1 0)] C M (some (.int (wkR C))) (wkC C) M := by
  refine Ct_z (by decide) (Nat.le_of_ble_eq_true rfl) (bI_01 _) (fun {p e s m args below meth c A Q ls} hC hW hl hE => ?_)
  have hx := hC.1
  have hb := hC.2.1
  have hl : lv_has ls 1 [(0, .ref (zad G 1 0))] := hl
  refine lv_aload_n hx hb dX2_work_0 rfl (lv_at hl 0 rfl) ?_
  refine g1 (k := 2) (v := .int (cF C 1 0 2)) hC hW (by decide) mF_X2_9 rfl dX2_work_1 ?_
  refine lv_if_ne (tgt := 14) hx hb dX2_work_4 (by decide) (fun h4 => ?_) (fun h4 => ?_)
  · refine lv_aload_n hx hb dX2_work_14 rfl (lv_at hl 0 rfl) ?_
    refine g1 (k := 2) (v := .int (cF C 1 0 2)) hC hW (by decide) mF_X2_9 rfl dX2_work_15 ?_
    refine lv_if_le (tgt := 31) hx hb dX2_work_18 (by decide) (fun h18 => ?_) (fun h18 => ?_)
    · refine lv_aload_n hx hb dX2_work_31 rfl (lv_at hl 0 rfl) ?_
      refine lv_dup hx hb dX2_work_32 rfl ?_
      refine g1 (k := 0) (v := .int (cF C 1 0 0)) hC hW (by decide) mF_X2_15 rfl dX2_work_33 ?_
      refine lv_iconst (v := 1) hx hb dX2_work_36 (by decide) ?_
      refine lv_iadd hx hb dX2_work_37 ?_
      refine p1 (k := 0) (v := (cF C 1 0 0) + 1) hC hW (by decide) mF_X2_15 dX2_work_38 (fun _ eS H locs hW => ?_)
      subst eS
      refine lv_iconst (v := 1) hx hb dX2_work_41 (by decide) ?_
      have qC : sF C 1 0 0 ((cF C 1 0 0) + 1) = wkC C := by simp [wkC, wkR, h4, h18, cF_sF, cN_sN, cB_sB, cM_sM, cN_sF, cB_sF, cM_sF, cF_sN, cB_sN, cM_sN, cF_sB, cN_sB, cM_sB, cF_sM, cN_sM, cB_sM, mF_smF, mA_smF, mF_smA, mA_smA]
      rw [qC] at hW
      have qr : (1 : Int32) = wkR C := by simp [bI, wkC, wkR, h4, h18, cF_sF, cN_sN, cB_sB, cM_sM, cN_sF, cB_sF, cM_sF, cF_sN, cB_sN, cM_sN, cF_sB, cN_sB, cM_sB, cF_sM, cN_sM, cB_sM, mF_smF, mA_smF, mF_smA, mA_smA]
      exact hE hW qr dX2_work_42
    · refine lv_aload_n hx hb dX2_work_21 rfl (lv_at hl 0 rfl) ?_
      refine lv_dup hx hb dX2_work_22 rfl ?_
      refine g1 (k := 2) (v := .int (cF C 1 0 2)) hC hW (by decide) mF_X2_9 rfl dX2_work_23 ?_
      refine lv_iconst (v := 1) hx hb dX2_work_26 (by decide) ?_
      refine lv_isub hx hb dX2_work_27 ?_
      refine p1 (k := 2) (v := (cF C 1 0 2) - 1) hC hW (by decide) mF_X2_9 dX2_work_28 (fun _ eS H locs hW => ?_)
      subst eS
      refine lv_aload_n hx hb dX2_work_31 rfl (lv_at hl 0 rfl) ?_
      refine lv_dup hx hb dX2_work_32 rfl ?_
      refine g1 (k := 0) (v := .int (cF C 1 0 0)) hC hW (by decide) mF_X2_15 rfl dX2_work_33 ?_
      refine lv_iconst (v := 1) hx hb dX2_work_36 (by decide) ?_
      refine lv_iadd hx hb dX2_work_37 ?_
      refine p1 (k := 0) (v := (cF C 1 0 0) + 1) hC hW (by decide) mF_X2_15 dX2_work_38 (fun _ eS H locs hW => ?_)
      subst eS
      refine lv_iconst (v := 1) hx hb dX2_work_41 (by decide) ?_
      have qC : sF (sF C 1 0 2 ((cF C 1 0 2) - 1)) 1 0 0 ((cF C 1 0 0) + 1) = wkC C := by simp [wkC, wkR, h4, h18, cF_sF, cN_sN, cB_sB, cM_sM, cN_sF, cB_sF, cM_sF, cF_sN, cB_sN, cM_sN, cF_sB, cN_sB, cM_sB, cF_sM, cN_sM, cB_sM, mF_smF, mA_smF, mF_smA, mA_smA]
      rw [qC] at hW
      have qr : (1 : Int32) = wkR C := by simp [bI, wkC, wkR, h4, h18, cF_sF, cN_sN, cB_sB, cM_sM, cN_sF, cB_sF, cM_sF, cF_sN, cB_sN, cM_sN, cF_sB, cN_sB, cM_sB, cF_sM, cN_sM, cB_sM, mF_smF, mA_smF, mF_smA, mA_smA]
      exact hE hW qr dX2_work_42
  · refine lv_aload_n hx hb dX2_work_7 rfl (lv_at hl 0 rfl) ?_
    refine lv_iconst (v := (-1)) hx hb dX2_work_8 (by decide) ?_
    refine p1 (k := 2) (v := (-1)) hC hW (by decide) mF_X2_9 dX2_work_9 (fun _ eS H locs hW => ?_)
    subst eS
    refine lv_iconst (v := 0) hx hb dX2_work_12 (by decide) ?_
    have qC : sF C 1 0 2 (-1) = wkC C := by simp [wkC, wkR, h4, cF_sF, cN_sN, cB_sB, cM_sM, cN_sF, cB_sF, cM_sF, cF_sN, cB_sN, cM_sN, cF_sB, cN_sB, cM_sB, cF_sM, cN_sM, cB_sM, mF_smF, mA_smF, mF_smA, mA_smA]
    rw [qC] at hW
    have qr : (0 : Int32) = wkR C := by simp [bI, wkC, wkR, h4, cF_sF, cN_sN, cB_sB, cM_sM, cN_sF, cB_sF, cM_sF, cF_sN, cB_sN, cM_sN, cF_sB, cN_sB, cM_sB, cF_sM, cN_sM, cB_sM, mF_smF, mA_smF, mF_smA, mA_smA]
    exact hE hW qr dX2_work_13

set_option maxHeartbeats 4000000 in
set_option maxRecDepth 100000 in
theorem c_X0_clear (l : Launch) (G : GG) (C : CS) (M : MS) {b : Nat} (hb0 : isB (zn G) b) : Ct l G yX0_clear cX0_clear 1 none 0 0 [.ref (zad G 5 b)] C M none (sN C 5 b 3 0) M := by
  refine Ct_v (by decide) (Nat.le_of_ble_eq_true rfl) (fun {p e s m args below meth c A Q ls} hC hW hl hE => ?_)
  have hx := hC.1
  have hb := hC.2.1
  have hl : lv_has ls 1 [(0, .ref (zad G 5 b))] := hl
  refine lv_aload_n hx hb dX0_clear_0 rfl (lv_at hl 0 rfl) ?_
  refine lv_iconst (v := 0) hx hb dX0_clear_1 (by decide) ?_
  refine p5 (v := 0) hC hW hb0 rfl mF_X0_19 dX0_clear_2 (fun _ eS H locs hW => ?_)
  subst eS
  exact hE hW dX0_clear_5

set_option maxHeartbeats 4000000 in
set_option maxRecDepth 100000 in
theorem c_X0_isFull (l : Launch) (G : GG) (C : CS) (M : MS) {b : Nat} (hb0 : isB (zn G) b) (he : cN C 5 b 3 ≤ cap b) : Ct l G yX0_isFull cX0_isFull 1 (some .boolean) 0 0 [.ref (zad G 5 b)] C M (some (.int (bI (cap b ≤ cN C 5 b 3)))) C M := by
  refine Ct_z (by decide) (Nat.le_of_ble_eq_true rfl) (bI_01 _) (fun {p e s m args below meth c A Q ls} hC hW hl hE => ?_)
  have hx := hC.1
  have hb := hC.2.1
  have hl : lv_has ls 1 [(0, .ref (zad G 5 b))] := hl
  have hcp := cap_le b
  refine lv_aload_n hx hb dX0_isFull_0 rfl (lv_at hl 0 rfl) ?_
  refine g5 (k := 3) (v := .int (nI (cN C 5 b 3))) hC hW hb0 (by decide) mF_X0_19 rfl dX0_isFull_1 ?_
  refine lv_aload_n hx hb dX0_isFull_4 rfl (lv_at hl 0 rfl) ?_
  refine g5 (k := 0) (v := .ref (zad G 6 b)) hC hW hb0 (by decide) mF_X0_7 rfl dX0_isFull_5 ?_
  refine alen6 hC hW hb0 dX0_isFull_8 ?_
  refine zc_lt (i := cN C 5 b 3) (j := cap b) (tgt := 16) hx hb rfl rfl (by omega) (by omega) dX0_isFull_9 (by decide) (fun h9 => ?_) (fun h9 => ?_)
  · refine lv_iconst (v := 0) hx hb dX0_isFull_16 (by decide) ?_
    have qr : (0 : Int32) = bI (cap b ≤ cN C 5 b 3) := by simp [bI, h9, cF_sF, cN_sN, cB_sB, cM_sM, cN_sF, cB_sF, cM_sF, cF_sN, cB_sN, cM_sN, cF_sB, cN_sB, cM_sB, cF_sM, cN_sM, cB_sM, mF_smF, mA_smF, mF_smA, mA_smA]
    exact hE hW qr dX0_isFull_17
  · refine lv_iconst (v := 1) hx hb dX0_isFull_12 (by decide) ?_
    refine lv_goto (tgt := 17) hx hb dX0_isFull_13 (by decide) ?_
    have qr : (1 : Int32) = bI (cap b ≤ cN C 5 b 3) := by simp [bI, h9, cF_sF, cN_sN, cB_sB, cM_sM, cN_sF, cB_sF, cM_sF, cF_sN, cB_sN, cM_sN, cF_sB, cN_sB, cM_sB, cF_sM, cN_sM, cB_sM, mF_smF, mA_smF, mF_smA, mA_smA]
    exact hE hW qr dX0_isFull_17

set_option maxHeartbeats 4000000 in
set_option maxRecDepth 100000 in
theorem c_X0_add (l : Launch) (G : GG) (C : CS) (M : MS) {b : Nat} (hb0 : isB (zn G) b) (he : cN C 5 b 3 ≤ cap b) (k v z : Int32) : Ct l G yX0_add cX0_add 4 none 1 20 [.ref (zad G 5 b), .int k, .int v, .int z] C M none (addC C b k v z) M := by
  refine Ct_v (by decide) (Nat.le_of_ble_eq_true rfl) (fun {p e s m args below meth c A Q ls} hC hW hl hE => ?_)
  have hx := hC.1
  have hb := hC.2.1
  have hl : lv_has ls 4 [(0, .ref (zad G 5 b)), (1, .int k), (2, .int v), (3, .int z)] := hl
  have hcp := cap_le b
  refine lv_aload_n hx hb dX0_add_0 rfl (lv_at hl 0 rfl) ?_
  refine z_callV (As := []) (rest := []) (st1 := [.int (bI (cap b ≤ cN C 5 b 3))]) hC hW (LL_5 hb0) rfl rfl rfl (c_X0_isFull l G C M hb0 he) mw_X0_isFull mv_X0_isFull mM_X0_23 ⟨Nat.le_of_ble_eq_true rfl, Nat.le_of_ble_eq_true rfl⟩ rfl rfl hl.1 (lv_room (Nat.le_of_ble_eq_true rfl)) dX0_add_1 rfl (fun H locs hW => ?_) ⟨Nat.zero_le _, Nat.zero_le _⟩
  refine zb_eq (tgt := 8) hx hb (cap b ≤ cN C 5 b 3) rfl dX0_add_4 (by decide) (fun h4 => ?_) (fun h4 => ?_)
  · refine lv_aload_n hx hb dX0_add_8 rfl (lv_at hl 0 rfl) ?_
    refine g5 (k := 0) (v := .ref (zad G 6 b)) hC hW hb0 (by decide) mF_X0_7 rfl dX0_add_9 ?_
    refine lv_aload_n hx hb dX0_add_12 rfl (lv_at hl 0 rfl) ?_
    refine g5 (k := 3) (v := .int (nI (cN C 5 b 3))) hC hW hb0 (by decide) mF_X0_19 rfl dX0_add_13 ?_
    refine lv_iload_n hx hb dX0_add_16 rfl (lv_at hl 1 rfl) ?_
    refine s678 (f := 6) (j := cN C 5 b 3) (v := k) hC hW (by decide) hb0 (rfl) (by omega) dX0_add_17 (fun _ eS H locs hW => ?_)
    subst eS
    refine lv_aload_n hx hb dX0_add_18 rfl (lv_at hl 0 rfl) ?_
    refine g5 (k := 1) (v := .ref (zad G 7 b)) hC hW hb0 (by decide) mF_X0_13 rfl dX0_add_19 ?_
    refine lv_aload_n hx hb dX0_add_22 rfl (lv_at hl 0 rfl) ?_
    refine g5 (k := 3) (v := .int (nI (cN C 5 b 3))) hC hW hb0 (by decide) mF_X0_19 rfl dX0_add_23 ?_
    refine lv_iload_n hx hb dX0_add_26 rfl (lv_at hl 2 rfl) ?_
    refine s678 (f := 7) (j := cN C 5 b 3) (v := v) hC hW (by decide) hb0 (rfl) (by omega) dX0_add_27 (fun _ eS H locs hW => ?_)
    subst eS
    refine lv_aload_n hx hb dX0_add_28 rfl (lv_at hl 0 rfl) ?_
    refine g5 (k := 2) (v := .ref (zad G 8 b)) hC hW hb0 (by decide) mF_X0_16 rfl dX0_add_29 ?_
    refine lv_aload_n hx hb dX0_add_32 rfl (lv_at hl 0 rfl) ?_
    refine g5 (k := 3) (v := .int (nI (cN C 5 b 3))) hC hW hb0 (by decide) mF_X0_19 rfl dX0_add_33 ?_
    refine lv_iload_n hx hb dX0_add_36 rfl (lv_at hl 3 rfl) ?_
    refine s678 (f := 8) (j := cN C 5 b 3) (v := z) hC hW (by decide) hb0 (rfl) (by omega) dX0_add_37 (fun _ eS H locs hW => ?_)
    subst eS
    refine lv_aload_n hx hb dX0_add_38 rfl (lv_at hl 0 rfl) ?_
    refine lv_dup hx hb dX0_add_39 rfl ?_
    refine g5 (k := 3) (v := .int (nI (cN C 5 b 3))) hC hW hb0 (by decide) mF_X0_19 rfl dX0_add_40 ?_
    refine lv_iconst (v := 1) hx hb dX0_add_43 (by decide) ?_
    refine zi_add (i := cN C 5 b 3) (j := 1) hx hb rfl rfl dX0_add_44 ?_
    refine p5 (v := cN C 5 b 3 + 1) hC hW hb0 rfl mF_X0_19 dX0_add_45 (fun _ eS H locs hW => ?_)
    subst eS
    have qC : sN (sB (sB (sB C 6 b (cN C 5 b 3) k) 7 b (cN C 5 b 3) v) 8 b (cN C 5 b 3) z) 5 b 3 (cN C 5 b 3 + 1) = addC C b k v z := by simp [addC, h4, cF_sF, cN_sN, cB_sB, cM_sM, cN_sF, cB_sF, cM_sF, cF_sN, cB_sN, cM_sN, cF_sB, cN_sB, cM_sB, cF_sM, cN_sM, cB_sM, mF_smF, mA_smF, mF_smA, mA_smA]
    rw [qC] at hW
    exact hE hW dX0_add_48
  · have qC : C = addC C b k v z := by simp [addC, h4, cF_sF, cN_sN, cB_sB, cM_sM, cN_sF, cB_sF, cM_sF, cF_sN, cB_sN, cM_sN, cF_sB, cN_sB, cM_sB, cF_sM, cN_sM, cB_sM, mF_smF, mA_smF, mF_smA, mA_smA]
    rw [qC] at hW
    exact hE hW dX0_add_7

set_option maxHeartbeats 4000000 in
set_option maxRecDepth 100000 in
theorem c_X0_has (l : Launch) (G : GG) (C : CS) (M : MS) {b : Nat} (hb0 : isB (zn G) b) (he : cN C 5 b 3 ≤ cap b) {a : Nat} (ha : a < 2 ^ 31) : Ct l G yX0_has cX0_has 2 (some .boolean) 0 0 [.ref (zad G 5 b), .int (nI a)] C M (some (.int (bI (a < cN C 5 b 3)))) C M := by
  refine Ct_z (by decide) (Nat.le_of_ble_eq_true rfl) (bI_01 _) (fun {p e s m args below meth c A Q ls} hC hW hl hE => ?_)
  have hx := hC.1
  have hb := hC.2.1
  have hl : lv_has ls 2 [(0, .ref (zad G 5 b)), (1, .int (nI a))] := hl
  have hcp := cap_le b
  refine lv_iload_n hx hb dX0_has_0 rfl (lv_at hl 1 rfl) ?_
  refine zf_lt (i := a) (tgt := 16) hx hb rfl (by omega) dX0_has_1 (by decide) ?_
  refine lv_iload_n hx hb dX0_has_4 rfl (lv_at hl 1 rfl) ?_
  refine lv_aload_n hx hb dX0_has_5 rfl (lv_at hl 0 rfl) ?_
  refine g5 (k := 3) (v := .int (nI (cN C 5 b 3))) hC hW hb0 (by decide) mF_X0_19 rfl dX0_has_6 ?_
  refine zc_ge (i := a) (j := cN C 5 b 3) (tgt := 16) hx hb rfl rfl (by omega) (by omega) dX0_has_9 (by decide) (fun h9 => ?_) (fun h9 => ?_)
  · refine lv_iconst (v := 0) hx hb dX0_has_16 (by decide) ?_
    have qr : (0 : Int32) = bI (a < cN C 5 b 3) := by simp [bI, h9, cF_sF, cN_sN, cB_sB, cM_sM, cN_sF, cB_sF, cM_sF, cF_sN, cB_sN, cM_sN, cF_sB, cN_sB, cM_sB, cF_sM, cN_sM, cB_sM, mF_smF, mA_smF, mF_smA, mA_smA]
    exact hE hW qr dX0_has_17
  · refine lv_iconst (v := 1) hx hb dX0_has_12 (by decide) ?_
    refine lv_goto (tgt := 17) hx hb dX0_has_13 (by decide) ?_
    have qr : (1 : Int32) = bI (a < cN C 5 b 3) := by simp [bI, h9, cF_sF, cN_sN, cB_sB, cM_sM, cN_sF, cB_sF, cM_sF, cF_sN, cB_sN, cM_sN, cF_sB, cN_sB, cM_sB, cF_sM, cN_sM, cB_sM, mF_smF, mA_smF, mF_smA, mA_smA]
    exact hE hW qr dX0_has_17

set_option maxHeartbeats 4000000 in
set_option maxRecDepth 100000 in
theorem c_X0_kindAt (l : Launch) (G : GG) (C : CS) (M : MS) {b : Nat} (hb0 : isB (zn G) b) (he : cN C 5 b 3 ≤ cap b) {a : Nat} (ha : a < 2 ^ 31) : Ct l G yX0_kindAt cX0_kindAt 2 (some .int) 1 21 [.ref (zad G 5 b), .int (nI a)] C M (some (.int (kAt C 6 b a))) C M := by
  refine Ct_i (by decide) (Nat.le_of_ble_eq_true rfl) (fun {p e s m args below meth c A Q ls} hC hW hl hE => ?_)
  have hx := hC.1
  have hb := hC.2.1
  have hl : lv_has ls 2 [(0, .ref (zad G 5 b)), (1, .int (nI a))] := hl
  have hcp := cap_le b
  refine lv_aload_n hx hb dX0_kindAt_0 rfl (lv_at hl 0 rfl) ?_
  refine lv_iload_n hx hb dX0_kindAt_1 rfl (lv_at hl 1 rfl) ?_
  refine z_callV (As := [.int (nI a)]) (rest := []) (st1 := [.int (bI (a < cN C 5 b 3))]) hC hW (LL_5 hb0) rfl rfl rfl (c_X0_has l G C M hb0 he ha) mw_X0_has mv_X0_has mM_X0_27 ⟨Nat.le_of_ble_eq_true rfl, Nat.le_of_ble_eq_true rfl⟩ rfl rfl hl.1 (lv_room (Nat.le_of_ble_eq_true rfl)) dX0_kindAt_2 rfl (fun H locs hW => ?_) ⟨Nat.zero_le _, Nat.zero_le _⟩
  refine zb_eq (tgt := 17) hx hb (a < cN C 5 b 3) rfl dX0_kindAt_5 (by decide) (fun h5 => ?_) (fun h5 => ?_)
  · refine lv_iconst (v := 0) hx hb dX0_kindAt_17 (by decide) ?_
    have qr : (0 : Int32) = kAt C 6 b a := by simp [bI, kAt, h5, cF_sF, cN_sN, cB_sB, cM_sM, cN_sF, cB_sF, cM_sF, cF_sN, cB_sN, cM_sN, cF_sB, cN_sB, cM_sB, cF_sM, cN_sM, cB_sM, mF_smF, mA_smF, mF_smA, mA_smA]
    exact hE hW qr dX0_kindAt_18
  · refine lv_aload_n hx hb dX0_kindAt_8 rfl (lv_at hl 0 rfl) ?_
    refine g5 (k := 0) (v := .ref (zad G 6 b)) hC hW hb0 (by decide) mF_X0_7 rfl dX0_kindAt_9 ?_
    refine lv_iload_n hx hb dX0_kindAt_12 rfl (lv_at hl 1 rfl) ?_
    refine a6 (j := a) hC hW hb0 (rfl) (by omega) dX0_kindAt_13 ?_
    refine lv_goto (tgt := 18) hx hb dX0_kindAt_14 (by decide) ?_
    have qr : (cB C 6 b a : Int32) = kAt C 6 b a := by simp [bI, kAt, h5, cF_sF, cN_sN, cB_sB, cM_sM, cN_sF, cB_sF, cM_sF, cF_sN, cB_sN, cM_sN, cF_sB, cN_sB, cM_sB, cF_sM, cN_sM, cB_sM, mF_smF, mA_smF, mF_smA, mA_smA]
    exact hE hW qr dX0_kindAt_18

set_option maxHeartbeats 4000000 in
set_option maxRecDepth 100000 in
theorem c_X0_valueAt (l : Launch) (G : GG) (C : CS) (M : MS) {b : Nat} (hb0 : isB (zn G) b) (he : cN C 5 b 3 ≤ cap b) {a : Nat} (ha : a < 2 ^ 31) : Ct l G yX0_valueAt cX0_valueAt 2 (some .int) 1 21 [.ref (zad G 5 b), .int (nI a)] C M (some (.int (kAt C 7 b a))) C M := by
  refine Ct_i (by decide) (Nat.le_of_ble_eq_true rfl) (fun {p e s m args below meth c A Q ls} hC hW hl hE => ?_)
  have hx := hC.1
  have hb := hC.2.1
  have hl : lv_has ls 2 [(0, .ref (zad G 5 b)), (1, .int (nI a))] := hl
  have hcp := cap_le b
  refine lv_aload_n hx hb dX0_valueAt_0 rfl (lv_at hl 0 rfl) ?_
  refine lv_iload_n hx hb dX0_valueAt_1 rfl (lv_at hl 1 rfl) ?_
  refine z_callV (As := [.int (nI a)]) (rest := []) (st1 := [.int (bI (a < cN C 5 b 3))]) hC hW (LL_5 hb0) rfl rfl rfl (c_X0_has l G C M hb0 he ha) mw_X0_has mv_X0_has mM_X0_27 ⟨Nat.le_of_ble_eq_true rfl, Nat.le_of_ble_eq_true rfl⟩ rfl rfl hl.1 (lv_room (Nat.le_of_ble_eq_true rfl)) dX0_valueAt_2 rfl (fun H locs hW => ?_) ⟨Nat.zero_le _, Nat.zero_le _⟩
  refine zb_eq (tgt := 17) hx hb (a < cN C 5 b 3) rfl dX0_valueAt_5 (by decide) (fun h5 => ?_) (fun h5 => ?_)
  · refine lv_iconst (v := 0) hx hb dX0_valueAt_17 (by decide) ?_
    have qr : (0 : Int32) = kAt C 7 b a := by simp [bI, kAt, h5, cF_sF, cN_sN, cB_sB, cM_sM, cN_sF, cB_sF, cM_sF, cF_sN, cB_sN, cM_sN, cF_sB, cN_sB, cM_sB, cF_sM, cN_sM, cB_sM, mF_smF, mA_smF, mF_smA, mA_smA]
    exact hE hW qr dX0_valueAt_18
  · refine lv_aload_n hx hb dX0_valueAt_8 rfl (lv_at hl 0 rfl) ?_
    refine g5 (k := 1) (v := .ref (zad G 7 b)) hC hW hb0 (by decide) mF_X0_13 rfl dX0_valueAt_9 ?_
    refine lv_iload_n hx hb dX0_valueAt_12 rfl (lv_at hl 1 rfl) ?_
    refine a7 (j := a) hC hW hb0 (rfl) (by omega) dX0_valueAt_13 ?_
    refine lv_goto (tgt := 18) hx hb dX0_valueAt_14 (by decide) ?_
    have qr : (cB C 7 b a : Int32) = kAt C 7 b a := by simp [bI, kAt, h5, cF_sF, cN_sN, cB_sB, cM_sM, cN_sF, cB_sF, cM_sF, cF_sN, cB_sN, cM_sN, cF_sB, cN_sB, cM_sB, cF_sM, cN_sM, cB_sM, mF_smF, mA_smF, mF_smA, mA_smA]
    exact hE hW qr dX0_valueAt_18

set_option maxHeartbeats 4000000 in
set_option maxRecDepth 100000 in
theorem c_X0_sizeAt (l : Launch) (G : GG) (C : CS) (M : MS) {b : Nat} (hb0 : isB (zn G) b) (he : cN C 5 b 3 ≤ cap b) {a : Nat} (ha : a < 2 ^ 31) : Ct l G yX0_sizeAt cX0_sizeAt 2 (some .int) 1 21 [.ref (zad G 5 b), .int (nI a)] C M (some (.int (kAt C 8 b a))) C M := by
  refine Ct_i (by decide) (Nat.le_of_ble_eq_true rfl) (fun {p e s m args below meth c A Q ls} hC hW hl hE => ?_)
  have hx := hC.1
  have hb := hC.2.1
  have hl : lv_has ls 2 [(0, .ref (zad G 5 b)), (1, .int (nI a))] := hl
  have hcp := cap_le b
  refine lv_aload_n hx hb dX0_sizeAt_0 rfl (lv_at hl 0 rfl) ?_
  refine lv_iload_n hx hb dX0_sizeAt_1 rfl (lv_at hl 1 rfl) ?_
  refine z_callV (As := [.int (nI a)]) (rest := []) (st1 := [.int (bI (a < cN C 5 b 3))]) hC hW (LL_5 hb0) rfl rfl rfl (c_X0_has l G C M hb0 he ha) mw_X0_has mv_X0_has mM_X0_27 ⟨Nat.le_of_ble_eq_true rfl, Nat.le_of_ble_eq_true rfl⟩ rfl rfl hl.1 (lv_room (Nat.le_of_ble_eq_true rfl)) dX0_sizeAt_2 rfl (fun H locs hW => ?_) ⟨Nat.zero_le _, Nat.zero_le _⟩
  refine zb_eq (tgt := 17) hx hb (a < cN C 5 b 3) rfl dX0_sizeAt_5 (by decide) (fun h5 => ?_) (fun h5 => ?_)
  · refine lv_iconst (v := 0) hx hb dX0_sizeAt_17 (by decide) ?_
    have qr : (0 : Int32) = kAt C 8 b a := by simp [bI, kAt, h5, cF_sF, cN_sN, cB_sB, cM_sM, cN_sF, cB_sF, cM_sF, cF_sN, cB_sN, cM_sN, cF_sB, cN_sB, cM_sB, cF_sM, cN_sM, cB_sM, mF_smF, mA_smF, mF_smA, mA_smA]
    exact hE hW qr dX0_sizeAt_18
  · refine lv_aload_n hx hb dX0_sizeAt_8 rfl (lv_at hl 0 rfl) ?_
    refine g5 (k := 2) (v := .ref (zad G 8 b)) hC hW hb0 (by decide) mF_X0_16 rfl dX0_sizeAt_9 ?_
    refine lv_iload_n hx hb dX0_sizeAt_12 rfl (lv_at hl 1 rfl) ?_
    refine a8 (j := a) hC hW hb0 (rfl) (by omega) dX0_sizeAt_13 ?_
    refine lv_goto (tgt := 18) hx hb dX0_sizeAt_14 (by decide) ?_
    have qr : (cB C 8 b a : Int32) = kAt C 8 b a := by simp [bI, kAt, h5, cF_sF, cN_sN, cB_sB, cM_sM, cN_sF, cB_sF, cM_sF, cF_sN, cB_sN, cM_sN, cF_sB, cN_sB, cM_sB, cF_sM, cN_sM, cB_sM, mF_smF, mA_smF, mF_smA, mA_smA]
    exact hE hW qr dX0_sizeAt_18
end
section
/-! ===== the class: Tape ===== -/
/-- what every state keeps: ends within the rows, sizes are small, homes are cells -/
def Iv (C : CS) : Prop := (∀ b, cN C 5 b 3 ≤ cap b) ∧ (∀ b j, cB C 8 b j = nI (cB C 8 b j).toNatClampNeg ∧ (cB C 8 b j).toNatClampNeg ≤ 30) ∧ ∀ t, cN C 9 t 0 < 32
abbrev dmgP (C : CS) (t a : Nat) : Prop := a < 100 ∧ cB C 10 t a ≠ 0
abbrev tellsP (C : CS) (t a : Nat) (kd : Int32) : Prop := kAt C 6 t a = kd ∧ ¬ dmgP C t a
def zN (C : CS) (t a : Nat) : Nat := (kAt C 8 t a).toNatClampNeg
def datL (C : CS) (t : Nat) : Nat → Nat → Bool
  | 0, _ => true
  | k + 1, a => decide (tellsP C t a 2) && datL C t k (a + 1)
abbrev tfP (C : CS) (t h : Nat) : Prop := tellsP C t h 1 ∧ tellsP C t (h + zN C t h + 1) 3 ∧ datL C t (zN C t h) (h + 1) = true
def spL (t : Nat) : Nat → Nat → Nat → CS → Nat × CS
  | 0, _, n, C => (n, C)
  | k + 1, j, n, C => if cB C 10 t j ≠ 0 then spL t k (j + 1) n C else spL t k (j + 1) (n + 1) (sB C 10 t j 1)
def lhL (C : CS) (t : Nat) (nm : Int32) : Nat → Nat → Option Nat
  | 0, _ => none
  | k + 1, j => if cB C 11 t j ≠ 0 ∧ cB C 7 t j = nm then some j else lhL C t nm k (j + 1)
/-- the place of the HEAD that the catalogue has of a name -/
def lh (C : CS) (t : Nat) (nm : Int32) : Option Nat := lhL C t nm (cN C 5 t 3) 0
def oI (o : Option Nat) : Int32 := match o with
  | some j => nI j
  | none => -2
def unl (C : CS) (t : Nat) (o : Option Nat) : CS := match o with
  | some j => sB C 11 t j 0
  | none => C
def listC (C : CS) (t h : Nat) : CS := sB (unl C t (lh C t (kAt C 7 t h))) 11 t h 1
def uaL (t : Nat) : Nat → Nat → Nat → CS → Nat × CS
  | 0, _, n, C => (n, C)
  | k + 1, j, n, C => if cB C 11 t j = 0 then uaL t k (j + 1) n C else uaL t k (j + 1) (n + 1) (sB C 11 t j 0)
def lcL (C : CS) (t : Nat) : Nat → Nat → Nat → Nat
  | 0, _, n => n
  | k + 1, j, n => if cB C 11 t j = 0 then lcL C t k (j + 1) n else lcL C t k (j + 1) (n + 1)
def latL (t : Nat) : Nat → Nat → CS → CS
  | 0, _, C => C
  | k + 1, j, C => latL t k (j + 1) (if tfP C t j then listC C t j else C)
def latC (C : CS) (t : Nat) : CS := latL t (cN C 5 t 3) 0 (uaL t 100 0 0 C).2
theorem lhL_lt {C : CS} {t : Nat} {nm : Int32} : ∀ {k j i : Nat}, lhL C t nm k j = some i → j ≤ i ∧ i < j + k := by
  intro k
  induction k with
  | zero => intro j i h; cases h
  | succ k ih =>
    intro j i h
    unfold lhL at h
    split at h
    · cases h; omega
    · have := ih h; omega
theorem lh_lt {C : CS} {t i : Nat} {nm : Int32} (h : lh C t nm = some i) : i < cN C 5 t 3 := by
  have := lhL_lt h; omega
theorem kAt_sz {C : CS} (hI : Iv C) (t a : Nat) : kAt C 8 t a = nI (zN C t a) ∧ zN C t a ≤ 30 := by
  unfold zN kAt
  split
  · exact hI.2.1 t a
  · exact ⟨rfl, by decide⟩
theorem Iv_B {C : CS} {f b j : Nat} {v : Int32} (hI : Iv C) (hf : f ≠ 8) : Iv (sB C f b j v) := by
  refine ⟨hI.1, fun b' j' => ?_, hI.2.2⟩
  rw [cB_sB, if_neg (by omega)]
  exact hI.2.1 b' j'
theorem Iv_F {C : CS} {f b j : Nat} {v : Int32} (hI : Iv C) : Iv (sF C f b j v) := hI
theorem Iv_M {C : CS} {d : Nat} {v : Option Nat} (hI : Iv C) : Iv (sM C d v) := hI
theorem Iv_unl {C : CS} {t : Nat} {o : Option Nat} (hI : Iv C) : Iv (unl C t o) := by
  unfold unl
  split
  · exact Iv_B hI (by decide)
  · exact hI
theorem Iv_listC {C : CS} {t h : Nat} (hI : Iv C) : Iv (listC C t h) := Iv_B (Iv_unl hI) (by decide)
theorem cN_unl {C : CS} {t : Nat} {o : Option Nat} : cN (unl C t o) = cN C := by cases o <;> rfl
theorem cN_listC {C : CS} {t h : Nat} : cN (listC C t h) = cN C := by unfold listC; rw [cN_sB, cN_unl]
theorem uaL_N {t : Nat} : ∀ (k j n : Nat) (C : CS), cN (uaL t k j n C).2 = cN C := by
  intro k
  induction k with
  | zero => intro j n C; rfl
  | succ k ih => intro j n C; unfold uaL; split; exact ih _ _ _; rw [ih]; rfl
theorem uaL_I {t : Nat} : ∀ (k j n : Nat) (C : CS), Iv C → Iv (uaL t k j n C).2 := by
  intro k
  induction k with
  | zero => intro j n C h; exact h
  | succ k ih => intro j n C h; unfold uaL; split; exact ih _ _ _ h; exact ih _ _ _ (Iv_B h (by decide))
theorem latL_N {t : Nat} : ∀ (k j : Nat) (C : CS), cN (latL t k j C) = cN C := by
  intro k
  induction k with
  | zero => intro j C; rfl
  | succ k ih => intro j C; unfold latL; rw [ih]; split; exact cN_listC; rfl
theorem latL_I {t : Nat} : ∀ (k j : Nat) (C : CS), Iv C → Iv (latL t k j C) := by
  intro k
  induction k with
  | zero => intro j C h; exact h
  | succ k ih => intro j C h; unfold latL; refine ih _ _ ?_; split; exact Iv_listC h; exact h
theorem spL_N {t : Nat} : ∀ (k j n : Nat) (C : CS), cN (spL t k j n C).2 = cN C := by
  intro k
  induction k with
  | zero => intro j n C; rfl
  | succ k ih => intro j n C; unfold spL; split; exact ih _ _ _; rw [ih]; rfl
theorem spL_I {t : Nat} : ∀ (k j n : Nat) (C : CS), Iv C → Iv (spL t k j n C).2 := by
  intro k
  induction k with
  | zero => intro j n C h; exact h
  | succ k ih => intro j n C h; unfold spL; split; exact ih _ _ _ h; exact ih _ _ _ (Iv_B h (by decide))

set_option maxHeartbeats 4000000 in
set_option maxRecDepth 100000 in
theorem c_X3_isDamaged (l : Launch) (G : GG) (C : CS) (M : MS) {t : Nat} (ht : t < zn G) {a : Nat} (ha : a < 2 ^ 31) : Ct l G yX3_isDamaged cX3_isDamaged 2 (some .boolean) 0 0 [.ref (zad G 9 t), .int (nI a)] C M (some (.int (bI (dmgP C t a)))) C M := by
  refine Ct_z (by decide) (Nat.le_of_ble_eq_true rfl) (bI_01 _) (fun {p e s m args below meth c A Q ls} hC hW hl hE => ?_)
  have hx := hC.1
  have hb := hC.2.1
  have hl : lv_has ls 2 [(0, .ref (zad G 9 t)), (1, .int (nI a))] := hl
  refine lv_iload_n hx hb dX3_isDamaged_0 rfl (lv_at hl 1 rfl) ?_
  refine zf_lt (i := a) (tgt := 23) hx hb rfl (by omega) dX3_isDamaged_1 (by decide) ?_
  refine lv_iload_n hx hb dX3_isDamaged_4 rfl (lv_at hl 1 rfl) ?_
  refine lv_bipush (v := 100) hx hb dX3_isDamaged_5 (by decide) ?_
  refine zc_ge (i := a) (j := 100) (tgt := 23) hx hb rfl rfl (by omega) (by omega) dX3_isDamaged_7 (by decide) (fun h7 => ?_) (fun h7 => ?_)
  · refine lv_iconst (v := 0) hx hb dX3_isDamaged_23 (by decide) ?_
    have qr : (0 : Int32) = bI (dmgP C t a) := by exact bI_f (fun q => by have := q.1; omega)
    exact hE hW qr dX3_isDamaged_24
  · refine lv_aload_n hx hb dX3_isDamaged_10 rfl (lv_at hl 0 rfl) ?_
    refine g9 (k := 2) (v := .ref (zad G 10 t)) hC hW ht (by decide) mF_X3_20 rfl dX3_isDamaged_11 ?_
    refine lv_iload_n hx hb dX3_isDamaged_14 rfl (lv_at hl 1 rfl) ?_
    refine a10 (j := a) hC hW ht (rfl) (by omega) dX3_isDamaged_15 ?_
    refine lv_if_eq (tgt := 23) hx hb dX3_isDamaged_16 (by decide) (fun h16 => ?_) (fun h16 => ?_)
    · refine lv_iconst (v := 0) hx hb dX3_isDamaged_23 (by decide) ?_
      have qr : (0 : Int32) = bI (dmgP C t a) := by simp [bI, h7, h16]
      exact hE hW qr dX3_isDamaged_24
    · refine lv_iconst (v := 1) hx hb dX3_isDamaged_19 (by decide) ?_
      refine lv_goto (tgt := 24) hx hb dX3_isDamaged_20 (by decide) ?_
      have qr : (1 : Int32) = bI (dmgP C t a) := by simp [bI, h7, h16]
      exact hE hW qr dX3_isDamaged_24

set_option maxHeartbeats 4000000 in
set_option maxRecDepth 100000 in
theorem c_X3_tells (l : Launch) (G : GG) (C : CS) (M : MS) {t : Nat} (ht : t < zn G) {a : Nat} (ha : a < 2 ^ 31) (hI : Iv C) (kd : Int32) : Ct l G yX3_tells cX3_tells 3 (some .boolean) 2 42 [.ref (zad G 9 t), .int (nI a), .int kd] C M (some (.int (bI (tellsP C t a kd)))) C M := by
  refine Ct_z (by decide) (Nat.le_of_ble_eq_true rfl) (bI_01 _) (fun {p e s m args below meth c A Q ls} hC hW hl hE => ?_)
  have hx := hC.1
  have hb := hC.2.1
  have hl : lv_has ls 3 [(0, .ref (zad G 9 t)), (1, .int (nI a)), (2, .int kd)] := hl
  refine lv_aload_n hx hb dX3_tells_0 rfl (lv_at hl 0 rfl) ?_
  refine g9 (k := 1) (v := .ref (zad G 5 t)) hC hW ht (by decide) mF_X3_14 rfl dX3_tells_1 ?_
  refine lv_iload_n hx hb dX3_tells_4 rfl (lv_at hl 1 rfl) ?_
  refine z_callV (As := [.int (nI a)]) (rest := []) (st1 := [.int (kAt C 6 t a)]) hC hW (LL_5 (Or.inl ht)) rfl rfl rfl (c_X0_kindAt l G C M (Or.inl ht) (hI.1 t) ha) mw_X0_kindAt mv_X0_kindAt mM_X3_65 ⟨Nat.le_of_ble_eq_true rfl, Nat.le_of_ble_eq_true rfl⟩ rfl rfl hl.1 (lv_room (Nat.le_of_ble_eq_true rfl)) dX3_tells_5 rfl (fun H locs hW => ?_) ⟨Nat.zero_le _, Nat.zero_le _⟩
  refine lv_iload_n hx hb dX3_tells_8 rfl (lv_at hl 2 rfl) ?_
  refine lv_icmp_ne (tgt := 24) hx hb dX3_tells_9 (by decide) (fun h9 => ?_) (fun h9 => ?_)
  · refine lv_iconst (v := 0) hx hb dX3_tells_24 (by decide) ?_
    have qr : (0 : Int32) = bI (tellsP C t a kd) := by simp [bI, h9, cF_sF, cN_sN, cB_sB, cM_sM, cN_sF, cB_sF, cM_sF, cF_sN, cB_sN, cM_sN, cF_sB, cN_sB, cM_sB, cF_sM, cN_sM, cB_sM, mF_smF, mA_smF, mF_smA, mA_smA]
    exact hE hW qr dX3_tells_25
  · refine lv_aload_n hx hb dX3_tells_12 rfl (lv_at hl 0 rfl) ?_
    refine lv_iload_n hx hb dX3_tells_13 rfl (lv_at hl 1 rfl) ?_
    refine z_callV (As := [.int (nI a)]) (rest := []) (st1 := [.int (bI (dmgP C t a))]) hC hW (LL_9 ht) rfl rfl rfl (c_X3_isDamaged l G C M ht ha) mw_X3_isDamaged mv_X3_isDamaged mM_X3_68 ⟨Nat.le_of_ble_eq_true rfl, Nat.le_of_ble_eq_true rfl⟩ rfl rfl hl.1 (lv_room (Nat.le_of_ble_eq_true rfl)) dX3_tells_14 rfl (fun H locs hW => ?_) ⟨Nat.zero_le _, Nat.zero_le _⟩
    refine zb_ne (tgt := 24) hx hb (dmgP C t a) rfl dX3_tells_17 (by decide) (fun h17 => ?_) (fun h17 => ?_)
    · refine lv_iconst (v := 0) hx hb dX3_tells_24 (by decide) ?_
      have qr : (0 : Int32) = bI (tellsP C t a kd) := by simp [bI, h9, h17, cF_sF, cN_sN, cB_sB, cM_sM, cN_sF, cB_sF, cM_sF, cF_sN, cB_sN, cM_sN, cF_sB, cN_sB, cM_sB, cF_sM, cN_sM, cB_sM, mF_smF, mA_smF, mF_smA, mA_smA]
      exact hE hW qr dX3_tells_25
    · refine lv_iconst (v := 1) hx hb dX3_tells_20 (by decide) ?_
      refine lv_goto (tgt := 25) hx hb dX3_tells_21 (by decide) ?_
      have qr : (1 : Int32) = bI (tellsP C t a kd) := by simp [bI, h9, h17, cF_sF, cN_sN, cB_sB, cM_sM, cN_sF, cB_sF, cM_sF, cF_sN, cB_sN, cM_sN, cF_sB, cN_sB, cM_sB, cF_sM, cN_sM, cB_sM, mF_smF, mA_smF, mF_smA, mA_smA]
      exact hE hW qr dX3_tells_25

set_option maxHeartbeats 4000000 in
set_option maxRecDepth 100000 in
theorem c_X3_tellsFile (l : Launch) (G : GG) (C : CS) (M : MS) {t : Nat} (ht : t < zn G) {h : Nat} (ha : h < 100) (hI : Iv C) : Ct l G yX3_tellsFile cX3_tellsFile 4 (some .boolean) 3 64 [.ref (zad G 9 t), .int (nI h)] C M (some (.int (bI (tfP C t h)))) C M := by
  refine Ct_z (by decide) (Nat.le_of_ble_eq_true rfl) (bI_01 _) (fun {p e s m args below meth c A Q ls} hC hW hl hE => ?_)
  have hx := hC.1
  have hb := hC.2.1
  have hl : lv_has ls 4 [(0, .ref (zad G 9 t)), (1, .int (nI h))] := hl
  have hz := kAt_sz hI t h
  refine lv_iload_n hx hb dX3_tellsFile_0 rfl (lv_at hl 1 rfl) ?_
  refine lv_aload_n hx hb dX3_tellsFile_1 rfl (lv_at hl 0 rfl) ?_
  refine g9 (k := 1) (v := .ref (zad G 5 t)) hC hW ht (by decide) mF_X3_14 rfl dX3_tellsFile_2 ?_
  refine lv_iload_n hx hb dX3_tellsFile_5 rfl (lv_at hl 1 rfl) ?_
  refine z_callV (As := [.int (nI h)]) (rest := [.int (nI h)]) (st1 := [.int (kAt C 8 t h), .int (nI h)]) hC hW (LL_5 (Or.inl ht)) rfl rfl rfl (c_X0_sizeAt l G C M (Or.inl ht) (hI.1 t) (a := h) (by omega)) mw_X0_sizeAt mv_X0_sizeAt mM_X3_58 ⟨Nat.le_of_ble_eq_true rfl, Nat.le_of_ble_eq_true rfl⟩ rfl rfl hl.1 (lv_room (Nat.le_of_ble_eq_true rfl)) dX3_tellsFile_6 rfl (fun H locs hW => ?_) ⟨Nat.zero_le _, Nat.zero_le _⟩
  refine z_top (y := nI (zN C t h)) hz.1 ?_
  refine zi_add (i := h) (j := zN C t h) hx hb rfl rfl dX3_tellsFile_9 ?_
  refine lv_iconst (v := 1) hx hb dX3_tellsFile_10 (by decide) ?_
  refine zi_add (i := h + (zN C t h)) (j := 1) hx hb rfl rfl dX3_tellsFile_11 ?_
  refine lv_istore_n (lv' := [(2, .int (nI (h + (zN C t h) + 1))), (0, .ref (zad G 9 t)), (1, .int (nI h))]) hx hb dX3_tellsFile_12 rfl hl (by decide) rfl (fun ls hl => ?_)
  refine lv_aload_n hx hb dX3_tellsFile_13 rfl (lv_at hl 1 rfl) ?_
  refine lv_iload_n hx hb dX3_tellsFile_14 rfl (lv_at hl 2 rfl) ?_
  refine lv_iconst (v := 1) hx hb dX3_tellsFile_15 (by decide) ?_
  refine z_callV (As := [.int (nI h), .int 1]) (rest := []) (st1 := [.int (bI (tellsP C t h 1))]) hC hW (LL_9 ht) rfl rfl rfl (c_X3_tells l G C M ht (a := h) (by omega) hI 1) mw_X3_tells mv_X3_tells mM_X3_61 ⟨Nat.le_of_ble_eq_true rfl, Nat.le_of_ble_eq_true rfl⟩ rfl rfl hl.1 (lv_room (Nat.le_of_ble_eq_true rfl)) dX3_tellsFile_16 rfl (fun H locs hW => ?_) ⟨Nat.zero_le _, Nat.zero_le _⟩
  refine zb_eq (tgt := 31) hx hb (tellsP C t h 1) rfl dX3_tellsFile_19 (by decide) (fun h19 => ?_) (fun h19 => ?_)
  · refine lv_iconst (v := 0) hx hb dX3_tellsFile_31 (by decide) ?_
    have qr : (0 : Int32) = bI (tfP C t h) := by simp [bI, h19]
    exact hE hW qr dX3_tellsFile_32
  · refine lv_aload_n hx hb dX3_tellsFile_22 rfl (lv_at hl 1 rfl) ?_
    refine lv_iload_n hx hb dX3_tellsFile_23 rfl (lv_at hl 0 rfl) ?_
    refine lv_iconst (v := 3) hx hb dX3_tellsFile_24 (by decide) ?_
    refine z_callV (As := [.int (nI (h + (zN C t h) + 1)), .int 3]) (rest := []) (st1 := [.int (bI (tellsP C t (h + (zN C t h) + 1) 3))]) hC hW (LL_9 ht) rfl rfl rfl (c_X3_tells l G C M ht (a := h + (zN C t h) + 1) (by omega) hI 3) mw_X3_tells mv_X3_tells mM_X3_61 ⟨Nat.le_of_ble_eq_true rfl, Nat.le_of_ble_eq_true rfl⟩ rfl rfl hl.1 (lv_room (Nat.le_of_ble_eq_true rfl)) dX3_tellsFile_25 rfl (fun H locs hW => ?_) ⟨Nat.zero_le _, Nat.zero_le _⟩
    refine zb_ne (tgt := 33) hx hb (tellsP C t (h + (zN C t h) + 1) 3) rfl dX3_tellsFile_28 (by decide) (fun h28 => ?_) (fun h28 => ?_)
    · refine lv_iload_n hx hb dX3_tellsFile_33 rfl (lv_at hl 2 rfl) ?_
      refine lv_iconst (v := 1) hx hb dX3_tellsFile_34 (by decide) ?_
      refine zi_add (i := h) (j := 1) hx hb rfl rfl dX3_tellsFile_35 ?_
      refine lv_istore_n (lv' := [(3, .int (nI (h + 1))), (2, .int (nI (h + (zN C t h) + 1))), (0, .ref (zad G 9 t)), (1, .int (nI h))]) hx hb dX3_tellsFile_36 rfl hl (by decide) rfl (fun ls hl => ?_)
      have lp : ∀ (k : Nat) (a : Nat), a + k = h + zN C t h + 1 → datL C t k a = datL C t (zN C t h) (h + 1) → ∀ (H : Heap) (locs : List Loc) (ls : Array Slot), Wd G s A s.heap H locs C M → lv_has ls 4 [(0, .ref (zad G 9 t)), (1, .int (nI h)), (2, .int (nI (h + zN C t h + 1))), (3, .int (nI a))] → W p l e { frames := 3, cells := 0, slots := 0, locals := 64 } s m args below meth c H locs 0 0 Q (F0 m 37 ls []) := by
        intro k
        induction k with
        | zero =>
          intro a hk hD H locs ls hW hl
          refine lv_iload_n hx hb dX3_tellsFile_37 rfl (lv_at hl 3 rfl) ?_
          refine lv_iload_n hx hb dX3_tellsFile_38 rfl (lv_at hl 2 rfl) ?_
          refine zc_ge (i := a) (j := h + zN C t h + 1) (tgt := 59) hx hb rfl rfl (by omega) (by omega) dX3_tellsFile_39 (by decide) (fun h39 => ?_) (fun h39 => ?_)
          · refine lv_iconst (v := 1) hx hb dX3_tellsFile_59 (by decide) ?_
            have qr : (1 : Int32) = bI (tfP C t h) := by
              have hd2 : datL C t (zN C t h) (h + 1) = true := by rw [← hD]; rfl
              simp [bI, h19, h28, hd2]
            exact hE hW qr dX3_tellsFile_60
          · exact absurd h39 (by omega)
        | succ k ih =>
          intro a hk hD H locs ls hW hl
          refine lv_iload_n hx hb dX3_tellsFile_37 rfl (lv_at hl 3 rfl) ?_
          refine lv_iload_n hx hb dX3_tellsFile_38 rfl (lv_at hl 2 rfl) ?_
          refine zc_ge (i := a) (j := h + zN C t h + 1) (tgt := 59) hx hb rfl rfl (by omega) (by omega) dX3_tellsFile_39 (by decide) (fun h39 => ?_) (fun h39 => ?_)
          · exact absurd h39 (by omega)
          · refine lv_aload_n hx hb dX3_tellsFile_42 rfl (lv_at hl 0 rfl) ?_
            refine lv_iload_n hx hb dX3_tellsFile_43 rfl (lv_at hl 3 rfl) ?_
            refine lv_iconst (v := 2) hx hb dX3_tellsFile_44 (by decide) ?_
            refine z_callV (As := [.int (nI a), .int 2]) (rest := []) (st1 := [.int (bI (tellsP C t a 2))]) hC hW (LL_9 ht) rfl rfl rfl (c_X3_tells l G C M ht (a := a) (by omega) hI 2) mw_X3_tells mv_X3_tells mM_X3_61 ⟨Nat.le_of_ble_eq_true rfl, Nat.le_of_ble_eq_true rfl⟩ rfl rfl hl.1 (lv_room (Nat.le_of_ble_eq_true rfl)) dX3_tellsFile_45 rfl (fun H locs hW => ?_) ⟨Nat.zero_le _, Nat.zero_le _⟩
            refine zb_ne (tgt := 53) hx hb (tellsP C t a 2) rfl dX3_tellsFile_48 (by decide) (fun h48 => ?_) (fun h48 => ?_)
            · refine lv_iinc (k := 3) (v := nI (a + 1)) (lv' := [(3, .int (nI (a + 1))), (0, .ref (zad G 9 t)), (1, .int (nI h)), (2, .int (nI (h + zN C t h + 1)))]) hx hb dX3_tellsFile_53 hl rfl (nI_inc _) (by decide) rfl (fun ls hl => ?_)
              refine lv_goto (tgt := 37) hx hb dX3_tellsFile_56 (by decide) ?_
              exact ih (a + 1) (by omega) (by rw [← hD, datL]; simp [h48]) _ _ _ hW (lv_sub hl [1, 2, 3, 0] rfl)
            · refine lv_iconst (v := 0) hx hb dX3_tellsFile_51 (by decide) ?_
              have qr : (0 : Int32) = bI (tfP C t h) := by
                have hd2 : datL C t (zN C t h) (h + 1) = false := by rw [← hD, datL]; simp [h48]
                simp [bI, hd2]
              exact hE hW qr dX3_tellsFile_52
      exact lp (zN C t h) (h + 1) (by omega) rfl _ _ _ hW (lv_sub hl [2, 3, 1, 0] rfl)
    · refine lv_iconst (v := 0) hx hb dX3_tellsFile_31 (by decide) ?_
      have qr : (0 : Int32) = bI (tfP C t h) := by simp [bI, h19, h28]
      exact hE hW qr dX3_tellsFile_32

set_option maxHeartbeats 4000000 in
set_option maxRecDepth 100000 in
theorem c_X3_spoil (l : Launch) (G : GG) (C : CS) (M : MS) {t : Nat} (ht : t < zn G) {a n : Nat} (ha : a + n ≤ 100) : Ct l G yX3_spoil cX3_spoil 5 (some .int) 0 0 [.ref (zad G 9 t), .int (nI a), .int (nI n)] C M (some (.int (nI (spL t n a 0 C).1))) ((spL t n a 0 C).2) M := by
  refine Ct_i (by decide) (Nat.le_of_ble_eq_true rfl) (fun {p e s m args below meth c A Q ls} hC hW hl hE => ?_)
  have hx := hC.1
  have hb := hC.2.1
  have hl : lv_has ls 5 [(0, .ref (zad G 9 t)), (1, .int (nI a)), (2, .int (nI n))] := hl
  refine lv_iconst (v := 0) hx hb dX3_spoil_0 (by decide) ?_
  refine lv_istore_n (lv' := [(3, .int 0), (0, .ref (zad G 9 t)), (1, .int (nI a)), (2, .int (nI n))]) hx hb dX3_spoil_1 rfl hl (by decide) rfl (fun ls hl => ?_)
  refine lv_iload_n hx hb dX3_spoil_2 rfl (lv_at hl 2 rfl) ?_
  refine lv_istore (lv' := [(4, .int (nI a)), (3, .int 0), (0, .ref (zad G 9 t)), (1, .int (nI a)), (2, .int (nI n))]) hx hb dX3_spoil_3 hl (by decide) rfl (fun ls hl => ?_)
  have lp : ∀ (k : Nat) (j : Nat) (q : Nat) (C1 : CS), j + k = a + n → spL t k j q C1 = spL t n a 0 C → ∀ (H : Heap) (locs : List Loc) (ls : Array Slot), Wd G s A s.heap H locs C1 M → lv_has ls 5 [(0, .ref (zad G 9 t)), (1, .int (nI a)), (2, .int (nI n)), (3, .int (nI q)), (4, .int (nI j))] → W p l e { frames := 0, cells := 0, slots := 0, locals := 0 } s m args below meth c H locs 0 0 Q (F0 m 5 ls []) := by
    intro k
    induction k with
    | zero =>
      intro j q C1 hk hD H locs ls hW hl
      refine lv_iload hx hb dX3_spoil_5 (lv_at hl 4 rfl) ?_
      refine lv_iload_n hx hb dX3_spoil_7 rfl (lv_at hl 1 rfl) ?_
      refine lv_iload_n hx hb dX3_spoil_8 rfl (lv_at hl 2 rfl) ?_
      refine zi_add (i := a) (j := n) hx hb rfl rfl dX3_spoil_9 ?_
      refine zc_ge (i := j) (j := a + n) (tgt := 40) hx hb rfl rfl (by omega) (by omega) dX3_spoil_10 (by decide) (fun h10 => ?_) (fun h10 => ?_)
      · refine lv_iload_n hx hb dX3_spoil_40 rfl (lv_at hl 3 rfl) ?_
        have hD2 : (q, C1) = spL t n a 0 C := hD
        rw [← hD2]  at hE
        exact hE hW rfl dX3_spoil_41
      · exact absurd h10 (by omega)
    | succ k ih =>
      intro j q C1 hk hD H locs ls hW hl
      refine lv_iload hx hb dX3_spoil_5 (lv_at hl 4 rfl) ?_
      refine lv_iload_n hx hb dX3_spoil_7 rfl (lv_at hl 1 rfl) ?_
      refine lv_iload_n hx hb dX3_spoil_8 rfl (lv_at hl 2 rfl) ?_
      refine zi_add (i := a) (j := n) hx hb rfl rfl dX3_spoil_9 ?_
      refine zc_ge (i := j) (j := a + n) (tgt := 40) hx hb rfl rfl (by omega) (by omega) dX3_spoil_10 (by decide) (fun h10 => ?_) (fun h10 => ?_)
      · exact absurd h10 (by omega)
      · refine lv_aload_n hx hb dX3_spoil_13 rfl (lv_at hl 0 rfl) ?_
        refine g9 (k := 2) (v := .ref (zad G 10 t)) hC hW ht (by decide) mF_X3_20 rfl dX3_spoil_14 ?_
        refine lv_iload hx hb dX3_spoil_17 (lv_at hl 4 rfl) ?_
        refine a10 (j := j) hC hW ht (rfl) (by omega) dX3_spoil_19 ?_
        refine lv_if_ne (tgt := 34) hx hb dX3_spoil_20 (by decide) (fun h20 => ?_) (fun h20 => ?_)
        · refine lv_iinc (k := 4) (v := nI (j + 1)) (lv' := [(4, .int (nI (j + 1))), (0, .ref (zad G 9 t)), (1, .int (nI a)), (2, .int (nI n)), (3, .int (nI q))]) hx hb dX3_spoil_34 hl rfl (nI_inc _) (by decide) rfl (fun ls hl => ?_)
          refine lv_goto (tgt := 5) hx hb dX3_spoil_37 (by decide) ?_
          exact ih (j + 1) q C1 (by omega) (by rw [← hD, spL]; simp [h20]) _ _ _ hW (lv_sub hl [1, 2, 3, 4, 0] rfl)
        · refine lv_aload_n hx hb dX3_spoil_23 rfl (lv_at hl 0 rfl) ?_
          refine g9 (k := 2) (v := .ref (zad G 10 t)) hC hW ht (by decide) mF_X3_20 rfl dX3_spoil_24 ?_
          refine lv_iload hx hb dX3_spoil_27 (lv_at hl 4 rfl) ?_
          refine lv_iconst (v := 1) hx hb dX3_spoil_29 (by decide) ?_
          refine s1011 (f := 10) (j := j) (v := 1) hC hW (by decide) ht (rfl) (by omega) (by decide) dX3_spoil_30 (fun _ eS H locs hW => ?_)
          subst eS
          refine lv_iinc (k := 3) (v := nI (q + 1)) (lv' := [(3, .int (nI (q + 1))), (0, .ref (zad G 9 t)), (1, .int (nI a)), (2, .int (nI n)), (4, .int (nI j))]) hx hb dX3_spoil_31 hl rfl (nI_inc _) (by decide) rfl (fun ls hl => ?_)
          refine lv_iinc (k := 4) (v := nI (j + 1)) (lv' := [(4, .int (nI (j + 1))), (3, .int (nI (q + 1))), (0, .ref (zad G 9 t)), (1, .int (nI a)), (2, .int (nI n))]) hx hb dX3_spoil_34 hl rfl (nI_inc _) (by decide) rfl (fun ls hl => ?_)
          refine lv_goto (tgt := 5) hx hb dX3_spoil_37 (by decide) ?_
          exact ih (j + 1) (q + 1) (sB C1 10 t j 1) (by omega) (by rw [← hD, spL]; simp [h20]) _ _ _ hW (lv_sub hl [2, 3, 4, 1, 0] rfl)
  exact lp n a 0 C rfl rfl _ _ _ hW (lv_sub hl [2, 3, 4, 1, 0] rfl)

set_option maxHeartbeats 4000000 in
set_option maxRecDepth 100000 in
theorem c_X3_listedHead (l : Launch) (G : GG) (C : CS) (M : MS) {t : Nat} (ht : t < zn G) (hI : Iv C) (nm : Int32) : Ct l G yX3_listedHead cX3_listedHead 3 (some .int) 2 42 [.ref (zad G 9 t), .int nm] C M (some (.int (oI (lh C t nm)))) C M := by
  refine Ct_i (by decide) (Nat.le_of_ble_eq_true rfl) (fun {p e s m args below meth c A Q ls} hC hW hl hE => ?_)
  have hx := hC.1
  have hb := hC.2.1
  have hl : lv_has ls 3 [(0, .ref (zad G 9 t)), (1, .int nm)] := hl
  have hcp := cap_le t
  have he := hI.1 t
  refine lv_iconst (v := 0) hx hb dX3_listedHead_0 (by decide) ?_
  refine lv_istore_n (lv' := [(2, .int 0), (0, .ref (zad G 9 t)), (1, .int nm)]) hx hb dX3_listedHead_1 rfl hl (by decide) rfl (fun ls hl => ?_)
  have lp : ∀ (k : Nat) (j : Nat), j + k = cN C 5 t 3 → lhL C t nm k j = lh C t nm → ∀ (H : Heap) (locs : List Loc) (ls : Array Slot), Wd G s A s.heap H locs C M → lv_has ls 3 [(0, .ref (zad G 9 t)), (1, .int nm), (2, .int (nI j))] → W p l e { frames := 2, cells := 0, slots := 0, locals := 42 } s m args below meth c H locs 0 0 Q (F0 m 2 ls []) := by
    intro k
    induction k with
    | zero =>
      intro j hk hD H locs ls hW hl
      refine lv_iload_n hx hb dX3_listedHead_2 rfl (lv_at hl 2 rfl) ?_
      refine lv_aload_n hx hb dX3_listedHead_3 rfl (lv_at hl 0 rfl) ?_
      refine g9 (k := 1) (v := .ref (zad G 5 t)) hC hW ht (by decide) mF_X3_14 rfl dX3_listedHead_4 ?_
      refine g5 (k := 3) (v := .int (nI (cN C 5 t 3))) hC hW (Or.inl ht) (by decide) mF_X3_31 rfl dX3_listedHead_7 ?_
      refine zc_ge (i := j) (j := cN C 5 t 3) (tgt := 42) hx hb rfl rfl (by omega) (by omega) dX3_listedHead_10 (by decide) (fun h10 => ?_) (fun h10 => ?_)
      · refine lv_bipush (v := (-2)) hx hb dX3_listedHead_42 (by decide) ?_
        have qr : ((-2) : Int32) = oI (lh C t nm) := by rw [← hD]; rfl
        exact hE hW qr dX3_listedHead_44
      · exact absurd h10 (by omega)
    | succ k ih =>
      intro j hk hD H locs ls hW hl
      refine lv_iload_n hx hb dX3_listedHead_2 rfl (lv_at hl 2 rfl) ?_
      refine lv_aload_n hx hb dX3_listedHead_3 rfl (lv_at hl 0 rfl) ?_
      refine g9 (k := 1) (v := .ref (zad G 5 t)) hC hW ht (by decide) mF_X3_14 rfl dX3_listedHead_4 ?_
      refine g5 (k := 3) (v := .int (nI (cN C 5 t 3))) hC hW (Or.inl ht) (by decide) mF_X3_31 rfl dX3_listedHead_7 ?_
      refine zc_ge (i := j) (j := cN C 5 t 3) (tgt := 42) hx hb rfl rfl (by omega) (by omega) dX3_listedHead_10 (by decide) (fun h10 => ?_) (fun h10 => ?_)
      · exact absurd h10 (by omega)
      · refine lv_aload_n hx hb dX3_listedHead_13 rfl (lv_at hl 0 rfl) ?_
        refine g9 (k := 3) (v := .ref (zad G 11 t)) hC hW ht (by decide) mF_X3_24 rfl dX3_listedHead_14 ?_
        refine lv_iload_n hx hb dX3_listedHead_17 rfl (lv_at hl 2 rfl) ?_
        refine a11 (j := j) hC hW ht (rfl) (by omega) dX3_listedHead_18 ?_
        refine lv_if_eq (tgt := 36) hx hb dX3_listedHead_19 (by decide) (fun h19 => ?_) (fun h19 => ?_)
        · refine lv_iinc (k := 2) (v := nI (j + 1)) (lv' := [(2, .int (nI (j + 1))), (0, .ref (zad G 9 t)), (1, .int nm)]) hx hb dX3_listedHead_36 hl rfl (nI_inc _) (by decide) rfl (fun ls hl => ?_)
          refine lv_goto (tgt := 2) hx hb dX3_listedHead_39 (by decide) ?_
          exact ih (j + 1) (by omega) (by rw [← hD, lhL]; simp [h19]) _ _ _ hW (lv_sub hl [1, 2, 0] rfl)
        · refine lv_aload_n hx hb dX3_listedHead_22 rfl (lv_at hl 0 rfl) ?_
          refine g9 (k := 1) (v := .ref (zad G 5 t)) hC hW ht (by decide) mF_X3_14 rfl dX3_listedHead_23 ?_
          refine lv_iload_n hx hb dX3_listedHead_26 rfl (lv_at hl 2 rfl) ?_
          refine z_callV (As := [.int (nI j)]) (rest := []) (st1 := [.int (kAt C 7 t j)]) hC hW (LL_5 (Or.inl ht)) rfl rfl rfl (c_X0_valueAt l G C M (Or.inl ht) (hI.1 t) (a := j) (by omega)) mw_X0_valueAt mv_X0_valueAt mM_X3_34 ⟨Nat.le_of_ble_eq_true rfl, Nat.le_of_ble_eq_true rfl⟩ rfl rfl hl.1 (lv_room (Nat.le_of_ble_eq_true rfl)) dX3_listedHead_27 rfl (fun H locs hW => ?_) ⟨Nat.zero_le _, Nat.zero_le _⟩
          refine z_top (y := cB C 7 t j) (by unfold kAt; rw [if_pos h10]) ?_
          refine lv_iload_n hx hb dX3_listedHead_30 rfl (lv_at hl 1 rfl) ?_
          refine lv_icmp_ne (tgt := 36) hx hb dX3_listedHead_31 (by decide) (fun h31 => ?_) (fun h31 => ?_)
          · refine lv_iinc (k := 2) (v := nI (j + 1)) (lv' := [(2, .int (nI (j + 1))), (0, .ref (zad G 9 t)), (1, .int nm)]) hx hb dX3_listedHead_36 hl rfl (nI_inc _) (by decide) rfl (fun ls hl => ?_)
            refine lv_goto (tgt := 2) hx hb dX3_listedHead_39 (by decide) ?_
            exact ih (j + 1) (by omega) (by rw [← hD, lhL]; simp [h19, h31]) _ _ _ hW (lv_sub hl [1, 2, 0] rfl)
          · refine lv_iload_n hx hb dX3_listedHead_34 rfl (lv_at hl 2 rfl) ?_
            have qr : (nI j : Int32) = oI (lh C t nm) := by rw [← hD, lhL]; simp [oI, h19, h31]
            exact hE hW qr dX3_listedHead_35
  exact lp (cN C 5 t 3) 0 (by omega) rfl _ _ _ hW (lv_sub hl [1, 2, 0] rfl)

set_option maxHeartbeats 4000000 in
set_option maxRecDepth 100000 in
theorem c_X3_unlist_s (l : Launch) (G : GG) (C : CS) (M : MS) {t : Nat} (ht : t < zn G) {j : Nat} (hj : j < 100) : Ct l G yX3_unlist cX3_unlist 2 none 0 0 [.ref (zad G 9 t), .int (nI j)] C M none (sB C 11 t j 0) M := by
  refine Ct_v (by decide) (Nat.le_of_ble_eq_true rfl) (fun {p e s m args below meth c A Q ls} hC hW hl hE => ?_)
  have hx := hC.1
  have hb := hC.2.1
  have hl : lv_has ls 2 [(0, .ref (zad G 9 t)), (1, .int (nI j))] := hl
  refine lv_iload_n hx hb dX3_unlist_0 rfl (lv_at hl 1 rfl) ?_
  refine zf_lt (i := j) (tgt := 17) hx hb rfl (by omega) dX3_unlist_1 (by decide) ?_
  refine lv_iload_n hx hb dX3_unlist_4 rfl (lv_at hl 1 rfl) ?_
  refine lv_bipush (v := 100) hx hb dX3_unlist_5 (by decide) ?_
  refine zc_ge (i := j) (j := 100) (tgt := 17) hx hb rfl rfl (by omega) (by omega) dX3_unlist_7 (by decide) (fun h7 => ?_) (fun h7 => ?_)
  · exact absurd h7 (by omega)
  · refine lv_aload_n hx hb dX3_unlist_10 rfl (lv_at hl 0 rfl) ?_
    refine g9 (k := 3) (v := .ref (zad G 11 t)) hC hW ht (by decide) mF_X3_24 rfl dX3_unlist_11 ?_
    refine lv_iload_n hx hb dX3_unlist_14 rfl (lv_at hl 1 rfl) ?_
    refine lv_iconst (v := 0) hx hb dX3_unlist_15 (by decide) ?_
    refine s1011 (f := 11) (j := j) (v := 0) hC hW (by decide) ht (rfl) (by omega) (by decide) dX3_unlist_16 (fun _ eS H locs hW => ?_)
    subst eS
    exact hE hW dX3_unlist_17

set_option maxHeartbeats 4000000 in
set_option maxRecDepth 100000 in
theorem c_X3_unlist_n (l : Launch) (G : GG) (C : CS) (M : MS) {t : Nat} (ht : t < zn G) : Ct l G yX3_unlist cX3_unlist 2 none 0 0 [.ref (zad G 9 t), .int (-2)] C M none C M := by
  refine Ct_v (by decide) (Nat.le_of_ble_eq_true rfl) (fun {p e s m args below meth c A Q ls} hC hW hl hE => ?_)
  have hx := hC.1
  have hb := hC.2.1
  have hl : lv_has ls 2 [(0, .ref (zad G 9 t)), (1, .int (-2))] := hl
  refine lv_iload_n hx hb dX3_unlist_0 rfl (lv_at hl 1 rfl) ?_
  refine lv_if_lt (tgt := 17) hx hb dX3_unlist_1 (by decide) (fun _ => ?_) (fun q => absurd (by decide) q)
  exact hE hW dX3_unlist_17

theorem c_X3_unlist (l : Launch) (G : GG) (C : CS) (M : MS) {t : Nat} (ht : t < zn G) (o : Option Nat) (ho : ∀ j, o = some j → j < 100) : Ct l G yX3_unlist cX3_unlist 2 none 0 0 [.ref (zad G 9 t), .int (oI o)] C M none (unl C t o) M := by
  cases o with
  | none => exact c_X3_unlist_n l G C M ht
  | some j => exact c_X3_unlist_s l G C M ht (ho j rfl)

set_option maxHeartbeats 4000000 in
set_option maxRecDepth 100000 in
theorem c_X3_list (l : Launch) (G : GG) (C : CS) (M : MS) {t : Nat} (ht : t < zn G) (hI : Iv C) {h : Nat} (hh : h < 100) : Ct l G yX3_list cX3_list 2 none 3 64 [.ref (zad G 9 t), .int (nI h)] C M none (listC C t h) M := by
  refine Ct_v (by decide) (Nat.le_of_ble_eq_true rfl) (fun {p e s m args below meth c A Q ls} hC hW hl hE => ?_)
  have hx := hC.1
  have hb := hC.2.1
  have hl : lv_has ls 2 [(0, .ref (zad G 9 t)), (1, .int (nI h))] := hl
  refine lv_aload_n hx hb dX3_list_0 rfl (lv_at hl 0 rfl) ?_
  refine lv_aload_n hx hb dX3_list_1 rfl (lv_at hl 0 rfl) ?_
  refine lv_aload_n hx hb dX3_list_2 rfl (lv_at hl 0 rfl) ?_
  refine g9 (k := 1) (v := .ref (zad G 5 t)) hC hW ht (by decide) mF_X3_14 rfl dX3_list_3 ?_
  refine lv_iload_n hx hb dX3_list_6 rfl (lv_at hl 1 rfl) ?_
  refine z_callV (As := [.int (nI h)]) (rest := [.ref (zad G 9 t), .ref (zad G 9 t)]) (st1 := [.int (kAt C 7 t h), .ref (zad G 9 t), .ref (zad G 9 t)]) hC hW (LL_5 (Or.inl ht)) rfl rfl rfl (c_X0_valueAt l G C M (Or.inl ht) (hI.1 t) (a := h) (by omega)) mw_X0_valueAt mv_X0_valueAt mM_X3_34 ⟨Nat.le_of_ble_eq_true rfl, Nat.le_of_ble_eq_true rfl⟩ rfl rfl hl.1 (lv_room (Nat.le_of_ble_eq_true rfl)) dX3_list_7 rfl (fun H locs hW => ?_) ⟨Nat.zero_le _, Nat.zero_le _⟩
  refine z_callV (As := [.int (kAt C 7 t h)]) (rest := [.ref (zad G 9 t)]) (st1 := [.int (oI (lh C t (kAt C 7 t h))), .ref (zad G 9 t)]) hC hW (LL_9 ht) rfl rfl rfl (c_X3_listedHead l G C M ht hI (kAt C 7 t h)) mw_X3_listedHead mv_X3_listedHead mM_X3_38 ⟨Nat.le_of_ble_eq_true rfl, Nat.le_of_ble_eq_true rfl⟩ rfl rfl hl.1 (lv_room (Nat.le_of_ble_eq_true rfl)) dX3_list_10 rfl (fun H locs hW => ?_) ⟨Nat.zero_le _, Nat.zero_le _⟩
  refine z_callV (As := [.int (oI (lh C t (kAt C 7 t h)))]) (rest := []) (st1 := []) hC hW (LL_9 ht) rfl rfl rfl (c_X3_unlist l G C M ht (lh C t (kAt C 7 t h)) (fun j hj => by have := lh_lt hj; have := hI.1 t; have := cap_le t; omega)) mw_X3_unlist mv_X3_unlist mM_X3_41 ⟨Nat.le_of_ble_eq_true rfl, Nat.le_of_ble_eq_true rfl⟩ rfl rfl hl.1 (lv_room (Nat.le_of_ble_eq_true rfl)) dX3_list_13 rfl (fun H locs hW => ?_) ⟨Nat.zero_le _, Nat.zero_le _⟩
  obtain ⟨C1, eC1⟩ : ∃ z, z = unl C t (lh C t (kAt C 7 t h)) := ⟨_, rfl⟩
  rw [← eC1] at hW
  refine lv_aload_n hx hb dX3_list_16 rfl (lv_at hl 0 rfl) ?_
  refine g9 (k := 3) (v := .ref (zad G 11 t)) hC hW ht (by decide) mF_X3_24 rfl dX3_list_17 ?_
  refine lv_iload_n hx hb dX3_list_20 rfl (lv_at hl 1 rfl) ?_
  refine lv_iconst (v := 1) hx hb dX3_list_21 (by decide) ?_
  refine s1011 (f := 11) (j := h) (v := 1) hC hW (by decide) ht (rfl) (by omega) (by decide) dX3_list_22 (fun _ eS H locs hW => ?_)
  subst eS
  have qC : sB C1 11 t h 1 = listC C t h := by rw [eC1]; rfl
  rw [qC] at hW
  exact hE hW dX3_list_23

set_option maxHeartbeats 4000000 in
set_option maxRecDepth 100000 in
theorem c_X3_unlistAll (l : Launch) (G : GG) (C : CS) (M : MS) {t : Nat} (ht : t < zn G) : Ct l G yX3_unlistAll cX3_unlistAll 3 (some .int) 0 0 [.ref (zad G 9 t)] C M (some (.int (nI (uaL t 100 0 0 C).1))) ((uaL t 100 0 0 C).2) M := by
  refine Ct_i (by decide) (Nat.le_of_ble_eq_true rfl) (fun {p e s m args below meth c A Q ls} hC hW hl hE => ?_)
  have hx := hC.1
  have hb := hC.2.1
  have hl : lv_has ls 3 [(0, .ref (zad G 9 t))] := hl
  refine lv_iconst (v := 0) hx hb dX3_unlistAll_0 (by decide) ?_
  refine lv_istore_n (lv' := [(1, .int 0), (0, .ref (zad G 9 t))]) hx hb dX3_unlistAll_1 rfl hl (by decide) rfl (fun ls hl => ?_)
  refine lv_iconst (v := 0) hx hb dX3_unlistAll_2 (by decide) ?_
  refine lv_istore_n (lv' := [(2, .int 0), (1, .int 0), (0, .ref (zad G 9 t))]) hx hb dX3_unlistAll_3 rfl hl (by decide) rfl (fun ls hl => ?_)
  have lp : ∀ (k : Nat) (j : Nat) (q : Nat) (C1 : CS), j + k = 100 → uaL t k j q C1 = uaL t 100 0 0 C → ∀ (H : Heap) (locs : List Loc) (ls : Array Slot), Wd G s A s.heap H locs C1 M → lv_has ls 3 [(0, .ref (zad G 9 t)), (1, .int (nI q)), (2, .int (nI j))] → W p l e { frames := 0, cells := 0, slots := 0, locals := 0 } s m args below meth c H locs 0 0 Q (F0 m 4 ls []) := by
    intro k
    induction k with
    | zero =>
      intro j q C1 hk hD H locs ls hW hl
      refine lv_iload_n hx hb dX3_unlistAll_4 rfl (lv_at hl 2 rfl) ?_
      refine lv_bipush (v := 100) hx hb dX3_unlistAll_5 (by decide) ?_
      refine zc_ge (i := j) (j := 100) (tgt := 35) hx hb rfl rfl (by omega) (by omega) dX3_unlistAll_7 (by decide) (fun h7 => ?_) (fun h7 => ?_)
      · refine lv_iload_n hx hb dX3_unlistAll_35 rfl (lv_at hl 1 rfl) ?_
        have hD2 : (q, C1) = uaL t 100 0 0 C := hD
        rw [← hD2] at hE
        exact hE hW rfl dX3_unlistAll_36
      · exact absurd h7 (by omega)
    | succ k ih =>
      intro j q C1 hk hD H locs ls hW hl
      refine lv_iload_n hx hb dX3_unlistAll_4 rfl (lv_at hl 2 rfl) ?_
      refine lv_bipush (v := 100) hx hb dX3_unlistAll_5 (by decide) ?_
      refine zc_ge (i := j) (j := 100) (tgt := 35) hx hb rfl rfl (by omega) (by omega) dX3_unlistAll_7 (by decide) (fun h7 => ?_) (fun h7 => ?_)
      · exact absurd h7 (by omega)
      · refine lv_aload_n hx hb dX3_unlistAll_10 rfl (lv_at hl 0 rfl) ?_
        refine g9 (k := 3) (v := .ref (zad G 11 t)) hC hW ht (by decide) mF_X3_24 rfl dX3_unlistAll_11 ?_
        refine lv_iload_n hx hb dX3_unlistAll_14 rfl (lv_at hl 2 rfl) ?_
        refine a11 (j := j) hC hW ht (rfl) (by omega) dX3_unlistAll_15 ?_
        refine lv_if_eq (tgt := 29) hx hb dX3_unlistAll_16 (by decide) (fun h16 => ?_) (fun h16 => ?_)
        · refine lv_iinc (k := 2) (v := nI (j + 1)) (lv' := [(2, .int (nI (j + 1))), (0, .ref (zad G 9 t)), (1, .int (nI q))]) hx hb dX3_unlistAll_29 hl rfl (nI_inc _) (by decide) rfl (fun ls hl => ?_)
          refine lv_goto (tgt := 4) hx hb dX3_unlistAll_32 (by decide) ?_
          exact ih (j + 1) q C1 (by omega) (by rw [← hD, uaL]; simp [h16]) _ _ _ hW (lv_sub hl [1, 2, 0] rfl)
        · refine lv_aload_n hx hb dX3_unlistAll_19 rfl (lv_at hl 0 rfl) ?_
          refine g9 (k := 3) (v := .ref (zad G 11 t)) hC hW ht (by decide) mF_X3_24 rfl dX3_unlistAll_20 ?_
          refine lv_iload_n hx hb dX3_unlistAll_23 rfl (lv_at hl 2 rfl) ?_
          refine lv_iconst (v := 0) hx hb dX3_unlistAll_24 (by decide) ?_
          refine s1011 (f := 11) (j := j) (v := 0) hC hW (by decide) ht (rfl) (by omega) (by decide) dX3_unlistAll_25 (fun _ eS H locs hW => ?_)
          subst eS
          refine lv_iinc (k := 1) (v := nI (q + 1)) (lv' := [(1, .int (nI (q + 1))), (0, .ref (zad G 9 t)), (2, .int (nI j))]) hx hb dX3_unlistAll_26 hl rfl (nI_inc _) (by decide) rfl (fun ls hl => ?_)
          refine lv_iinc (k := 2) (v := nI (j + 1)) (lv' := [(2, .int (nI (j + 1))), (1, .int (nI (q + 1))), (0, .ref (zad G 9 t))]) hx hb dX3_unlistAll_29 hl rfl (nI_inc _) (by decide) rfl (fun ls hl => ?_)
          refine lv_goto (tgt := 4) hx hb dX3_unlistAll_32 (by decide) ?_
          exact ih (j + 1) (q + 1) (sB C1 11 t j 0) (by omega) (by rw [← hD, uaL]; simp [h16]) _ _ _ hW (lv_sub hl [2, 1, 0] rfl)
  exact lp 100 0 0 C rfl rfl _ _ _ hW (lv_sub hl [2, 1, 0] rfl)

set_option maxHeartbeats 4000000 in
set_option maxRecDepth 100000 in
theorem c_X3_listedCount (l : Launch) (G : GG) (C : CS) (M : MS) {t : Nat} (ht : t < zn G) : Ct l G yX3_listedCount cX3_listedCount 3 (some .int) 0 0 [.ref (zad G 9 t)] C M (some (.int (nI (lcL C t 100 0 0)))) C M := by
  refine Ct_i (by decide) (Nat.le_of_ble_eq_true rfl) (fun {p e s m args below meth c A Q ls} hC hW hl hE => ?_)
  have hx := hC.1
  have hb := hC.2.1
  have hl : lv_has ls 3 [(0, .ref (zad G 9 t))] := hl
  refine lv_iconst (v := 0) hx hb dX3_listedCount_0 (by decide) ?_
  refine lv_istore_n (lv' := [(1, .int 0), (0, .ref (zad G 9 t))]) hx hb dX3_listedCount_1 rfl hl (by decide) rfl (fun ls hl => ?_)
  refine lv_iconst (v := 0) hx hb dX3_listedCount_2 (by decide) ?_
  refine lv_istore_n (lv' := [(2, .int 0), (1, .int 0), (0, .ref (zad G 9 t))]) hx hb dX3_listedCount_3 rfl hl (by decide) rfl (fun ls hl => ?_)
  have lp : ∀ (k : Nat) (j : Nat) (q : Nat), j + k = 100 → lcL C t k j q = lcL C t 100 0 0 → ∀ (H : Heap) (locs : List Loc) (ls : Array Slot), Wd G s A s.heap H locs C M → lv_has ls 3 [(0, .ref (zad G 9 t)), (1, .int (nI q)), (2, .int (nI j))] → W p l e { frames := 0, cells := 0, slots := 0, locals := 0 } s m args below meth c H locs 0 0 Q (F0 m 4 ls []) := by
    intro k
    induction k with
    | zero =>
      intro j q hk hD H locs ls hW hl
      refine lv_iload_n hx hb dX3_listedCount_4 rfl (lv_at hl 2 rfl) ?_
      refine lv_bipush (v := 100) hx hb dX3_listedCount_5 (by decide) ?_
      refine zc_ge (i := j) (j := 100) (tgt := 28) hx hb rfl rfl (by omega) (by omega) dX3_listedCount_7 (by decide) (fun h7 => ?_) (fun h7 => ?_)
      · refine lv_iload_n hx hb dX3_listedCount_28 rfl (lv_at hl 1 rfl) ?_
        have qr : (nI q : Int32) = nI (lcL C t 100 0 0) := by rw [← hD]; rfl
        exact hE hW qr dX3_listedCount_29
      · exact absurd h7 (by omega)
    | succ k ih =>
      intro j q hk hD H locs ls hW hl
      refine lv_iload_n hx hb dX3_listedCount_4 rfl (lv_at hl 2 rfl) ?_
      refine lv_bipush (v := 100) hx hb dX3_listedCount_5 (by decide) ?_
      refine zc_ge (i := j) (j := 100) (tgt := 28) hx hb rfl rfl (by omega) (by omega) dX3_listedCount_7 (by decide) (fun h7 => ?_) (fun h7 => ?_)
      · exact absurd h7 (by omega)
      · refine lv_aload_n hx hb dX3_listedCount_10 rfl (lv_at hl 0 rfl) ?_
        refine g9 (k := 3) (v := .ref (zad G 11 t)) hC hW ht (by decide) mF_X3_24 rfl dX3_listedCount_11 ?_
        refine lv_iload_n hx hb dX3_listedCount_14 rfl (lv_at hl 2 rfl) ?_
        refine a11 (j := j) hC hW ht (rfl) (by omega) dX3_listedCount_15 ?_
        refine lv_if_eq (tgt := 22) hx hb dX3_listedCount_16 (by decide) (fun h16 => ?_) (fun h16 => ?_)
        · refine lv_iinc (k := 2) (v := nI (j + 1)) (lv' := [(2, .int (nI (j + 1))), (0, .ref (zad G 9 t)), (1, .int (nI q))]) hx hb dX3_listedCount_22 hl rfl (nI_inc _) (by decide) rfl (fun ls hl => ?_)
          refine lv_goto (tgt := 4) hx hb dX3_listedCount_25 (by decide) ?_
          exact ih (j + 1) q (by omega) (by rw [← hD, lcL]; simp [h16]) _ _ _ hW (lv_sub hl [1, 2, 0] rfl)
        · refine lv_iinc (k := 1) (v := nI (q + 1)) (lv' := [(1, .int (nI (q + 1))), (0, .ref (zad G 9 t)), (2, .int (nI j))]) hx hb dX3_listedCount_19 hl rfl (nI_inc _) (by decide) rfl (fun ls hl => ?_)
          refine lv_iinc (k := 2) (v := nI (j + 1)) (lv' := [(2, .int (nI (j + 1))), (1, .int (nI (q + 1))), (0, .ref (zad G 9 t))]) hx hb dX3_listedCount_22 hl rfl (nI_inc _) (by decide) rfl (fun ls hl => ?_)
          refine lv_goto (tgt := 4) hx hb dX3_listedCount_25 (by decide) ?_
          exact ih (j + 1) (q + 1) (by omega) (by rw [← hD, lcL]; simp [h16]) _ _ _ hW (lv_sub hl [2, 1, 0] rfl)
  exact lp 100 0 0 rfl rfl _ _ _ hW (lv_sub hl [2, 1, 0] rfl)

set_option maxHeartbeats 4000000 in
set_option maxRecDepth 100000 in
theorem c_X3_listAllThatTell (l : Launch) (G : GG) (C : CS) (M : MS) {t : Nat} (ht : t < zn G) (hI : Iv C) : Ct l G yX3_listAllThatTell cX3_listAllThatTell 2 (some .int) 4 87 [.ref (zad G 9 t)] C M (some (.int (nI (lcL (latC C t) t 100 0 0)))) (latC C t) M := by
  refine Ct_i (by decide) (Nat.le_of_ble_eq_true rfl) (fun {p e s m args below meth c A Q ls} hC hW hl hE => ?_)
  have hx := hC.1
  have hb := hC.2.1
  have hl : lv_has ls 2 [(0, .ref (zad G 9 t))] := hl
  have hcp := cap_le t
  have he := hI.1 t
  refine lv_aload_n hx hb dX3_listAllThatTell_0 rfl (lv_at hl 0 rfl) ?_
  refine z_callV (As := []) (rest := []) (st1 := [.int (nI ((uaL t 100 0 0 C).1))]) hC hW (LL_9 ht) rfl rfl rfl (c_X3_unlistAll l G C M ht) mw_X3_unlistAll mv_X3_unlistAll mM_X3_44 ⟨Nat.le_of_ble_eq_true rfl, Nat.le_of_ble_eq_true rfl⟩ rfl rfl hl.1 (lv_room (Nat.le_of_ble_eq_true rfl)) dX3_listAllThatTell_1 rfl (fun H locs hW => ?_) ⟨Nat.zero_le _, Nat.zero_le _⟩
  obtain ⟨C1, eC1⟩ : ∃ z, z = (uaL t 100 0 0 C).2 := ⟨_, rfl⟩
  rw [← eC1] at hW
  refine lv_pop hx hb dX3_listAllThatTell_4 rfl ?_
  refine lv_iconst (v := 0) hx hb dX3_listAllThatTell_5 (by decide) ?_
  refine lv_istore_n (lv' := [(1, .int 0), (0, .ref (zad G 9 t))]) hx hb dX3_listAllThatTell_6 rfl hl (by decide) rfl (fun ls hl => ?_)
  have hI1 : Iv C1 := by rw [eC1]; exact uaL_I _ _ _ _ hI
  have hN1 : cN C1 = cN C := by rw [eC1]; exact uaL_N _ _ _ _
  have lp : ∀ (k : Nat) (j : Nat) (Cj : CS), j + k = cN C 5 t 3 → Iv Cj → cN Cj = cN C → latL t k j Cj = latC C t → ∀ (H : Heap) (locs : List Loc) (ls : Array Slot), Wd G s A s.heap H locs Cj M → lv_has ls 2 [(0, .ref (zad G 9 t)), (1, .int (nI j))] → W p l e { frames := 4, cells := 0, slots := 0, locals := 87 } s m args below meth c H locs 0 0 Q (F0 m 7 ls []) := by
    intro k
    induction k with
    | zero =>
      intro j Cj hk hI1 hNj hD H locs ls hW hl
      have hcpj := hI1.1 t
      refine lv_iload_n hx hb dX3_listAllThatTell_7 rfl (lv_at hl 1 rfl) ?_
      refine lv_aload_n hx hb dX3_listAllThatTell_8 rfl (lv_at hl 0 rfl) ?_
      refine g9 (k := 1) (v := .ref (zad G 5 t)) hC hW ht (by decide) mF_X3_14 rfl dX3_listAllThatTell_9 ?_
      refine g5 (k := 3) (v := .int (nI (cN Cj 5 t 3))) hC hW (Or.inl ht) (by decide) mF_X3_31 rfl dX3_listAllThatTell_12 ?_
      refine zc_ge (i := j) (j := cN Cj 5 t 3) (tgt := 37) hx hb rfl rfl (by omega) (by omega) dX3_listAllThatTell_15 (by decide) (fun h15 => ?_) (fun h15 => ?_)
      · refine lv_aload_n hx hb dX3_listAllThatTell_37 rfl (lv_at hl 0 rfl) ?_
        refine z_callV (As := []) (rest := []) (st1 := [.int (nI (lcL Cj t 100 0 0))]) hC hW (LL_9 ht) rfl rfl rfl (c_X3_listedCount l G Cj M ht) mw_X3_listedCount mv_X3_listedCount mM_X3_55 ⟨Nat.le_of_ble_eq_true rfl, Nat.le_of_ble_eq_true rfl⟩ rfl rfl hl.1 (lv_room (Nat.le_of_ble_eq_true rfl)) dX3_listAllThatTell_38 rfl (fun H locs hW => ?_) ⟨Nat.zero_le _, Nat.zero_le _⟩
        have hD2 : Cj = latC C t := hD
        rw [← hD2] at hE
        exact hE hW rfl dX3_listAllThatTell_41
      · exact absurd h15 (by rw [hNj]; omega)
    | succ k ih =>
      intro j Cj hk hI1 hNj hD H locs ls hW hl
      have hcpj := hI1.1 t
      refine lv_iload_n hx hb dX3_listAllThatTell_7 rfl (lv_at hl 1 rfl) ?_
      refine lv_aload_n hx hb dX3_listAllThatTell_8 rfl (lv_at hl 0 rfl) ?_
      refine g9 (k := 1) (v := .ref (zad G 5 t)) hC hW ht (by decide) mF_X3_14 rfl dX3_listAllThatTell_9 ?_
      refine g5 (k := 3) (v := .int (nI (cN Cj 5 t 3))) hC hW (Or.inl ht) (by decide) mF_X3_31 rfl dX3_listAllThatTell_12 ?_
      refine zc_ge (i := j) (j := cN Cj 5 t 3) (tgt := 37) hx hb rfl rfl (by omega) (by omega) dX3_listAllThatTell_15 (by decide) (fun h15 => ?_) (fun h15 => ?_)
      · exact absurd h15 (by rw [hNj]; omega)
      · refine lv_aload_n hx hb dX3_listAllThatTell_18 rfl (lv_at hl 0 rfl) ?_
        refine lv_iload_n hx hb dX3_listAllThatTell_19 rfl (lv_at hl 1 rfl) ?_
        refine z_callV (As := [.int (nI j)]) (rest := []) (st1 := [.int (bI (tfP Cj t j))]) hC hW (LL_9 ht) rfl rfl rfl (c_X3_tellsFile l G Cj M ht (h := j) (by omega) hI1) mw_X3_tellsFile mv_X3_tellsFile mM_X3_48 ⟨Nat.le_of_ble_eq_true rfl, Nat.le_of_ble_eq_true rfl⟩ rfl rfl hl.1 (lv_room (Nat.le_of_ble_eq_true rfl)) dX3_listAllThatTell_20 rfl (fun H locs hW => ?_) ⟨Nat.zero_le _, Nat.zero_le _⟩
        refine zb_eq (tgt := 31) hx hb (tfP Cj t j) rfl dX3_listAllThatTell_23 (by decide) (fun h23 => ?_) (fun h23 => ?_)
        · refine lv_iinc (k := 1) (v := nI (j + 1)) (lv' := [(1, .int (nI (j + 1))), (0, .ref (zad G 9 t))]) hx hb dX3_listAllThatTell_31 hl rfl (nI_inc _) (by decide) rfl (fun ls hl => ?_)
          refine lv_goto (tgt := 7) hx hb dX3_listAllThatTell_34 (by decide) ?_
          exact ih (j + 1) Cj (by omega) hI1 hNj (by rw [← hD, latL, if_neg h23]) _ _ _ hW (lv_sub hl [1, 0] rfl)
        · refine lv_aload_n hx hb dX3_listAllThatTell_26 rfl (lv_at hl 0 rfl) ?_
          refine lv_iload_n hx hb dX3_listAllThatTell_27 rfl (lv_at hl 1 rfl) ?_
          refine z_callV (As := [.int (nI j)]) (rest := []) (st1 := []) hC hW (LL_9 ht) rfl rfl rfl (c_X3_list l G Cj M ht hI1 (h := j) (by omega)) mw_X3_list mv_X3_list mM_X3_52 ⟨Nat.le_of_ble_eq_true rfl, Nat.le_of_ble_eq_true rfl⟩ rfl rfl hl.1 (lv_room (Nat.le_of_ble_eq_true rfl)) dX3_listAllThatTell_28 rfl (fun H locs hW => ?_) ⟨Nat.zero_le _, Nat.zero_le _⟩
          obtain ⟨C2, eC2⟩ : ∃ z, z = listC Cj t j := ⟨_, rfl⟩
          rw [← eC2] at hW
          refine lv_iinc (k := 1) (v := nI (j + 1)) (lv' := [(1, .int (nI (j + 1))), (0, .ref (zad G 9 t))]) hx hb dX3_listAllThatTell_31 hl rfl (nI_inc _) (by decide) rfl (fun ls hl => ?_)
          refine lv_goto (tgt := 7) hx hb dX3_listAllThatTell_34 (by decide) ?_
          exact ih (j + 1) C2 (by omega) (by rw [eC2]; exact Iv_listC hI1) (by rw [eC2, cN_listC]; exact hNj) (by rw [← hD, latL, if_pos h23, eC2]) _ _ _ hW (lv_sub hl [1, 0] rfl)
  exact lp (cN C 5 t 3) 0 C1 (by omega) hI1 hN1 (by rw [eC1]; rfl) _ _ _ hW (lv_sub hl [1, 0] rfl)
end
section
/-! ===== the class: Drive ===== -/
def dist (h d : Nat) : Nat := (if 8 + 8 * d ≤ h then h - (8 + 8 * d) else 8 + 8 * d - h) + 1
theorem dist_c : ∀ h, h < 32 → ∀ d, d < 3 → (if 0 ≤ nI h - nI (8 + 8 * d) then nI h - nI (8 + 8 * d) else 0 - (nI h - nI (8 + 8 * d))) + 1 = nI (dist h d) := by decide +kernel
theorem dist_le {h d : Nat} (hh : h < 32) (hd : d < 3) : dist h d ≤ 32 ∧ 0 < dist h d := by unfold dist; split <;> omega
def carL (d : Nat) : Nat → CS → Int32 × CS
  | 0, C => (0, C)
  | k + 1, C => if cF C 1 0 2 ≠ 0 then carL d k (sN (wkC C) 3 d 7 (cN (wkC C) 3 d 7 + 1)) else (-4, wkC C)
def carE (d t : Nat) (q : Int32 × CS) : Int32 × CS := if q.1 = 0 then (0, sF (sF q.2 3 d 2 (cF q.2 3 d 2 + 1)) 9 t 4 (cF q.2 9 t 4 + 1)) else q
def carC (C : CS) (d t : Nat) : Int32 × CS := carE d t (carL d (dist (cN C 9 t 0) d) (sN (sN (sM C d (some t)) 3 d 8 0) 3 d 7 0))
def windL (d : Nat) : Nat → CS → Int32 × CS
  | 0, C => (0, C)
  | k + 1, C => if cF C 1 0 2 ≠ 0 then windL d k (sN (wkC C) 3 d 8 (cN (wkC C) 3 d 8 + 1)) else (-4, wkC C)
def windC (C : CS) (d q : Nat) : Int32 × CS := windL d (q - cN C 3 d 8) C
def pas1 (C : CS) (d : Nat) : CS := if cF C 3 d 5 ≤ 0 then C else sF C 3 d 5 (cF C 3 d 5 - 1)
def pas2 (C : CS) (d : Nat) : CS := sN (sF (pas1 C d) 3 d 3 (cF (pas1 C d) 3 d 3 + 1)) 3 d 8 (cN (pas1 C d) 3 d 8 + 1)
def pasC (C : CS) (d : Nat) : Int32 × CS := if cF C 3 d 5 ≠ 0 then (if cF C 1 0 2 ≠ 0 then (0, pas2 (wkC C) d) else (-4, wkC C)) else (-5, sF C 3 d 4 1)
def reaC (C : CS) (d t : Nat) : Int32 × CS := if (pasC C d).1 ≠ 0 then pasC C d else if dmgP (pasC C d).2 t (cN C 3 d 8) then (-7, (pasC C d).2) else ((pasC C d).1, (pasC C d).2)
def wriC (C : CS) (d t b a : Nat) : Int32 × CS := if cap t ≤ cN C 5 t 3 then (-6, C) else if (pasC C d).1 ≠ 0 then pasC C d else ((pasC C d).1, addC (pasC C d).2 t (kAt (pasC C d).2 6 b a) (kAt (pasC C d).2 7 b a) (kAt (pasC C d).2 8 b a))
def clo1 (C : CS) (b : Nat) : CS := addC (sF C 1 0 1 (cF C 1 0 1 + 1)) b 4 0 0
def cloC (C : CS) (d b : Nat) : CS := if cF C 3 d 4 ≠ 0 then C else if cap b ≤ cN C 5 b 3 then C else sN (clo1 C b) 3 d 8 (cN (clo1 C b) 5 b 3)
def endC (C : CS) (d t h : Nat) (w : Int32) : Int32 × CS := if w ≠ 0 then (w, if cN C 5 t 3 ≤ h then C else cloC C d t) else (nI h, C)
def ltL (d t : Nat) : Nat → Int32 → CS → Int32 × CS
  | 0, w, C => (w, C)
  | k + 1, w, C => if w = 0 ∨ w = -7 then ltL d t k (reaC C d t).1 (reaC C d t).2 else (w, C)
def lookC (C : CS) (d t : Nat) : Int32 × CS := (if (ltL d t (cN C 5 t 3) 0 C).1 = -7 then 0 else (ltL d t (cN C 5 t 3) 0 C).1, (ltL d t (cN C 5 t 3) 0 C).2)
def bri1 (C : CS) (d : Nat) : CS := sF C 1 0 1 (cF C 1 0 1 + nI (if cF C 3 d 4 = 0 then cN C 3 d 8 else 3 * cN C 3 d 8))
def bri2 (C : CS) (d t : Nat) : CS := sF (bri1 C d) 9 t 5 (cF C 9 t 5 + nI (cN C 3 d 8))
def briC (C : CS) (d t : Nat) : CS := sM (sF (bri2 C d t) 1 0 1 (cF (bri2 C d t) 1 0 1 + nI (cN C 3 d 7))) d none
/-! what they keep -/
theorem wkC_N (C : CS) : cN (wkC C) = cN C := by unfold wkC; split; rfl; split <;> rfl
theorem wkC_B (C : CS) : cB (wkC C) = cB C := by unfold wkC; split; rfl; split <;> rfl
theorem wkC_M (C : CS) : cM (wkC C) = cM C := by unfold wkC; split; rfl; split <;> rfl
theorem wkC_F (C : CS) (f i k : Nat) (h : f ≠ 1) : cF (wkC C) f i k = cF C f i k := by
  unfold wkC; split
  · rw [cF_sF, if_neg (by omega)]
  · split
    · rw [cF_sF, if_neg (by omega)]
    · rw [cF_sF, if_neg (by omega), cF_sF, if_neg (by omega)]
theorem Iv_of {C C' : CS} (hI : Iv C) (h1 : ∀ b, cN C' 5 b 3 = cN C 5 b 3) (h2 : ∀ b j, cB C' 8 b j = cB C 8 b j) (h3 : ∀ t, cN C' 9 t 0 = cN C 9 t 0) : Iv C' :=
  ⟨fun b => by rw [h1]; exact hI.1 b, fun b j => by rw [h2]; exact hI.2.1 b j, fun t => by rw [h3]; exact hI.2.2 t⟩
theorem Iv_wk {C : CS} (hI : Iv C) : Iv (wkC C) := Iv_of hI (fun b => by rw [wkC_N]) (fun b j => by rw [wkC_B]) (fun t => by rw [wkC_N])
theorem Iv_N {C : CS} {d k v : Nat} (hI : Iv C) : Iv (sN C 3 d k v) := Iv_of hI (fun b => by rw [cN_sN, if_neg (by omega)]) (fun b j => rfl) (fun t => by rw [cN_sN, if_neg (by omega)])
theorem pas1_N (C : CS) (d : Nat) : cN (pas1 C d) = cN C := by unfold pas1; split <;> rfl
theorem pas1_B (C : CS) (d : Nat) : cB (pas1 C d) = cB C := by unfold pas1; split <;> rfl
theorem pas1_M (C : CS) (d : Nat) : cM (pas1 C d) = cM C := by unfold pas1; split <;> rfl
theorem pasC_M (C : CS) (d : Nat) : cM (pasC C d).2 = cM C := by
  unfold pasC; split
  · split
    · show cM (pas2 (wkC C) d) = _
      unfold pas2; rw [cM_sN, cM_sF, pas1_M, wkC_M]
    · exact wkC_M C
  · rfl
theorem pasC_B (C : CS) (d : Nat) : cB (pasC C d).2 = cB C := by
  unfold pasC; split
  · split
    · show cB (pas2 (wkC C) d) = _
      unfold pas2; rw [cB_sN, cB_sF, pas1_B, wkC_B]
    · exact wkC_B C
  · rfl
theorem pasC_N (C : CS) (d f i k : Nat) (h : f ≠ 3 ∨ k ≠ 8 ∨ i ≠ d) : cN (pasC C d).2 f i k = cN C f i k := by
  unfold pasC; split
  · split
    · show cN (pas2 (wkC C) d) f i k = _
      unfold pas2; rw [cN_sN, if_neg (by omega), cN_sF, pas1_N, wkC_N]
    · show cN (wkC C) f i k = _
      rw [wkC_N]
  · rfl
theorem pasC_pos (C : CS) (d : Nat) : cN (pasC C d).2 3 d 8 ≤ cN C 3 d 8 + 1 := by
  unfold pasC; split
  · split
    · show cN (pas2 (wkC C) d) 3 d 8 ≤ _
      unfold pas2; rw [cN_sN, if_pos ⟨rfl, rfl, rfl⟩, pas1_N, wkC_N]; exact Nat.le_refl _
    · show cN (wkC C) 3 d 8 ≤ _
      rw [wkC_N]; omega
  · show cN C 3 d 8 ≤ _
    omega
theorem Iv_pas {C : CS} {d : Nat} (hI : Iv C) : Iv (pasC C d).2 := Iv_of hI (fun b => pasC_N _ _ _ _ _ (by omega)) (fun b j => by rw [pasC_B]) (fun t => pasC_N _ _ _ _ _ (by omega))
theorem reaC_2 (C : CS) (d t : Nat) : (reaC C d t).2 = (pasC C d).2 := by unfold reaC; split; rfl; split <;> rfl
theorem Iv_add {C : CS} {b : Nat} {k v z : Int32} (hI : Iv C) (hz : z = nI z.toNatClampNeg ∧ z.toNatClampNeg ≤ 30) : Iv (addC C b k v z) := by
  unfold addC
  split
  · exact hI
  · refine ⟨fun b' => ?_, fun b' j => ?_, fun t => ?_⟩
    · rw [cN_sN]; split
      · rename_i h1 h2; have := h2.2.2; subst this; omega
      · exact hI.1 b'
    · rw [cB_sN, cB_sB]; split
      · exact hz
      · rw [cB_sB, if_neg (by omega), cB_sB, if_neg (by omega)]; exact hI.2.1 b' j
    · rw [cN_sN, if_neg (by omega)]; exact hI.2.2 t
theorem addC_M (C : CS) (b : Nat) (k v z : Int32) : cM (addC C b k v z) = cM C := by unfold addC; split <;> rfl
theorem addC_F (C : CS) (b : Nat) (k v z : Int32) : cF (addC C b k v z) = cF C := by unfold addC; split <;> rfl
theorem kAt_cl {C : CS} (hI : Iv C) (b a : Nat) : kAt C 8 b a = nI (kAt C 8 b a).toNatClampNeg ∧ (kAt C 8 b a).toNatClampNeg ≤ 30 := by
  unfold kAt; split
  · exact hI.2.1 b a
  · exact ⟨rfl, by decide⟩

set_option maxHeartbeats 4000000 in
set_option maxRecDepth 100000 in
theorem c_X1_isReady_n (l : Launch) (G : GG) (C : CS) (M : MS) {d : Nat} (hd : d < 3) (hM : cM C d = none) : Ct l G yX1_isReady cX1_isReady 1 (some .boolean) 0 0 [.ref (zad G 3 d)] C M (some (.int (bI (cF C 3 d 4 = 0 ∧ cM C d = none)))) C M := by
  refine Ct_z (by decide) (Nat.le_of_ble_eq_true rfl) (bI_01 _) (fun {p e s m args below meth c A Q ls} hC hW hl hE => ?_)
  have hx := hC.1
  have hb := hC.2.1
  have hl : lv_has ls 1 [(0, .ref (zad G 3 d))] := hl
  refine lv_aload_n hx hb dX1_isReady_0 rfl (lv_at hl 0 rfl) ?_
  refine g3 (k := 4) (v := .int (cF C 3 d 4)) hC hW hd (by decide) mF_X1_22 rfl dX1_isReady_1 ?_
  refine lv_if_ne (tgt := 18) hx hb dX1_isReady_4 (by decide) (fun h4 => ?_) (fun h4 => ?_)
  · refine lv_iconst (v := 0) hx hb dX1_isReady_18 (by decide) ?_
    have qr : (0 : Int32) = bI (cF C 3 d 4 = 0 ∧ cM C d = none) := by simp [bI, hM, h4]
    exact hE hW qr dX1_isReady_19
  · refine lv_aload_n hx hb dX1_isReady_7 rfl (lv_at hl 0 rfl) ?_
    refine g3 (k := 6) (v := .null) hC hW hd (by decide) mF_X1_26 (by simp [fsD, va_rf, hM, cF_sF, cN_sN, cB_sB, cM_sM, cN_sF, cB_sF, cM_sF, cF_sN, cB_sN, cM_sN, cF_sB, cN_sB, cM_sB, cF_sM, cN_sM, cB_sM, mF_smF, mA_smF, mF_smA, mA_smA]) dX1_isReady_8 ?_
    refine lv_ifnonnullN hx hb dX1_isReady_11 ?_
    refine lv_iconst (v := 1) hx hb dX1_isReady_14 (by decide) ?_
    refine lv_goto (tgt := 19) hx hb dX1_isReady_15 (by decide) ?_
    have qr : (1 : Int32) = bI (cF C 3 d 4 = 0 ∧ cM C d = none) := by simp [bI, hM, h4]
    exact hE hW qr dX1_isReady_19

set_option maxHeartbeats 4000000 in
set_option maxRecDepth 100000 in
theorem c_X1_isReady_s (l : Launch) (G : GG) (C : CS) (M : MS) {d : Nat} (hd : d < 3) {t : Nat} (ht : t < zn G) (hM : cM C d = some t) : Ct l G yX1_isReady cX1_isReady 1 (some .boolean) 0 0 [.ref (zad G 3 d)] C M (some (.int (bI (cF C 3 d 4 = 0 ∧ cM C d = none)))) C M := by
  refine Ct_z (by decide) (Nat.le_of_ble_eq_true rfl) (bI_01 _) (fun {p e s m args below meth c A Q ls} hC hW hl hE => ?_)
  have hx := hC.1
  have hb := hC.2.1
  have hl : lv_has ls 1 [(0, .ref (zad G 3 d))] := hl
  refine lv_aload_n hx hb dX1_isReady_0 rfl (lv_at hl 0 rfl) ?_
  refine g3 (k := 4) (v := .int (cF C 3 d 4)) hC hW hd (by decide) mF_X1_22 rfl dX1_isReady_1 ?_
  refine lv_if_ne (tgt := 18) hx hb dX1_isReady_4 (by decide) (fun h4 => ?_) (fun h4 => ?_)
  · refine lv_iconst (v := 0) hx hb dX1_isReady_18 (by decide) ?_
    have qr : (0 : Int32) = bI (cF C 3 d 4 = 0 ∧ cM C d = none) := by simp [bI, hM, h4]
    exact hE hW qr dX1_isReady_19
  · refine lv_aload_n hx hb dX1_isReady_7 rfl (lv_at hl 0 rfl) ?_
    refine g3 (k := 6) (v := .ref (zad G 9 t)) hC hW hd (by decide) mF_X1_26 (by simp [fsD, va_rf, hM, cF_sF, cN_sN, cB_sB, cM_sM, cN_sF, cB_sF, cM_sF, cF_sN, cB_sN, cM_sN, cF_sB, cN_sB, cM_sB, cF_sM, cN_sM, cB_sM, mF_smF, mA_smF, mF_smA, mA_smA]) dX1_isReady_8 ?_
    refine lv_ifnonnull (tgt := 18) hx hb dX1_isReady_11 (by decide) ?_
    refine lv_iconst (v := 0) hx hb dX1_isReady_18 (by decide) ?_
    have qr : (0 : Int32) = bI (cF C 3 d 4 = 0 ∧ cM C d = none) := by simp [bI, hM, h4]
    exact hE hW qr dX1_isReady_19

theorem c_X1_isReady (l : Launch) (G : GG) (C : CS) (M : MS) {d : Nat} (hd : d < 3) (hT : ∀ t, cM C d = some t → t < zn G) : Ct l G yX1_isReady cX1_isReady 1 (some .boolean) 0 0 [.ref (zad G 3 d)] C M (some (.int (bI (cF C 3 d 4 = 0 ∧ cM C d = none)))) C M := by
  cases hM : cM C d with
  | none => have h := c_X1_isReady_n l G C M hd hM; rw [hM] at h; exact h
  | some t => have h := c_X1_isReady_s l G C M hd (hT t hM) hM; rw [hM] at h; exact h

set_option maxHeartbeats 4000000 in
set_option maxRecDepth 100000 in
theorem c_X1_distance (l : Launch) (G : GG) (C : CS) (M : MS) {d : Nat} (hd : d < 3) {t : Nat} (ht : t < zn G) (hI : Iv C) : Ct l G yX1_distance cX1_distance 2 (some .int) 1 20 [.ref (zad G 3 d), .ref (zad G 9 t)] C M (some (.int (nI (dist (cN C 9 t 0) d)))) C M := by
  refine Ct_i (by decide) (Nat.le_of_ble_eq_true rfl) (fun {p e s m args below meth c A Q ls} hC hW hl hE => ?_)
  have hx := hC.1
  have hb := hC.2.1
  have hl : lv_has ls 2 [(0, .ref (zad G 3 d)), (1, .ref (zad G 9 t))] := hl
  refine lv_aload_n hx hb dX1_distance_0 rfl (lv_at hl 1 rfl) ?_
  refine g9 (k := 0) (v := .int (nI (cN C 9 t 0))) hC hW ht (by decide) mF_X1_30 rfl dX1_distance_1 ?_
  refine lv_aload_n hx hb dX1_distance_4 rfl (lv_at hl 0 rfl) ?_
  refine g3 (k := 0) (v := .int (nI (8 + 8 * d))) hC hW hd (by decide) mF_X1_15 rfl dX1_distance_5 ?_
  refine lv_isub hx hb dX1_distance_8 ?_
  refine va_mabs hx hb (hC.2.2.1.trans hl.1.symm) hC.2.2.2.1 (hC.2.2.2.2 _ mM_X1_35) (hC.2.2.2.2 _ mT_J9_abs_0f7a4) (hC.2.2.2.2 _ mN_J9) (hC.2.2.2.2 _ mC_J9_abs_0f7a4) (Nat.le_of_ble_eq_true rfl) (Nat.le_of_ble_eq_true rfl) (Nat.zero_le _) (Nat.zero_le _) dX1_distance_9 ?_
  refine lv_iconst (v := 1) hx hb dX1_distance_12 (by decide) ?_
  refine lv_iadd hx hb dX1_distance_13 ?_
  have qr : ((if 0 ≤ ((nI (cN C 9 t 0)) - (nI (8 + 8 * d))) then ((nI (cN C 9 t 0)) - (nI (8 + 8 * d))) else 0 - ((nI (cN C 9 t 0)) - (nI (8 + 8 * d)))) + 1 : Int32) = nI (dist (cN C 9 t 0) d) := by exact dist_c _ (hI.2.2 t) _ hd
  exact hE hW qr dX1_distance_14

set_option maxHeartbeats 4000000 in
set_option maxRecDepth 100000 in
theorem c_X1_carry (l : Launch) (G : GG) (C : CS) (M : MS) {d : Nat} (hd : d < 3) {t : Nat} (ht : t < zn G) (hI : Iv C) : Ct l G yX1_carry cX1_carry 3 (some .int) 2 41 [.ref (zad G 3 d), .ref (zad G 9 t)] C M (some (.int ((carC C d t).1))) ((carC C d t).2) M := by
  refine Ct_i (by decide) (Nat.le_of_ble_eq_true rfl) (fun {p e s m args below meth c A Q ls} hC hW hl hE => ?_)
  have hx := hC.1
  have hb := hC.2.1
  have hl : lv_has ls 3 [(0, .ref (zad G 3 d)), (1, .ref (zad G 9 t))] := hl
  have hI1 : Iv (sN (sM C d (some t)) 3 d 8 0) := Iv_N (Iv_M hI)
  refine lv_aload_n hx hb dX1_carry_0 rfl (lv_at hl 0 rfl) ?_
  refine lv_aload_n hx hb dX1_carry_1 rfl (lv_at hl 1 rfl) ?_
  refine p3M (t := t) hC hW hd mF_X1_26 dX1_carry_2 (fun _ eS H locs hW => ?_)
  subst eS
  refine lv_aload_n hx hb dX1_carry_5 rfl (lv_at hl 0 rfl) ?_
  refine lv_iconst (v := 0) hx hb dX1_carry_6 (by decide) ?_
  refine p3N (k := 8) (v := 0) hC hW hd (by decide) rfl mF_X1_41 dX1_carry_7 (fun _ eS H locs hW => ?_)
  subst eS
  refine lv_aload_n hx hb dX1_carry_10 rfl (lv_at hl 0 rfl) ?_
  refine lv_aload_n hx hb dX1_carry_11 rfl (lv_at hl 1 rfl) ?_
  refine z_callV (As := [.ref (zad G 9 t)]) (rest := []) (st1 := [.int (nI (dist (cN C 9 t 0) d))]) hC hW (LL_3 hd) rfl rfl rfl (c_X1_distance l G (sN (sM C d (some t)) 3 d 8 0) M hd ht (hI1)) mw_X1_distance mv_X1_distance mM_X1_44 ⟨Nat.le_of_ble_eq_true rfl, Nat.le_of_ble_eq_true rfl⟩ rfl rfl hl.1 (lv_room (Nat.le_of_ble_eq_true rfl)) dX1_carry_12 rfl (fun H locs hW => ?_) ⟨Nat.zero_le _, Nat.zero_le _⟩
  refine lv_istore_n (lv' := [(2, .int (nI (dist (cN C 9 t 0) d))), (0, .ref (zad G 3 d)), (1, .ref (zad G 9 t))]) hx hb dX1_carry_15 rfl hl (by decide) rfl (fun ls hl => ?_)
  refine lv_aload_n hx hb dX1_carry_16 rfl (lv_at hl 1 rfl) ?_
  refine lv_iconst (v := 0) hx hb dX1_carry_17 (by decide) ?_
  refine p3N (k := 7) (v := 0) hC hW hd (by decide) rfl mF_X1_48 dX1_carry_18 (fun _ eS H locs hW => ?_)
  subst eS
  have lp : ∀ (k : Nat) (Cj : CS), cN Cj 3 d 7 + k = dist (cN C 9 t 0) d → carL d k Cj = carL d (dist (cN C 9 t 0) d) (sN (sN (sM C d (some t)) 3 d 8 0) 3 d 7 0) → ∀ (H : Heap) (locs : List Loc) (ls : Array Slot), Wd G s A s.heap H locs Cj M → lv_has ls 3 [(0, .ref (zad G 3 d)), (1, .ref (zad G 9 t)), (2, .int (nI (dist (cN C 9 t 0) d)))] → W p l e { frames := 2, cells := 0, slots := 0, locals := 41 } s m args below meth c H locs 0 0 Q (F0 m 21 ls []) := by
    intro k
    induction k with
    | zero =>
      intro Cj hk hD H locs ls hW hl
      have hdl := dist_le (hI.2.2 t) hd
      refine lv_aload_n hx hb dX1_carry_21 rfl (lv_at hl 0 rfl) ?_
      refine g3 (k := 7) (v := .int (nI (cN Cj 3 d 7))) hC hW hd (by decide) mF_X1_48 rfl dX1_carry_22 ?_
      refine lv_iload_n hx hb dX1_carry_25 rfl (lv_at hl 2 rfl) ?_
      refine zc_ge (i := cN Cj 3 d 7) (j := dist (cN C 9 t 0) d) (tgt := 55) hx hb rfl rfl (by omega) (by omega) dX1_carry_26 (by decide) (fun h26 => ?_) (fun h26 => ?_)
      · refine lv_aload_n hx hb dX1_carry_55 rfl (lv_at hl 0 rfl) ?_
        refine lv_dup hx hb dX1_carry_56 rfl ?_
        refine g3 (k := 2) (v := .int (cF Cj 3 d 2)) hC hW hd (by decide) mF_X1_57 rfl dX1_carry_57 ?_
        refine lv_iconst (v := 1) hx hb dX1_carry_60 (by decide) ?_
        refine lv_iadd hx hb dX1_carry_61 ?_
        refine p3F (k := 2) (v := (cF Cj 3 d 2) + 1) hC hW hd (by decide) mF_X1_57 dX1_carry_62 (fun _ eS H locs hW => ?_)
        subst eS
        refine lv_aload_n hx hb dX1_carry_65 rfl (lv_at hl 1 rfl) ?_
        refine lv_dup hx hb dX1_carry_66 rfl ?_
        refine g9 (k := 4) (v := .int (cF Cj 9 t 4)) hC hW ht (by decide) mF_X1_60 rfl dX1_carry_67 ?_
        refine lv_iconst (v := 1) hx hb dX1_carry_70 (by decide) ?_
        refine lv_iadd hx hb dX1_carry_71 ?_
        refine p9 (k := 4) (v := (cF Cj 9 t 4) + 1) hC hW ht (by decide) mF_X1_60 dX1_carry_72 (fun _ eS H locs hW => ?_)
        subst eS
        refine lv_iconst (v := 0) hx hb dX1_carry_75 (by decide) ?_
        have hD2 : carC C d t = (0, sF (sF Cj 3 d 2 ((cF Cj 3 d 2) + 1)) 9 t 4 ((cF Cj 9 t 4) + 1)) := by unfold carC; rw [← hD]; rfl
        rw [hD2] at hE
        exact hE hW rfl dX1_carry_76
      · exact absurd h26 (by omega)
    | succ k ih =>
      intro Cj hk hD H locs ls hW hl
      have hdl := dist_le (hI.2.2 t) hd
      refine lv_aload_n hx hb dX1_carry_21 rfl (lv_at hl 0 rfl) ?_
      refine g3 (k := 7) (v := .int (nI (cN Cj 3 d 7))) hC hW hd (by decide) mF_X1_48 rfl dX1_carry_22 ?_
      refine lv_iload_n hx hb dX1_carry_25 rfl (lv_at hl 2 rfl) ?_
      refine zc_ge (i := cN Cj 3 d 7) (j := dist (cN C 9 t 0) d) (tgt := 55) hx hb rfl rfl (by omega) (by omega) dX1_carry_26 (by decide) (fun h26 => ?_) (fun h26 => ?_)
      · exact absurd h26 (by omega)
      · refine lv_aload_n hx hb dX1_carry_29 rfl (lv_at hl 0 rfl) ?_
        refine g3 (k := 1) (v := .ref (zad G 1 0)) hC hW hd (by decide) mF_X1_18 rfl dX1_carry_30 ?_
        refine z_callV (As := []) (rest := []) (st1 := [.int (bI (cF Cj 1 0 2 ≠ 0))]) hC hW LL_1 rfl rfl rfl (c_X2_work l G Cj M) mw_X2_work mv_X2_work mM_X1_51 ⟨Nat.le_of_ble_eq_true rfl, Nat.le_of_ble_eq_true rfl⟩ rfl rfl hl.1 (lv_room (Nat.le_of_ble_eq_true rfl)) dX1_carry_33 rfl (fun H locs hW => ?_) ⟨Nat.zero_le _, Nat.zero_le _⟩
        obtain ⟨C1, eC1⟩ : ∃ z, z = wkC Cj := ⟨_, rfl⟩
        rw [← eC1] at hW
        refine zb_ne (tgt := 42) hx hb (cF Cj 1 0 2 ≠ 0) rfl dX1_carry_36 (by decide) (fun h36 => ?_) (fun h36 => ?_)
        · refine lv_aload_n hx hb dX1_carry_42 rfl (lv_at hl 0 rfl) ?_
          refine lv_dup hx hb dX1_carry_43 rfl ?_
          refine g3 (k := 7) (v := .int (nI (cN C1 3 d 7))) hC hW hd (by decide) mF_X1_48 rfl dX1_carry_44 ?_
          refine lv_iconst (v := 1) hx hb dX1_carry_47 (by decide) ?_
          refine zi_add (i := cN C1 3 d 7) (j := 1) hx hb rfl rfl dX1_carry_48 ?_
          refine p3N (k := 7) (v := cN C1 3 d 7 + 1) hC hW hd (by decide) rfl mF_X1_48 dX1_carry_49 (fun _ eS H locs hW => ?_)
          subst eS
          refine lv_goto (tgt := 21) hx hb dX1_carry_52 (by decide) ?_
          exact ih (sN C1 3 d 7 (cN C1 3 d 7 + 1)) (by rw [cN_sN, if_pos ⟨rfl, rfl, rfl⟩, eC1, wkC_N]; omega) (by rw [← hD, carL, if_pos h36, eC1]) _ _ _ hW (lv_sub hl [0, 1, 2] rfl)
        · refine lv_bipush (v := (-4)) hx hb dX1_carry_39 (by decide) ?_
          have hD2 : carC C d t = (-4, C1) := by unfold carC; rw [← hD, carL, if_neg h36, eC1]; rfl
          rw [hD2] at hE
          exact hE hW rfl dX1_carry_41
  exact lp (dist (cN C 9 t 0) d) (sN (sN (sM C d (some t)) 3 d 8 0) 3 d 7 0) (by simp [cN_sN]) rfl _ _ _ hW (lv_sub hl [1, 2, 0] rfl)

set_option maxHeartbeats 4000000 in
set_option maxRecDepth 100000 in
theorem c_X1_windTo (l : Launch) (G : GG) (C : CS) (M : MS) {d : Nat} (hd : d < 3) {q : Nat} (hq : cN C 3 d 8 ≤ q) (hq2 : q < 2 ^ 31) : Ct l G yX1_windTo cX1_windTo 2 (some .int) 1 20 [.ref (zad G 3 d), .int (nI q)] C M (some (.int ((windC C d q).1))) ((windC C d q).2) M := by
  refine Ct_i (by decide) (Nat.le_of_ble_eq_true rfl) (fun {p e s m args below meth c A Q ls} hC hW hl hE => ?_)
  have hx := hC.1
  have hb := hC.2.1
  have hl : lv_has ls 2 [(0, .ref (zad G 3 d)), (1, .int (nI q))] := hl
  have lp : ∀ (k : Nat) (Cj : CS), cN Cj 3 d 8 + k = q → windL d k Cj = windC C d q → ∀ (H : Heap) (locs : List Loc) (ls : Array Slot), Wd G s A s.heap H locs Cj M → lv_has ls 2 [(0, .ref (zad G 3 d)), (1, .int (nI q))] → W p l e { frames := 1, cells := 0, slots := 0, locals := 20 } s m args below meth c H locs 0 0 Q (F0 m 0 ls []) := by
    intro k
    induction k with
    | zero =>
      intro Cj hk hD H locs ls hW hl
      refine lv_aload_n hx hb dX1_windTo_0 rfl (lv_at hl 0 rfl) ?_
      refine g3 (k := 8) (v := .int (nI (cN Cj 3 d 8))) hC hW hd (by decide) mF_X1_41 rfl dX1_windTo_1 ?_
      refine lv_iload_n hx hb dX1_windTo_4 rfl (lv_at hl 1 rfl) ?_
      refine zc_ge (i := cN Cj 3 d 8) (j := q) (tgt := 34) hx hb rfl rfl (by omega) (by omega) dX1_windTo_5 (by decide) (fun h5 => ?_) (fun h5 => ?_)
      · refine lv_iconst (v := 0) hx hb dX1_windTo_34 (by decide) ?_
        have hD2 : windC C d q = (0, Cj) := hD.symm
        rw [hD2] at hE
        exact hE hW rfl dX1_windTo_35
      · exact absurd h5 (by omega)
    | succ k ih =>
      intro Cj hk hD H locs ls hW hl
      refine lv_aload_n hx hb dX1_windTo_0 rfl (lv_at hl 0 rfl) ?_
      refine g3 (k := 8) (v := .int (nI (cN Cj 3 d 8))) hC hW hd (by decide) mF_X1_41 rfl dX1_windTo_1 ?_
      refine lv_iload_n hx hb dX1_windTo_4 rfl (lv_at hl 1 rfl) ?_
      refine zc_ge (i := cN Cj 3 d 8) (j := q) (tgt := 34) hx hb rfl rfl (by omega) (by omega) dX1_windTo_5 (by decide) (fun h5 => ?_) (fun h5 => ?_)
      · exact absurd h5 (by omega)
      · refine lv_aload_n hx hb dX1_windTo_8 rfl (lv_at hl 0 rfl) ?_
        refine g3 (k := 1) (v := .ref (zad G 1 0)) hC hW hd (by decide) mF_X1_18 rfl dX1_windTo_9 ?_
        refine z_callV (As := []) (rest := []) (st1 := [.int (bI (cF Cj 1 0 2 ≠ 0))]) hC hW LL_1 rfl rfl rfl (c_X2_work l G Cj M) mw_X2_work mv_X2_work mM_X1_51 ⟨Nat.le_of_ble_eq_true rfl, Nat.le_of_ble_eq_true rfl⟩ rfl rfl hl.1 (lv_room (Nat.le_of_ble_eq_true rfl)) dX1_windTo_12 rfl (fun H locs hW => ?_) ⟨Nat.zero_le _, Nat.zero_le _⟩
        obtain ⟨C1, eC1⟩ : ∃ z, z = wkC Cj := ⟨_, rfl⟩
        rw [← eC1] at hW
        refine zb_ne (tgt := 21) hx hb (cF Cj 1 0 2 ≠ 0) rfl dX1_windTo_15 (by decide) (fun h15 => ?_) (fun h15 => ?_)
        · refine lv_aload_n hx hb dX1_windTo_21 rfl (lv_at hl 0 rfl) ?_
          refine lv_dup hx hb dX1_windTo_22 rfl ?_
          refine g3 (k := 8) (v := .int (nI (cN C1 3 d 8))) hC hW hd (by decide) mF_X1_41 rfl dX1_windTo_23 ?_
          refine lv_iconst (v := 1) hx hb dX1_windTo_26 (by decide) ?_
          refine zi_add (i := cN C1 3 d 8) (j := 1) hx hb rfl rfl dX1_windTo_27 ?_
          refine p3N (k := 8) (v := cN C1 3 d 8 + 1) hC hW hd (by decide) rfl mF_X1_41 dX1_windTo_28 (fun _ eS H locs hW => ?_)
          subst eS
          refine lv_goto (tgt := 0) hx hb dX1_windTo_31 (by decide) ?_
          exact ih (sN C1 3 d 8 (cN C1 3 d 8 + 1)) (by rw [cN_sN, if_pos ⟨rfl, rfl, rfl⟩, eC1, wkC_N]; omega) (by rw [← hD, windL, if_pos h15, eC1]) _ _ _ hW (lv_sub hl [0, 1] rfl)
        · refine lv_bipush (v := (-4)) hx hb dX1_windTo_18 (by decide) ?_
          have hD2 : windC C d q = (-4, C1) := by rw [← hD, windL, if_neg h15, eC1]
          rw [hD2] at hE
          exact hE hW rfl dX1_windTo_20
  exact lp (q - cN C 3 d 8) C (by omega) rfl _ _ _ hW (lv_sub hl [0, 1] rfl)

set_option maxHeartbeats 4000000 in
set_option maxRecDepth 100000 in
theorem c_X1_passBlock (l : Launch) (G : GG) (C : CS) (M : MS) {d : Nat} (hd : d < 3) : Ct l G yX1_passBlock cX1_passBlock 1 (some .int) 1 20 [.ref (zad G 3 d)] C M (some (.int ((pasC C d).1))) ((pasC C d).2) M := by
  refine Ct_i (by decide) (Nat.le_of_ble_eq_true rfl) (fun {p e s m args below meth c A Q ls} hC hW hl hE => ?_)
  have hx := hC.1
  have hb := hC.2.1
  have hl : lv_has ls 1 [(0, .ref (zad G 3 d))] := hl
  refine lv_aload_n hx hb dX1_passBlock_0 rfl (lv_at hl 0 rfl) ?_
  refine g3 (k := 5) (v := .int (cF C 3 d 5)) hC hW hd (by decide) mF_X1_9 rfl dX1_passBlock_1 ?_
  refine lv_if_ne (tgt := 15) hx hb dX1_passBlock_4 (by decide) (fun h4 => ?_) (fun h4 => ?_)
  · refine lv_aload_n hx hb dX1_passBlock_15 rfl (lv_at hl 0 rfl) ?_
    refine g3 (k := 1) (v := .ref (zad G 1 0)) hC hW hd (by decide) mF_X1_18 rfl dX1_passBlock_16 ?_
    refine z_callV (As := []) (rest := []) (st1 := [.int (bI (cF C 1 0 2 ≠ 0))]) hC hW LL_1 rfl rfl rfl (c_X2_work l G C M) mw_X2_work mv_X2_work mM_X1_51 ⟨Nat.le_of_ble_eq_true rfl, Nat.le_of_ble_eq_true rfl⟩ rfl rfl hl.1 (lv_room (Nat.le_of_ble_eq_true rfl)) dX1_passBlock_19 rfl (fun H locs hW => ?_) ⟨Nat.zero_le _, Nat.zero_le _⟩
    obtain ⟨C1, eC1⟩ : ∃ z, z = wkC C := ⟨_, rfl⟩
    rw [← eC1] at hW
    refine zb_ne (tgt := 28) hx hb (cF C 1 0 2 ≠ 0) rfl dX1_passBlock_22 (by decide) (fun h22 => ?_) (fun h22 => ?_)
    · refine lv_aload_n hx hb dX1_passBlock_28 rfl (lv_at hl 0 rfl) ?_
      refine g3 (k := 5) (v := .int (cF C1 3 d 5)) hC hW hd (by decide) mF_X1_9 rfl dX1_passBlock_29 ?_
      refine lv_if_le (tgt := 45) hx hb dX1_passBlock_32 (by decide) (fun h32 => ?_) (fun h32 => ?_)
      · refine lv_aload_n hx hb dX1_passBlock_45 rfl (lv_at hl 0 rfl) ?_
        refine lv_dup hx hb dX1_passBlock_46 rfl ?_
        refine g3 (k := 3) (v := .int (cF C1 3 d 3)) hC hW hd (by decide) mF_X1_63 rfl dX1_passBlock_47 ?_
        refine lv_iconst (v := 1) hx hb dX1_passBlock_50 (by decide) ?_
        refine lv_iadd hx hb dX1_passBlock_51 ?_
        refine p3F (k := 3) (v := (cF C1 3 d 3) + 1) hC hW hd (by decide) mF_X1_63 dX1_passBlock_52 (fun _ eS H locs hW => ?_)
        subst eS
        refine lv_aload_n hx hb dX1_passBlock_55 rfl (lv_at hl 0 rfl) ?_
        refine lv_dup hx hb dX1_passBlock_56 rfl ?_
        refine g3 (k := 8) (v := .int (nI (cN C1 3 d 8))) hC hW hd (by decide) mF_X1_41 rfl dX1_passBlock_57 ?_
        refine lv_iconst (v := 1) hx hb dX1_passBlock_60 (by decide) ?_
        refine zi_add (i := cN C1 3 d 8) (j := 1) hx hb rfl rfl dX1_passBlock_61 ?_
        refine p3N (k := 8) (v := cN C1 3 d 8 + 1) hC hW hd (by decide) rfl mF_X1_41 dX1_passBlock_62 (fun _ eS H locs hW => ?_)
        subst eS
        refine lv_iconst (v := 0) hx hb dX1_passBlock_65 (by decide) ?_
        have hD2 : pasC C d = (0, sN (sF C1 3 d 3 ((cF C1 3 d 3) + 1)) 3 d 8 (cN C1 3 d 8 + 1)) := by unfold pasC pas2; rw [if_pos h4, if_pos h22, ← eC1]; unfold pas1; rw [if_pos h32]
        rw [hD2] at hE
        exact hE hW rfl dX1_passBlock_66
      · refine lv_aload_n hx hb dX1_passBlock_35 rfl (lv_at hl 0 rfl) ?_
        refine lv_dup hx hb dX1_passBlock_36 rfl ?_
        refine g3 (k := 5) (v := .int (cF C1 3 d 5)) hC hW hd (by decide) mF_X1_9 rfl dX1_passBlock_37 ?_
        refine lv_iconst (v := 1) hx hb dX1_passBlock_40 (by decide) ?_
        refine lv_isub hx hb dX1_passBlock_41 ?_
        refine p3F (k := 5) (v := (cF C1 3 d 5) - 1) hC hW hd (by decide) mF_X1_9 dX1_passBlock_42 (fun _ eS H locs hW => ?_)
        subst eS
        refine lv_aload_n hx hb dX1_passBlock_45 rfl (lv_at hl 0 rfl) ?_
        refine lv_dup hx hb dX1_passBlock_46 rfl ?_
        refine g3 (k := 3) (v := .int (cF C1 3 d 3)) hC hW hd (by decide) mF_X1_63 rfl dX1_passBlock_47 ?_
        refine lv_iconst (v := 1) hx hb dX1_passBlock_50 (by decide) ?_
        refine lv_iadd hx hb dX1_passBlock_51 ?_
        refine p3F (k := 3) (v := (cF C1 3 d 3) + 1) hC hW hd (by decide) mF_X1_63 dX1_passBlock_52 (fun _ eS H locs hW => ?_)
        subst eS
        refine lv_aload_n hx hb dX1_passBlock_55 rfl (lv_at hl 0 rfl) ?_
        refine lv_dup hx hb dX1_passBlock_56 rfl ?_
        refine g3 (k := 8) (v := .int (nI (cN C1 3 d 8))) hC hW hd (by decide) mF_X1_41 rfl dX1_passBlock_57 ?_
        refine lv_iconst (v := 1) hx hb dX1_passBlock_60 (by decide) ?_
        refine zi_add (i := cN C1 3 d 8) (j := 1) hx hb rfl rfl dX1_passBlock_61 ?_
        refine p3N (k := 8) (v := cN C1 3 d 8 + 1) hC hW hd (by decide) rfl mF_X1_41 dX1_passBlock_62 (fun _ eS H locs hW => ?_)
        subst eS
        refine lv_iconst (v := 0) hx hb dX1_passBlock_65 (by decide) ?_
        have hD2 : pasC C d = (0, sN (sF (sF C1 3 d 5 ((cF C1 3 d 5) - 1)) 3 d 3 ((cF C1 3 d 3) + 1)) 3 d 8 (cN C1 3 d 8 + 1)) := by unfold pasC pas2; rw [if_pos h4, if_pos h22, ← eC1]; unfold pas1; rw [if_neg h32]; rfl
        rw [hD2] at hE
        exact hE hW rfl dX1_passBlock_66
    · refine lv_bipush (v := (-4)) hx hb dX1_passBlock_25 (by decide) ?_
      have hD2 : pasC C d = (-4, C1) := by unfold pasC; rw [if_pos h4, if_neg h22, eC1]
      rw [hD2] at hE
      exact hE hW rfl dX1_passBlock_27
  · refine lv_aload_n hx hb dX1_passBlock_7 rfl (lv_at hl 0 rfl) ?_
    refine lv_iconst (v := 1) hx hb dX1_passBlock_8 (by decide) ?_
    refine p3J (v := 1) hC hW hd (by decide) mF_X1_22 dX1_passBlock_9 (fun _ eS H locs hW => ?_)
    subst eS
    refine lv_bipush (v := (-5)) hx hb dX1_passBlock_12 (by decide) ?_
    have hD2 : pasC C d = (-5, sF C 3 d 4 1) := by unfold pasC; rw [if_neg (fun q => q h4)]
    rw [hD2] at hE
    exact hE hW rfl dX1_passBlock_14

set_option maxHeartbeats 4000000 in
set_option maxRecDepth 100000 in
theorem c_X1_readBlock (l : Launch) (G : GG) (C : CS) (M : MS) {d : Nat} (hd : d < 3) {t : Nat} (ht : t < zn G) (hM : cM C d = some t) (hp : cN C 3 d 8 < 2 ^ 31) : Ct l G yX1_readBlock cX1_readBlock 3 (some .int) 2 40 [.ref (zad G 3 d)] C M (some (.int ((reaC C d t).1))) ((reaC C d t).2) M := by
  refine Ct_i (by decide) (Nat.le_of_ble_eq_true rfl) (fun {p e s m args below meth c A Q ls} hC hW hl hE => ?_)
  have hx := hC.1
  have hb := hC.2.1
  have hl : lv_has ls 3 [(0, .ref (zad G 3 d))] := hl
  refine lv_aload_n hx hb dX1_readBlock_0 rfl (lv_at hl 0 rfl) ?_
  refine g3 (k := 8) (v := .int (nI (cN C 3 d 8))) hC hW hd (by decide) mF_X1_41 rfl dX1_readBlock_1 ?_
  refine lv_istore_n (lv' := [(1, .int (nI (cN C 3 d 8))), (0, .ref (zad G 3 d))]) hx hb dX1_readBlock_4 rfl hl (by decide) rfl (fun ls hl => ?_)
  refine lv_aload_n hx hb dX1_readBlock_5 rfl (lv_at hl 1 rfl) ?_
  refine z_callV (As := []) (rest := []) (st1 := [.int ((pasC C d).1)]) hC hW (LL_3 hd) rfl rfl rfl (c_X1_passBlock l G C M hd) mw_X1_passBlock mv_X1_passBlock mM_X1_66 ⟨Nat.le_of_ble_eq_true rfl, Nat.le_of_ble_eq_true rfl⟩ rfl rfl hl.1 (lv_room (Nat.le_of_ble_eq_true rfl)) dX1_readBlock_6 rfl (fun H locs hW => ?_) ⟨Nat.zero_le _, Nat.zero_le _⟩
  obtain ⟨C1, eC1⟩ : ∃ z, z = (pasC C d).2 := ⟨_, rfl⟩
  rw [← eC1] at hW
  have hM1 : cM C1 d = some t := by rw [eC1, pasC_M]; exact hM
  refine lv_istore_n (lv' := [(2, .int ((pasC C d).1)), (1, .int (nI (cN C 3 d 8))), (0, .ref (zad G 3 d))]) hx hb dX1_readBlock_9 rfl hl (by decide) rfl (fun ls hl => ?_)
  refine lv_iload_n hx hb dX1_readBlock_10 rfl (lv_at hl 0 rfl) ?_
  refine lv_if_ne (tgt := 35) hx hb dX1_readBlock_11 (by decide) (fun h11 => ?_) (fun h11 => ?_)
  · refine lv_iload_n hx hb dX1_readBlock_35 rfl (lv_at hl 0 rfl) ?_
    have hD2 : reaC C d t = ((pasC C d).1, C1) := by unfold reaC; rw [if_pos h11, eC1]
    rw [hD2] at hE
    exact hE hW rfl dX1_readBlock_36
  · refine lv_aload_n hx hb dX1_readBlock_14 rfl (lv_at hl 2 rfl) ?_
    refine g3 (k := 6) (v := .ref (zad G 9 t)) hC hW hd (by decide) mF_X1_26 (by simp [fsD, va_rf, hM1, cF_sF, cN_sN, cB_sB, cM_sM, cN_sF, cB_sF, cM_sF, cF_sN, cB_sN, cM_sN, cF_sB, cN_sB, cM_sB, cF_sM, cN_sM, cB_sM, mF_smF, mA_smF, mF_smA, mA_smA]) dX1_readBlock_15 ?_
    refine lv_ifnull hx hb dX1_readBlock_18 ?_
    refine lv_aload_n hx hb dX1_readBlock_21 rfl (lv_at hl 2 rfl) ?_
    refine g3 (k := 6) (v := .ref (zad G 9 t)) hC hW hd (by decide) mF_X1_26 (by simp [fsD, va_rf, hM1, cF_sF, cN_sN, cB_sB, cM_sM, cN_sF, cB_sF, cM_sF, cF_sN, cB_sN, cM_sN, cF_sB, cN_sB, cM_sB, cF_sM, cN_sM, cB_sM, mF_smF, mA_smF, mF_smA, mA_smA]) dX1_readBlock_22 ?_
    refine lv_iload_n hx hb dX1_readBlock_25 rfl (lv_at hl 1 rfl) ?_
    refine z_callV (As := [.int (nI (cN C 3 d 8))]) (rest := []) (st1 := [.int (bI (dmgP C1 t (cN C 3 d 8)))]) hC hW (LL_9 ht) rfl rfl rfl (c_X3_isDamaged l G C1 M ht (a := cN C 3 d 8) (by omega)) mw_X3_isDamaged mv_X3_isDamaged mM_X1_70 ⟨Nat.le_of_ble_eq_true rfl, Nat.le_of_ble_eq_true rfl⟩ rfl rfl hl.1 (lv_room (Nat.le_of_ble_eq_true rfl)) dX1_readBlock_26 rfl (fun H locs hW => ?_) ⟨Nat.zero_le _, Nat.zero_le _⟩
    refine zb_eq (tgt := 35) hx hb (dmgP C1 t (cN C 3 d 8)) rfl dX1_readBlock_29 (by decide) (fun h29 => ?_) (fun h29 => ?_)
    · refine lv_iload_n hx hb dX1_readBlock_35 rfl (lv_at hl 0 rfl) ?_
      have hD2 : reaC C d t = ((pasC C d).1, C1) := by unfold reaC; rw [if_neg (fun q => q h11), ← eC1, if_neg h29]
      rw [hD2] at hE
      exact hE hW rfl dX1_readBlock_36
    · refine lv_bipush (v := (-7)) hx hb dX1_readBlock_32 (by decide) ?_
      have hD2 : reaC C d t = (-7, C1) := by unfold reaC; rw [if_neg (fun q => q h11), ← eC1, if_pos h29]
      rw [hD2] at hE
      exact hE hW rfl dX1_readBlock_34

set_option maxHeartbeats 4000000 in
set_option maxRecDepth 100000 in
theorem c_X1_writeBlock (l : Launch) (G : GG) (C : CS) (M : MS) {d : Nat} (hd : d < 3) {t : Nat} (ht : t < zn G) (hM : cM C d = some t) (hI : Iv C) {b : Nat} (hb0 : isB (zn G) b) {a : Nat} (ha : a < 2 ^ 31) : Ct l G yX1_writeBlock cX1_writeBlock 4 (some .int) 2 43 [.ref (zad G 3 d), .ref (zad G 5 b), .int (nI a)] C M (some (.int ((wriC C d t b a).1))) ((wriC C d t b a).2) M := by
  refine Ct_i (by decide) (Nat.le_of_ble_eq_true rfl) (fun {p e s m args below meth c A Q ls} hC hW hl hE => ?_)
  have hx := hC.1
  have hb := hC.2.1
  have hl : lv_has ls 4 [(0, .ref (zad G 3 d)), (1, .ref (zad G 5 b)), (2, .int (nI a))] := hl
  refine lv_aload_n hx hb dX1_writeBlock_0 rfl (lv_at hl 0 rfl) ?_
  refine g3 (k := 6) (v := .ref (zad G 9 t)) hC hW hd (by decide) mF_X1_26 (by simp [fsD, va_rf, hM, cF_sF, cN_sN, cB_sB, cM_sM, cN_sF, cB_sF, cM_sF, cF_sN, cB_sN, cM_sN, cF_sB, cN_sB, cM_sB, cF_sM, cN_sM, cB_sM, mF_smF, mA_smF, mF_smA, mA_smA]) dX1_writeBlock_1 ?_
  refine lv_ifnull hx hb dX1_writeBlock_4 ?_
  refine lv_aload_n hx hb dX1_writeBlock_7 rfl (lv_at hl 0 rfl) ?_
  refine g3 (k := 6) (v := .ref (zad G 9 t)) hC hW hd (by decide) mF_X1_26 (by simp [fsD, va_rf, hM, cF_sF, cN_sN, cB_sB, cM_sM, cN_sF, cB_sF, cM_sF, cF_sN, cB_sN, cM_sN, cF_sB, cN_sB, cM_sB, cF_sM, cN_sM, cB_sM, mF_smF, mA_smF, mF_smA, mA_smA]) dX1_writeBlock_8 ?_
  refine g9 (k := 1) (v := .ref (zad G 5 t)) hC hW ht (by decide) mF_X1_74 rfl dX1_writeBlock_11 ?_
  refine z_callV (As := []) (rest := []) (st1 := [.int (bI (cap t ≤ cN C 5 t 3))]) hC hW (LL_5 (Or.inl ht)) rfl rfl rfl (c_X0_isFull l G C M (Or.inl ht) (hI.1 t)) mw_X0_isFull mv_X0_isFull mM_X1_78 ⟨Nat.le_of_ble_eq_true rfl, Nat.le_of_ble_eq_true rfl⟩ rfl rfl hl.1 (lv_room (Nat.le_of_ble_eq_true rfl)) dX1_writeBlock_14 rfl (fun H locs hW => ?_) ⟨Nat.zero_le _, Nat.zero_le _⟩
  refine zb_eq (tgt := 23) hx hb (cap t ≤ cN C 5 t 3) rfl dX1_writeBlock_17 (by decide) (fun h17 => ?_) (fun h17 => ?_)
  · refine lv_aload_n hx hb dX1_writeBlock_23 rfl (lv_at hl 0 rfl) ?_
    refine z_callV (As := []) (rest := []) (st1 := [.int ((pasC C d).1)]) hC hW (LL_3 hd) rfl rfl rfl (c_X1_passBlock l G C M hd) mw_X1_passBlock mv_X1_passBlock mM_X1_66 ⟨Nat.le_of_ble_eq_true rfl, Nat.le_of_ble_eq_true rfl⟩ rfl rfl hl.1 (lv_room (Nat.le_of_ble_eq_true rfl)) dX1_writeBlock_24 rfl (fun H locs hW => ?_) ⟨Nat.zero_le _, Nat.zero_le _⟩
    obtain ⟨C1, eC1⟩ : ∃ z, z = (pasC C d).2 := ⟨_, rfl⟩
    rw [← eC1] at hW
    have hM1 : cM C1 d = some t := by rw [eC1, pasC_M]; exact hM
    have hI1 : Iv C1 := by rw [eC1]; exact Iv_pas hI
    refine lv_istore_n (lv' := [(3, .int ((pasC C d).1)), (0, .ref (zad G 3 d)), (1, .ref (zad G 5 b)), (2, .int (nI a))]) hx hb dX1_writeBlock_27 rfl hl (by decide) rfl (fun ls hl => ?_)
    refine lv_iload_n hx hb dX1_writeBlock_28 rfl (lv_at hl 0 rfl) ?_
    refine lv_if_ne (tgt := 57) hx hb dX1_writeBlock_29 (by decide) (fun h29 => ?_) (fun h29 => ?_)
    · refine lv_iload_n hx hb dX1_writeBlock_57 rfl (lv_at hl 0 rfl) ?_
      have hD2 : wriC C d t b a = ((pasC C d).1, C1) := by unfold wriC; rw [if_neg h17, if_pos h29, eC1]
      rw [hD2] at hE
      exact hE hW rfl dX1_writeBlock_58
    · refine lv_aload_n hx hb dX1_writeBlock_32 rfl (lv_at hl 1 rfl) ?_
      refine g3 (k := 6) (v := .ref (zad G 9 t)) hC hW hd (by decide) mF_X1_26 (by simp [fsD, va_rf, hM1, cF_sF, cN_sN, cB_sB, cM_sM, cN_sF, cB_sF, cM_sF, cF_sN, cB_sN, cM_sN, cF_sB, cN_sB, cM_sB, cF_sM, cN_sM, cB_sM, mF_smF, mA_smF, mF_smA, mA_smA]) dX1_writeBlock_33 ?_
      refine g9 (k := 1) (v := .ref (zad G 5 t)) hC hW ht (by decide) mF_X1_74 rfl dX1_writeBlock_36 ?_
      refine lv_aload_n hx hb dX1_writeBlock_39 rfl (lv_at hl 2 rfl) ?_
      refine lv_iload_n hx hb dX1_writeBlock_40 rfl (lv_at hl 3 rfl) ?_
      refine z_callV (As := [.int (nI a)]) (rest := [.ref (zad G 5 t)]) (st1 := [.int (kAt C1 6 b a), .ref (zad G 5 t)]) hC hW (LL_5 hb0) rfl rfl rfl (c_X0_kindAt l G C1 M hb0 (hI1.1 b) ha) mw_X0_kindAt mv_X0_kindAt mM_X1_83 ⟨Nat.le_of_ble_eq_true rfl, Nat.le_of_ble_eq_true rfl⟩ rfl rfl hl.1 (lv_room (Nat.le_of_ble_eq_true rfl)) dX1_writeBlock_41 rfl (fun H locs hW => ?_) ⟨Nat.zero_le _, Nat.zero_le _⟩
      refine lv_aload_n hx hb dX1_writeBlock_44 rfl (lv_at hl 2 rfl) ?_
      refine lv_iload_n hx hb dX1_writeBlock_45 rfl (lv_at hl 3 rfl) ?_
      refine z_callV (As := [.int (nI a)]) (rest := [.int (kAt C1 6 b a), .ref (zad G 5 t)]) (st1 := [.int (kAt C1 7 b a), .int (kAt C1 6 b a), .ref (zad G 5 t)]) hC hW (LL_5 hb0) rfl rfl rfl (c_X0_valueAt l G C1 M hb0 (hI1.1 b) ha) mw_X0_valueAt mv_X0_valueAt mM_X1_86 ⟨Nat.le_of_ble_eq_true rfl, Nat.le_of_ble_eq_true rfl⟩ rfl rfl hl.1 (lv_room (Nat.le_of_ble_eq_true rfl)) dX1_writeBlock_46 rfl (fun H locs hW => ?_) ⟨Nat.zero_le _, Nat.zero_le _⟩
      refine lv_aload_n hx hb dX1_writeBlock_49 rfl (lv_at hl 2 rfl) ?_
      refine lv_iload_n hx hb dX1_writeBlock_50 rfl (lv_at hl 3 rfl) ?_
      refine z_callV (As := [.int (nI a)]) (rest := [.int (kAt C1 7 b a), .int (kAt C1 6 b a), .ref (zad G 5 t)]) (st1 := [.int (kAt C1 8 b a), .int (kAt C1 7 b a), .int (kAt C1 6 b a), .ref (zad G 5 t)]) hC hW (LL_5 hb0) rfl rfl rfl (c_X0_sizeAt l G C1 M hb0 (hI1.1 b) ha) mw_X0_sizeAt mv_X0_sizeAt mM_X1_89 ⟨Nat.le_of_ble_eq_true rfl, Nat.le_of_ble_eq_true rfl⟩ rfl rfl hl.1 (lv_room (Nat.le_of_ble_eq_true rfl)) dX1_writeBlock_51 rfl (fun H locs hW => ?_) ⟨Nat.zero_le _, Nat.zero_le _⟩
      refine z_callV (As := [.int (kAt C1 6 b a), .int (kAt C1 7 b a), .int (kAt C1 8 b a)]) (rest := []) (st1 := []) hC hW (LL_5 (Or.inl ht)) rfl rfl rfl (c_X0_add l G C1 M (Or.inl ht) (hI1.1 t) (kAt C1 6 b a) (kAt C1 7 b a) (kAt C1 8 b a)) mw_X0_add mv_X0_add mM_X1_92 ⟨Nat.le_of_ble_eq_true rfl, Nat.le_of_ble_eq_true rfl⟩ rfl rfl hl.1 (lv_room (Nat.le_of_ble_eq_true rfl)) dX1_writeBlock_54 rfl (fun H locs hW => ?_) ⟨Nat.zero_le _, Nat.zero_le _⟩
      obtain ⟨C2, eC2⟩ : ∃ z, z = addC C1 t (kAt C1 6 b a) (kAt C1 7 b a) (kAt C1 8 b a) := ⟨_, rfl⟩
      rw [← eC2] at hW
      refine lv_iload_n hx hb dX1_writeBlock_57 rfl (lv_at hl 0 rfl) ?_
      have hD2 : wriC C d t b a = ((pasC C d).1, C2) := by unfold wriC; rw [if_neg h17, if_neg (fun q => q h29), ← eC1, ← eC2]
      rw [hD2] at hE
      exact hE hW rfl dX1_writeBlock_58
  · refine lv_bipush (v := (-6)) hx hb dX1_writeBlock_20 (by decide) ?_
    have hD2 : wriC C d t b a = (-6, C) := by unfold wriC; rw [if_pos h17]
    rw [hD2] at hE
    exact hE hW rfl dX1_writeBlock_22

set_option maxHeartbeats 4000000 in
set_option maxRecDepth 100000 in
theorem c_X1_closeWithVoid (l : Launch) (G : GG) (C : CS) (M : MS) {d : Nat} (hd : d < 3) (hI : Iv C) {b : Nat} (hb0 : isB (zn G) b) : Ct l G yX1_closeWithVoid cX1_closeWithVoid 2 none 2 43 [.ref (zad G 3 d), .ref (zad G 5 b)] C M none (cloC C d b) M := by
  refine Ct_v (by decide) (Nat.le_of_ble_eq_true rfl) (fun {p e s m args below meth c A Q ls} hC hW hl hE => ?_)
  have hx := hC.1
  have hb := hC.2.1
  have hl : lv_has ls 2 [(0, .ref (zad G 3 d)), (1, .ref (zad G 5 b))] := hl
  refine lv_aload_n hx hb dX1_closeWithVoid_0 rfl (lv_at hl 0 rfl) ?_
  refine g3 (k := 4) (v := .int (cF C 3 d 4)) hC hW hd (by decide) mF_X1_22 rfl dX1_closeWithVoid_1 ?_
  refine lv_if_ne (tgt := 14) hx hb dX1_closeWithVoid_4 (by decide) (fun h4 => ?_) (fun h4 => ?_)
  · have hD2 : cloC C d b = C := by unfold cloC; rw [if_pos h4]
    rw [hD2] at hE
    exact hE hW dX1_closeWithVoid_14
  · refine lv_aload_n hx hb dX1_closeWithVoid_7 rfl (lv_at hl 1 rfl) ?_
    refine z_callV (As := []) (rest := []) (st1 := [.int (bI (cap b ≤ cN C 5 b 3))]) hC hW (LL_5 hb0) rfl rfl rfl (c_X0_isFull l G C M hb0 (hI.1 b)) mw_X0_isFull mv_X0_isFull mM_X1_78 ⟨Nat.le_of_ble_eq_true rfl, Nat.le_of_ble_eq_true rfl⟩ rfl rfl hl.1 (lv_room (Nat.le_of_ble_eq_true rfl)) dX1_closeWithVoid_8 rfl (fun H locs hW => ?_) ⟨Nat.zero_le _, Nat.zero_le _⟩
    refine zb_eq (tgt := 15) hx hb (cap b ≤ cN C 5 b 3) rfl dX1_closeWithVoid_11 (by decide) (fun h11 => ?_) (fun h11 => ?_)
    · refine lv_aload_n hx hb dX1_closeWithVoid_15 rfl (lv_at hl 0 rfl) ?_
      refine g3 (k := 1) (v := .ref (zad G 1 0)) hC hW hd (by decide) mF_X1_18 rfl dX1_closeWithVoid_16 ?_
      refine lv_dup hx hb dX1_closeWithVoid_19 rfl ?_
      refine g1 (k := 1) (v := .int (cF C 1 0 1)) hC hW (by decide) mF_X1_103 rfl dX1_closeWithVoid_20 ?_
      refine lv_iconst (v := 1) hx hb dX1_closeWithVoid_23 (by decide) ?_
      refine lv_iadd hx hb dX1_closeWithVoid_24 ?_
      refine p1 (k := 1) (v := (cF C 1 0 1) + 1) hC hW (by decide) mF_X1_103 dX1_closeWithVoid_25 (fun _ eS H locs hW => ?_)
      subst eS
      refine lv_aload_n hx hb dX1_closeWithVoid_28 rfl (lv_at hl 1 rfl) ?_
      refine lv_iconst (v := 4) hx hb dX1_closeWithVoid_29 (by decide) ?_
      refine lv_iconst (v := 0) hx hb dX1_closeWithVoid_30 (by decide) ?_
      refine lv_iconst (v := 0) hx hb dX1_closeWithVoid_31 (by decide) ?_
      refine z_callV (As := [.int 4, .int 0, .int 0]) (rest := []) (st1 := []) hC hW (LL_5 hb0) rfl rfl rfl (c_X0_add l G (sF C 1 0 1 ((cF C 1 0 1) + 1)) M hb0 (hI.1 b) 4 0 0) mw_X0_add mv_X0_add mM_X1_92 ⟨Nat.le_of_ble_eq_true rfl, Nat.le_of_ble_eq_true rfl⟩ rfl rfl hl.1 (lv_room (Nat.le_of_ble_eq_true rfl)) dX1_closeWithVoid_32 rfl (fun H locs hW => ?_) ⟨Nat.zero_le _, Nat.zero_le _⟩
      obtain ⟨C1, eC1⟩ : ∃ z, z = addC (sF C 1 0 1 ((cF C 1 0 1) + 1)) b 4 0 0 := ⟨_, rfl⟩
      rw [← eC1] at hW
      refine lv_aload_n hx hb dX1_closeWithVoid_35 rfl (lv_at hl 0 rfl) ?_
      refine lv_aload_n hx hb dX1_closeWithVoid_36 rfl (lv_at hl 1 rfl) ?_
      refine g5 (k := 3) (v := .int (nI (cN C1 5 b 3))) hC hW hb0 (by decide) mF_X1_96 rfl dX1_closeWithVoid_37 ?_
      refine p3N (k := 8) (v := cN C1 5 b 3) hC hW hd (by decide) rfl mF_X1_41 dX1_closeWithVoid_40 (fun _ eS H locs hW => ?_)
      subst eS
      have hD2 : cloC C d b = sN C1 3 d 8 (cN C1 5 b 3) := by unfold cloC; rw [if_neg (fun q => q h4), if_neg h11, eC1]; rfl
      rw [hD2] at hE
      exact hE hW dX1_closeWithVoid_43
    · have hD2 : cloC C d b = C := by unfold cloC; rw [if_neg (fun q => q h4), if_pos h11]
      rw [hD2] at hE
      exact hE hW dX1_closeWithVoid_14

set_option maxHeartbeats 4000000 in
set_option maxRecDepth 100000 in
theorem c_X1_endWriting (l : Launch) (G : GG) (C : CS) (M : MS) {d : Nat} (hd : d < 3) {t : Nat} (ht : t < zn G) (hM : cM C d = some t) (hI : Iv C) {h : Nat} (hh : h < 2 ^ 31) (w : Int32) : Ct l G yX1_endWriting cX1_endWriting 3 (some .int) 3 64 [.ref (zad G 3 d), .int (nI h), .int w] C M (some (.int ((endC C d t h w).1))) ((endC C d t h w).2) M := by
  refine Ct_i (by decide) (Nat.le_of_ble_eq_true rfl) (fun {p e s m args below meth c A Q ls} hC hW hl hE => ?_)
  have hx := hC.1
  have hb := hC.2.1
  have hl : lv_has ls 3 [(0, .ref (zad G 3 d)), (1, .int (nI h)), (2, .int w)] := hl
  have hcp := cap_le t
  have he := hI.1 t
  refine lv_iload_n hx hb dX1_endWriting_0 rfl (lv_at hl 2 rfl) ?_
  refine lv_if_ne (tgt := 6) hx hb dX1_endWriting_1 (by decide) (fun h1 => ?_) (fun h1 => ?_)
  · refine lv_aload_n hx hb dX1_endWriting_6 rfl (lv_at hl 0 rfl) ?_
    refine g3 (k := 6) (v := .ref (zad G 9 t)) hC hW hd (by decide) mF_X1_26 (by simp [fsD, va_rf, hM, cF_sF, cN_sN, cB_sB, cM_sM, cN_sF, cB_sF, cM_sF, cF_sN, cB_sN, cM_sN, cF_sB, cN_sB, cM_sB, cF_sM, cN_sM, cB_sM, mF_smF, mA_smF, mF_smA, mA_smA]) dX1_endWriting_7 ?_
    refine lv_ifnull hx hb dX1_endWriting_10 ?_
    refine lv_aload_n hx hb dX1_endWriting_13 rfl (lv_at hl 0 rfl) ?_
    refine g3 (k := 6) (v := .ref (zad G 9 t)) hC hW hd (by decide) mF_X1_26 (by simp [fsD, va_rf, hM, cF_sF, cN_sN, cB_sB, cM_sM, cN_sF, cB_sF, cM_sF, cF_sN, cB_sN, cM_sN, cF_sB, cN_sB, cM_sB, cF_sM, cN_sM, cB_sM, mF_smF, mA_smF, mF_smA, mA_smA]) dX1_endWriting_14 ?_
    refine g9 (k := 1) (v := .ref (zad G 5 t)) hC hW ht (by decide) mF_X1_74 rfl dX1_endWriting_17 ?_
    refine g5 (k := 3) (v := .int (nI (cN C 5 t 3))) hC hW (Or.inl ht) (by decide) mF_X1_96 rfl dX1_endWriting_20 ?_
    refine lv_iload_n hx hb dX1_endWriting_23 rfl (lv_at hl 1 rfl) ?_
    refine zc_le (i := cN C 5 t 3) (j := h) (tgt := 38) hx hb rfl rfl (by omega) (by omega) dX1_endWriting_24 (by decide) (fun h24 => ?_) (fun h24 => ?_)
    · refine lv_iload_n hx hb dX1_endWriting_38 rfl (lv_at hl 2 rfl) ?_
      have hD2 : endC C d t h w = (w, C) := by unfold endC; rw [if_pos h1, if_pos h24]
      rw [hD2] at hE
      exact hE hW rfl dX1_endWriting_39
    · refine lv_aload_n hx hb dX1_endWriting_27 rfl (lv_at hl 0 rfl) ?_
      refine lv_aload_n hx hb dX1_endWriting_28 rfl (lv_at hl 0 rfl) ?_
      refine g3 (k := 6) (v := .ref (zad G 9 t)) hC hW hd (by decide) mF_X1_26 (by simp [fsD, va_rf, hM, cF_sF, cN_sN, cB_sB, cM_sM, cN_sF, cB_sF, cM_sF, cF_sN, cB_sN, cM_sN, cF_sB, cN_sB, cM_sB, cF_sM, cN_sM, cB_sM, mF_smF, mA_smF, mF_smA, mA_smA]) dX1_endWriting_29 ?_
      refine g9 (k := 1) (v := .ref (zad G 5 t)) hC hW ht (by decide) mF_X1_74 rfl dX1_endWriting_32 ?_
      refine z_callV (As := [.ref (zad G 5 t)]) (rest := []) (st1 := []) hC hW (LL_3 hd) rfl rfl rfl (c_X1_closeWithVoid l G C M hd hI (Or.inl ht)) mw_X1_closeWithVoid mv_X1_closeWithVoid mM_X1_99 ⟨Nat.le_of_ble_eq_true rfl, Nat.le_of_ble_eq_true rfl⟩ rfl rfl hl.1 (lv_room (Nat.le_of_ble_eq_true rfl)) dX1_endWriting_35 rfl (fun H locs hW => ?_) ⟨Nat.zero_le _, Nat.zero_le _⟩
      obtain ⟨C1, eC1⟩ : ∃ z, z = cloC C d t := ⟨_, rfl⟩
      rw [← eC1] at hW
      refine lv_iload_n hx hb dX1_endWriting_38 rfl (lv_at hl 2 rfl) ?_
      have hD2 : endC C d t h w = (w, C1) := by unfold endC; rw [if_pos h1, if_neg (by omega), eC1]
      rw [hD2] at hE
      exact hE hW rfl dX1_endWriting_39
  · refine lv_iload_n hx hb dX1_endWriting_4 rfl (lv_at hl 1 rfl) ?_
    have hD2 : endC C d t h w = (nI h, C) := by unfold endC; rw [if_neg (fun q => q h1)]
    rw [hD2] at hE
    exact hE hW rfl dX1_endWriting_5

set_option maxHeartbeats 4000000 in
set_option maxRecDepth 100000 in
theorem c_X1_lookThrough (l : Launch) (G : GG) (C : CS) (M : MS) {d : Nat} (hd : d < 3) {t : Nat} (ht : t < zn G) (hM : cM C d = some t) (hI : Iv C) (hp : cN C 3 d 8 + cN C 5 t 3 ≤ 2 ^ 30) : Ct l G yX1_lookThrough cX1_lookThrough 4 (some .int) 3 62 [.ref (zad G 3 d)] C M (some (.int ((lookC C d t).1))) ((lookC C d t).2) M := by
  refine Ct_i (by decide) (Nat.le_of_ble_eq_true rfl) (fun {p e s m args below meth c A Q ls} hC hW hl hE => ?_)
  have hx := hC.1
  have hb := hC.2.1
  have hl : lv_has ls 4 [(0, .ref (zad G 3 d))] := hl
  have hcp := cap_le t
  have he := hI.1 t
  refine lv_iconst (v := 0) hx hb dX1_lookThrough_0 (by decide) ?_
  refine lv_istore_n (lv' := [(1, .int 0), (0, .ref (zad G 3 d))]) hx hb dX1_lookThrough_1 rfl hl (by decide) rfl (fun ls hl => ?_)
  refine lv_aload_n hx hb dX1_lookThrough_2 rfl (lv_at hl 1 rfl) ?_
  refine g3 (k := 6) (v := .ref (zad G 9 t)) hC hW hd (by decide) mF_X1_26 (by simp [fsD, va_rf, hM, cF_sF, cN_sN, cB_sB, cM_sM, cN_sF, cB_sF, cM_sF, cF_sN, cB_sN, cM_sN, cF_sB, cN_sB, cM_sB, cF_sM, cN_sM, cB_sM, mF_smF, mA_smF, mF_smA, mA_smA]) dX1_lookThrough_3 ?_
  refine lv_ifnonnull (tgt := 13) hx hb dX1_lookThrough_6 (by decide) ?_
  refine lv_aload_n hx hb dX1_lookThrough_13 rfl (lv_at hl 1 rfl) ?_
  refine g3 (k := 6) (v := .ref (zad G 9 t)) hC hW hd (by decide) mF_X1_26 (by simp [fsD, va_rf, hM, cF_sF, cN_sN, cB_sB, cM_sM, cN_sF, cB_sF, cM_sF, cF_sN, cB_sN, cM_sN, cF_sB, cN_sB, cM_sB, cF_sM, cN_sM, cB_sM, mF_smF, mA_smF, mF_smA, mA_smA]) dX1_lookThrough_14 ?_
  refine g9 (k := 1) (v := .ref (zad G 5 t)) hC hW ht (by decide) mF_X1_74 rfl dX1_lookThrough_17 ?_
  refine g5 (k := 3) (v := .int (nI (cN C 5 t 3))) hC hW (Or.inl ht) (by decide) mF_X1_96 rfl dX1_lookThrough_20 ?_
  refine lv_istore_n (lv' := [(2, .int (nI (cN C 5 t 3))), (1, .int 0), (0, .ref (zad G 3 d))]) hx hb dX1_lookThrough_23 rfl hl (by decide) rfl (fun ls hl => ?_)
  refine lv_iconst (v := 0) hx hb dX1_lookThrough_24 (by decide) ?_
  refine lv_istore_n (lv' := [(3, .int 0), (2, .int (nI (cN C 5 t 3))), (1, .int 0), (0, .ref (zad G 3 d))]) hx hb dX1_lookThrough_25 rfl hl (by decide) rfl (fun ls hl => ?_)
  have lp : ∀ (k : Nat) (j : Nat) (u : Int32) (Cj : CS), j + k = cN C 5 t 3 → cM Cj d = some t → cN Cj 3 d 8 + k ≤ 2 ^ 30 → ltL d t k u Cj = ltL d t (cN C 5 t 3) 0 C → ∀ (H : Heap) (locs : List Loc) (ls : Array Slot), Wd G s A s.heap H locs Cj M → lv_has ls 4 [(0, .ref (zad G 3 d)), (1, .int u), (2, .int (nI (cN C 5 t 3))), (3, .int (nI j))] → W p l e { frames := 3, cells := 0, slots := 0, locals := 62 } s m args below meth c H locs 0 0 Q (F0 m 26 ls []) := by
    intro k
    induction k with
    | zero =>
      intro j u Cj hk hMj hpj hD H locs ls hW hl
      refine lv_iload_n hx hb dX1_lookThrough_26 rfl (lv_at hl 3 rfl) ?_
      refine lv_iload_n hx hb dX1_lookThrough_27 rfl (lv_at hl 2 rfl) ?_
      refine zc_ge (i := j) (j := cN C 5 t 3) (tgt := 52) hx hb rfl rfl (by omega) (by omega) dX1_lookThrough_28 (by decide) (fun h28 => ?_) (fun h28 => ?_)
      · refine lv_iload_n hx hb dX1_lookThrough_52 rfl (lv_at hl 1 rfl) ?_
        refine lv_bipush (v := (-7)) hx hb dX1_lookThrough_53 (by decide) ?_
        refine lv_icmp_ne (tgt := 62) hx hb dX1_lookThrough_55 (by decide) (fun h55 => ?_) (fun h55 => ?_)
        · refine lv_iload_n hx hb dX1_lookThrough_62 rfl (lv_at hl 1 rfl) ?_
          have hD1 : ltL d t (cN C 5 t 3) 0 C = (u, Cj) := by rw [← hD, ltL]
          have hD2 : lookC C d t = (u, Cj) := by unfold lookC; rw [hD1]; show (if u = -7 then (0 : Int32) else u, Cj) = _; rw [if_neg h55]
          rw [hD2] at hE
          exact hE hW rfl dX1_lookThrough_63
        · refine lv_iconst (v := 0) hx hb dX1_lookThrough_58 (by decide) ?_
          refine lv_goto (tgt := 63) hx hb dX1_lookThrough_59 (by decide) ?_
          have hD1 : ltL d t (cN C 5 t 3) 0 C = (u, Cj) := by rw [← hD, ltL]
          have hD2 : lookC C d t = (0, Cj) := by unfold lookC; rw [hD1]; show (if u = -7 then (0 : Int32) else u, Cj) = _; rw [if_pos h55]
          rw [hD2] at hE
          exact hE hW rfl dX1_lookThrough_63
      · exact absurd h28 (by omega)
    | succ k ih =>
      intro j u Cj hk hMj hpj hD H locs ls hW hl
      refine lv_iload_n hx hb dX1_lookThrough_26 rfl (lv_at hl 3 rfl) ?_
      refine lv_iload_n hx hb dX1_lookThrough_27 rfl (lv_at hl 2 rfl) ?_
      refine zc_ge (i := j) (j := cN C 5 t 3) (tgt := 52) hx hb rfl rfl (by omega) (by omega) dX1_lookThrough_28 (by decide) (fun h28 => ?_) (fun h28 => ?_)
      · exact absurd h28 (by omega)
      · refine lv_iload_n hx hb dX1_lookThrough_31 rfl (lv_at hl 1 rfl) ?_
        refine lv_if_eq (tgt := 41) hx hb dX1_lookThrough_32 (by decide) (fun h32 => ?_) (fun h32 => ?_)
        · refine lv_aload_n hx hb dX1_lookThrough_41 rfl (lv_at hl 0 rfl) ?_
          refine z_callV (As := []) (rest := []) (st1 := [.int ((reaC Cj d t).1)]) hC hW (LL_3 hd) rfl rfl rfl (c_X1_readBlock l G Cj M hd ht hMj (by omega)) mw_X1_readBlock mv_X1_readBlock mM_X1_106 ⟨Nat.le_of_ble_eq_true rfl, Nat.le_of_ble_eq_true rfl⟩ rfl rfl hl.1 (lv_room (Nat.le_of_ble_eq_true rfl)) dX1_lookThrough_42 rfl (fun H locs hW => ?_) ⟨Nat.zero_le _, Nat.zero_le _⟩
          obtain ⟨C1, eC1⟩ : ∃ z, z = (reaC Cj d t).2 := ⟨_, rfl⟩
          rw [← eC1] at hW
          refine lv_istore_n (lv' := [(1, .int ((reaC Cj d t).1)), (0, .ref (zad G 3 d)), (2, .int (nI (cN C 5 t 3))), (3, .int (nI j))]) hx hb dX1_lookThrough_45 rfl hl (by decide) rfl (fun ls hl => ?_)
          refine lv_iinc (k := 3) (v := nI (j + 1)) (lv' := [(3, .int (nI (j + 1))), (1, .int ((reaC Cj d t).1)), (0, .ref (zad G 3 d)), (2, .int (nI (cN C 5 t 3)))]) hx hb dX1_lookThrough_46 hl rfl (nI_inc _) (by decide) rfl (fun ls hl => ?_)
          refine lv_goto (tgt := 26) hx hb dX1_lookThrough_49 (by decide) ?_
          exact ih (j + 1) ((reaC Cj d t).1) C1 (by omega) (by rw [eC1, reaC_2, pasC_M]; exact hMj) (by rw [eC1, reaC_2]; have := pasC_pos Cj d; omega) (by rw [← hD, ltL, if_pos (Or.inl h32), eC1]) _ _ _ hW (lv_sub hl [2, 1, 3, 0] rfl)
        · refine lv_iload_n hx hb dX1_lookThrough_35 rfl (lv_at hl 1 rfl) ?_
          refine lv_bipush (v := (-7)) hx hb dX1_lookThrough_36 (by decide) ?_
          refine lv_icmp_ne (tgt := 52) hx hb dX1_lookThrough_38 (by decide) (fun h38 => ?_) (fun h38 => ?_)
          · refine lv_iload_n hx hb dX1_lookThrough_52 rfl (lv_at hl 1 rfl) ?_
            refine lv_bipush (v := (-7)) hx hb dX1_lookThrough_53 (by decide) ?_
            refine lv_icmp_ne (tgt := 62) hx hb dX1_lookThrough_55 (by decide) (fun h55 => ?_) (fun h55 => ?_)
            · refine lv_iload_n hx hb dX1_lookThrough_62 rfl (lv_at hl 1 rfl) ?_
              have hD1 : ltL d t (cN C 5 t 3) 0 C = (u, Cj) := by rw [← hD, ltL, if_neg (fun q => q.elim h32 h38)]
              have hD2 : lookC C d t = (u, Cj) := by unfold lookC; rw [hD1]; show (if u = -7 then (0 : Int32) else u, Cj) = _; rw [if_neg h55]
              rw [hD2] at hE
              exact hE hW rfl dX1_lookThrough_63
            · refine lv_iconst (v := 0) hx hb dX1_lookThrough_58 (by decide) ?_
              refine lv_goto (tgt := 63) hx hb dX1_lookThrough_59 (by decide) ?_
              have hD1 : ltL d t (cN C 5 t 3) 0 C = (u, Cj) := by rw [← hD, ltL, if_neg (fun q => q.elim h32 h38)]
              have hD2 : lookC C d t = (0, Cj) := by unfold lookC; rw [hD1]; show (if u = -7 then (0 : Int32) else u, Cj) = _; rw [if_pos h55]
              rw [hD2] at hE
              exact hE hW rfl dX1_lookThrough_63
          · refine lv_aload_n hx hb dX1_lookThrough_41 rfl (lv_at hl 0 rfl) ?_
            refine z_callV (As := []) (rest := []) (st1 := [.int ((reaC Cj d t).1)]) hC hW (LL_3 hd) rfl rfl rfl (c_X1_readBlock l G Cj M hd ht hMj (by omega)) mw_X1_readBlock mv_X1_readBlock mM_X1_106 ⟨Nat.le_of_ble_eq_true rfl, Nat.le_of_ble_eq_true rfl⟩ rfl rfl hl.1 (lv_room (Nat.le_of_ble_eq_true rfl)) dX1_lookThrough_42 rfl (fun H locs hW => ?_) ⟨Nat.zero_le _, Nat.zero_le _⟩
            obtain ⟨C2, eC2⟩ : ∃ z, z = (reaC Cj d t).2 := ⟨_, rfl⟩
            rw [← eC2] at hW
            refine lv_istore_n (lv' := [(1, .int ((reaC Cj d t).1)), (0, .ref (zad G 3 d)), (2, .int (nI (cN C 5 t 3))), (3, .int (nI j))]) hx hb dX1_lookThrough_45 rfl hl (by decide) rfl (fun ls hl => ?_)
            refine lv_iinc (k := 3) (v := nI (j + 1)) (lv' := [(3, .int (nI (j + 1))), (1, .int ((reaC Cj d t).1)), (0, .ref (zad G 3 d)), (2, .int (nI (cN C 5 t 3)))]) hx hb dX1_lookThrough_46 hl rfl (nI_inc _) (by decide) rfl (fun ls hl => ?_)
            refine lv_goto (tgt := 26) hx hb dX1_lookThrough_49 (by decide) ?_
            exact ih (j + 1) ((reaC Cj d t).1) C2 (by omega) (by rw [eC2, reaC_2, pasC_M]; exact hMj) (by rw [eC2, reaC_2]; have := pasC_pos Cj d; omega) (by rw [← hD, ltL, if_pos (Or.inr h38), eC2]) _ _ _ hW (lv_sub hl [2, 1, 3, 0] rfl)
  exact lp (cN C 5 t 3) 0 0 C (by omega) hM hp rfl _ _ _ hW (lv_sub hl [3, 2, 1, 0] rfl)

set_option maxHeartbeats 4000000 in
set_option maxRecDepth 100000 in
theorem c_X1_bringHome (l : Launch) (G : GG) (C : CS) (M : MS) {d : Nat} (hd : d < 3) {t : Nat} (ht : t < zn G) (hM : cM C d = some t) : Ct l G yX1_bringHome cX1_bringHome 1 none 0 0 [.ref (zad G 3 d)] C M none (briC C d t) M := by
  refine Ct_v (by decide) (Nat.le_of_ble_eq_true rfl) (fun {p e s m args below meth c A Q ls} hC hW hl hE => ?_)
  have hx := hC.1
  have hb := hC.2.1
  have hl : lv_has ls 1 [(0, .ref (zad G 3 d))] := hl
  refine lv_aload_n hx hb dX1_bringHome_0 rfl (lv_at hl 0 rfl) ?_
  refine g3 (k := 1) (v := .ref (zad G 1 0)) hC hW hd (by decide) mF_X1_18 rfl dX1_bringHome_1 ?_
  refine lv_dup hx hb dX1_bringHome_4 rfl ?_
  refine g1 (k := 1) (v := .int (cF C 1 0 1)) hC hW (by decide) mF_X1_103 rfl dX1_bringHome_5 ?_
  refine lv_aload_n hx hb dX1_bringHome_8 rfl (lv_at hl 0 rfl) ?_
  refine g3 (k := 4) (v := .int (cF C 3 d 4)) hC hW hd (by decide) mF_X1_22 rfl dX1_bringHome_9 ?_
  refine lv_if_eq (tgt := 24) hx hb dX1_bringHome_12 (by decide) (fun h12 => ?_) (fun h12 => ?_)
  · refine lv_aload_n hx hb dX1_bringHome_24 rfl (lv_at hl 0 rfl) ?_
    refine g3 (k := 8) (v := .int (nI (cN C 3 d 8))) hC hW hd (by decide) mF_X1_41 rfl dX1_bringHome_25 ?_
    refine lv_iadd hx hb dX1_bringHome_28 ?_
    refine p1 (k := 1) (v := (cF C 1 0 1) + (nI (cN C 3 d 8))) hC hW (by decide) mF_X1_103 dX1_bringHome_29 (fun _ eS H locs hW => ?_)
    subst eS
    refine lv_aload_n hx hb dX1_bringHome_32 rfl (lv_at hl 0 rfl) ?_
    refine g3 (k := 6) (v := .ref (zad G 9 t)) hC hW hd (by decide) mF_X1_26 (by simp [fsD, va_rf, hM, cF_sF, cN_sN, cB_sB, cM_sM, cN_sF, cB_sF, cM_sF, cF_sN, cB_sN, cM_sN, cF_sB, cN_sB, cM_sB, cF_sM, cN_sM, cB_sM, mF_smF, mA_smF, mF_smA, mA_smA]) dX1_bringHome_33 ?_
    refine lv_ifnull hx hb dX1_bringHome_36 ?_
    refine lv_aload_n hx hb dX1_bringHome_39 rfl (lv_at hl 0 rfl) ?_
    refine g3 (k := 6) (v := .ref (zad G 9 t)) hC hW hd (by decide) mF_X1_26 (by simp [fsD, va_rf, hM, cF_sF, cN_sN, cB_sB, cM_sM, cN_sF, cB_sF, cM_sF, cF_sN, cB_sN, cM_sN, cF_sB, cN_sB, cM_sB, cF_sM, cN_sM, cB_sM, mF_smF, mA_smF, mF_smA, mA_smA]) dX1_bringHome_40 ?_
    refine lv_dup hx hb dX1_bringHome_43 rfl ?_
    refine g9 (k := 5) (v := .int (cF C 9 t 5)) hC hW ht (by decide) mF_X1_109 rfl dX1_bringHome_44 ?_
    refine lv_aload_n hx hb dX1_bringHome_47 rfl (lv_at hl 0 rfl) ?_
    refine g3 (k := 8) (v := .int (nI (cN C 3 d 8))) hC hW hd (by decide) mF_X1_41 rfl dX1_bringHome_48 ?_
    refine lv_iadd hx hb dX1_bringHome_51 ?_
    refine p9 (k := 5) (v := (cF C 9 t 5) + (nI (cN C 3 d 8))) hC hW ht (by decide) mF_X1_109 dX1_bringHome_52 (fun _ eS H locs hW => ?_)
    subst eS
    refine lv_aload_n hx hb dX1_bringHome_55 rfl (lv_at hl 0 rfl) ?_
    refine g3 (k := 1) (v := .ref (zad G 1 0)) hC hW hd (by decide) mF_X1_18 rfl dX1_bringHome_56 ?_
    refine lv_dup hx hb dX1_bringHome_59 rfl ?_
    refine g1 (k := 1) (v := .int ((cF C 1 0 1) + (nI (cN C 3 d 8)))) hC hW (by decide) mF_X1_103 rfl dX1_bringHome_60 ?_
    refine lv_aload_n hx hb dX1_bringHome_63 rfl (lv_at hl 0 rfl) ?_
    refine g3 (k := 7) (v := .int (nI (cN C 3 d 7))) hC hW hd (by decide) mF_X1_48 rfl dX1_bringHome_64 ?_
    refine lv_iadd hx hb dX1_bringHome_67 ?_
    refine p1 (k := 1) (v := ((cF C 1 0 1) + (nI (cN C 3 d 8))) + (nI (cN C 3 d 7))) hC hW (by decide) mF_X1_103 dX1_bringHome_68 (fun _ eS H locs hW => ?_)
    subst eS
    refine lv_aload_n hx hb dX1_bringHome_71 rfl (lv_at hl 0 rfl) ?_
    refine lv_null hx hb dX1_bringHome_72 ?_
    refine p3Mn hC hW hd mF_X1_26 dX1_bringHome_73 (fun _ eS H locs hW => ?_)
    subst eS
    have hD2 : briC C d t = sM (sF (sF (sF C 1 0 1 ((cF C 1 0 1) + (nI (cN C 3 d 8)))) 9 t 5 ((cF C 9 t 5) + (nI (cN C 3 d 8)))) 1 0 1 (((cF C 1 0 1) + (nI (cN C 3 d 8))) + (nI (cN C 3 d 7)))) d none := by unfold briC bri2 bri1; rw [if_pos h12]; rfl
    rw [hD2] at hE
    exact hE hW dX1_bringHome_76
  · refine lv_iconst (v := 3) hx hb dX1_bringHome_15 (by decide) ?_
    refine lv_aload_n hx hb dX1_bringHome_16 rfl (lv_at hl 0 rfl) ?_
    refine g3 (k := 8) (v := .int (nI (cN C 3 d 8))) hC hW hd (by decide) mF_X1_41 rfl dX1_bringHome_17 ?_
    refine zi_mul (i := 3) (j := cN C 3 d 8) hx hb rfl rfl dX1_bringHome_20 ?_
    refine lv_goto (tgt := 28) hx hb dX1_bringHome_21 (by decide) ?_
    refine lv_iadd hx hb dX1_bringHome_28 ?_
    refine p1 (k := 1) (v := (cF C 1 0 1) + (nI (3 * (cN C 3 d 8)))) hC hW (by decide) mF_X1_103 dX1_bringHome_29 (fun _ eS H locs hW => ?_)
    subst eS
    refine lv_aload_n hx hb dX1_bringHome_32 rfl (lv_at hl 0 rfl) ?_
    refine g3 (k := 6) (v := .ref (zad G 9 t)) hC hW hd (by decide) mF_X1_26 (by simp [fsD, va_rf, hM, cF_sF, cN_sN, cB_sB, cM_sM, cN_sF, cB_sF, cM_sF, cF_sN, cB_sN, cM_sN, cF_sB, cN_sB, cM_sB, cF_sM, cN_sM, cB_sM, mF_smF, mA_smF, mF_smA, mA_smA]) dX1_bringHome_33 ?_
    refine lv_ifnull hx hb dX1_bringHome_36 ?_
    refine lv_aload_n hx hb dX1_bringHome_39 rfl (lv_at hl 0 rfl) ?_
    refine g3 (k := 6) (v := .ref (zad G 9 t)) hC hW hd (by decide) mF_X1_26 (by simp [fsD, va_rf, hM, cF_sF, cN_sN, cB_sB, cM_sM, cN_sF, cB_sF, cM_sF, cF_sN, cB_sN, cM_sN, cF_sB, cN_sB, cM_sB, cF_sM, cN_sM, cB_sM, mF_smF, mA_smF, mF_smA, mA_smA]) dX1_bringHome_40 ?_
    refine lv_dup hx hb dX1_bringHome_43 rfl ?_
    refine g9 (k := 5) (v := .int (cF C 9 t 5)) hC hW ht (by decide) mF_X1_109 rfl dX1_bringHome_44 ?_
    refine lv_aload_n hx hb dX1_bringHome_47 rfl (lv_at hl 0 rfl) ?_
    refine g3 (k := 8) (v := .int (nI (cN C 3 d 8))) hC hW hd (by decide) mF_X1_41 rfl dX1_bringHome_48 ?_
    refine lv_iadd hx hb dX1_bringHome_51 ?_
    refine p9 (k := 5) (v := (cF C 9 t 5) + (nI (cN C 3 d 8))) hC hW ht (by decide) mF_X1_109 dX1_bringHome_52 (fun _ eS H locs hW => ?_)
    subst eS
    refine lv_aload_n hx hb dX1_bringHome_55 rfl (lv_at hl 0 rfl) ?_
    refine g3 (k := 1) (v := .ref (zad G 1 0)) hC hW hd (by decide) mF_X1_18 rfl dX1_bringHome_56 ?_
    refine lv_dup hx hb dX1_bringHome_59 rfl ?_
    refine g1 (k := 1) (v := .int ((cF C 1 0 1) + (nI (3 * (cN C 3 d 8))))) hC hW (by decide) mF_X1_103 rfl dX1_bringHome_60 ?_
    refine lv_aload_n hx hb dX1_bringHome_63 rfl (lv_at hl 0 rfl) ?_
    refine g3 (k := 7) (v := .int (nI (cN C 3 d 7))) hC hW hd (by decide) mF_X1_48 rfl dX1_bringHome_64 ?_
    refine lv_iadd hx hb dX1_bringHome_67 ?_
    refine p1 (k := 1) (v := ((cF C 1 0 1) + (nI (3 * (cN C 3 d 8)))) + (nI (cN C 3 d 7))) hC hW (by decide) mF_X1_103 dX1_bringHome_68 (fun _ eS H locs hW => ?_)
    subst eS
    refine lv_aload_n hx hb dX1_bringHome_71 rfl (lv_at hl 0 rfl) ?_
    refine lv_null hx hb dX1_bringHome_72 ?_
    refine p3Mn hC hW hd mF_X1_26 dX1_bringHome_73 (fun _ eS H locs hW => ?_)
    subst eS
    have hD2 : briC C d t = sM (sF (sF (sF C 1 0 1 ((cF C 1 0 1) + (nI (3 * (cN C 3 d 8))))) 9 t 5 ((cF C 9 t 5) + (nI (cN C 3 d 8)))) 1 0 1 (((cF C 1 0 1) + (nI (3 * (cN C 3 d 8)))) + (nI (cN C 3 d 7)))) d none := by unfold briC bri2 bri1; rw [if_neg h12]; rfl
    rw [hD2] at hE
    exact hE hW dX1_bringHome_76
end
section
/-! ===== the class: its helpers and jobs ===== -/
abbrev nameP (x : Int32) : Prop := ¬ x < 0 ∧ ¬ 1000 ≤ x
abbrev placeP (x : Int32) : Prop := ¬ x < 0 ∧ ¬ 100 ≤ x
abbrev badT (n : Nat) (x : Int32) : Prop := x < 0 ∨ nI n ≤ x
theorem tape_arg {n : Nat} (hn : n ≤ 12) (x : Int32) : badT n x ∨ ∃ t, t < n ∧ x = nI t := by
  rcases pk_ix x (n := n) (by omega) with h | h | h
  · exact Or.inl (Or.inl h)
  · exact Or.inl (Or.inr h)
  · exact Or.inr h
def hmL (C : CS) (x : Int32) : Nat → Nat → Bool
  | 0, _ => false
  | k + 1, j => if nI (cN C 9 j 0) = x then true else hmL C x k (j + 1)
def cou1 (C : CS) : CS := sF C 0 0 5 (cF C 0 0 5 + 1)
def couC (C : CS) (w : Int32) : CS := if 0 ≤ w then cou1 C else sF (cou1 C) 0 0 6 (cF C 0 0 6 + 1)
abbrev rdyP (C : CS) (d : Nat) : Prop := cF C 3 d 4 = 0 ∧ cM C d = none
def ndS (C : CS) (t j : Nat) (o : Option Nat) : Option Nat := if rdyP C j then (match o with
  | none => some j
  | some d => if dist (cN C 9 t 0) d ≤ dist (cN C 9 t 0) j then some d else some j) else o
def ndL (C : CS) (t : Nat) : Nat → Nat → Option Nat → Option Nat
  | 0, _, o => o
  | k + 1, j, o => ndL C t k (j + 1) (ndS C t j o)
def ndC (C : CS) (t : Nat) : Option Nat := ndL C t 3 0 none
def wsL (d t : Nat) : Nat → Nat → Int32 → CS → Int32 × CS
  | 0, _, w, C => (w, C)
  | k + 1, j, w, C => if w ≠ 0 then (w, C) else wsL d t k (j + 1) (wriC C d t 12 j).1 (wriC C d t 12 j).2
def ws1 (C : CS) (d t h : Nat) : Int32 × CS := wsL d t (cN C 5 12 3) 0 (windC C d h).1 (windC C d h).2
def wsC (C : CS) (d t h : Nat) : Int32 × CS := endC (ws1 C d t h).2 d t h (ws1 C d t h).1
def cop1 (C : CS) (d t : Nat) : Int32 × CS := if (carC C d t).1 ≠ 0 then carC C d t else wsC (carC C d t).2 d t (cN (carC C d t).2 5 t 3)
def copD (C : CS) (d t : Nat) : Int32 × CS := ((cop1 C d t).1, if (cop1 C d t).1 < 0 then briC (cop1 C d t).2 d t else listC (briC (cop1 C d t).2 d t) t (cop1 C d t).1.toNatClampNeg)
def copC (C : CS) (t : Nat) : Int32 × CS := match ndC C t with
  | none => (-3, C)
  | some d => copD C d t
def rfS (C : CS) (t a : Nat) (w : Int32) : CS := if w ≠ 0 then C else if kAt C 6 t a = 2 then sF C 0 0 7 (31 * cF C 0 0 7 + kAt C 7 t a) else C
def rfL (d t : Nat) : Nat → Nat → Int32 → CS → Int32 × CS
  | 0, _, w, C => (w, C)
  | k + 1, a, w, C => if w ≠ 0 then (w, C) else rfL d t k (a + 1) (reaC C d t).1 (rfS (reaC C d t).2 t a (reaC C d t).1)
def rf1 (C : CS) (d t h : Nat) : Int32 × CS := rfL d t (zN C t h + 2) h (windC (sF C 0 0 7 1) d h).1 (windC (sF C 0 0 7 1) d h).2
def rfC (C : CS) (d t h : Nat) : Int32 × CS := (if (rf1 C d t h).1 ≠ 0 then (rf1 C d t h).1 else nI (zN C t h), (rf1 C d t h).2)
def rj1 (C : CS) (d t h : Nat) : Int32 × CS := if (carC C d t).1 ≠ 0 then carC C d t else rfC (carC C d t).2 d t h
def rjC (C : CS) (t h : Nat) : Int32 × CS := match ndC C t with
  | none => (-3, C)
  | some d => ((rj1 C d t h).1, briC (rj1 C d t h).2 d t)
def mv2 (C : CS) (d2 t2 t1 a : Nat) (w : Int32) : Int32 × CS := if w ≠ 0 then (w, C) else wriC C d2 t2 t1 a
def mvL (d1 t1 d2 t2 : Nat) : Nat → Nat → Int32 → CS → Int32 × CS
  | 0, _, w, C => (w, C)
  | k + 1, a, w, C => if w ≠ 0 then (w, C) else mvL d1 t1 d2 t2 k (a + 1) (mv2 (reaC C d1 t1).2 d2 t2 t1 a (reaC C d1 t1).1).1 (mv2 (reaC C d1 t1).2 d2 t2 t1 a (reaC C d1 t1).1).2
def mvW (C : CS) (d1 d2 p h : Nat) : Int32 × CS := if (windC C d1 p).1 ≠ 0 then windC C d1 p else windC (windC C d1 p).2 d2 h
def mv1 (C : CS) (d1 t1 d2 t2 p h : Nat) : Int32 × CS := mvL d1 t1 d2 t2 (zN C t1 p + 2) p (mvW C d1 d2 p h).1 (mvW C d1 d2 p h).2
def mvC (C : CS) (d1 t1 d2 t2 p h : Nat) : Int32 × CS := endC (mv1 C d1 t1 d2 t2 p h).2 d2 t2 h (mv1 C d1 t1 d2 t2 p h).1
def mi1 (C : CS) (d1 t1 d2 t2 p : Nat) : Int32 × CS := if (carC C d2 t2).1 ≠ 0 then carC C d2 t2 else mvC (carC C d2 t2).2 d1 t1 d2 t2 p (cN (carC C d2 t2).2 5 t2 3)
def miC (C : CS) (d1 t1 t2 p : Nat) : Int32 × CS := match ndC C t2 with
  | none => (-3, C)
  | some d2 => ((mi1 C d1 t1 d2 t2 p).1, briC (mi1 C d1 t1 d2 t2 p).2 d2 t2)
def mj1 (C : CS) (d t1 p t2 : Nat) : Int32 × CS := if (carC C d t1).1 ≠ 0 then carC C d t1 else miC (carC C d t1).2 d t1 t2 p
def mjD (C : CS) (d t1 p t2 : Nat) : Int32 × CS := ((mj1 C d t1 p t2).1, if (mj1 C d t1 p t2).1 < 0 then briC (mj1 C d t1 p t2).2 d t1 else sB (listC (briC (mj1 C d t1 p t2).2 d t1) t2 (mj1 C d t1 p t2).1.toNatClampNeg) 11 t1 p 0)
def mjC (C : CS) (t1 p t2 : Nat) : Int32 × CS := match ndC C t1 with
  | none => (-3, C)
  | some d => mjD C d t1 p t2
def sj1 (C : CS) (d t : Nat) : Int32 × CS := if (carC C d t).1 ≠ 0 then carC C d t else lookC (carC C d t).2 d t
def sjD (C : CS) (d t : Nat) : Int32 × CS := if (sj1 C d t).1 ≠ 0 then ((sj1 C d t).1, briC (sj1 C d t).2 d t) else (nI (lcL (latC (briC (sj1 C d t).2 d t) t) t 100 0 0), latC (briC (sj1 C d t).2 d t) t)
def sjC (C : CS) (t : Nat) : Int32 × CS := match ndC C t with
  | none => (-3, C)
  | some d => sjD C d t
/-! what they keep: Sm: no block, no catalogue, no mounted tape changes; small numbers outside drives stay -/
def Sm (C C' : CS) : Prop := (∀ f i k, f ≠ 3 → cN C' f i k = cN C f i k) ∧ cB C' = cB C ∧ cM C' = cM C
theorem Sm.rf {C : CS} : Sm C C := ⟨fun _ _ _ _ => rfl, rfl, rfl⟩
theorem Sm.tr {C C' C2 : CS} (h : Sm C C') (h2 : Sm C' C2) : Sm C C2 := ⟨fun f i k q => (h2.1 f i k q).trans (h.1 f i k q), h2.2.1.trans h.2.1, h2.2.2.trans h.2.2⟩
theorem Sm.I {C C' : CS} (h : Sm C C') (hI : Iv C) : Iv C' := Iv_of hI (fun b => h.1 _ _ _ (by decide)) (fun b j => by rw [h.2.1]) (fun t => h.1 _ _ _ (by decide))
theorem Sm.k {C C' : CS} (h : Sm C C') (f b a : Nat) : kAt C' f b a = kAt C f b a := by unfold kAt; rw [h.1 5 b 3 (by decide), h.2.1]
theorem Sm_F {C : CS} {f i k : Nat} {v : Int32} : Sm C (sF C f i k v) := ⟨fun _ _ _ _ => rfl, rfl, rfl⟩
theorem Sm_N {C : CS} {i k v : Nat} : Sm C (sN C 3 i k v) := ⟨fun f' i' k' h => by rw [cN_sN, if_neg (by omega)], rfl, rfl⟩
theorem Sm_wk {C : CS} : Sm C (wkC C) := ⟨fun f i k _ => by rw [wkC_N], wkC_B C, wkC_M C⟩
theorem Sm_wind {d : Nat} : ∀ (k : Nat) (C : CS), Sm C (windL d k C).2 := by
  intro k
  induction k with
  | zero => intro C; exact Sm.rf
  | succ k ih => intro C; unfold windL; split; exact (Sm_wk.tr Sm_N).tr (ih _); exact Sm_wk
theorem Sm_windC {C : CS} {d q : Nat} : Sm C (windC C d q).2 := Sm_wind _ _
theorem Sm_pas {C : CS} {d : Nat} : Sm C (pasC C d).2 := ⟨fun f i k h => pasC_N _ _ _ _ _ (Or.inl h), pasC_B C d, pasC_M C d⟩
theorem Sm_rea {C : CS} {d t : Nat} : Sm C (reaC C d t).2 := by rw [reaC_2]; exact Sm_pas
theorem Sm_rfS {C : CS} {t a : Nat} {w : Int32} : Sm C (rfS C t a w) := by unfold rfS; split; exact Sm.rf; split; exact Sm_F; exact Sm.rf
theorem Sm_rfL {d t : Nat} : ∀ (k a : Nat) (w : Int32) (C : CS), Sm C (rfL d t k a w C).2 := by
  intro k
  induction k with
  | zero => intro a w C; exact Sm.rf
  | succ k ih => intro a w C; unfold rfL; split; exact Sm.rf; exact (Sm_rea.tr Sm_rfS).tr (ih _ _ _)
theorem Sm_rfC {C : CS} {d t h : Nat} : Sm C (rfC C d t h).2 := (Sm_F.tr Sm_windC).tr (Sm_rfL _ _ _ _)
theorem Sm_lt {d t : Nat} : ∀ (k : Nat) (w : Int32) (C : CS), Sm C (ltL d t k w C).2 := by
  intro k
  induction k with
  | zero => intro w C; exact Sm.rf
  | succ k ih => intro w C; unfold ltL; split; exact Sm_rea.tr (ih _ _); exact Sm.rf
theorem Sm_carL {d : Nat} : ∀ (k : Nat) (C : CS), Sm C (carL d k C).2 := by
  intro k
  induction k with
  | zero => intro C; exact Sm.rf
  | succ k ih => intro C; unfold carL; split; exact (Sm_wk.tr Sm_N).tr (ih _); exact Sm_wk
theorem Sm_carC {C : CS} {d t : Nat} : Sm (sM C d (some t)) (carC C d t).2 := by
  unfold carC carE
  split
  · exact ((Sm_N.tr Sm_N).tr (Sm_carL _ _)).tr (Sm_F.tr Sm_F)
  · exact (Sm_N.tr Sm_N).tr (Sm_carL _ _)
theorem carC_M {C : CS} {d t : Nat} (d' : Nat) : cM (carC C d t).2 d' = if d' = d then some t else cM C d' := by rw [Sm_carC.2.2, cM_sM]
theorem carC_I {C : CS} {d t : Nat} (hI : Iv C) : Iv (carC C d t).2 := Sm_carC.I (Iv_M hI)
theorem carC_N {C : CS} {d t f i k : Nat} (h : f ≠ 3) : cN (carC C d t).2 f i k = cN C f i k := by rw [Sm_carC.1 _ _ _ h]; rfl
theorem carL_N3 {d : Nat} (d' k' : Nat) (h : d' ≠ d ∨ k' ≠ 7) : ∀ (k : Nat) (C : CS), cN (carL d k C).2 3 d' k' = cN C 3 d' k' := by
  intro k
  induction k with
  | zero => intro C; rfl
  | succ k ih => intro C; unfold carL; split; rw [ih, cN_sN, if_neg (by omega), wkC_N]; show cN (wkC C) 3 d' k' = _; rw [wkC_N]
theorem carC_N3 {C : CS} {d t : Nat} (d' k' : Nat) (h : d' ≠ d ∨ k' ≠ 7) : cN (carC C d t).2 3 d' k' = if d' = d ∧ k' = 8 then 0 else cN C 3 d' k' := by
  have h1 : cN (carC C d t).2 3 d' k' = cN (sN (sN (sM C d (some t)) 3 d 8 0) 3 d 7 0) 3 d' k' := by
    unfold carC carE
    split
    · rw [cN_sF, cN_sF, carL_N3 d' k' h]
    · rw [carL_N3 d' k' h]
  rw [h1, cN_sN, if_neg (by omega), cN_sN]
  by_cases q : d' = d ∧ k' = 8
  · rw [if_pos ⟨q.2, rfl, q.1⟩, if_pos q]
  · rw [if_neg (fun z => q ⟨z.2.2, z.1⟩), if_neg q]; rfl
theorem carC_pos {C : CS} {d t : Nat} : cN (carC C d t).2 3 d 8 = 0 := by rw [carC_N3 d 8 (Or.inr (by decide)), if_pos ⟨rfl, rfl⟩]
theorem windL_N3 {d : Nat} (d' k' : Nat) (h : d' ≠ d ∨ k' ≠ 8) : ∀ (k : Nat) (C : CS), cN (windL d k C).2 3 d' k' = cN C 3 d' k' := by
  intro k
  induction k with
  | zero => intro C; rfl
  | succ k ih => intro C; unfold windL; split; rw [ih, cN_sN, if_neg (by omega), wkC_N]; show cN (wkC C) 3 d' k' = _; rw [wkC_N]
theorem windL_pos {d : Nat} : ∀ (k : Nat) (C : CS), cN (windL d k C).2 3 d 8 ≤ cN C 3 d 8 + k ∧ ((windL d k C).1 = 0 → cN (windL d k C).2 3 d 8 = cN C 3 d 8 + k) := by
  intro k
  induction k with
  | zero => intro C; exact ⟨Nat.le_refl _, fun _ => rfl⟩
  | succ k ih =>
    intro C; unfold windL; split
    · have := ih (sN (wkC C) 3 d 8 (cN (wkC C) 3 d 8 + 1))
      have e1 : cN (sN (wkC C) 3 d 8 (cN (wkC C) 3 d 8 + 1)) 3 d 8 = cN C 3 d 8 + 1 := by rw [cN_sN, if_pos ⟨rfl, rfl, rfl⟩, wkC_N]
      rw [e1] at this
      exact ⟨by have := this.1; omega, fun q => by have := this.2 q; omega⟩
    · show cN (wkC C) 3 d 8 ≤ _ ∧ _
      rw [wkC_N]
      exact ⟨by omega, fun q => absurd q (show ¬ ((-4 : Int32) = 0) by decide)⟩
theorem windC_pos {C : CS} {d q : Nat} (h : cN C 3 d 8 ≤ q) : cN (windC C d q).2 3 d 8 ≤ q := by
  have := (windL_pos (d := d) (q - cN C 3 d 8) C).1
  unfold windC; omega
theorem wriC_M (C : CS) (d t b a : Nat) : cM (wriC C d t b a).2 = cM C := by
  unfold wriC; split; rfl; split; exact pasC_M C d; show cM (addC _ _ _ _ _) = _; rw [addC_M, pasC_M]
theorem wriC_I {C : CS} {d t b a : Nat} (hI : Iv C) : Iv (wriC C d t b a).2 := by
  unfold wriC; split; exact hI; split; exact Iv_pas hI; exact Iv_add (Iv_pas hI) (kAt_cl (Iv_pas hI) _ _)
theorem addC_N {C : CS} {b : Nat} {k v z : Int32} (f i k' : Nat) (h : f ≠ 5 ∨ i ≠ b) : cN (addC C b k v z) f i k' = cN C f i k' := by
  unfold addC; split; rfl; rw [cN_sN, if_neg (by omega)]; rfl
theorem wriC_N {C : CS} {d t b a : Nat} (f i k : Nat) (h1 : f ≠ 3 ∨ k ≠ 8 ∨ i ≠ d) (h2 : f ≠ 5 ∨ i ≠ t) : cN (wriC C d t b a).2 f i k = cN C f i k := by
  unfold wriC; split; rfl; split; exact pasC_N _ _ _ _ _ h1; show cN (addC _ _ _ _ _) f i k = _; rw [addC_N _ _ _ h2, pasC_N _ _ _ _ _ h1]
theorem cloC_M (C : CS) (d b : Nat) : cM (cloC C d b) = cM C := by
  unfold cloC; split; rfl; split; rfl; unfold clo1; rw [cM_sN, addC_M]; rfl
theorem cloC_I {C : CS} {d b : Nat} (hI : Iv C) : Iv (cloC C d b) := by
  unfold cloC; split; exact hI; split; exact hI; exact Iv_N (Iv_add (Iv_F hI) ⟨rfl, by decide⟩)
theorem endC_M (C : CS) (d t h : Nat) (w : Int32) : cM (endC C d t h w).2 = cM C := by
  unfold endC; split
  · show cM (if cN C 5 t 3 ≤ h then C else cloC C d t) = _
    split; rfl; exact cloC_M C d t
  · rfl
theorem endC_I {C : CS} {d t h : Nat} {w : Int32} (hI : Iv C) : Iv (endC C d t h w).2 := by
  unfold endC; split
  · show Iv (if cN C 5 t 3 ≤ h then C else cloC C d t)
    split; exact hI; exact cloC_I hI
  · exact hI
theorem wsL_M {d t : Nat} : ∀ (k j : Nat) (w : Int32) (C : CS), cM (wsL d t k j w C).2 = cM C := by
  intro k
  induction k with
  | zero => intro j w C; rfl
  | succ k ih => intro j w C; unfold wsL; split; rfl; rw [ih, wriC_M]
theorem wsL_I {d t : Nat} : ∀ (k j : Nat) (w : Int32) (C : CS), Iv C → Iv (wsL d t k j w C).2 := by
  intro k
  induction k with
  | zero => intro j w C h; exact h
  | succ k ih => intro j w C h; unfold wsL; split; exact h; exact ih _ _ _ (wriC_I h)
theorem ws1_M (C : CS) (d t h : Nat) : cM (ws1 C d t h).2 = cM C := by unfold ws1; rw [wsL_M]; exact Sm_windC.2.2
theorem ws1_I {C : CS} {d t h : Nat} (hI : Iv C) : Iv (ws1 C d t h).2 := wsL_I _ _ _ _ (Sm_windC.I hI)
theorem wsC_M (C : CS) (d t h : Nat) : cM (wsC C d t h).2 = cM C := by unfold wsC; rw [endC_M, ws1_M]
theorem wsC_I {C : CS} {d t h : Nat} (hI : Iv C) : Iv (wsC C d t h).2 := endC_I (ws1_I hI)
theorem briC_M (C : CS) (d t d' : Nat) : cM (briC C d t) d' = if d' = d then none else cM C d' := by unfold briC bri2 bri1; rw [cM_sM]; rfl
theorem briC_I {C : CS} {d t : Nat} (hI : Iv C) : Iv (briC C d t) := Iv_of hI (fun _ => rfl) (fun _ _ => rfl) (fun _ => rfl)
theorem mv2_M (C : CS) (d2 t2 t1 a : Nat) (w : Int32) : cM (mv2 C d2 t2 t1 a w).2 = cM C := by unfold mv2; split; rfl; exact wriC_M _ _ _ _ _
theorem mv2_I {C : CS} {d2 t2 t1 a : Nat} {w : Int32} (hI : Iv C) : Iv (mv2 C d2 t2 t1 a w).2 := by unfold mv2; split; exact hI; exact wriC_I hI
theorem mvL_M {d1 t1 d2 t2 : Nat} : ∀ (k a : Nat) (w : Int32) (C : CS), cM (mvL d1 t1 d2 t2 k a w C).2 = cM C := by
  intro k
  induction k with
  | zero => intro a w C; rfl
  | succ k ih => intro a w C; unfold mvL; split; rfl; rw [ih, mv2_M, Sm_rea.2.2]
theorem mvL_I {d1 t1 d2 t2 : Nat} : ∀ (k a : Nat) (w : Int32) (C : CS), Iv C → Iv (mvL d1 t1 d2 t2 k a w C).2 := by
  intro k
  induction k with
  | zero => intro a w C h; exact h
  | succ k ih => intro a w C h; unfold mvL; split; exact h; exact ih _ _ _ (mv2_I (Sm_rea.I h))
theorem Sm_mvW {C : CS} {d1 d2 p h : Nat} : Sm C (mvW C d1 d2 p h).2 := by unfold mvW; split; exact Sm_windC; exact Sm_windC.tr Sm_windC
theorem mvC_M (C : CS) (d1 t1 d2 t2 p h : Nat) : cM (mvC C d1 t1 d2 t2 p h).2 = cM C := by unfold mvC mv1; rw [endC_M, mvL_M]; exact Sm_mvW.2.2
theorem mvC_I {C : CS} {d1 t1 d2 t2 p h : Nat} (hI : Iv C) : Iv (mvC C d1 t1 d2 t2 p h).2 := endC_I (mvL_I _ _ _ _ (Sm_mvW.I hI))
theorem mi1_M (C : CS) (d1 t1 d2 t2 p d' : Nat) : cM (mi1 C d1 t1 d2 t2 p).2 d' = if d' = d2 then some t2 else cM C d' := by
  unfold mi1; split; exact carC_M d'; rw [mvC_M]; exact carC_M d'
theorem mi1_I {C : CS} {d1 t1 d2 t2 p : Nat} (hI : Iv C) : Iv (mi1 C d1 t1 d2 t2 p).2 := by unfold mi1; split; exact carC_I hI; exact mvC_I (carC_I hI)
/-! the nearest drive -/
theorem ndS_some {C : CS} {t j i : Nat} {o : Option Nat} (h : ndS C t j o = some i) : (i = j ∧ rdyP C j) ∨ o = some i := by
  unfold ndS at h
  split at h
  · rename_i hr
    split at h
    · cases h; exact Or.inl ⟨rfl, hr⟩
    · split at h
      · cases h; exact Or.inr rfl
      · cases h; exact Or.inl ⟨rfl, hr⟩
  · exact Or.inr h
theorem ndL_some {C : CS} {t i : Nat} : ∀ (k j : Nat) (o : Option Nat), ndL C t k j o = some i → (j ≤ i ∧ i < j + k ∧ rdyP C i) ∨ o = some i := by
  intro k
  induction k with
  | zero => intro j o h; exact Or.inr h
  | succ k ih =>
    intro j o h
    rcases ih (j + 1) _ h with q | q
    · exact Or.inl ⟨by omega, by omega, q.2.2⟩
    · rcases ndS_some q with ⟨rfl, z⟩ | z
      · exact Or.inl ⟨by omega, by omega, z⟩
      · exact Or.inr z
theorem nd_some {C : CS} {t d : Nat} (h : ndC C t = some d) : d < 3 ∧ rdyP C d := by
  rcases ndL_some _ _ _ h with q | q
  · exact ⟨by omega, q.2.2⟩
  · cases q
theorem miC_M {C : CS} {d1 t1 t2 p : Nat} {d' : Nat} : cM (miC C d1 t1 t2 p).2 d' = cM C d' := by
  unfold miC
  split
  · rfl
  · rename_i d2 h
    show cM (briC _ _ _) d' = _
    rw [briC_M]
    split
    · rename_i q; subst q; exact (nd_some h).2.2.symm
    · rw [mi1_M, if_neg (by assumption)]
theorem miC_I {C : CS} {d1 t1 t2 p : Nat} (hI : Iv C) : Iv (miC C d1 t1 t2 p).2 := by
  unfold miC; split; exact hI; exact briC_I (mi1_I hI)

set_option maxHeartbeats 4000000 in
set_option maxRecDepth 100000 in
theorem c_X4_isName (l : Launch) (G : GG) (C : CS) (M : MS) (x : Int32) : Ct l G yX4_isName cX4_isName 1 (some .boolean) 0 0 [.int x] C M (some (.int (bI (nameP x)))) C M := by
  refine Ct_z (by decide) (Nat.le_of_ble_eq_true rfl) (bI_01 _) (fun {p e s m args below meth c A Q ls} hC hW hl hE => ?_)
  have hx := hC.1
  have hb := hC.2.1
  have hl : lv_has ls 1 [(0, .int x)] := hl
  refine lv_iload_n hx hb dX4_isName_0 rfl (lv_at hl 0 rfl) ?_
  refine lv_if_lt (tgt := 15) hx hb dX4_isName_1 (by decide) (fun h1 => ?_) (fun h1 => ?_)
  · refine lv_iconst (v := 0) hx hb dX4_isName_15 (by decide) ?_
    have qr : (0 : Int32) = bI (nameP x) := by simp [bI, h1, cF_sF, cN_sN, cB_sB, cM_sM, cN_sF, cB_sF, cM_sF, cF_sN, cB_sN, cM_sN, cF_sB, cN_sB, cM_sB, cF_sM, cN_sM, cB_sM, mF_smF, mA_smF, mF_smA, mA_smA]
    exact hE hW qr dX4_isName_16
  · refine lv_iload_n hx hb dX4_isName_4 rfl (lv_at hl 0 rfl) ?_
    refine lv_sipush (v := 1000) hx hb dX4_isName_5 (by decide) ?_
    refine lv_icmp_ge (tgt := 15) hx hb dX4_isName_8 (by decide) (fun h8 => ?_) (fun h8 => ?_)
    · refine lv_iconst (v := 0) hx hb dX4_isName_15 (by decide) ?_
      have qr : (0 : Int32) = bI (nameP x) := by simp [bI, h1, h8, cF_sF, cN_sN, cB_sB, cM_sM, cN_sF, cB_sF, cM_sF, cF_sN, cB_sN, cM_sN, cF_sB, cN_sB, cM_sB, cF_sM, cN_sM, cB_sM, mF_smF, mA_smF, mF_smA, mA_smA]
      exact hE hW qr dX4_isName_16
    · refine lv_iconst (v := 1) hx hb dX4_isName_11 (by decide) ?_
      refine lv_goto (tgt := 16) hx hb dX4_isName_12 (by decide) ?_
      have qr : (1 : Int32) = bI (nameP x) := by simp [bI, h1, h8, cF_sF, cN_sN, cB_sB, cM_sM, cN_sF, cB_sF, cM_sF, cF_sN, cB_sN, cM_sN, cF_sB, cN_sB, cM_sB, cF_sM, cN_sM, cB_sM, mF_smF, mA_smF, mF_smA, mA_smA]
      exact hE hW qr dX4_isName_16

set_option maxHeartbeats 4000000 in
set_option maxRecDepth 100000 in
theorem c_X4_isPlace (l : Launch) (G : GG) (C : CS) (M : MS) (x : Int32) : Ct l G yX4_isPlace cX4_isPlace 1 (some .boolean) 0 0 [.int x] C M (some (.int (bI (placeP x)))) C M := by
  refine Ct_z (by decide) (Nat.le_of_ble_eq_true rfl) (bI_01 _) (fun {p e s m args below meth c A Q ls} hC hW hl hE => ?_)
  have hx := hC.1
  have hb := hC.2.1
  have hl : lv_has ls 1 [(0, .int x)] := hl
  refine lv_iload_n hx hb dX4_isPlace_0 rfl (lv_at hl 0 rfl) ?_
  refine lv_if_lt (tgt := 14) hx hb dX4_isPlace_1 (by decide) (fun h1 => ?_) (fun h1 => ?_)
  · refine lv_iconst (v := 0) hx hb dX4_isPlace_14 (by decide) ?_
    have qr : (0 : Int32) = bI (placeP x) := by simp [bI, h1, cF_sF, cN_sN, cB_sB, cM_sM, cN_sF, cB_sF, cM_sF, cF_sN, cB_sN, cM_sN, cF_sB, cN_sB, cM_sB, cF_sM, cN_sM, cB_sM, mF_smF, mA_smF, mF_smA, mA_smA]
    exact hE hW qr dX4_isPlace_15
  · refine lv_iload_n hx hb dX4_isPlace_4 rfl (lv_at hl 0 rfl) ?_
    refine lv_bipush (v := 100) hx hb dX4_isPlace_5 (by decide) ?_
    refine lv_icmp_ge (tgt := 14) hx hb dX4_isPlace_7 (by decide) (fun h7 => ?_) (fun h7 => ?_)
    · refine lv_iconst (v := 0) hx hb dX4_isPlace_14 (by decide) ?_
      have qr : (0 : Int32) = bI (placeP x) := by simp [bI, h1, h7, cF_sF, cN_sN, cB_sB, cM_sM, cN_sF, cB_sF, cM_sF, cF_sN, cB_sN, cM_sN, cF_sB, cN_sB, cM_sB, cF_sM, cN_sM, cB_sM, mF_smF, mA_smF, mF_smA, mA_smA]
      exact hE hW qr dX4_isPlace_15
    · refine lv_iconst (v := 1) hx hb dX4_isPlace_10 (by decide) ?_
      refine lv_goto (tgt := 15) hx hb dX4_isPlace_11 (by decide) ?_
      have qr : (1 : Int32) = bI (placeP x) := by simp [bI, h1, h7, cF_sF, cN_sN, cB_sB, cM_sM, cN_sF, cB_sF, cM_sF, cF_sN, cB_sN, cM_sN, cF_sB, cN_sB, cM_sB, cF_sM, cN_sM, cB_sM, mF_smF, mA_smF, mF_smA, mA_smA]
      exact hE hW qr dX4_isPlace_15

set_option maxHeartbeats 4000000 in
set_option maxRecDepth 100000 in
theorem c_X4_isHome (l : Launch) (G : GG) (C : CS) (M : MS) (h12 : zn G ≤ 12) (x : Int32) : Ct l G yX4_isHome cX4_isHome 3 (some .boolean) 0 0 [.ref (zad G 0 0), .int x] C M (some (.int (bI (hmL C x (zn G) 0 = true)))) C M := by
  refine Ct_z (by decide) (Nat.le_of_ble_eq_true rfl) (bI_01 _) (fun {p e s m args below meth c A Q ls} hC hW hl hE => ?_)
  have hx := hC.1
  have hb := hC.2.1
  have hl : lv_has ls 3 [(0, .ref (zad G 0 0)), (1, .int x)] := hl
  refine lv_iconst (v := 0) hx hb dX4_isHome_0 (by decide) ?_
  refine lv_istore_n (lv' := [(2, .int 0), (0, .ref (zad G 0 0)), (1, .int x)]) hx hb dX4_isHome_1 rfl hl (by decide) rfl (fun ls hl => ?_)
  have lp : ∀ (k : Nat) (j : Nat), j + k = zn G → hmL C x k j = hmL C x (zn G) 0 → ∀ (H : Heap) (locs : List Loc) (ls : Array Slot), Wd G s A s.heap H locs C M → lv_has ls 3 [(0, .ref (zad G 0 0)), (1, .int x), (2, .int (nI j))] → W p l e { frames := 0, cells := 0, slots := 0, locals := 0 } s m args below meth c H locs 0 0 Q (F0 m 2 ls []) := by
    intro k
    induction k with
    | zero =>
      intro j hk hD H locs ls hW hl
      refine lv_iload_n hx hb dX4_isHome_2 rfl (lv_at hl 2 rfl) ?_
      refine lv_aload_n hx hb dX4_isHome_3 rfl (lv_at hl 0 rfl) ?_
      refine g0 (k := 4) (v := .int (nI (zn G))) hC hW (by decide) mF_X4_48 rfl dX4_isHome_4 ?_
      refine zc_ge (i := j) (j := zn G) (tgt := 31) hx hb rfl rfl (by omega) (by omega) dX4_isHome_7 (by decide) (fun h7 => ?_) (fun h7 => ?_)
      · refine lv_iconst (v := 0) hx hb dX4_isHome_31 (by decide) ?_
        have qr : (0 : Int32) = bI (hmL C x (zn G) 0 = true) := by exact bI_f (by rw [← hD]; intro q; cases q)
        exact hE hW qr dX4_isHome_32
      · exact absurd h7 (by omega)
    | succ k ih =>
      intro j hk hD H locs ls hW hl
      refine lv_iload_n hx hb dX4_isHome_2 rfl (lv_at hl 2 rfl) ?_
      refine lv_aload_n hx hb dX4_isHome_3 rfl (lv_at hl 0 rfl) ?_
      refine g0 (k := 4) (v := .int (nI (zn G))) hC hW (by decide) mF_X4_48 rfl dX4_isHome_4 ?_
      refine zc_ge (i := j) (j := zn G) (tgt := 31) hx hb rfl rfl (by omega) (by omega) dX4_isHome_7 (by decide) (fun h7 => ?_) (fun h7 => ?_)
      · exact absurd h7 (by omega)
      · refine lv_aload_n hx hb dX4_isHome_10 rfl (lv_at hl 0 rfl) ?_
        refine g0 (k := 2) (v := .ref (zad G 4 0)) hC hW (by decide) mF_X4_27 rfl dX4_isHome_11 ?_
        refine lv_iload_n hx hb dX4_isHome_14 rfl (lv_at hl 2 rfl) ?_
        refine at9 (t := j) hC hW rfl (by omega) h12 dX4_isHome_15 ?_
        refine g9 (k := 0) (v := .int (nI (cN C 9 j 0))) hC hW (by omega) (by decide) mF_X4_132 rfl dX4_isHome_16 ?_
        refine lv_iload_n hx hb dX4_isHome_19 rfl (lv_at hl 1 rfl) ?_
        refine lv_icmp_ne (tgt := 25) hx hb dX4_isHome_20 (by decide) (fun h20 => ?_) (fun h20 => ?_)
        · refine lv_iinc (k := 2) (v := nI (j + 1)) (lv' := [(2, .int (nI (j + 1))), (0, .ref (zad G 0 0)), (1, .int x)]) hx hb dX4_isHome_25 hl rfl (nI_inc _) (by decide) rfl (fun ls hl => ?_)
          refine lv_goto (tgt := 2) hx hb dX4_isHome_28 (by decide) ?_
          exact ih (j + 1) (by omega) (by rw [← hD, hmL, if_neg h20]) _ _ _ hW (lv_sub hl [1, 2, 0] rfl)
        · refine lv_iconst (v := 1) hx hb dX4_isHome_23 (by decide) ?_
          have qr : (1 : Int32) = bI (hmL C x (zn G) 0 = true) := by exact bI_t (by rw [← hD, hmL, if_pos h20])
          exact hE hW qr dX4_isHome_24
  exact lp (zn G) 0 (by omega) rfl _ _ _ hW (lv_sub hl [1, 2, 0] rfl)

set_option maxHeartbeats 4000000 in
set_option maxRecDepth 100000 in
theorem c_X4_findTape (l : Launch) (G : GG) (C : CS) (M : MS) (h12 : zn G ≤ 12) {t : Nat} (ht : t < zn G) : Ct l G yX4_findTape cX4_findTape 2 (some (.object "TapeVault$Tape")) 0 0 [.ref (zad G 0 0), .int (nI t)] C M (some (.ref (zad G 9 t))) C M := by
  refine Ct_r (by decide) (Nat.le_of_ble_eq_true rfl) (Or.inr ⟨_, rfl⟩) (fun {p e s m args below meth c A Q ls} hC hW hl hE => ?_)
  have hx := hC.1
  have hb := hC.2.1
  have hl : lv_has ls 2 [(0, .ref (zad G 0 0)), (1, .int (nI t))] := hl
  refine lv_iload_n hx hb dX4_findTape_0 rfl (lv_at hl 1 rfl) ?_
  refine zf_lt (i := t) (tgt := 21) hx hb rfl (by omega) dX4_findTape_1 (by decide) ?_
  refine lv_iload_n hx hb dX4_findTape_4 rfl (lv_at hl 1 rfl) ?_
  refine lv_aload_n hx hb dX4_findTape_5 rfl (lv_at hl 0 rfl) ?_
  refine g0 (k := 4) (v := .int (nI (zn G))) hC hW (by decide) mF_X4_48 rfl dX4_findTape_6 ?_
  refine zc_ge (i := t) (j := zn G) (tgt := 21) hx hb rfl rfl (by omega) (by omega) dX4_findTape_9 (by decide) (fun h9 => ?_) (fun h9 => ?_)
  · exact absurd h9 (by omega)
  · refine lv_aload_n hx hb dX4_findTape_12 rfl (lv_at hl 0 rfl) ?_
    refine g0 (k := 2) (v := .ref (zad G 4 0)) hC hW (by decide) mF_X4_27 rfl dX4_findTape_13 ?_
    refine lv_iload_n hx hb dX4_findTape_16 rfl (lv_at hl 1 rfl) ?_
    refine at9 (t := t) hC hW rfl (by omega) h12 dX4_findTape_17 ?_
    refine lv_goto (tgt := 22) hx hb dX4_findTape_18 (by decide) ?_
    exact hE hW rfl dX4_findTape_22

set_option maxHeartbeats 4000000 in
set_option maxRecDepth 100000 in
theorem c_X4_findTape_n (l : Launch) (G : GG) (C : CS) (M : MS) (h12 : zn G ≤ 12) {x : Int32} (hbd : badT (zn G) x) : Ct l G yX4_findTape cX4_findTape 2 (some (.object "TapeVault$Tape")) 0 0 [.ref (zad G 0 0), .int x] C M (some (.null)) C M := by
  refine Ct_r (by decide) (Nat.le_of_ble_eq_true rfl) (Or.inl rfl) (fun {p e s m args below meth c A Q ls} hC hW hl hE => ?_)
  have hx := hC.1
  have hb := hC.2.1
  have hl : lv_has ls 2 [(0, .ref (zad G 0 0)), (1, .int x)] := hl
  refine lv_iload_n hx hb dX4_findTape_0 rfl (lv_at hl 1 rfl) ?_
  refine lv_if_lt (tgt := 21) hx hb dX4_findTape_1 (by decide) (fun h1 => ?_) (fun h1 => ?_)
  · refine lv_null hx hb dX4_findTape_21 ?_
    exact hE hW rfl dX4_findTape_22
  · refine lv_iload_n hx hb dX4_findTape_4 rfl (lv_at hl 1 rfl) ?_
    refine lv_aload_n hx hb dX4_findTape_5 rfl (lv_at hl 0 rfl) ?_
    refine g0 (k := 4) (v := .int (nI (zn G))) hC hW (by decide) mF_X4_48 rfl dX4_findTape_6 ?_
    refine lv_icmp_ge (tgt := 21) hx hb dX4_findTape_9 (by decide) (fun h9 => ?_) (fun h9 => ?_)
    · refine lv_null hx hb dX4_findTape_21 ?_
      exact hE hW rfl dX4_findTape_22
    · exact absurd hbd (fun q => q.elim h1 h9)

set_option maxHeartbeats 4000000 in
set_option maxRecDepth 100000 in
theorem c_X4_findDrive (l : Launch) (G : GG) (C : CS) (M : MS) {d : Nat} (hd : d < 3) : Ct l G yX4_findDrive cX4_findDrive 2 (some (.object "TapeVault$Drive")) 0 0 [.ref (zad G 0 0), .int (nI d)] C M (some (.ref (zad G 3 d))) C M := by
  refine Ct_r (by decide) (Nat.le_of_ble_eq_true rfl) (Or.inr ⟨_, rfl⟩) (fun {p e s m args below meth c A Q ls} hC hW hl hE => ?_)
  have hx := hC.1
  have hb := hC.2.1
  have hl : lv_has ls 2 [(0, .ref (zad G 0 0)), (1, .int (nI d))] := hl
  refine lv_iload_n hx hb dX4_findDrive_0 rfl (lv_at hl 1 rfl) ?_
  refine zf_lt (i := d) (tgt := 18) hx hb rfl (by omega) dX4_findDrive_1 (by decide) ?_
  refine lv_iload_n hx hb dX4_findDrive_4 rfl (lv_at hl 1 rfl) ?_
  refine lv_iconst (v := 3) hx hb dX4_findDrive_5 (by decide) ?_
  refine zc_ge (i := d) (j := 3) (tgt := 18) hx hb rfl rfl (by omega) (by omega) dX4_findDrive_6 (by decide) (fun h6 => ?_) (fun h6 => ?_)
  · exact absurd h6 (by omega)
  · refine lv_aload_n hx hb dX4_findDrive_9 rfl (lv_at hl 0 rfl) ?_
    refine g0 (k := 1) (v := .ref (zad G 2 0)) hC hW (by decide) mF_X4_18 rfl dX4_findDrive_10 ?_
    refine lv_iload_n hx hb dX4_findDrive_13 rfl (lv_at hl 1 rfl) ?_
    refine ar (d := d) hC hW rfl (by omega) dX4_findDrive_14 ?_
    refine lv_goto (tgt := 19) hx hb dX4_findDrive_15 (by decide) ?_
    exact hE hW rfl dX4_findDrive_19

set_option maxHeartbeats 4000000 in
set_option maxRecDepth 100000 in
theorem c_X4_findDrive_n (l : Launch) (G : GG) (C : CS) (M : MS) {x : Int32} (hbd : badT 3 x) : Ct l G yX4_findDrive cX4_findDrive 2 (some (.object "TapeVault$Drive")) 0 0 [.ref (zad G 0 0), .int x] C M (some (.null)) C M := by
  refine Ct_r (by decide) (Nat.le_of_ble_eq_true rfl) (Or.inl rfl) (fun {p e s m args below meth c A Q ls} hC hW hl hE => ?_)
  have hx := hC.1
  have hb := hC.2.1
  have hl : lv_has ls 2 [(0, .ref (zad G 0 0)), (1, .int x)] := hl
  refine lv_iload_n hx hb dX4_findDrive_0 rfl (lv_at hl 1 rfl) ?_
  refine lv_if_lt (tgt := 18) hx hb dX4_findDrive_1 (by decide) (fun h1 => ?_) (fun h1 => ?_)
  · refine lv_null hx hb dX4_findDrive_18 ?_
    exact hE hW rfl dX4_findDrive_19
  · refine lv_iload_n hx hb dX4_findDrive_4 rfl (lv_at hl 1 rfl) ?_
    refine lv_iconst (v := 3) hx hb dX4_findDrive_5 (by decide) ?_
    refine lv_icmp_ge (tgt := 18) hx hb dX4_findDrive_6 (by decide) (fun h6 => ?_) (fun h6 => ?_)
    · refine lv_null hx hb dX4_findDrive_18 ?_
      exact hE hW rfl dX4_findDrive_19
    · exact absurd hbd (fun q => q.elim h1 h6)

set_option maxHeartbeats 4000000 in
set_option maxRecDepth 100000 in
theorem c_X4_counted (l : Launch) (G : GG) (C : CS) (M : MS) (w : Int32) : Ct l G yX4_counted cX4_counted 2 (some .int) 0 0 [.ref (zad G 0 0), .int w] C M (some (.int w)) (couC C w) M := by
  refine Ct_i (by decide) (Nat.le_of_ble_eq_true rfl) (fun {p e s m args below meth c A Q ls} hC hW hl hE => ?_)
  have hx := hC.1
  have hb := hC.2.1
  have hl : lv_has ls 2 [(0, .ref (zad G 0 0)), (1, .int w)] := hl
  refine lv_aload_n hx hb dX4_counted_0 rfl (lv_at hl 0 rfl) ?_
  refine lv_dup hx hb dX4_counted_1 rfl ?_
  refine g0 (k := 5) (v := .int (cF C 0 0 5)) hC hW (by decide) mF_X4_153 rfl dX4_counted_2 ?_
  refine lv_iconst (v := 1) hx hb dX4_counted_5 (by decide) ?_
  refine lv_iadd hx hb dX4_counted_6 ?_
  refine p0 (k := 5) (v := (cF C 0 0 5) + 1) hC hW (by decide) mF_X4_153 dX4_counted_7 (fun _ eS H locs hW => ?_)
  subst eS
  refine lv_iload_n hx hb dX4_counted_10 rfl (lv_at hl 1 rfl) ?_
  refine lv_if_ge (tgt := 24) hx hb dX4_counted_11 (by decide) (fun h11 => ?_) (fun h11 => ?_)
  · refine lv_iload_n hx hb dX4_counted_24 rfl (lv_at hl 1 rfl) ?_
    have qC : sF C 0 0 5 ((cF C 0 0 5) + 1) = couC C w := by unfold couC cou1; simp [h11, cF_sF, cN_sN, cB_sB, cM_sM, cN_sF, cB_sF, cM_sF, cF_sN, cB_sN, cM_sN, cF_sB, cN_sB, cM_sB, cF_sM, cN_sM, cB_sM, mF_smF, mA_smF, mF_smA, mA_smA]
    rw [qC] at hW
    exact hE hW rfl dX4_counted_25
  · refine lv_aload_n hx hb dX4_counted_14 rfl (lv_at hl 0 rfl) ?_
    refine lv_dup hx hb dX4_counted_15 rfl ?_
    refine g0 (k := 6) (v := .int (cF C 0 0 6)) hC hW (by decide) mF_X4_156 rfl dX4_counted_16 ?_
    refine lv_iconst (v := 1) hx hb dX4_counted_19 (by decide) ?_
    refine lv_iadd hx hb dX4_counted_20 ?_
    refine p0 (k := 6) (v := (cF C 0 0 6) + 1) hC hW (by decide) mF_X4_156 dX4_counted_21 (fun _ eS H locs hW => ?_)
    subst eS
    refine lv_iload_n hx hb dX4_counted_24 rfl (lv_at hl 1 rfl) ?_
    have qC : sF (sF C 0 0 5 ((cF C 0 0 5) + 1)) 0 0 6 ((cF C 0 0 6) + 1) = couC C w := by unfold couC cou1; simp [h11, cF_sF, cN_sN, cB_sB, cM_sM, cN_sF, cB_sF, cM_sF, cF_sN, cB_sN, cM_sN, cF_sB, cN_sB, cM_sB, cF_sM, cN_sM, cB_sM, mF_smF, mA_smF, mF_smA, mA_smA]
    rw [qC] at hW
    exact hE hW rfl dX4_counted_25

theorem ndS_e {C : CS} {t j : Nat} {o o2 : Option Nat} (h : ndS C t j o = o2) : ndS C t j o = o2 := h

set_option maxHeartbeats 4000000 in
set_option maxRecDepth 100000 in
theorem c_X4_nearestDrive (l : Launch) (G : GG) (C : CS) (M : MS) {t : Nat} (ht : t < zn G) (hI : Iv C) (hT : ∀ d t, cM C d = some t → t < zn G) : Ct l G yX4_nearestDrive cX4_nearestDrive 5 (some (.object "TapeVault$Drive")) 2 41 [.ref (zad G 0 0), .ref (zad G 9 t)] C M (some (va_rf ((ndC C t).map (zad G 3)))) C M := by
  refine Ct_r (by decide) (Nat.le_of_ble_eq_true rfl) (by cases ndC C t; exact Or.inl rfl; exact Or.inr ⟨_, rfl⟩) (fun {p e s m args below meth c A Q ls} hC hW hl hE => ?_)
  have hx := hC.1
  have hb := hC.2.1
  have hl : lv_has ls 5 [(0, .ref (zad G 0 0)), (1, .ref (zad G 9 t))] := hl
  refine lv_null hx hb dX4_nearestDrive_0 ?_
  refine lv_astore_nN (lv' := [(2, .null), (0, .ref (zad G 0 0)), (1, .ref (zad G 9 t))]) hx hb dX4_nearestDrive_1 rfl hl (by decide) rfl (fun ls hl => ?_)
  refine lv_iconst (v := 0) hx hb dX4_nearestDrive_2 (by decide) ?_
  refine lv_istore_n (lv' := [(3, .int 0), (2, .null), (0, .ref (zad G 0 0)), (1, .ref (zad G 9 t))]) hx hb dX4_nearestDrive_3 rfl hl (by decide) rfl (fun ls hl => ?_)
  have lp : ∀ (k : Nat) (j : Nat) (o : Option Nat), j + k = 3 → (∀ q, o = some q → q < 3) → ndL C t k j o = ndC C t → ∀ (H : Heap) (locs : List Loc) (ls : Array Slot), Wd G s A s.heap H locs C M → lv_has ls 5 [(0, .ref (zad G 0 0)), (1, .ref (zad G 9 t)), (2, va_rf (o.map (zad G 3))), (3, .int (nI j))] → W p l e { frames := 2, cells := 0, slots := 0, locals := 41 } s m args below meth c H locs 0 0 Q (F0 m 4 ls []) := by
    intro k
    induction k with
    | zero =>
      intro j o hk ho hD H locs ls hW hl
      cases o with
      | none =>
        have hl : lv_has ls 5 [(0, .ref (zad G 0 0)), (1, .ref (zad G 9 t)), (2, .null), (3, .int (nI j))] := hl
        refine lv_iload_n hx hb dX4_nearestDrive_4 rfl (lv_at hl 3 rfl) ?_
        refine lv_iconst (v := 3) hx hb dX4_nearestDrive_5 (by decide) ?_
        refine zc_ge (i := j) (j := 3) (tgt := 52) hx hb rfl rfl (by omega) (by omega) dX4_nearestDrive_6 (by decide) (fun h6 => ?_) (fun h6 => ?_)
        · refine lv_aload_nN hx hb dX4_nearestDrive_52 rfl (lv_at hl 2 rfl) ?_
          have hD2 : ndC C t = none := hD.symm
          rw [hD2] at hE
          exact hE hW rfl dX4_nearestDrive_53
        · exact absurd h6 (by omega)
      | some d =>
        have hd : d < 3 := ho d rfl
        have hdl := dist_le (hI.2.2 t) hd
        have hl : lv_has ls 5 [(0, .ref (zad G 0 0)), (1, .ref (zad G 9 t)), (2, .ref (zad G 3 d)), (3, .int (nI j))] := hl
        refine lv_iload_n hx hb dX4_nearestDrive_4 rfl (lv_at hl 3 rfl) ?_
        refine lv_iconst (v := 3) hx hb dX4_nearestDrive_5 (by decide) ?_
        refine zc_ge (i := j) (j := 3) (tgt := 52) hx hb rfl rfl (by omega) (by omega) dX4_nearestDrive_6 (by decide) (fun h6 => ?_) (fun h6 => ?_)
        · refine lv_aload_n hx hb dX4_nearestDrive_52 rfl (lv_at hl 2 rfl) ?_
          have hD2 : ndC C t = some d := hD.symm
          rw [hD2] at hE
          exact hE hW rfl dX4_nearestDrive_53
        · exact absurd h6 (by omega)
    | succ k ih =>
      intro j o hk ho hD H locs ls hW hl
      have hj3 : j < 3 := by omega
      have hdj := dist_le (hI.2.2 t) hj3
      cases o with
      | none =>
        have hl : lv_has ls 5 [(0, .ref (zad G 0 0)), (1, .ref (zad G 9 t)), (2, .null), (3, .int (nI j))] := hl
        refine lv_iload_n hx hb dX4_nearestDrive_4 rfl (lv_at hl 3 rfl) ?_
        refine lv_iconst (v := 3) hx hb dX4_nearestDrive_5 (by decide) ?_
        refine zc_ge (i := j) (j := 3) (tgt := 52) hx hb rfl rfl (by omega) (by omega) dX4_nearestDrive_6 (by decide) (fun h6 => ?_) (fun h6 => ?_)
        · exact absurd h6 (by omega)
        · refine lv_aload_n hx hb dX4_nearestDrive_9 rfl (lv_at hl 0 rfl) ?_
          refine g0 (k := 1) (v := .ref (zad G 2 0)) hC hW (by decide) mF_X4_18 rfl dX4_nearestDrive_10 ?_
          refine lv_iload_n hx hb dX4_nearestDrive_13 rfl (lv_at hl 3 rfl) ?_
          refine ar (d := j) hC hW rfl (by omega) dX4_nearestDrive_14 ?_
          refine lv_astore (lv' := [(4, .ref (zad G 3 j)), (0, .ref (zad G 0 0)), (1, .ref (zad G 9 t)), (2, .null), (3, .int (nI j))]) hx hb dX4_nearestDrive_15 hl (by decide) rfl (fun ls hl => ?_)
          refine lv_aload hx hb dX4_nearestDrive_17 (lv_at hl 0 rfl) ?_
          refine z_callV (As := []) (rest := []) (st1 := [.int (bI (rdyP C j))]) hC hW (LL_3 (by omega)) rfl rfl rfl (c_X1_isReady l G C M (by omega) (hT j)) mw_X1_isReady mv_X1_isReady mM_X4_159 ⟨Nat.le_of_ble_eq_true rfl, Nat.le_of_ble_eq_true rfl⟩ rfl rfl hl.1 (lv_room (Nat.le_of_ble_eq_true rfl)) dX4_nearestDrive_19 rfl (fun H locs hW => ?_) ⟨Nat.zero_le _, Nat.zero_le _⟩
          refine zb_eq (tgt := 46) hx hb (rdyP C j) rfl dX4_nearestDrive_22 (by decide) (fun h22 => ?_) (fun h22 => ?_)
          · refine lv_iinc (k := 4) (v := nI (j + 1)) (lv' := [(3, .int (nI (j + 1))), (4, .ref (zad G 3 j)), (0, .ref (zad G 0 0)), (1, .ref (zad G 9 t)), (2, .null)]) hx hb dX4_nearestDrive_46 hl rfl (nI_inc _) (by decide) rfl (fun ls hl => ?_)
            refine lv_goto (tgt := 4) hx hb dX4_nearestDrive_49 (by decide) ?_
            exact ih (j + 1) none (by omega) (fun q hq => by cases hq) (by rw [← hD, ndL]; congr 1; exact (ndS_e (by rw [ndS, if_neg h22])).symm) _ _ _ hW (lv_sub hl [2, 3, 4, 0] rfl)
          · refine lv_aload_nN hx hb dX4_nearestDrive_25 rfl (lv_at hl 3 rfl) ?_
            refine lv_ifnullN (tgt := 43) hx hb dX4_nearestDrive_26 (by decide) ?_
            refine lv_aload hx hb dX4_nearestDrive_43 (lv_at hl 0 rfl) ?_
            refine lv_astore_n (lv' := [(2, .ref (zad G 3 j)), (4, .ref (zad G 3 j)), (0, .ref (zad G 0 0)), (1, .ref (zad G 9 t)), (3, .int (nI j))]) hx hb dX4_nearestDrive_45 rfl hl (by decide) rfl (fun ls hl => ?_)
            refine lv_iinc (k := 4) (v := nI (j + 1)) (lv' := [(3, .int (nI (j + 1))), (2, .ref (zad G 3 j)), (4, .ref (zad G 3 j)), (0, .ref (zad G 0 0)), (1, .ref (zad G 9 t))]) hx hb dX4_nearestDrive_46 hl rfl (nI_inc _) (by decide) rfl (fun ls hl => ?_)
            refine lv_goto (tgt := 4) hx hb dX4_nearestDrive_49 (by decide) ?_
            exact ih (j + 1) (some j) (by omega) (fun q hq => by cases hq; omega) (by rw [← hD, ndL]; congr 1; exact (ndS_e (by simp [ndS, h22])).symm) _ _ _ hW (lv_sub hl [3, 4, 1, 0] rfl)
      | some d =>
        have hd : d < 3 := ho d rfl
        have hdl := dist_le (hI.2.2 t) hd
        have hl : lv_has ls 5 [(0, .ref (zad G 0 0)), (1, .ref (zad G 9 t)), (2, .ref (zad G 3 d)), (3, .int (nI j))] := hl
        refine lv_iload_n hx hb dX4_nearestDrive_4 rfl (lv_at hl 3 rfl) ?_
        refine lv_iconst (v := 3) hx hb dX4_nearestDrive_5 (by decide) ?_
        refine zc_ge (i := j) (j := 3) (tgt := 52) hx hb rfl rfl (by omega) (by omega) dX4_nearestDrive_6 (by decide) (fun h6 => ?_) (fun h6 => ?_)
        · exact absurd h6 (by omega)
        · refine lv_aload_n hx hb dX4_nearestDrive_9 rfl (lv_at hl 0 rfl) ?_
          refine g0 (k := 1) (v := .ref (zad G 2 0)) hC hW (by decide) mF_X4_18 rfl dX4_nearestDrive_10 ?_
          refine lv_iload_n hx hb dX4_nearestDrive_13 rfl (lv_at hl 3 rfl) ?_
          refine ar (d := j) hC hW rfl (by omega) dX4_nearestDrive_14 ?_
          refine lv_astore (lv' := [(4, .ref (zad G 3 j)), (0, .ref (zad G 0 0)), (1, .ref (zad G 9 t)), (2, .ref (zad G 3 d)), (3, .int (nI j))]) hx hb dX4_nearestDrive_15 hl (by decide) rfl (fun ls hl => ?_)
          refine lv_aload hx hb dX4_nearestDrive_17 (lv_at hl 0 rfl) ?_
          refine z_callV (As := []) (rest := []) (st1 := [.int (bI (rdyP C j))]) hC hW (LL_3 (by omega)) rfl rfl rfl (c_X1_isReady l G C M (by omega) (hT j)) mw_X1_isReady mv_X1_isReady mM_X4_159 ⟨Nat.le_of_ble_eq_true rfl, Nat.le_of_ble_eq_true rfl⟩ rfl rfl hl.1 (lv_room (Nat.le_of_ble_eq_true rfl)) dX4_nearestDrive_19 rfl (fun H locs hW => ?_) ⟨Nat.zero_le _, Nat.zero_le _⟩
          refine zb_eq (tgt := 46) hx hb (rdyP C j) rfl dX4_nearestDrive_22 (by decide) (fun h22 => ?_) (fun h22 => ?_)
          · refine lv_iinc (k := 4) (v := nI (j + 1)) (lv' := [(3, .int (nI (j + 1))), (4, .ref (zad G 3 j)), (0, .ref (zad G 0 0)), (1, .ref (zad G 9 t)), (2, .ref (zad G 3 d))]) hx hb dX4_nearestDrive_46 hl rfl (nI_inc _) (by decide) rfl (fun ls hl => ?_)
            refine lv_goto (tgt := 4) hx hb dX4_nearestDrive_49 (by decide) ?_
            exact ih (j + 1) (some d) (by omega) (fun q hq => by cases hq; omega) (by rw [← hD, ndL]; congr 1; exact (ndS_e (by rw [ndS, if_neg h22])).symm) _ _ _ hW (lv_sub hl [2, 3, 4, 0] rfl)
          · refine lv_aload_n hx hb dX4_nearestDrive_25 rfl (lv_at hl 3 rfl) ?_
            refine lv_ifnull hx hb dX4_nearestDrive_26 ?_
            refine lv_aload hx hb dX4_nearestDrive_29 (lv_at hl 0 rfl) ?_
            refine lv_aload_n hx hb dX4_nearestDrive_31 rfl (lv_at hl 2 rfl) ?_
            refine z_callV (As := [.ref (zad G 9 t)]) (rest := []) (st1 := [.int (nI (dist (cN C 9 t 0) j))]) hC hW (LL_3 (by omega)) rfl rfl rfl (c_X1_distance l G C M (by omega) ht hI) mw_X1_distance mv_X1_distance mM_X4_163 ⟨Nat.le_of_ble_eq_true rfl, Nat.le_of_ble_eq_true rfl⟩ rfl rfl hl.1 (lv_room (Nat.le_of_ble_eq_true rfl)) dX4_nearestDrive_32 rfl (fun H locs hW => ?_) ⟨Nat.zero_le _, Nat.zero_le _⟩
            refine lv_aload_n hx hb dX4_nearestDrive_35 rfl (lv_at hl 3 rfl) ?_
            refine lv_aload_n hx hb dX4_nearestDrive_36 rfl (lv_at hl 2 rfl) ?_
            refine z_callV (As := [.ref (zad G 9 t)]) (rest := [.int (nI (dist (cN C 9 t 0) j))]) (st1 := [.int (nI (dist (cN C 9 t 0) d)), .int (nI (dist (cN C 9 t 0) j))]) hC hW (LL_3 hd) rfl rfl rfl (c_X1_distance l G C M (hd) ht hI) mw_X1_distance mv_X1_distance mM_X4_163 ⟨Nat.le_of_ble_eq_true rfl, Nat.le_of_ble_eq_true rfl⟩ rfl rfl hl.1 (lv_room (Nat.le_of_ble_eq_true rfl)) dX4_nearestDrive_37 rfl (fun H locs hW => ?_) ⟨Nat.zero_le _, Nat.zero_le _⟩
            refine zc_ge (i := dist (cN C 9 t 0) j) (j := dist (cN C 9 t 0) d) (tgt := 46) hx hb rfl rfl (by omega) (by omega) dX4_nearestDrive_40 (by decide) (fun h40 => ?_) (fun h40 => ?_)
            · refine lv_iinc (k := 4) (v := nI (j + 1)) (lv' := [(3, .int (nI (j + 1))), (4, .ref (zad G 3 j)), (0, .ref (zad G 0 0)), (1, .ref (zad G 9 t)), (2, .ref (zad G 3 d))]) hx hb dX4_nearestDrive_46 hl rfl (nI_inc _) (by decide) rfl (fun ls hl => ?_)
              refine lv_goto (tgt := 4) hx hb dX4_nearestDrive_49 (by decide) ?_
              exact ih (j + 1) (some d) (by omega) (fun q hq => by cases hq; omega) (by rw [← hD, ndL]; congr 1; exact (ndS_e (by show (if rdyP C j then (if dist (cN C 9 t 0) d ≤ dist (cN C 9 t 0) j then some d else some j) else some d) = some d; rw [if_pos h22, if_pos (by omega)])).symm) _ _ _ hW (lv_sub hl [2, 3, 4, 0] rfl)
            · refine lv_aload hx hb dX4_nearestDrive_43 (lv_at hl 0 rfl) ?_
              refine lv_astore_n (lv' := [(2, .ref (zad G 3 j)), (4, .ref (zad G 3 j)), (0, .ref (zad G 0 0)), (1, .ref (zad G 9 t)), (3, .int (nI j))]) hx hb dX4_nearestDrive_45 rfl hl (by decide) rfl (fun ls hl => ?_)
              refine lv_iinc (k := 4) (v := nI (j + 1)) (lv' := [(3, .int (nI (j + 1))), (2, .ref (zad G 3 j)), (4, .ref (zad G 3 j)), (0, .ref (zad G 0 0)), (1, .ref (zad G 9 t))]) hx hb dX4_nearestDrive_46 hl rfl (nI_inc _) (by decide) rfl (fun ls hl => ?_)
              refine lv_goto (tgt := 4) hx hb dX4_nearestDrive_49 (by decide) ?_
              exact ih (j + 1) (some j) (by omega) (fun q hq => by cases hq; omega) (by rw [← hD, ndL]; congr 1; exact (ndS_e (by show (if rdyP C j then (if dist (cN C 9 t 0) d ≤ dist (cN C 9 t 0) j then some d else some j) else some d) = some j; rw [if_pos h22, if_neg (by omega)])).symm) _ _ _ hW (lv_sub hl [3, 4, 1, 0] rfl)
  exact lp 3 0 none rfl (fun q hq => by cases hq) rfl _ _ _ hW (lv_sub hl [2, 3, 1, 0] rfl)
end
section
/-! ===== the class: writing, reading and moving files; jobs ===== -/
theorem carL_r {d : Nat} : ∀ (k : Nat) (C : CS), (carL d k C).1 = 0 ∨ (carL d k C).1 = -4 := by
  intro k
  induction k with
  | zero => intro C; exact Or.inl rfl
  | succ k ih => intro C; unfold carL; split; exact ih _; exact Or.inr rfl
theorem carC_r (C : CS) (d t : Nat) : (carC C d t).1 = 0 ∨ (carC C d t).1 = -4 := by
  unfold carC carE
  split
  · exact Or.inl rfl
  · exact carL_r _ _
theorem wsL_ne {d t : Nat} {k j : Nat} {w : Int32} {C : CS} (h : w ≠ 0) : wsL d t k j w C = (w, C) := by
  cases k with
  | zero => rfl
  | succ k => unfold wsL; rw [if_pos h]
theorem mvL_ne {d1 t1 d2 t2 k a : Nat} {w : Int32} {C : CS} (h : w ≠ 0) : mvL d1 t1 d2 t2 k a w C = (w, C) := by
  cases k with
  | zero => rfl
  | succ k => unfold mvL; rw [if_pos h]
theorem wriC_0 {C : CS} {d t b a : Nat} (h : (wriC C d t b a).1 = 0) : cN C 5 t 3 < cap t := by
  unfold wriC at h
  split at h
  · exact absurd h (show ¬ ((-6 : Int32) = 0) by decide)
  · omega
theorem windL_r {d : Nat} : ∀ (k : Nat) (C : CS), (windL d k C).1 = 0 ∨ (windL d k C).1 = -4 := by
  intro k
  induction k with
  | zero => intro C; exact Or.inl rfl
  | succ k ih => intro C; unfold windL; split; exact ih _; exact Or.inr rfl
theorem pasC_r (C : CS) (d : Nat) : (pasC C d).1 = 0 ∨ (pasC C d).1 = -4 ∨ (pasC C d).1 = -5 := by
  unfold pasC; split
  · split
    · exact Or.inl rfl
    · exact Or.inr (Or.inl rfl)
  · exact Or.inr (Or.inr rfl)
/-- why a part of a job did not come to its end -/
abbrev failR (w : Int32) : Prop := w = 0 ∨ w = -3 ∨ w = -4 ∨ w = -5 ∨ w = -6 ∨ w = -7
theorem failR_of {w : Int32} (h : w = 0 ∨ w = -4 ∨ w = -5) : failR w := by rcases h with h | h | h <;> (subst h; decide)
theorem failR_neg {w : Int32} (h : failR w) (h0 : w ≠ 0) : w < 0 := by
  rcases h with h | h | h | h | h | h
  · exact absurd h h0
  all_goals (subst h; decide)
theorem wriC_r (C : CS) (d t b a : Nat) : failR (wriC C d t b a).1 := by
  have := pasC_r C d
  unfold wriC; split
  · show failR (-6); decide
  · split <;> (show failR (pasC C d).1; exact failR_of this)
theorem reaC_r (C : CS) (d t : Nat) : failR (reaC C d t).1 := by
  have := pasC_r C d
  unfold reaC; split
  · exact failR_of this
  · split
    · show failR (-7); decide
    · show failR (pasC C d).1; exact failR_of this
theorem wsL_r {d t : Nat} : ∀ (k j : Nat) (w : Int32) (C : CS), failR w → failR (wsL d t k j w C).1 := by
  intro k
  induction k with
  | zero => intro j w C h; exact h
  | succ k ih => intro j w C h; unfold wsL; split; exact h; exact ih _ _ _ (wriC_r _ _ _ _ _)
theorem mv2_r (C : CS) (d2 t2 t1 a : Nat) (w : Int32) (h : failR w) : failR (mv2 C d2 t2 t1 a w).1 := by unfold mv2; split; exact h; exact wriC_r _ _ _ _ _
theorem mvL_r {d1 t1 d2 t2 : Nat} : ∀ (k a : Nat) (w : Int32) (C : CS), failR w → failR (mvL d1 t1 d2 t2 k a w C).1 := by
  intro k
  induction k with
  | zero => intro a w C h; exact h
  | succ k ih => intro a w C h; unfold mvL; split; exact h; exact ih _ _ _ (mv2_r _ _ _ _ _ _ (reaC_r _ _ _))
theorem rfL_r {d t : Nat} : ∀ (k a : Nat) (w : Int32) (C : CS), failR w → failR (rfL d t k a w C).1 := by
  intro k
  induction k with
  | zero => intro a w C h; exact h
  | succ k ih => intro a w C h; unfold rfL; split; exact h; exact ih _ _ _ (reaC_r _ _ _)
theorem ltL_r {d t : Nat} : ∀ (k : Nat) (w : Int32) (C : CS), failR w → failR (ltL d t k w C).1 := by
  intro k
  induction k with
  | zero => intro w C h; exact h
  | succ k ih => intro w C h; unfold ltL; split; exact ih _ _ (reaC_r _ _ _); exact h
theorem windC_r (C : CS) (d q : Nat) : failR (windC C d q).1 := (windL_r (d := d) (q - cN C 3 d 8) C).elim (fun h => failR_of (Or.inl h)) (fun h => failR_of (Or.inr (Or.inl h)))
theorem ws1_r (C : CS) (d t h : Nat) : failR (ws1 C d t h).1 := wsL_r _ _ _ _ (windC_r _ _ _)
theorem mvW_r (C : CS) (d1 d2 p h : Nat) : failR (mvW C d1 d2 p h).1 := by unfold mvW; split <;> exact windC_r _ _ _
theorem mv1_r (C : CS) (d1 t1 d2 t2 p h : Nat) : failR (mv1 C d1 t1 d2 t2 p h).1 := mvL_r _ _ _ _ (mvW_r _ _ _ _ _)
theorem endC_nn {C : CS} {d t h : Nat} {w : Int32} (hw : failR w) (hn : ¬ (endC C d t h w).1 < 0) : w = 0 ∧ (endC C d t h w).1 = nI h := by
  unfold endC at hn ⊢
  split at hn
  · rename_i q; exact absurd (failR_neg hw q) hn
  · rename_i q; rw [if_neg q]; exact ⟨Classical.byContradiction q, rfl⟩
theorem ws1_0 {C : CS} {d t h : Nat} (h0 : (ws1 C d t h).1 = 0) (hs : 0 < cN C 5 12 3) : cN C 5 t 3 < cap t := by
  unfold ws1 at h0
  obtain ⟨k, hk⟩ : ∃ k, cN C 5 12 3 = k + 1 := ⟨cN C 5 12 3 - 1, by omega⟩
  rw [hk] at h0
  unfold wsL at h0
  split at h0
  · rename_i q; exact absurd h0 q
  · by_cases z : (wriC (windC C d h).2 d t 12 0).1 = 0
    · have := wriC_0 z
      rw [Sm_windC.1 5 t 3 (by decide)] at this
      exact this
    · rw [wsL_ne z] at h0; exact absurd h0 z
theorem wsC_nn {C : CS} {d t : Nat} (hs : 0 < cN C 5 12 3) (hn : ¬ (wsC C d t (cN C 5 t 3)).1 < 0) : ∃ h, h < 100 ∧ (wsC C d t (cN C 5 t 3)).1 = nI h := by
  obtain ⟨h1, h2⟩ := endC_nn (ws1_r _ _ _ _) hn
  have := ws1_0 h1 hs
  have := cap_le t
  exact ⟨_, by omega, h2⟩
theorem cop1_nn {C : CS} {d t : Nat} (hs : 0 < cN C 5 12 3) (hn : ¬ (cop1 C d t).1 < 0) : ∃ h, h < 100 ∧ (cop1 C d t).1 = nI h := by
  unfold cop1 at hn ⊢
  split at hn
  · rename_i q
    rcases carC_r C d t with z | z
    · exact absurd z q
    · rw [z] at hn; exact absurd (by decide) hn
  · rename_i q
    rw [if_neg q]
    exact wsC_nn (by rw [carC_N (by decide)]; exact hs) hn
theorem mv1_0 {C : CS} {d1 t1 d2 t2 p h : Nat} (h0 : (mv1 C d1 t1 d2 t2 p h).1 = 0) : cN C 5 t2 3 < cap t2 := by
  unfold mv1 at h0
  rw [show zN C t1 p + 2 = (zN C t1 p + 1) + 1 by omega] at h0
  unfold mvL at h0
  split at h0
  · rename_i q; exact absurd h0 q
  · by_cases z : (mv2 (reaC (mvW C d1 d2 p h).2 d1 t1).2 d2 t2 t1 p (reaC (mvW C d1 d2 p h).2 d1 t1).1).1 = 0
    · unfold mv2 at z
      split at z
      · rename_i q; exact absurd z q
      · have := wriC_0 z
        rw [Sm_rea.1 5 t2 3 (by decide), Sm_mvW.1 5 t2 3 (by decide)] at this
        exact this
    · rw [mvL_ne z] at h0; exact absurd h0 z
theorem mvC_nn {C : CS} {d1 t1 d2 t2 p : Nat} (hn : ¬ (mvC C d1 t1 d2 t2 p (cN C 5 t2 3)).1 < 0) : ∃ h, h < 100 ∧ (mvC C d1 t1 d2 t2 p (cN C 5 t2 3)).1 = nI h := by
  obtain ⟨h1, h2⟩ := endC_nn (mv1_r _ _ _ _ _ _ _) hn
  have := mv1_0 h1
  have := cap_le t2
  exact ⟨_, by omega, h2⟩
theorem mi1_nn {C : CS} {d1 t1 d2 t2 p : Nat} (hn : ¬ (mi1 C d1 t1 d2 t2 p).1 < 0) : ∃ h, h < 100 ∧ (mi1 C d1 t1 d2 t2 p).1 = nI h := by
  unfold mi1 at hn ⊢
  split at hn
  · rename_i q
    rcases carC_r C d2 t2 with z | z
    · exact absurd z q
    · rw [z] at hn; exact absurd (by decide) hn
  · rename_i q
    rw [if_neg q]
    exact mvC_nn hn
theorem miC_nn {C : CS} {d1 t1 t2 p : Nat} (hn : ¬ (miC C d1 t1 t2 p).1 < 0) : ∃ h, h < 100 ∧ (miC C d1 t1 t2 p).1 = nI h := by
  cases h : ndC C t2 with
  | none =>
    have e : (miC C d1 t1 t2 p).1 = -3 := by unfold miC; rw [h]
    rw [e] at hn; exact absurd (by decide) hn
  | some d =>
    have e : (miC C d1 t1 t2 p).1 = (mi1 C d1 t1 d t2 p).1 := by unfold miC; rw [h]
    rw [e] at hn ⊢
    exact mi1_nn hn
theorem mj1_nn {C : CS} {d t1 t2 p : Nat} (hn : ¬ (mj1 C d t1 p t2).1 < 0) : ∃ h, h < 100 ∧ (mj1 C d t1 p t2).1 = nI h := by
  unfold mj1 at hn ⊢
  split at hn
  · rename_i q
    rcases carC_r C d t1 with z | z
    · exact absurd z q
    · rw [z] at hn; exact absurd (by decide) hn
  · rename_i q
    rw [if_neg q]
    exact miC_nn hn
theorem cl_nI {h : Nat} (hh : h < 100) : (nI h).toNatClampNeg = h := nI_clamp (by omega)

theorem nd_n (l : Launch) (G : GG) (C : CS) (M : MS) {t : Nat} (ht : t < zn G) (hI : Iv C) (hT : ∀ d t, cM C d = some t → t < zn G) (hN : ndC C t = none) : Ct l G yX4_nearestDrive cX4_nearestDrive 5 (some (.object "TapeVault$Drive")) 2 41 [.ref (zad G 0 0), .ref (zad G 9 t)] C M (some .null) C M := by
  have h := c_X4_nearestDrive l G C M ht hI hT
  rw [hN] at h
  exact h
theorem nd_s (l : Launch) (G : GG) (C : CS) (M : MS) {t d : Nat} (ht : t < zn G) (hI : Iv C) (hT : ∀ d t, cM C d = some t → t < zn G) (hN : ndC C t = some d) : Ct l G yX4_nearestDrive cX4_nearestDrive 5 (some (.object "TapeVault$Drive")) 2 41 [.ref (zad G 0 0), .ref (zad G 9 t)] C M (some (.ref (zad G 3 d))) C M := by
  have h := c_X4_nearestDrive l G C M ht hI hT
  rw [hN] at h
  exact h

set_option maxHeartbeats 4000000 in
set_option maxRecDepth 100000 in
theorem c_X4_writeStaged (l : Launch) (G : GG) (C : CS) (M : MS) (h12 : zn G ≤ 12) {d t : Nat} (hd : d < 3) (ht : t < zn G) (hM : cM C d = some t) (hI : Iv C) {h : Nat} (hp : cN C 3 d 8 ≤ h) (hh : h ≤ 100) : Ct l G yX4_writeStaged cX4_writeStaged 5 (some .int) 4 86 [.ref (zad G 0 0), .ref (zad G 3 d), .int (nI h)] C M (some (.int ((wsC C d t h).1))) ((wsC C d t h).2) M := by
  refine Ct_i (by decide) (Nat.le_of_ble_eq_true rfl) (fun {p e s m args below meth c A Q ls} hC hW hl hE => ?_)
  have hx := hC.1
  have hb := hC.2.1
  have hl : lv_has ls 5 [(0, .ref (zad G 0 0)), (1, .ref (zad G 3 d)), (2, .int (nI h))] := hl
  have hcp12 := hI.1 12
  have hc12 := cap_12
  refine lv_aload_n hx hb dX4_writeStaged_0 rfl (lv_at hl 1 rfl) ?_
  refine lv_iload_n hx hb dX4_writeStaged_1 rfl (lv_at hl 2 rfl) ?_
  refine z_callV (As := [.int (nI h)]) (rest := []) (st1 := [.int ((windC C d h).1)]) hC hW (LL_3 hd) rfl rfl rfl (c_X1_windTo l G C M hd (q := h) hp (by omega)) mw_X1_windTo mv_X1_windTo mM_X4_183 ⟨Nat.le_of_ble_eq_true rfl, Nat.le_of_ble_eq_true rfl⟩ rfl rfl hl.1 (lv_room (Nat.le_of_ble_eq_true rfl)) dX4_writeStaged_2 rfl (fun H locs hW => ?_) ⟨Nat.zero_le _, Nat.zero_le _⟩
  obtain ⟨C1, eC1⟩ : ∃ z, z = (windC C d h).2 := ⟨_, rfl⟩
  rw [← eC1] at hW
  refine lv_istore_n (lv' := [(3, .int ((windC C d h).1)), (0, .ref (zad G 0 0)), (1, .ref (zad G 3 d)), (2, .int (nI h))]) hx hb dX4_writeStaged_5 rfl hl (by decide) rfl (fun ls hl => ?_)
  refine lv_iconst (v := 0) hx hb dX4_writeStaged_6 (by decide) ?_
  refine lv_istore (lv' := [(4, .int 0), (3, .int ((windC C d h).1)), (0, .ref (zad G 0 0)), (1, .ref (zad G 3 d)), (2, .int (nI h))]) hx hb dX4_writeStaged_7 hl (by decide) rfl (fun ls hl => ?_)
  have lp : ∀ (k : Nat) (j : Nat) (u : Int32) (Cj : CS), j + k = cN C 5 12 3 → Iv Cj → cM Cj d = some t → cN Cj 5 12 3 = cN C 5 12 3 → wsL d t k j u Cj = ws1 C d t h → ∀ (H : Heap) (locs : List Loc) (ls : Array Slot), Wd G s A s.heap H locs Cj M → lv_has ls 5 [(0, .ref (zad G 0 0)), (1, .ref (zad G 3 d)), (2, .int (nI h)), (3, .int u), (4, .int (nI j))] → W p l e { frames := 4, cells := 0, slots := 0, locals := 86 } s m args below meth c H locs 0 0 Q (F0 m 9 ls []) := by
    intro k
    induction k with
    | zero =>
      intro j u Cj hk hIj hMj hNj hD H locs ls hW hl
      refine lv_iload hx hb dX4_writeStaged_9 (lv_at hl 4 rfl) ?_
      refine lv_aload_n hx hb dX4_writeStaged_11 rfl (lv_at hl 0 rfl) ?_
      refine g0 (k := 3) (v := .ref (zad G 5 12)) hC hW (by decide) mF_X4_36 rfl dX4_writeStaged_12 ?_
      refine g5 (k := 3) (v := .int (nI (cN Cj 5 12 3))) hC hW (Or.inr rfl) (by decide) mF_X4_66 rfl dX4_writeStaged_15 ?_
      refine zc_ge (i := j) (j := cN Cj 5 12 3) (tgt := 42) hx hb rfl rfl (by omega) (by omega) dX4_writeStaged_18 (by decide) (fun h18 => ?_) (fun h18 => ?_)
      · refine lv_aload_n hx hb dX4_writeStaged_42 rfl (lv_at hl 1 rfl) ?_
        refine lv_iload_n hx hb dX4_writeStaged_43 rfl (lv_at hl 2 rfl) ?_
        refine lv_iload_n hx hb dX4_writeStaged_44 rfl (lv_at hl 3 rfl) ?_
        refine z_callV (As := [.int (nI h), .int u]) (rest := []) (st1 := [.int ((endC Cj d t h u).1)]) hC hW (LL_3 hd) rfl rfl rfl (c_X1_endWriting l G Cj M hd ht hMj hIj (h := h) (by omega) u) mw_X1_endWriting mv_X1_endWriting mM_X4_190 ⟨Nat.le_of_ble_eq_true rfl, Nat.le_of_ble_eq_true rfl⟩ rfl rfl hl.1 (lv_room (Nat.le_of_ble_eq_true rfl)) dX4_writeStaged_45 rfl (fun H locs hW => ?_) ⟨Nat.zero_le _, Nat.zero_le _⟩
        obtain ⟨C2, eC2⟩ : ∃ z, z = (endC Cj d t h u).2 := ⟨_, rfl⟩
        rw [← eC2] at hW
        have hD1 : ws1 C d t h = (u, Cj) := by rw [← hD]; rfl
        have hD2 : wsC C d t h = endC Cj d t h u := by unfold wsC; rw [hD1]
        rw [hD2, ← eC2] at hE
        exact hE hW rfl dX4_writeStaged_48
      · exact absurd h18 (by omega)
    | succ k ih =>
      intro j u Cj hk hIj hMj hNj hD H locs ls hW hl
      refine lv_iload hx hb dX4_writeStaged_9 (lv_at hl 4 rfl) ?_
      refine lv_aload_n hx hb dX4_writeStaged_11 rfl (lv_at hl 0 rfl) ?_
      refine g0 (k := 3) (v := .ref (zad G 5 12)) hC hW (by decide) mF_X4_36 rfl dX4_writeStaged_12 ?_
      refine g5 (k := 3) (v := .int (nI (cN Cj 5 12 3))) hC hW (Or.inr rfl) (by decide) mF_X4_66 rfl dX4_writeStaged_15 ?_
      refine zc_ge (i := j) (j := cN Cj 5 12 3) (tgt := 42) hx hb rfl rfl (by omega) (by omega) dX4_writeStaged_18 (by decide) (fun h18 => ?_) (fun h18 => ?_)
      · exact absurd h18 (by omega)
      · refine lv_iload_n hx hb dX4_writeStaged_21 rfl (lv_at hl 3 rfl) ?_
        refine lv_if_ne (tgt := 42) hx hb dX4_writeStaged_22 (by decide) (fun h22 => ?_) (fun h22 => ?_)
        · refine lv_aload_n hx hb dX4_writeStaged_42 rfl (lv_at hl 1 rfl) ?_
          refine lv_iload_n hx hb dX4_writeStaged_43 rfl (lv_at hl 2 rfl) ?_
          refine lv_iload_n hx hb dX4_writeStaged_44 rfl (lv_at hl 3 rfl) ?_
          refine z_callV (As := [.int (nI h), .int u]) (rest := []) (st1 := [.int ((endC Cj d t h u).1)]) hC hW (LL_3 hd) rfl rfl rfl (c_X1_endWriting l G Cj M hd ht hMj hIj (h := h) (by omega) u) mw_X1_endWriting mv_X1_endWriting mM_X4_190 ⟨Nat.le_of_ble_eq_true rfl, Nat.le_of_ble_eq_true rfl⟩ rfl rfl hl.1 (lv_room (Nat.le_of_ble_eq_true rfl)) dX4_writeStaged_45 rfl (fun H locs hW => ?_) ⟨Nat.zero_le _, Nat.zero_le _⟩
          obtain ⟨C3, eC3⟩ : ∃ z, z = (endC Cj d t h u).2 := ⟨_, rfl⟩
          rw [← eC3] at hW
          have hD1 : ws1 C d t h = (u, Cj) := by rw [← hD, wsL, if_pos h22]
          have hD2 : wsC C d t h = endC Cj d t h u := by unfold wsC; rw [hD1]
          rw [hD2, ← eC3] at hE
          exact hE hW rfl dX4_writeStaged_48
        · refine lv_aload_n hx hb dX4_writeStaged_25 rfl (lv_at hl 1 rfl) ?_
          refine lv_aload_n hx hb dX4_writeStaged_26 rfl (lv_at hl 0 rfl) ?_
          refine g0 (k := 3) (v := .ref (zad G 5 12)) hC hW (by decide) mF_X4_36 rfl dX4_writeStaged_27 ?_
          refine lv_iload hx hb dX4_writeStaged_30 (lv_at hl 4 rfl) ?_
          refine z_callV (As := [.ref (zad G 5 12), .int (nI j)]) (rest := []) (st1 := [.int ((wriC Cj d t 12 j).1)]) hC hW (LL_3 hd) rfl rfl rfl (c_X1_writeBlock l G Cj M hd ht hMj hIj (Or.inr rfl) (a := j) (by omega)) mw_X1_writeBlock mv_X1_writeBlock mM_X4_186 ⟨Nat.le_of_ble_eq_true rfl, Nat.le_of_ble_eq_true rfl⟩ rfl rfl hl.1 (lv_room (Nat.le_of_ble_eq_true rfl)) dX4_writeStaged_32 rfl (fun H locs hW => ?_) ⟨Nat.zero_le _, Nat.zero_le _⟩
          obtain ⟨C4, eC4⟩ : ∃ z, z = (wriC Cj d t 12 j).2 := ⟨_, rfl⟩
          rw [← eC4] at hW
          refine lv_istore_n (lv' := [(3, .int ((wriC Cj d t 12 j).1)), (0, .ref (zad G 0 0)), (1, .ref (zad G 3 d)), (2, .int (nI h)), (4, .int (nI j))]) hx hb dX4_writeStaged_35 rfl hl (by decide) rfl (fun ls hl => ?_)
          refine lv_iinc (k := 4) (v := nI (j + 1)) (lv' := [(4, .int (nI (j + 1))), (3, .int ((wriC Cj d t 12 j).1)), (0, .ref (zad G 0 0)), (1, .ref (zad G 3 d)), (2, .int (nI h))]) hx hb dX4_writeStaged_36 hl rfl (nI_inc _) (by decide) rfl (fun ls hl => ?_)
          refine lv_goto (tgt := 9) hx hb dX4_writeStaged_39 (by decide) ?_
          exact ih (j + 1) ((wriC Cj d t 12 j).1) C4 (by omega) (by rw [eC4]; exact wriC_I hIj) (by rw [eC4, wriC_M]; exact hMj) (by rw [eC4, wriC_N 5 12 3 (by omega) (by omega)]; exact hNj) (by rw [← hD, wsL, if_neg (fun q => q h22), eC4]) _ _ _ hW (lv_sub hl [2, 3, 4, 1, 0] rfl)
  exact lp (cN C 5 12 3) 0 ((windC C d h).1) C1 (by omega) (by rw [eC1]; exact Sm_windC.I hI) (by rw [eC1, Sm_windC.2.2]; exact hM) (by rw [eC1, Sm_windC.1 _ _ _ (by decide)]) (by rw [eC1]; rfl) _ _ _ hW (lv_sub hl [2, 3, 4, 1, 0] rfl)

set_option maxHeartbeats 4000000 in
set_option maxRecDepth 100000 in
theorem c_X4_readFile (l : Launch) (G : GG) (C : CS) (M : MS) (h12 : zn G ≤ 12) {d t : Nat} (hd : d < 3) (ht : t < zn G) (hM : cM C d = some t) (hI : Iv C) {h : Nat} (hp : cN C 3 d 8 ≤ h) (hh : h < 100) : Ct l G yX4_readFile cX4_readFile 8 (some .int) 3 62 [.ref (zad G 0 0), .ref (zad G 3 d), .ref (zad G 5 t), .int (nI h)] C M (some (.int ((rfC C d t h).1))) ((rfC C d t h).2) M := by
  refine Ct_i (by decide) (Nat.le_of_ble_eq_true rfl) (fun {p e s m args below meth c A Q ls} hC hW hl hE => ?_)
  have hx := hC.1
  have hb := hC.2.1
  have hl : lv_has ls 8 [(0, .ref (zad G 0 0)), (1, .ref (zad G 3 d)), (2, .ref (zad G 5 t)), (3, .int (nI h))] := hl
  have hz := kAt_sz hI t h
  refine lv_aload_n hx hb dX4_readFile_0 rfl (lv_at hl 0 rfl) ?_
  refine lv_iconst (v := 1) hx hb dX4_readFile_1 (by decide) ?_
  refine p0 (k := 7) (v := 1) hC hW (by decide) mF_X4_40 dX4_readFile_2 (fun _ eS H locs hW => ?_)
  subst eS
  refine lv_aload_n hx hb dX4_readFile_5 rfl (lv_at hl 2 rfl) ?_
  refine lv_iload_n hx hb dX4_readFile_6 rfl (lv_at hl 3 rfl) ?_
  refine z_callV (As := [.int (nI h)]) (rest := []) (st1 := [.int (kAt C 8 t h)]) hC hW (LL_5 (Or.inl ht)) rfl rfl rfl (c_X0_sizeAt l G (sF C 0 0 7 1) M (Or.inl ht) (hI.1 t) (a := h) (by omega)) mw_X0_sizeAt mv_X0_sizeAt mM_X4_126 ⟨Nat.le_of_ble_eq_true rfl, Nat.le_of_ble_eq_true rfl⟩ rfl rfl hl.1 (lv_room (Nat.le_of_ble_eq_true rfl)) dX4_readFile_7 rfl (fun H locs hW => ?_) ⟨Nat.zero_le _, Nat.zero_le _⟩
  refine z_top (y := nI (zN C t h)) (kAt_sz hI t h).1 ?_
  refine lv_istore (lv' := [(4, .int (nI (zN C t h))), (0, .ref (zad G 0 0)), (1, .ref (zad G 3 d)), (2, .ref (zad G 5 t)), (3, .int (nI h))]) hx hb dX4_readFile_10 hl (by decide) rfl (fun ls hl => ?_)
  refine lv_iload_n hx hb dX4_readFile_12 rfl (lv_at hl 4 rfl) ?_
  refine lv_iload hx hb dX4_readFile_13 (lv_at hl 0 rfl) ?_
  refine zi_add (i := h) (j := zN C t h) hx hb rfl rfl dX4_readFile_15 ?_
  refine lv_iconst (v := 1) hx hb dX4_readFile_16 (by decide) ?_
  refine zi_add (i := h + (zN C t h)) (j := 1) hx hb rfl rfl dX4_readFile_17 ?_
  refine lv_istore (lv' := [(5, .int (nI (h + (zN C t h) + 1))), (4, .int (nI (zN C t h))), (0, .ref (zad G 0 0)), (1, .ref (zad G 3 d)), (2, .ref (zad G 5 t)), (3, .int (nI h))]) hx hb dX4_readFile_18 hl (by decide) rfl (fun ls hl => ?_)
  refine lv_aload_n hx hb dX4_readFile_20 rfl (lv_at hl 3 rfl) ?_
  refine lv_iload_n hx hb dX4_readFile_21 rfl (lv_at hl 5 rfl) ?_
  refine z_callV (As := [.int (nI h)]) (rest := []) (st1 := [.int ((windC (sF C 0 0 7 1) d h).1)]) hC hW (LL_3 hd) rfl rfl rfl (c_X1_windTo l G (sF C 0 0 7 1) M hd (q := h) (by rw [cN_sF]; exact hp) (by omega)) mw_X1_windTo mv_X1_windTo mM_X4_183 ⟨Nat.le_of_ble_eq_true rfl, Nat.le_of_ble_eq_true rfl⟩ rfl rfl hl.1 (lv_room (Nat.le_of_ble_eq_true rfl)) dX4_readFile_22 rfl (fun H locs hW => ?_) ⟨Nat.zero_le _, Nat.zero_le _⟩
  obtain ⟨C1, eC1⟩ : ∃ z, z = (windC (sF C 0 0 7 1) d h).2 := ⟨_, rfl⟩
  rw [← eC1] at hW
  refine lv_istore (lv' := [(6, .int ((windC (sF C 0 0 7 1) d h).1)), (5, .int (nI (h + (zN C t h) + 1))), (4, .int (nI (zN C t h))), (0, .ref (zad G 0 0)), (1, .ref (zad G 3 d)), (2, .ref (zad G 5 t)), (3, .int (nI h))]) hx hb dX4_readFile_25 hl (by decide) rfl (fun ls hl => ?_)
  refine lv_iload_n hx hb dX4_readFile_27 rfl (lv_at hl 6 rfl) ?_
  refine lv_istore (lv' := [(7, .int (nI h)), (6, .int ((windC (sF C 0 0 7 1) d h).1)), (5, .int (nI (h + (zN C t h) + 1))), (4, .int (nI (zN C t h))), (0, .ref (zad G 0 0)), (1, .ref (zad G 3 d)), (2, .ref (zad G 5 t)), (3, .int (nI h))]) hx hb dX4_readFile_28 hl (by decide) rfl (fun ls hl => ?_)
  have hp1 : cN C1 3 d 8 ≤ h := by rw [eC1]; exact windC_pos (by rw [cN_sF]; exact hp)
  have lp : ∀ (k : Nat) (a : Nat) (u : Int32) (Cj : CS), a + k = h + zN C t h + 2 → Iv Cj → cM Cj d = some t → cN Cj 3 d 8 + k ≤ 2 ^ 30 → rfL d t k a u Cj = rf1 C d t h → ∀ (H : Heap) (locs : List Loc) (ls : Array Slot), Wd G s A s.heap H locs Cj M → lv_has ls 8 [(0, .ref (zad G 0 0)), (1, .ref (zad G 3 d)), (2, .ref (zad G 5 t)), (4, .int (nI (zN C t h))), (5, .int (nI (h + zN C t h + 1))), (6, .int u), (7, .int (nI a))] → W p l e { frames := 3, cells := 0, slots := 0, locals := 62 } s m args below meth c H locs 0 0 Q (F0 m 30 ls []) := by
    intro k
    induction k with
    | zero =>
      intro a u Cj hk hIj hMj hpj hD H locs ls hW hl
      refine lv_iload hx hb dX4_readFile_30 (lv_at hl 6 rfl) ?_
      refine lv_iload hx hb dX4_readFile_32 (lv_at hl 4 rfl) ?_
      refine zc_gt (i := a) (j := h + zN C t h + 1) (tgt := 87) hx hb rfl rfl (by omega) (by omega) dX4_readFile_34 (by decide) (fun h34 => ?_) (fun h34 => ?_)
      · refine lv_iload hx hb dX4_readFile_87 (lv_at hl 5 rfl) ?_
        refine lv_if_ne (tgt := 97) hx hb dX4_readFile_89 (by decide) (fun h89 => ?_) (fun h89 => ?_)
        · refine lv_iload hx hb dX4_readFile_97 (lv_at hl 5 rfl) ?_
          have hD1 : rf1 C d t h = (u, Cj) := by rw [← hD]; rfl
          have hD2 : rfC C d t h = (u, Cj) := by unfold rfC; rw [hD1]; show (if u ≠ 0 then u else nI (zN C t h), Cj) = _; rw [if_pos h89]
          rw [hD2] at hE
          exact hE hW rfl dX4_readFile_99
        · refine lv_iload hx hb dX4_readFile_92 (lv_at hl 3 rfl) ?_
          refine lv_goto (tgt := 99) hx hb dX4_readFile_94 (by decide) ?_
          have hD1 : rf1 C d t h = (u, Cj) := by rw [← hD]; rfl
          have hD2 : rfC C d t h = (nI (zN C t h), Cj) := by unfold rfC; rw [hD1]; show (if u ≠ 0 then u else nI (zN C t h), Cj) = _; rw [if_neg (fun q => q h89)]
          rw [hD2] at hE
          exact hE hW rfl dX4_readFile_99
      · exact absurd h34 (by omega)
    | succ k ih =>
      intro a u Cj hk hIj hMj hpj hD H locs ls hW hl
      refine lv_iload hx hb dX4_readFile_30 (lv_at hl 6 rfl) ?_
      refine lv_iload hx hb dX4_readFile_32 (lv_at hl 4 rfl) ?_
      refine zc_gt (i := a) (j := h + zN C t h + 1) (tgt := 87) hx hb rfl rfl (by omega) (by omega) dX4_readFile_34 (by decide) (fun h34 => ?_) (fun h34 => ?_)
      · exact absurd h34 (by omega)
      · refine lv_iload hx hb dX4_readFile_37 (lv_at hl 5 rfl) ?_
        refine lv_if_ne (tgt := 87) hx hb dX4_readFile_39 (by decide) (fun h39 => ?_) (fun h39 => ?_)
        · refine lv_iload hx hb dX4_readFile_87 (lv_at hl 5 rfl) ?_
          refine lv_if_ne (tgt := 97) hx hb dX4_readFile_89 (by decide) (fun h89 => ?_) (fun h89 => ?_)
          · refine lv_iload hx hb dX4_readFile_97 (lv_at hl 5 rfl) ?_
            have hD1 : rf1 C d t h = (u, Cj) := by rw [← hD, rfL, if_pos h39]
            have hD2 : rfC C d t h = (u, Cj) := by unfold rfC; rw [hD1]; show (if u ≠ 0 then u else nI (zN C t h), Cj) = _; rw [if_pos h89]
            rw [hD2] at hE
            exact hE hW rfl dX4_readFile_99
          · refine lv_iload hx hb dX4_readFile_92 (lv_at hl 3 rfl) ?_
            refine lv_goto (tgt := 99) hx hb dX4_readFile_94 (by decide) ?_
            have hD1 : rf1 C d t h = (u, Cj) := by rw [← hD, rfL, if_pos h39]
            have hD2 : rfC C d t h = (nI (zN C t h), Cj) := by unfold rfC; rw [hD1]; show (if u ≠ 0 then u else nI (zN C t h), Cj) = _; rw [if_neg (fun q => q h89)]
            rw [hD2] at hE
            exact hE hW rfl dX4_readFile_99
        · refine lv_aload_n hx hb dX4_readFile_42 rfl (lv_at hl 1 rfl) ?_
          refine z_callV (As := []) (rest := []) (st1 := [.int ((reaC Cj d t).1)]) hC hW (LL_3 hd) rfl rfl rfl (c_X1_readBlock l G Cj M hd ht hMj (by omega)) mw_X1_readBlock mv_X1_readBlock mM_X4_197 ⟨Nat.le_of_ble_eq_true rfl, Nat.le_of_ble_eq_true rfl⟩ rfl rfl hl.1 (lv_room (Nat.le_of_ble_eq_true rfl)) dX4_readFile_43 rfl (fun H locs hW => ?_) ⟨Nat.zero_le _, Nat.zero_le _⟩
          obtain ⟨C2, eC2⟩ : ∃ z, z = (reaC Cj d t).2 := ⟨_, rfl⟩
          rw [← eC2] at hW
          have hIr : Iv C2 := by rw [eC2]; exact Sm_rea.I hIj
          refine lv_istore (lv' := [(6, .int ((reaC Cj d t).1)), (0, .ref (zad G 0 0)), (1, .ref (zad G 3 d)), (2, .ref (zad G 5 t)), (4, .int (nI (zN C t h))), (5, .int (nI (h + zN C t h + 1))), (7, .int (nI a))]) hx hb dX4_readFile_46 hl (by decide) rfl (fun ls hl => ?_)
          refine lv_iload hx hb dX4_readFile_48 (lv_at hl 0 rfl) ?_
          refine lv_if_ne (tgt := 81) hx hb dX4_readFile_50 (by decide) (fun h50 => ?_) (fun h50 => ?_)
          · refine lv_iinc (k := 6) (v := nI (a + 1)) (lv' := [(7, .int (nI (a + 1))), (6, .int ((reaC Cj d t).1)), (0, .ref (zad G 0 0)), (1, .ref (zad G 3 d)), (2, .ref (zad G 5 t)), (4, .int (nI (zN C t h))), (5, .int (nI (h + zN C t h + 1)))]) hx hb dX4_readFile_81 hl rfl (nI_inc _) (by decide) rfl (fun ls hl => ?_)
            refine lv_goto (tgt := 30) hx hb dX4_readFile_84 (by decide) ?_
            exact ih (a + 1) ((reaC Cj d t).1) C2 (by omega) hIr (by show cM C2 d = some t; rw [eC2, Sm_rea.2.2]; exact hMj) (by show cN C2 3 d 8 + k ≤ _; rw [eC2, reaC_2]; have := pasC_pos Cj d; omega) (by rw [← hD, rfL, if_neg (fun q => q h39), ← eC2]; congr 1; unfold rfS; rw [if_pos h50]) _ _ _ hW (lv_sub hl [2, 3, 4, 5, 6, 1, 0] rfl)
          · refine lv_aload_n hx hb dX4_readFile_53 rfl (lv_at hl 3 rfl) ?_
            refine lv_iload hx hb dX4_readFile_54 (lv_at hl 6 rfl) ?_
            refine z_callV (As := [.int (nI a)]) (rest := []) (st1 := [.int (kAt C2 6 t a)]) hC hW (LL_5 (Or.inl ht)) rfl rfl rfl (c_X0_kindAt l G C2 M (Or.inl ht) (hIr.1 t) (a := a) (by omega)) mw_X0_kindAt mv_X0_kindAt mM_X4_120 ⟨Nat.le_of_ble_eq_true rfl, Nat.le_of_ble_eq_true rfl⟩ rfl rfl hl.1 (lv_room (Nat.le_of_ble_eq_true rfl)) dX4_readFile_56 rfl (fun H locs hW => ?_) ⟨Nat.zero_le _, Nat.zero_le _⟩
            refine lv_iconst (v := 2) hx hb dX4_readFile_59 (by decide) ?_
            refine lv_icmp_ne (tgt := 81) hx hb dX4_readFile_60 (by decide) (fun h60 => ?_) (fun h60 => ?_)
            · refine lv_iinc (k := 6) (v := nI (a + 1)) (lv' := [(7, .int (nI (a + 1))), (6, .int ((reaC Cj d t).1)), (0, .ref (zad G 0 0)), (1, .ref (zad G 3 d)), (2, .ref (zad G 5 t)), (4, .int (nI (zN C t h))), (5, .int (nI (h + zN C t h + 1)))]) hx hb dX4_readFile_81 hl rfl (nI_inc _) (by decide) rfl (fun ls hl => ?_)
              refine lv_goto (tgt := 30) hx hb dX4_readFile_84 (by decide) ?_
              exact ih (a + 1) ((reaC Cj d t).1) C2 (by omega) hIr (by show cM C2 d = some t; rw [eC2, Sm_rea.2.2]; exact hMj) (by show cN C2 3 d 8 + k ≤ _; rw [eC2, reaC_2]; have := pasC_pos Cj d; omega) (by rw [← hD, rfL, if_neg (fun q => q h39), ← eC2]; congr 1; unfold rfS; rw [if_neg (fun q => q h50), if_neg h60]) _ _ _ hW (lv_sub hl [2, 3, 4, 5, 6, 1, 0] rfl)
            · refine lv_aload_n hx hb dX4_readFile_63 rfl (lv_at hl 1 rfl) ?_
              refine lv_bipush (v := 31) hx hb dX4_readFile_64 (by decide) ?_
              refine lv_aload_n hx hb dX4_readFile_66 rfl (lv_at hl 1 rfl) ?_
              refine g0 (k := 7) (v := .int (cF C2 0 0 7)) hC hW (by decide) mF_X4_40 rfl dX4_readFile_67 ?_
              refine lv_imul hx hb dX4_readFile_70 ?_
              refine lv_aload_n hx hb dX4_readFile_71 rfl (lv_at hl 3 rfl) ?_
              refine lv_iload hx hb dX4_readFile_72 (lv_at hl 6 rfl) ?_
              refine z_callV (As := [.int (nI a)]) (rest := [.int (31 * (cF C2 0 0 7)), .ref (zad G 0 0)]) (st1 := [.int (kAt C2 7 t a), .int (31 * (cF C2 0 0 7)), .ref (zad G 0 0)]) hC hW (LL_5 (Or.inl ht)) rfl rfl rfl (c_X0_valueAt l G C2 M (Or.inl ht) (hIr.1 t) (a := a) (by omega)) mw_X0_valueAt mv_X0_valueAt mM_X4_123 ⟨Nat.le_of_ble_eq_true rfl, Nat.le_of_ble_eq_true rfl⟩ rfl rfl hl.1 (lv_room (Nat.le_of_ble_eq_true rfl)) dX4_readFile_74 rfl (fun H locs hW => ?_) ⟨Nat.zero_le _, Nat.zero_le _⟩
              refine lv_iadd hx hb dX4_readFile_77 ?_
              refine p0 (k := 7) (v := (31 * (cF C2 0 0 7)) + (kAt C2 7 t a)) hC hW (by decide) mF_X4_40 dX4_readFile_78 (fun _ eS H locs hW => ?_)
              subst eS
              refine lv_iinc (k := 6) (v := nI (a + 1)) (lv' := [(7, .int (nI (a + 1))), (6, .int ((reaC Cj d t).1)), (0, .ref (zad G 0 0)), (1, .ref (zad G 3 d)), (2, .ref (zad G 5 t)), (4, .int (nI (zN C t h))), (5, .int (nI (h + zN C t h + 1)))]) hx hb dX4_readFile_81 hl rfl (nI_inc _) (by decide) rfl (fun ls hl => ?_)
              refine lv_goto (tgt := 30) hx hb dX4_readFile_84 (by decide) ?_
              exact ih (a + 1) ((reaC Cj d t).1) (sF C2 0 0 7 ((31 * (cF C2 0 0 7)) + (kAt C2 7 t a))) (by omega) (Iv_F hIr) (by show cM C2 d = some t; rw [eC2, Sm_rea.2.2]; exact hMj) (by show cN C2 3 d 8 + k ≤ _; rw [eC2, reaC_2]; have := pasC_pos Cj d; omega) (by rw [← hD, rfL, if_neg (fun q => q h39), ← eC2]; congr 1; unfold rfS; rw [if_neg (fun q => q h50), if_pos h60]) _ _ _ hW (lv_sub hl [2, 3, 4, 5, 6, 1, 0] rfl)
  exact lp (zN C t h + 2) h ((windC (sF C 0 0 7 1) d h).1) C1 (by omega) (by rw [eC1]; exact Sm_windC.I (Iv_F hI)) (by rw [eC1, Sm_windC.2.2]; exact hM) (by omega) (by rw [eC1]; rfl) _ _ _ hW (lv_sub hl [4, 5, 6, 3, 2, 1, 0] rfl)

theorem mvW_pos {C : CS} {d1 d2 p h : Nat} (hdd : d1 ≠ d2) (hp : cN C 3 d1 8 ≤ p) : cN (mvW C d1 d2 p h).2 3 d1 8 ≤ p := by
  unfold mvW; split
  · exact windC_pos hp
  · unfold windC; rw [windL_N3 d1 8 (Or.inl hdd)]; exact windC_pos hp

set_option maxHeartbeats 4000000 in
set_option maxRecDepth 100000 in
theorem c_X4_moveBlocks (l : Launch) (G : GG) (C : CS) (M : MS) {d1 t1 d2 t2 : Nat} (hd1 : d1 < 3) (ht1 : t1 < zn G) (hM1 : cM C d1 = some t1) (hd2 : d2 < 3) (ht2 : t2 < zn G) (hM2 : cM C d2 = some t2) (hdd : d1 ≠ d2) (hI : Iv C) {q h : Nat} (hp1 : cN C 3 d1 8 ≤ q) (hq : q < 100) (hp2 : cN C 3 d2 8 ≤ h) (hh : h ≤ 100) : Ct l G yX4_moveBlocks cX4_moveBlocks 9 (some .int) 4 86 [.ref (zad G 0 0), .ref (zad G 3 d1), .ref (zad G 5 t1), .int (nI q), .ref (zad G 3 d2), .int (nI h)] C M (some (.int ((mvC C d1 t1 d2 t2 q h).1))) ((mvC C d1 t1 d2 t2 q h).2) M := by
  refine Ct_i (by decide) (Nat.le_of_ble_eq_true rfl) (fun {p e s m args below meth c A Q ls} hC hW hl hE => ?_)
  have hx := hC.1
  have hb := hC.2.1
  have hl : lv_has ls 9 [(0, .ref (zad G 0 0)), (1, .ref (zad G 3 d1)), (2, .ref (zad G 5 t1)), (3, .int (nI q)), (4, .ref (zad G 3 d2)), (5, .int (nI h))] := hl
  have hz := kAt_sz hI t1 q
  refine lv_iload_n hx hb dX4_moveBlocks_0 rfl (lv_at hl 3 rfl) ?_
  refine lv_aload_n hx hb dX4_moveBlocks_1 rfl (lv_at hl 2 rfl) ?_
  refine lv_iload_n hx hb dX4_moveBlocks_2 rfl (lv_at hl 3 rfl) ?_
  refine z_callV (As := [.int (nI q)]) (rest := [.int (nI q)]) (st1 := [.int (kAt C 8 t1 q), .int (nI q)]) hC hW (LL_5 (Or.inl ht1)) rfl rfl rfl (c_X0_sizeAt l G C M (Or.inl ht1) (hI.1 t1) (a := q) (by omega)) mw_X0_sizeAt mv_X0_sizeAt mM_X4_126 ⟨Nat.le_of_ble_eq_true rfl, Nat.le_of_ble_eq_true rfl⟩ rfl rfl hl.1 (lv_room (Nat.le_of_ble_eq_true rfl)) dX4_moveBlocks_3 rfl (fun H locs hW => ?_) ⟨Nat.zero_le _, Nat.zero_le _⟩
  refine z_top (y := nI (zN C t1 q)) (kAt_sz hI t1 q).1 ?_
  refine zi_add (i := q) (j := zN C t1 q) hx hb rfl rfl dX4_moveBlocks_6 ?_
  refine lv_iconst (v := 1) hx hb dX4_moveBlocks_7 (by decide) ?_
  refine zi_add (i := q + (zN C t1 q)) (j := 1) hx hb rfl rfl dX4_moveBlocks_8 ?_
  refine lv_istore (lv' := [(6, .int (nI (q + (zN C t1 q) + 1))), (0, .ref (zad G 0 0)), (1, .ref (zad G 3 d1)), (2, .ref (zad G 5 t1)), (3, .int (nI q)), (4, .ref (zad G 3 d2)), (5, .int (nI h))]) hx hb dX4_moveBlocks_9 hl (by decide) rfl (fun ls hl => ?_)
  have J : ∀ (u0 : Int32) (C0 : CS), mvW C d1 d2 q h = (u0, C0) → ∀ (H : Heap) (locs : List Loc) (ls : Array Slot), Wd G s A s.heap H locs C0 M → lv_has ls 9 [(0, .ref (zad G 0 0)), (1, .ref (zad G 3 d1)), (2, .ref (zad G 5 t1)), (3, .int (nI q)), (4, .ref (zad G 3 d2)), (5, .int (nI h)), (6, .int (nI (q + zN C t1 q + 1))), (7, .int u0)] → W p l e { frames := 4, cells := 0, slots := 0, locals := 86 } s m args below meth c H locs 0 0 Q (F0 m 32 ls []) := by
    intro u0 C0 hQ H locs ls hW hl
    have hI0 : Iv C0 := by have := Sm_mvW (C := C) (d1 := d1) (d2 := d2) (p := q) (h := h); rw [hQ] at this; exact this.I hI
    have hm0 : cM C0 = cM C := by have := Sm_mvW (C := C) (d1 := d1) (d2 := d2) (p := q) (h := h); rw [hQ] at this; exact this.2.2
    have hp0 : cN C0 3 d1 8 ≤ q := by have := mvW_pos (C := C) (d1 := d1) (d2 := d2) (p := q) (h := h) hdd hp1; rw [hQ] at this; exact this
    refine lv_iload_n hx hb dX4_moveBlocks_32 rfl (lv_at hl 3 rfl) ?_
    refine lv_istore (lv' := [(8, .int (nI q)), (0, .ref (zad G 0 0)), (1, .ref (zad G 3 d1)), (2, .ref (zad G 5 t1)), (3, .int (nI q)), (4, .ref (zad G 3 d2)), (5, .int (nI h)), (6, .int (nI (q + zN C t1 q + 1))), (7, .int u0)]) hx hb dX4_moveBlocks_33 hl (by decide) rfl (fun ls hl => ?_)
    have lp : ∀ (k : Nat) (a : Nat) (u : Int32) (Cj : CS), a + k = q + zN C t1 q + 2 → Iv Cj → cM Cj = cM C → cN Cj 3 d1 8 + k ≤ 2 ^ 30 → mvL d1 t1 d2 t2 k a u Cj = mv1 C d1 t1 d2 t2 q h → ∀ (H : Heap) (locs : List Loc) (ls : Array Slot), Wd G s A s.heap H locs Cj M → lv_has ls 9 [(1, .ref (zad G 3 d1)), (2, .ref (zad G 5 t1)), (4, .ref (zad G 3 d2)), (5, .int (nI h)), (6, .int (nI (q + zN C t1 q + 1))), (7, .int u), (8, .int (nI a))] → W p l e { frames := 4, cells := 0, slots := 0, locals := 86 } s m args below meth c H locs 0 0 Q (F0 m 35 ls []) := by
      intro k
      induction k with
      | zero =>
        intro a u Cj hk hIj hmj hpj hD H locs ls hW hl
        have hMj2 : cM Cj d2 = some t2 := by rw [hmj]; exact hM2
        refine lv_iload hx hb dX4_moveBlocks_35 (lv_at hl 6 rfl) ?_
        refine lv_iload hx hb dX4_moveBlocks_37 (lv_at hl 4 rfl) ?_
        refine zc_gt (i := a) (j := q + zN C t1 q + 1) (tgt := 74) hx hb rfl rfl (by omega) (by omega) dX4_moveBlocks_39 (by decide) (fun h39 => ?_) (fun h39 => ?_)
        · refine lv_aload hx hb dX4_moveBlocks_74 (lv_at hl 2 rfl) ?_
          refine lv_iload hx hb dX4_moveBlocks_76 (lv_at hl 3 rfl) ?_
          refine lv_iload hx hb dX4_moveBlocks_78 (lv_at hl 5 rfl) ?_
          refine z_callV (As := [.int (nI h), .int u]) (rest := []) (st1 := [.int ((endC Cj d2 t2 h u).1)]) hC hW (LL_3 hd2) rfl rfl rfl (c_X1_endWriting l G Cj M hd2 ht2 hMj2 hIj (h := h) (by omega) u) mw_X1_endWriting mv_X1_endWriting mM_X4_190 ⟨Nat.le_of_ble_eq_true rfl, Nat.le_of_ble_eq_true rfl⟩ rfl rfl hl.1 (lv_room (Nat.le_of_ble_eq_true rfl)) dX4_moveBlocks_80 rfl (fun H locs hW => ?_) ⟨Nat.zero_le _, Nat.zero_le _⟩
          obtain ⟨C1, eC1⟩ : ∃ z, z = (endC Cj d2 t2 h u).2 := ⟨_, rfl⟩
          rw [← eC1] at hW
          have hD1 : mv1 C d1 t1 d2 t2 q h = (u, Cj) := by rw [← hD]; rfl
          have hD2 : mvC C d1 t1 d2 t2 q h = endC Cj d2 t2 h u := by unfold mvC; rw [hD1]
          rw [hD2, ← eC1] at hE
          exact hE hW rfl dX4_moveBlocks_83
        · exact absurd h39 (by omega)
      | succ k ih =>
        intro a u Cj hk hIj hmj hpj hD H locs ls hW hl
        have hMj1 : cM Cj d1 = some t1 := by rw [hmj]; exact hM1
        have hMj2 : cM Cj d2 = some t2 := by rw [hmj]; exact hM2
        refine lv_iload hx hb dX4_moveBlocks_35 (lv_at hl 6 rfl) ?_
        refine lv_iload hx hb dX4_moveBlocks_37 (lv_at hl 4 rfl) ?_
        refine zc_gt (i := a) (j := q + zN C t1 q + 1) (tgt := 74) hx hb rfl rfl (by omega) (by omega) dX4_moveBlocks_39 (by decide) (fun h39 => ?_) (fun h39 => ?_)
        · exact absurd h39 (by omega)
        · refine lv_iload hx hb dX4_moveBlocks_42 (lv_at hl 5 rfl) ?_
          refine lv_if_ne (tgt := 74) hx hb dX4_moveBlocks_44 (by decide) (fun h44 => ?_) (fun h44 => ?_)
          · refine lv_aload hx hb dX4_moveBlocks_74 (lv_at hl 2 rfl) ?_
            refine lv_iload hx hb dX4_moveBlocks_76 (lv_at hl 3 rfl) ?_
            refine lv_iload hx hb dX4_moveBlocks_78 (lv_at hl 5 rfl) ?_
            refine z_callV (As := [.int (nI h), .int u]) (rest := []) (st1 := [.int ((endC Cj d2 t2 h u).1)]) hC hW (LL_3 hd2) rfl rfl rfl (c_X1_endWriting l G Cj M hd2 ht2 hMj2 hIj (h := h) (by omega) u) mw_X1_endWriting mv_X1_endWriting mM_X4_190 ⟨Nat.le_of_ble_eq_true rfl, Nat.le_of_ble_eq_true rfl⟩ rfl rfl hl.1 (lv_room (Nat.le_of_ble_eq_true rfl)) dX4_moveBlocks_80 rfl (fun H locs hW => ?_) ⟨Nat.zero_le _, Nat.zero_le _⟩
            obtain ⟨C2, eC2⟩ : ∃ z, z = (endC Cj d2 t2 h u).2 := ⟨_, rfl⟩
            rw [← eC2] at hW
            have hD1 : mv1 C d1 t1 d2 t2 q h = (u, Cj) := by rw [← hD, mvL, if_pos h44]
            have hD2 : mvC C d1 t1 d2 t2 q h = endC Cj d2 t2 h u := by unfold mvC; rw [hD1]
            rw [hD2, ← eC2] at hE
            exact hE hW rfl dX4_moveBlocks_83
          · refine lv_aload_n hx hb dX4_moveBlocks_47 rfl (lv_at hl 0 rfl) ?_
            refine z_callV (As := []) (rest := []) (st1 := [.int ((reaC Cj d1 t1).1)]) hC hW (LL_3 hd1) rfl rfl rfl (c_X1_readBlock l G Cj M hd1 ht1 hMj1 (by omega)) mw_X1_readBlock mv_X1_readBlock mM_X4_197 ⟨Nat.le_of_ble_eq_true rfl, Nat.le_of_ble_eq_true rfl⟩ rfl rfl hl.1 (lv_room (Nat.le_of_ble_eq_true rfl)) dX4_moveBlocks_48 rfl (fun H locs hW => ?_) ⟨Nat.zero_le _, Nat.zero_le _⟩
            obtain ⟨C3, eC3⟩ : ∃ z, z = (reaC Cj d1 t1).2 := ⟨_, rfl⟩
            rw [← eC3] at hW
            refine lv_istore (lv' := [(7, .int ((reaC Cj d1 t1).1)), (1, .ref (zad G 3 d1)), (2, .ref (zad G 5 t1)), (4, .ref (zad G 3 d2)), (5, .int (nI h)), (6, .int (nI (q + zN C t1 q + 1))), (8, .int (nI a))]) hx hb dX4_moveBlocks_51 hl (by decide) rfl (fun ls hl => ?_)
            refine lv_iload hx hb dX4_moveBlocks_53 (lv_at hl 0 rfl) ?_
            refine lv_if_ne (tgt := 68) hx hb dX4_moveBlocks_55 (by decide) (fun h55 => ?_) (fun h55 => ?_)
            · refine lv_iinc (k := 6) (v := nI (a + 1)) (lv' := [(8, .int (nI (a + 1))), (7, .int ((reaC Cj d1 t1).1)), (1, .ref (zad G 3 d1)), (2, .ref (zad G 5 t1)), (4, .ref (zad G 3 d2)), (5, .int (nI h)), (6, .int (nI (q + zN C t1 q + 1)))]) hx hb dX4_moveBlocks_68 hl rfl (nI_inc _) (by decide) rfl (fun ls hl => ?_)
              refine lv_goto (tgt := 35) hx hb dX4_moveBlocks_71 (by decide) ?_
              exact ih (a + 1) ((reaC Cj d1 t1).1) C3 (by omega) (by rw [eC3]; exact Sm_rea.I hIj) (by rw [eC3, Sm_rea.2.2]; exact hmj) (by rw [eC3, reaC_2]; have := pasC_pos Cj d1; omega) (by rw [← hD, mvL, if_neg (fun q => q h44), ← eC3]; unfold mv2; rw [if_pos h55]) _ _ _ hW (lv_sub hl [2, 3, 4, 5, 6, 1, 0] rfl)
            · refine lv_aload hx hb dX4_moveBlocks_58 (lv_at hl 3 rfl) ?_
              refine lv_aload_n hx hb dX4_moveBlocks_60 rfl (lv_at hl 2 rfl) ?_
              refine lv_iload hx hb dX4_moveBlocks_61 (lv_at hl 6 rfl) ?_
              refine z_callV (As := [.ref (zad G 5 t1), .int (nI a)]) (rest := []) (st1 := [.int ((wriC C3 d2 t2 t1 a).1)]) hC hW (LL_3 hd2) rfl rfl rfl (c_X1_writeBlock l G C3 M hd2 ht2 (by rw [eC3, Sm_rea.2.2]; exact hMj2) (by rw [eC3]; exact Sm_rea.I hIj) (Or.inl ht1) (a := a) (by omega)) mw_X1_writeBlock mv_X1_writeBlock mM_X4_186 ⟨Nat.le_of_ble_eq_true rfl, Nat.le_of_ble_eq_true rfl⟩ rfl rfl hl.1 (lv_room (Nat.le_of_ble_eq_true rfl)) dX4_moveBlocks_63 rfl (fun H locs hW => ?_) ⟨Nat.zero_le _, Nat.zero_le _⟩
              obtain ⟨C4, eC4⟩ : ∃ z, z = (wriC C3 d2 t2 t1 a).2 := ⟨_, rfl⟩
              rw [← eC4] at hW
              refine lv_istore (lv' := [(7, .int ((wriC C3 d2 t2 t1 a).1)), (1, .ref (zad G 3 d1)), (2, .ref (zad G 5 t1)), (4, .ref (zad G 3 d2)), (5, .int (nI h)), (6, .int (nI (q + zN C t1 q + 1))), (8, .int (nI a))]) hx hb dX4_moveBlocks_66 hl (by decide) rfl (fun ls hl => ?_)
              refine lv_iinc (k := 6) (v := nI (a + 1)) (lv' := [(8, .int (nI (a + 1))), (7, .int ((wriC C3 d2 t2 t1 a).1)), (1, .ref (zad G 3 d1)), (2, .ref (zad G 5 t1)), (4, .ref (zad G 3 d2)), (5, .int (nI h)), (6, .int (nI (q + zN C t1 q + 1)))]) hx hb dX4_moveBlocks_68 hl rfl (nI_inc _) (by decide) rfl (fun ls hl => ?_)
              refine lv_goto (tgt := 35) hx hb dX4_moveBlocks_71 (by decide) ?_
              exact ih (a + 1) ((wriC C3 d2 t2 t1 a).1) C4 (by omega) (by rw [eC4]; exact wriC_I (by rw [eC3]; exact Sm_rea.I hIj)) (by rw [eC4, wriC_M, eC3, Sm_rea.2.2]; exact hmj) (by rw [eC4, wriC_N 3 d1 8 (by omega) (by omega), eC3, reaC_2]; have := pasC_pos Cj d1; omega) (by rw [← hD, mvL, if_neg (fun q => q h44), ← eC3]; unfold mv2; rw [if_neg (fun q => q h55), eC4]) _ _ _ hW (lv_sub hl [2, 3, 4, 5, 6, 1, 0] rfl)
    exact lp (zN C t1 q + 2) q u0 C0 (by omega) hI0 hm0 (by omega) (by unfold mv1; rw [hQ]) _ _ _ hW (lv_sub hl [2, 3, 5, 6, 7, 8, 0] rfl)
  refine lv_aload_n hx hb dX4_moveBlocks_11 rfl (lv_at hl 2 rfl) ?_
  refine lv_iload_n hx hb dX4_moveBlocks_12 rfl (lv_at hl 4 rfl) ?_
  refine z_callV (As := [.int (nI q)]) (rest := []) (st1 := [.int ((windC C d1 q).1)]) hC hW (LL_3 hd1) rfl rfl rfl (c_X1_windTo l G C M hd1 (q := q) hp1 (by omega)) mw_X1_windTo mv_X1_windTo mM_X4_183 ⟨Nat.le_of_ble_eq_true rfl, Nat.le_of_ble_eq_true rfl⟩ rfl rfl hl.1 (lv_room (Nat.le_of_ble_eq_true rfl)) dX4_moveBlocks_13 rfl (fun H locs hW => ?_) ⟨Nat.zero_le _, Nat.zero_le _⟩
  obtain ⟨C5, eC5⟩ : ∃ z, z = (windC C d1 q).2 := ⟨_, rfl⟩
  rw [← eC5] at hW
  refine lv_istore (lv' := [(7, .int ((windC C d1 q).1)), (6, .int (nI (q + (zN C t1 q) + 1))), (0, .ref (zad G 0 0)), (1, .ref (zad G 3 d1)), (2, .ref (zad G 5 t1)), (3, .int (nI q)), (4, .ref (zad G 3 d2)), (5, .int (nI h))]) hx hb dX4_moveBlocks_16 hl (by decide) rfl (fun ls hl => ?_)
  refine lv_iload hx hb dX4_moveBlocks_18 (lv_at hl 0 rfl) ?_
  refine lv_if_ne (tgt := 32) hx hb dX4_moveBlocks_20 (by decide) (fun h20 => ?_) (fun h20 => ?_)
  · exact J ((windC C d1 q).1) C5 (by unfold mvW; rw [if_pos h20, eC5]) _ _ _ hW (lv_sub hl [2, 3, 4, 5, 6, 7, 1, 0] rfl)
  · refine lv_aload hx hb dX4_moveBlocks_23 (lv_at hl 6 rfl) ?_
    refine lv_iload hx hb dX4_moveBlocks_25 (lv_at hl 7 rfl) ?_
    refine z_callV (As := [.int (nI h)]) (rest := []) (st1 := [.int ((windC C5 d2 h).1)]) hC hW (LL_3 hd2) rfl rfl rfl (c_X1_windTo l G C5 M hd2 (q := h) (by rw [eC5]; unfold windC; rw [windL_N3 d2 8 (Or.inl (Ne.symm hdd))]; exact hp2) (by omega)) mw_X1_windTo mv_X1_windTo mM_X4_183 ⟨Nat.le_of_ble_eq_true rfl, Nat.le_of_ble_eq_true rfl⟩ rfl rfl hl.1 (lv_room (Nat.le_of_ble_eq_true rfl)) dX4_moveBlocks_27 rfl (fun H locs hW => ?_) ⟨Nat.zero_le _, Nat.zero_le _⟩
    obtain ⟨C6, eC6⟩ : ∃ z, z = (windC C5 d2 h).2 := ⟨_, rfl⟩
    rw [← eC6] at hW
    refine lv_istore (lv' := [(7, .int ((windC C5 d2 h).1)), (6, .int (nI (q + (zN C t1 q) + 1))), (0, .ref (zad G 0 0)), (1, .ref (zad G 3 d1)), (2, .ref (zad G 5 t1)), (3, .int (nI q)), (4, .ref (zad G 3 d2)), (5, .int (nI h))]) hx hb dX4_moveBlocks_30 hl (by decide) rfl (fun ls hl => ?_)
    exact J ((windC C5 d2 h).1) C6 (by unfold mvW; rw [if_neg (fun q => q h20), eC6, eC5]) _ _ _ hW (lv_sub hl [2, 3, 4, 5, 6, 7, 1, 0] rfl)
end
section
/-! ===== the class: jobs ===== -/

set_option maxHeartbeats 4000000 in
set_option maxRecDepth 100000 in
theorem c_X4_copyJob_n (l : Launch) (G : GG) (C : CS) (M : MS) (h12 : zn G ≤ 12) {t : Nat} (ht : t < zn G) (hI : Iv C) (hT : ∀ d t, cM C d = some t → t < zn G) (hs : 0 < cN C 5 12 3) (hN : ndC C t = none) : Ct l G yX4_copyJob cX4_copyJob 4 (some .int) 5 110 [.ref (zad G 0 0), .ref (zad G 9 t)] C M (some (.int ((copC C t).1))) ((copC C t).2) M := by
  refine Ct_i (by decide) (Nat.le_of_ble_eq_true rfl) (fun {p e s m args below meth c A Q ls} hC hW hl hE => ?_)
  have hx := hC.1
  have hb := hC.2.1
  have hl : lv_has ls 4 [(0, .ref (zad G 0 0)), (1, .ref (zad G 9 t))] := hl
  refine lv_aload_n hx hb dX4_copyJob_0 rfl (lv_at hl 0 rfl) ?_
  refine lv_aload_n hx hb dX4_copyJob_1 rfl (lv_at hl 1 rfl) ?_
  refine z_callV (As := [.ref (zad G 9 t)]) (rest := []) (st1 := [.null]) hC hW LL_0 rfl rfl rfl (nd_n l G C M ht hI hT hN) mw_X4_nearestDrive mv_X4_nearestDrive mM_X4_166 ⟨Nat.le_of_ble_eq_true rfl, Nat.le_of_ble_eq_true rfl⟩ rfl rfl hl.1 (lv_room (Nat.le_of_ble_eq_true rfl)) dX4_copyJob_2 rfl (fun H locs hW => ?_) ⟨Nat.zero_le _, Nat.zero_le _⟩
  refine lv_astore_nN (lv' := [(2, .null), (0, .ref (zad G 0 0)), (1, .ref (zad G 9 t))]) hx hb dX4_copyJob_5 rfl hl (by decide) rfl (fun ls hl => ?_)
  refine lv_aload_nN hx hb dX4_copyJob_6 rfl (lv_at hl 0 rfl) ?_
  refine lv_ifnonnullN hx hb dX4_copyJob_7 ?_
  refine lv_bipush (v := (-3)) hx hb dX4_copyJob_10 (by decide) ?_
  have hD2 : copC C t = (-3, C) := by unfold copC; rw [hN]
  rw [hD2] at hE
  exact hE hW rfl dX4_copyJob_12

set_option maxHeartbeats 4000000 in
set_option maxRecDepth 100000 in
theorem c_X4_copyJob_s (l : Launch) (G : GG) (C : CS) (M : MS) (h12 : zn G ≤ 12) {t : Nat} (ht : t < zn G) (hI : Iv C) (hT : ∀ d t, cM C d = some t → t < zn G) (hs : 0 < cN C 5 12 3) {d : Nat} (hN : ndC C t = some d) : Ct l G yX4_copyJob cX4_copyJob 4 (some .int) 5 110 [.ref (zad G 0 0), .ref (zad G 9 t)] C M (some (.int ((copC C t).1))) ((copC C t).2) M := by
  refine Ct_i (by decide) (Nat.le_of_ble_eq_true rfl) (fun {p e s m args below meth c A Q ls} hC hW hl hE => ?_)
  have hx := hC.1
  have hb := hC.2.1
  have hl : lv_has ls 4 [(0, .ref (zad G 0 0)), (1, .ref (zad G 9 t))] := hl
  have nd := nd_some hN
  refine lv_aload_n hx hb dX4_copyJob_0 rfl (lv_at hl 0 rfl) ?_
  refine lv_aload_n hx hb dX4_copyJob_1 rfl (lv_at hl 1 rfl) ?_
  refine z_callV (As := [.ref (zad G 9 t)]) (rest := []) (st1 := [.ref (zad G 3 d)]) hC hW LL_0 rfl rfl rfl (nd_s l G C M ht hI hT hN) mw_X4_nearestDrive mv_X4_nearestDrive mM_X4_166 ⟨Nat.le_of_ble_eq_true rfl, Nat.le_of_ble_eq_true rfl⟩ rfl rfl hl.1 (lv_room (Nat.le_of_ble_eq_true rfl)) dX4_copyJob_2 rfl (fun H locs hW => ?_) ⟨Nat.zero_le _, Nat.zero_le _⟩
  refine lv_astore_n (lv' := [(2, .ref (zad G 3 d)), (0, .ref (zad G 0 0)), (1, .ref (zad G 9 t))]) hx hb dX4_copyJob_5 rfl hl (by decide) rfl (fun ls hl => ?_)
  refine lv_aload_n hx hb dX4_copyJob_6 rfl (lv_at hl 0 rfl) ?_
  refine lv_ifnonnull (tgt := 13) hx hb dX4_copyJob_7 (by decide) ?_
  refine lv_aload_n hx hb dX4_copyJob_13 rfl (lv_at hl 0 rfl) ?_
  refine lv_aload_n hx hb dX4_copyJob_14 rfl (lv_at hl 2 rfl) ?_
  refine z_callV (As := [.ref (zad G 9 t)]) (rest := []) (st1 := [.int ((carC C d t).1)]) hC hW (LL_3 nd.1) rfl rfl rfl (c_X1_carry l G C M nd.1 ht hI) mw_X1_carry mv_X1_carry mM_X4_170 ⟨Nat.le_of_ble_eq_true rfl, Nat.le_of_ble_eq_true rfl⟩ rfl rfl hl.1 (lv_room (Nat.le_of_ble_eq_true rfl)) dX4_copyJob_15 rfl (fun H locs hW => ?_) ⟨Nat.zero_le _, Nat.zero_le _⟩
  obtain ⟨C1, eC1⟩ : ∃ z, z = (carC C d t).2 := ⟨_, rfl⟩
  rw [← eC1] at hW
  have hI1 : Iv C1 := by rw [eC1]; exact carC_I hI
  refine lv_istore_n (lv' := [(3, .int ((carC C d t).1)), (2, .ref (zad G 3 d)), (0, .ref (zad G 0 0)), (1, .ref (zad G 9 t))]) hx hb dX4_copyJob_18 rfl hl (by decide) rfl (fun ls hl => ?_)
  have J : ∀ (u : Int32) (Cx : CS), cop1 C d t = (u, Cx) → cM Cx d = some t → Iv Cx → ∀ (H : Heap) (locs : List Loc) (ls : Array Slot), Wd G s A s.heap H locs Cx M → lv_has ls 4 [(0, .ref (zad G 0 0)), (1, .ref (zad G 9 t)), (2, .ref (zad G 3 d)), (3, .int u)] → W p l e { frames := 5, cells := 0, slots := 0, locals := 110 } s m args below meth c H locs 0 0 Q (F0 m 36 ls []) := by
    intro u Cx hQ hMx hIx H locs ls hW hl
    refine lv_aload_n hx hb dX4_copyJob_36 rfl (lv_at hl 2 rfl) ?_
    refine z_callV (As := []) (rest := []) (st1 := []) hC hW (LL_3 nd.1) rfl rfl rfl (c_X1_bringHome l G Cx M nd.1 ht hMx) mw_X1_bringHome mv_X1_bringHome mM_X4_177 ⟨Nat.le_of_ble_eq_true rfl, Nat.le_of_ble_eq_true rfl⟩ rfl rfl hl.1 (lv_room (Nat.le_of_ble_eq_true rfl)) dX4_copyJob_37 rfl (fun H locs hW => ?_) ⟨Nat.zero_le _, Nat.zero_le _⟩
    obtain ⟨C2, eC2⟩ : ∃ z, z = briC Cx d t := ⟨_, rfl⟩
    rw [← eC2] at hW
    refine lv_iload_n hx hb dX4_copyJob_40 rfl (lv_at hl 3 rfl) ?_
    refine lv_if_lt (tgt := 49) hx hb dX4_copyJob_41 (by decide) (fun h41 => ?_) (fun h41 => ?_)
    · refine lv_iload_n hx hb dX4_copyJob_49 rfl (lv_at hl 3 rfl) ?_
      have hD2 : copC C t = (u, C2) := by unfold copC; rw [hN]; show copD C d t = _; unfold copD; rw [hQ]; show (u, if u < 0 then briC Cx d t else _) = _; rw [if_pos h41, eC2]
      rw [hD2] at hE
      exact hE hW rfl dX4_copyJob_50
    · refine lv_aload_n hx hb dX4_copyJob_44 rfl (lv_at hl 1 rfl) ?_
      refine lv_iload_n hx hb dX4_copyJob_45 rfl (lv_at hl 3 rfl) ?_
      obtain ⟨h, hh, hv⟩ := cop1_nn hs (by rw [hQ]; exact h41)
      rw [hQ] at hv
      refine z_top (y := nI h) hv ?_
      refine z_callV (As := [.int (nI h)]) (rest := []) (st1 := []) hC hW (LL_9 ht) rfl rfl rfl (c_X3_list l G C2 M ht (by rw [eC2]; exact briC_I hIx) (h := h) hh) mw_X3_list mv_X3_list mM_X4_180 ⟨Nat.le_of_ble_eq_true rfl, Nat.le_of_ble_eq_true rfl⟩ rfl rfl hl.1 (lv_room (Nat.le_of_ble_eq_true rfl)) dX4_copyJob_46 rfl (fun H locs hW => ?_) ⟨Nat.zero_le _, Nat.zero_le _⟩
      obtain ⟨C3, eC3⟩ : ∃ z, z = listC C2 t h := ⟨_, rfl⟩
      rw [← eC3] at hW
      refine lv_iload_n hx hb dX4_copyJob_49 rfl (lv_at hl 3 rfl) ?_
      have hD2 : copC C t = (u, C3) := by unfold copC; rw [hN]; show copD C d t = _; unfold copD; rw [hQ]; show (u, if u < 0 then briC Cx d t else listC (briC Cx d t) t u.toNatClampNeg) = _; rw [if_neg h41, show u.toNatClampNeg = h from by rw [show u = nI h from hv, cl_nI hh], eC3, eC2]
      rw [hD2] at hE
      exact hE hW rfl dX4_copyJob_50
  refine lv_iload_n hx hb dX4_copyJob_19 rfl (lv_at hl 0 rfl) ?_
  refine lv_if_ne (tgt := 36) hx hb dX4_copyJob_20 (by decide) (fun h20 => ?_) (fun h20 => ?_)
  · exact J ((carC C d t).1) C1 (by unfold cop1; rw [if_pos h20, eC1]) (by rw [eC1, carC_M, if_pos rfl]) (by rw [eC1]; exact carC_I hI) _ _ _ hW (lv_sub hl [2, 3, 1, 0] rfl)
  · refine lv_aload_n hx hb dX4_copyJob_23 rfl (lv_at hl 2 rfl) ?_
    refine lv_aload_n hx hb dX4_copyJob_24 rfl (lv_at hl 1 rfl) ?_
    refine lv_aload_n hx hb dX4_copyJob_25 rfl (lv_at hl 3 rfl) ?_
    refine g9 (k := 1) (v := .ref (zad G 5 t)) hC hW ht (by decide) mF_X4_117 rfl dX4_copyJob_26 ?_
    refine g5 (k := 3) (v := .int (nI (cN C1 5 t 3))) hC hW (Or.inl ht) (by decide) mF_X4_66 rfl dX4_copyJob_29 ?_
    refine z_callV (As := [.ref (zad G 3 d), .int (nI (cN C1 5 t 3))]) (rest := []) (st1 := [.int ((wsC C1 d t (cN C1 5 t 3)).1)]) hC hW LL_0 rfl rfl rfl (c_X4_writeStaged l G C1 M h12 nd.1 ht (by rw [eC1, carC_M, if_pos rfl]) hI1 (h := cN C1 5 t 3) (by rw [eC1, carC_pos]; omega) (by have := hI1.1 t; have := cap_le t; omega)) mw_X4_writeStaged mv_X4_writeStaged mM_X4_173 ⟨Nat.le_of_ble_eq_true rfl, Nat.le_of_ble_eq_true rfl⟩ rfl rfl hl.1 (lv_room (Nat.le_of_ble_eq_true rfl)) dX4_copyJob_32 rfl (fun H locs hW => ?_) ⟨Nat.zero_le _, Nat.zero_le _⟩
    obtain ⟨C4, eC4⟩ : ∃ z, z = (wsC C1 d t (cN C1 5 t 3)).2 := ⟨_, rfl⟩
    rw [← eC4] at hW
    refine lv_istore_n (lv' := [(3, .int ((wsC C1 d t (cN C1 5 t 3)).1)), (2, .ref (zad G 3 d)), (0, .ref (zad G 0 0)), (1, .ref (zad G 9 t))]) hx hb dX4_copyJob_35 rfl hl (by decide) rfl (fun ls hl => ?_)
    exact J ((wsC C1 d t (cN C1 5 t 3)).1) C4 (by unfold cop1; rw [if_neg (fun q => q h20), ← eC1, eC4]) (by rw [eC4, wsC_M, eC1, carC_M, if_pos rfl]) (by rw [eC4]; exact wsC_I (by rw [eC1]; exact carC_I hI)) _ _ _ hW (lv_sub hl [2, 3, 1, 0] rfl)

theorem c_X4_copyJob (l : Launch) (G : GG) (C : CS) (M : MS) (h12 : zn G ≤ 12) {t : Nat} (ht : t < zn G) (hI : Iv C) (hT : ∀ d t, cM C d = some t → t < zn G) (hs : 0 < cN C 5 12 3) : Ct l G yX4_copyJob cX4_copyJob 4 (some .int) 5 110 [.ref (zad G 0 0), .ref (zad G 9 t)] C M (some (.int (copC C t).1)) (copC C t).2 M := by
  cases hN : ndC C t with
  | none => exact c_X4_copyJob_n l G C M h12 ht hI hT hs hN
  | some d => exact c_X4_copyJob_s l G C M h12 ht hI hT hs hN

set_option maxHeartbeats 4000000 in
set_option maxRecDepth 100000 in
theorem c_X4_readJob_n (l : Launch) (G : GG) (C : CS) (M : MS) {t : Nat} (ht : t < zn G) (hI : Iv C) (hT : ∀ d t, cM C d = some t → t < zn G) (h12 : zn G ≤ 12) {h : Nat} (hh : h < 100) (hN : ndC C t = none) : Ct l G yX4_readJob cX4_readJob 5 (some .int) 4 89 [.ref (zad G 0 0), .ref (zad G 9 t), .int (nI h)] C M (some (.int ((rjC C t h).1))) ((rjC C t h).2) M := by
  refine Ct_i (by decide) (Nat.le_of_ble_eq_true rfl) (fun {p e s m args below meth c A Q ls} hC hW hl hE => ?_)
  have hx := hC.1
  have hb := hC.2.1
  have hl : lv_has ls 5 [(0, .ref (zad G 0 0)), (1, .ref (zad G 9 t)), (2, .int (nI h))] := hl
  refine lv_aload_n hx hb dX4_readJob_0 rfl (lv_at hl 0 rfl) ?_
  refine lv_aload_n hx hb dX4_readJob_1 rfl (lv_at hl 1 rfl) ?_
  refine z_callV (As := [.ref (zad G 9 t)]) (rest := []) (st1 := [.null]) hC hW LL_0 rfl rfl rfl (nd_n l G C M ht hI hT hN) mw_X4_nearestDrive mv_X4_nearestDrive mM_X4_166 ⟨Nat.le_of_ble_eq_true rfl, Nat.le_of_ble_eq_true rfl⟩ rfl rfl hl.1 (lv_room (Nat.le_of_ble_eq_true rfl)) dX4_readJob_2 rfl (fun H locs hW => ?_) ⟨Nat.zero_le _, Nat.zero_le _⟩
  refine lv_astore_nN (lv' := [(3, .null), (0, .ref (zad G 0 0)), (1, .ref (zad G 9 t)), (2, .int (nI h))]) hx hb dX4_readJob_5 rfl hl (by decide) rfl (fun ls hl => ?_)
  refine lv_aload_nN hx hb dX4_readJob_6 rfl (lv_at hl 0 rfl) ?_
  refine lv_ifnonnullN hx hb dX4_readJob_7 ?_
  refine lv_bipush (v := (-3)) hx hb dX4_readJob_10 (by decide) ?_
  have hD2 : rjC C t h = (-3, C) := by unfold rjC; rw [hN]
  rw [hD2] at hE
  exact hE hW rfl dX4_readJob_12

set_option maxHeartbeats 4000000 in
set_option maxRecDepth 100000 in
theorem c_X4_readJob_s (l : Launch) (G : GG) (C : CS) (M : MS) {t : Nat} (ht : t < zn G) (hI : Iv C) (hT : ∀ d t, cM C d = some t → t < zn G) (h12 : zn G ≤ 12) {h : Nat} (hh : h < 100) {d : Nat} (hN : ndC C t = some d) : Ct l G yX4_readJob cX4_readJob 5 (some .int) 4 89 [.ref (zad G 0 0), .ref (zad G 9 t), .int (nI h)] C M (some (.int ((rjC C t h).1))) ((rjC C t h).2) M := by
  refine Ct_i (by decide) (Nat.le_of_ble_eq_true rfl) (fun {p e s m args below meth c A Q ls} hC hW hl hE => ?_)
  have hx := hC.1
  have hb := hC.2.1
  have hl : lv_has ls 5 [(0, .ref (zad G 0 0)), (1, .ref (zad G 9 t)), (2, .int (nI h))] := hl
  have nd := nd_some hN
  refine lv_aload_n hx hb dX4_readJob_0 rfl (lv_at hl 0 rfl) ?_
  refine lv_aload_n hx hb dX4_readJob_1 rfl (lv_at hl 1 rfl) ?_
  refine z_callV (As := [.ref (zad G 9 t)]) (rest := []) (st1 := [.ref (zad G 3 d)]) hC hW LL_0 rfl rfl rfl (nd_s l G C M ht hI hT hN) mw_X4_nearestDrive mv_X4_nearestDrive mM_X4_166 ⟨Nat.le_of_ble_eq_true rfl, Nat.le_of_ble_eq_true rfl⟩ rfl rfl hl.1 (lv_room (Nat.le_of_ble_eq_true rfl)) dX4_readJob_2 rfl (fun H locs hW => ?_) ⟨Nat.zero_le _, Nat.zero_le _⟩
  refine lv_astore_n (lv' := [(3, .ref (zad G 3 d)), (0, .ref (zad G 0 0)), (1, .ref (zad G 9 t)), (2, .int (nI h))]) hx hb dX4_readJob_5 rfl hl (by decide) rfl (fun ls hl => ?_)
  refine lv_aload_n hx hb dX4_readJob_6 rfl (lv_at hl 0 rfl) ?_
  refine lv_ifnonnull (tgt := 13) hx hb dX4_readJob_7 (by decide) ?_
  refine lv_aload_n hx hb dX4_readJob_13 rfl (lv_at hl 0 rfl) ?_
  refine lv_aload_n hx hb dX4_readJob_14 rfl (lv_at hl 2 rfl) ?_
  refine z_callV (As := [.ref (zad G 9 t)]) (rest := []) (st1 := [.int ((carC C d t).1)]) hC hW (LL_3 nd.1) rfl rfl rfl (c_X1_carry l G C M nd.1 ht hI) mw_X1_carry mv_X1_carry mM_X4_170 ⟨Nat.le_of_ble_eq_true rfl, Nat.le_of_ble_eq_true rfl⟩ rfl rfl hl.1 (lv_room (Nat.le_of_ble_eq_true rfl)) dX4_readJob_15 rfl (fun H locs hW => ?_) ⟨Nat.zero_le _, Nat.zero_le _⟩
  obtain ⟨C1, eC1⟩ : ∃ z, z = (carC C d t).2 := ⟨_, rfl⟩
  rw [← eC1] at hW
  have hI1 : Iv C1 := by rw [eC1]; exact carC_I hI
  refine lv_istore (lv' := [(4, .int ((carC C d t).1)), (3, .ref (zad G 3 d)), (0, .ref (zad G 0 0)), (1, .ref (zad G 9 t)), (2, .int (nI h))]) hx hb dX4_readJob_18 hl (by decide) rfl (fun ls hl => ?_)
  have J : ∀ (u : Int32) (Cx : CS), rj1 C d t h = (u, Cx) → cM Cx d = some t → ∀ (H : Heap) (locs : List Loc) (ls : Array Slot), Wd G s A s.heap H locs Cx M → lv_has ls 5 [(0, .ref (zad G 0 0)), (1, .ref (zad G 9 t)), (2, .int (nI h)), (3, .ref (zad G 3 d)), (4, .int u)] → W p l e { frames := 4, cells := 0, slots := 0, locals := 89 } s m args below meth c H locs 0 0 Q (F0 m 37 ls []) := by
    intro u Cx hQ hMx H locs ls hW hl
    refine lv_aload_n hx hb dX4_readJob_37 rfl (lv_at hl 3 rfl) ?_
    refine z_callV (As := []) (rest := []) (st1 := []) hC hW (LL_3 nd.1) rfl rfl rfl (c_X1_bringHome l G Cx M nd.1 ht hMx) mw_X1_bringHome mv_X1_bringHome mM_X4_177 ⟨Nat.le_of_ble_eq_true rfl, Nat.le_of_ble_eq_true rfl⟩ rfl rfl hl.1 (lv_room (Nat.le_of_ble_eq_true rfl)) dX4_readJob_38 rfl (fun H locs hW => ?_) ⟨Nat.zero_le _, Nat.zero_le _⟩
    obtain ⟨C2, eC2⟩ : ∃ z, z = briC Cx d t := ⟨_, rfl⟩
    rw [← eC2] at hW
    refine lv_iload hx hb dX4_readJob_41 (lv_at hl 4 rfl) ?_
    have hD2 : rjC C t h = (u, C2) := by unfold rjC; rw [hN]; show ((rj1 C d t h).1, briC (rj1 C d t h).2 d t) = _; rw [hQ, eC2]
    rw [hD2] at hE
    exact hE hW rfl dX4_readJob_43
  refine lv_iload hx hb dX4_readJob_20 (lv_at hl 0 rfl) ?_
  refine lv_if_ne (tgt := 37) hx hb dX4_readJob_22 (by decide) (fun h22 => ?_) (fun h22 => ?_)
  · exact J ((carC C d t).1) C1 (by unfold rj1; rw [if_pos h22, eC1]) (by rw [eC1, carC_M, if_pos rfl]) _ _ _ hW (lv_sub hl [2, 3, 4, 1, 0] rfl)
  · refine lv_aload_n hx hb dX4_readJob_25 rfl (lv_at hl 2 rfl) ?_
    refine lv_aload_n hx hb dX4_readJob_26 rfl (lv_at hl 1 rfl) ?_
    refine lv_aload_n hx hb dX4_readJob_27 rfl (lv_at hl 3 rfl) ?_
    refine g9 (k := 1) (v := .ref (zad G 5 t)) hC hW ht (by decide) mF_X4_117 rfl dX4_readJob_28 ?_
    refine lv_iload_n hx hb dX4_readJob_31 rfl (lv_at hl 4 rfl) ?_
    refine z_callV (As := [.ref (zad G 3 d), .ref (zad G 5 t), .int (nI h)]) (rest := []) (st1 := [.int ((rfC C1 d t h).1)]) hC hW LL_0 rfl rfl rfl (c_X4_readFile l G C1 M h12 nd.1 ht (by rw [eC1, carC_M, if_pos rfl]) hI1 (h := h) (by rw [eC1, carC_pos]; omega) hh) mw_X4_readFile mv_X4_readFile mM_X4_193 ⟨Nat.le_of_ble_eq_true rfl, Nat.le_of_ble_eq_true rfl⟩ rfl rfl hl.1 (lv_room (Nat.le_of_ble_eq_true rfl)) dX4_readJob_32 rfl (fun H locs hW => ?_) ⟨Nat.zero_le _, Nat.zero_le _⟩
    obtain ⟨C3, eC3⟩ : ∃ z, z = (rfC C1 d t h).2 := ⟨_, rfl⟩
    rw [← eC3] at hW
    refine lv_istore (lv' := [(4, .int ((rfC C1 d t h).1)), (3, .ref (zad G 3 d)), (0, .ref (zad G 0 0)), (1, .ref (zad G 9 t)), (2, .int (nI h))]) hx hb dX4_readJob_35 hl (by decide) rfl (fun ls hl => ?_)
    exact J ((rfC C1 d t h).1) C3 (by unfold rj1; rw [if_neg (fun q => q h22), ← eC1, eC3]) (by rw [eC3, Sm_rfC.2.2, eC1, carC_M, if_pos rfl]) _ _ _ hW (lv_sub hl [2, 3, 4, 1, 0] rfl)

theorem c_X4_readJob (l : Launch) (G : GG) (C : CS) (M : MS) {t : Nat} (ht : t < zn G) (hI : Iv C) (hT : ∀ d t, cM C d = some t → t < zn G) (h12 : zn G ≤ 12) {h : Nat} (hh : h < 100) : Ct l G yX4_readJob cX4_readJob 5 (some .int) 4 89 [.ref (zad G 0 0), .ref (zad G 9 t), .int (nI h)] C M (some (.int (rjC C t h).1)) (rjC C t h).2 M := by
  cases hN : ndC C t with
  | none => exact c_X4_readJob_n l G C M ht hI hT h12 hh hN
  | some d => exact c_X4_readJob_s l G C M ht hI hT h12 hh hN

set_option maxHeartbeats 4000000 in
set_option maxRecDepth 100000 in
theorem c_X4_moveInto_n (l : Launch) (G : GG) (C : CS) (M : MS) {d1 t1 t2 : Nat} (hd1 : d1 < 3) (ht1 : t1 < zn G) (hM1 : cM C d1 = some t1) (ht2 : t2 < zn G) (hI : Iv C) (hT : ∀ d t, cM C d = some t → t < zn G) {q : Nat} (hp1 : cN C 3 d1 8 ≤ q) (hq : q < 100) (hN : ndC C t2 = none) : Ct l G yX4_moveInto cX4_moveInto 7 (some .int) 5 114 [.ref (zad G 0 0), .ref (zad G 9 t2), .ref (zad G 3 d1), .ref (zad G 5 t1), .int (nI q)] C M (some (.int ((miC C d1 t1 t2 q).1))) ((miC C d1 t1 t2 q).2) M := by
  refine Ct_i (by decide) (Nat.le_of_ble_eq_true rfl) (fun {p e s m args below meth c A Q ls} hC hW hl hE => ?_)
  have hx := hC.1
  have hb := hC.2.1
  have hl : lv_has ls 7 [(0, .ref (zad G 0 0)), (1, .ref (zad G 9 t2)), (2, .ref (zad G 3 d1)), (3, .ref (zad G 5 t1)), (4, .int (nI q))] := hl
  refine lv_aload_n hx hb dX4_moveInto_0 rfl (lv_at hl 0 rfl) ?_
  refine lv_aload_n hx hb dX4_moveInto_1 rfl (lv_at hl 1 rfl) ?_
  refine z_callV (As := [.ref (zad G 9 t2)]) (rest := []) (st1 := [.null]) hC hW LL_0 rfl rfl rfl (nd_n l G C M ht2 hI hT hN) mw_X4_nearestDrive mv_X4_nearestDrive mM_X4_166 ⟨Nat.le_of_ble_eq_true rfl, Nat.le_of_ble_eq_true rfl⟩ rfl rfl hl.1 (lv_room (Nat.le_of_ble_eq_true rfl)) dX4_moveInto_2 rfl (fun H locs hW => ?_) ⟨Nat.zero_le _, Nat.zero_le _⟩
  refine lv_astoreN (lv' := [(5, .null), (0, .ref (zad G 0 0)), (1, .ref (zad G 9 t2)), (2, .ref (zad G 3 d1)), (3, .ref (zad G 5 t1)), (4, .int (nI q))]) hx hb dX4_moveInto_5 hl (by decide) rfl (fun ls hl => ?_)
  refine lv_aloadN hx hb dX4_moveInto_7 (lv_at hl 0 rfl) ?_
  refine lv_ifnonnullN hx hb dX4_moveInto_9 ?_
  refine lv_bipush (v := (-3)) hx hb dX4_moveInto_12 (by decide) ?_
  have hD2 : miC C d1 t1 t2 q = (-3, C) := by unfold miC; rw [hN]
  rw [hD2] at hE
  exact hE hW rfl dX4_moveInto_14

set_option maxHeartbeats 4000000 in
set_option maxRecDepth 100000 in
theorem c_X4_moveInto_s (l : Launch) (G : GG) (C : CS) (M : MS) {d1 t1 t2 : Nat} (hd1 : d1 < 3) (ht1 : t1 < zn G) (hM1 : cM C d1 = some t1) (ht2 : t2 < zn G) (hI : Iv C) (hT : ∀ d t, cM C d = some t → t < zn G) {q : Nat} (hp1 : cN C 3 d1 8 ≤ q) (hq : q < 100) {d2 : Nat} (hN : ndC C t2 = some d2) : Ct l G yX4_moveInto cX4_moveInto 7 (some .int) 5 114 [.ref (zad G 0 0), .ref (zad G 9 t2), .ref (zad G 3 d1), .ref (zad G 5 t1), .int (nI q)] C M (some (.int ((miC C d1 t1 t2 q).1))) ((miC C d1 t1 t2 q).2) M := by
  refine Ct_i (by decide) (Nat.le_of_ble_eq_true rfl) (fun {p e s m args below meth c A Q ls} hC hW hl hE => ?_)
  have hx := hC.1
  have hb := hC.2.1
  have hl : lv_has ls 7 [(0, .ref (zad G 0 0)), (1, .ref (zad G 9 t2)), (2, .ref (zad G 3 d1)), (3, .ref (zad G 5 t1)), (4, .int (nI q))] := hl
  have nd := nd_some hN
  have hdd : d1 ≠ d2 := by intro z; have := nd.2.2; rw [← z, hM1] at this; cases this
  refine lv_aload_n hx hb dX4_moveInto_0 rfl (lv_at hl 0 rfl) ?_
  refine lv_aload_n hx hb dX4_moveInto_1 rfl (lv_at hl 1 rfl) ?_
  refine z_callV (As := [.ref (zad G 9 t2)]) (rest := []) (st1 := [.ref (zad G 3 d2)]) hC hW LL_0 rfl rfl rfl (nd_s l G C M ht2 hI hT hN) mw_X4_nearestDrive mv_X4_nearestDrive mM_X4_166 ⟨Nat.le_of_ble_eq_true rfl, Nat.le_of_ble_eq_true rfl⟩ rfl rfl hl.1 (lv_room (Nat.le_of_ble_eq_true rfl)) dX4_moveInto_2 rfl (fun H locs hW => ?_) ⟨Nat.zero_le _, Nat.zero_le _⟩
  refine lv_astore (lv' := [(5, .ref (zad G 3 d2)), (0, .ref (zad G 0 0)), (1, .ref (zad G 9 t2)), (2, .ref (zad G 3 d1)), (3, .ref (zad G 5 t1)), (4, .int (nI q))]) hx hb dX4_moveInto_5 hl (by decide) rfl (fun ls hl => ?_)
  refine lv_aload hx hb dX4_moveInto_7 (lv_at hl 0 rfl) ?_
  refine lv_ifnonnull (tgt := 15) hx hb dX4_moveInto_9 (by decide) ?_
  refine lv_aload hx hb dX4_moveInto_15 (lv_at hl 0 rfl) ?_
  refine lv_aload_n hx hb dX4_moveInto_17 rfl (lv_at hl 2 rfl) ?_
  refine z_callV (As := [.ref (zad G 9 t2)]) (rest := []) (st1 := [.int ((carC C d2 t2).1)]) hC hW (LL_3 nd.1) rfl rfl rfl (c_X1_carry l G C M nd.1 ht2 hI) mw_X1_carry mv_X1_carry mM_X4_170 ⟨Nat.le_of_ble_eq_true rfl, Nat.le_of_ble_eq_true rfl⟩ rfl rfl hl.1 (lv_room (Nat.le_of_ble_eq_true rfl)) dX4_moveInto_18 rfl (fun H locs hW => ?_) ⟨Nat.zero_le _, Nat.zero_le _⟩
  obtain ⟨C1, eC1⟩ : ∃ z, z = (carC C d2 t2).2 := ⟨_, rfl⟩
  rw [← eC1] at hW
  have hI1 : Iv C1 := by rw [eC1]; exact carC_I hI
  refine lv_istore (lv' := [(6, .int ((carC C d2 t2).1)), (5, .ref (zad G 3 d2)), (0, .ref (zad G 0 0)), (1, .ref (zad G 9 t2)), (2, .ref (zad G 3 d1)), (3, .ref (zad G 5 t1)), (4, .int (nI q))]) hx hb dX4_moveInto_21 hl (by decide) rfl (fun ls hl => ?_)
  have J : ∀ (u : Int32) (Cx : CS), mi1 C d1 t1 d2 t2 q = (u, Cx) → cM Cx d2 = some t2 → ∀ (H : Heap) (locs : List Loc) (ls : Array Slot), Wd G s A s.heap H locs Cx M → lv_has ls 7 [(0, .ref (zad G 0 0)), (1, .ref (zad G 9 t2)), (5, .ref (zad G 3 d2)), (6, .int u)] → W p l e { frames := 5, cells := 0, slots := 0, locals := 114 } s m args below meth c H locs 0 0 Q (F0 m 47 ls []) := by
    intro u Cx hQ hMx H locs ls hW hl
    refine lv_aload hx hb dX4_moveInto_47 (lv_at hl 2 rfl) ?_
    refine z_callV (As := []) (rest := []) (st1 := []) hC hW (LL_3 nd.1) rfl rfl rfl (c_X1_bringHome l G Cx M nd.1 ht2 hMx) mw_X1_bringHome mv_X1_bringHome mM_X4_177 ⟨Nat.le_of_ble_eq_true rfl, Nat.le_of_ble_eq_true rfl⟩ rfl rfl hl.1 (lv_room (Nat.le_of_ble_eq_true rfl)) dX4_moveInto_49 rfl (fun H locs hW => ?_) ⟨Nat.zero_le _, Nat.zero_le _⟩
    obtain ⟨C2, eC2⟩ : ∃ z, z = briC Cx d2 t2 := ⟨_, rfl⟩
    rw [← eC2] at hW
    refine lv_iload hx hb dX4_moveInto_52 (lv_at hl 3 rfl) ?_
    have hD2 : miC C d1 t1 t2 q = (u, C2) := by unfold miC; rw [hN]; show ((mi1 C d1 t1 d2 t2 q).1, briC (mi1 C d1 t1 d2 t2 q).2 d2 t2) = _; rw [hQ, eC2]
    rw [hD2] at hE
    exact hE hW rfl dX4_moveInto_54
  refine lv_iload hx hb dX4_moveInto_23 (lv_at hl 0 rfl) ?_
  refine lv_if_ne (tgt := 47) hx hb dX4_moveInto_25 (by decide) (fun h25 => ?_) (fun h25 => ?_)
  · exact J ((carC C d2 t2).1) C1 (by unfold mi1; rw [if_pos h25, eC1]) (by rw [eC1, carC_M, if_pos rfl]) _ _ _ hW (lv_sub hl [2, 3, 1, 0] rfl)
  · refine lv_aload_n hx hb dX4_moveInto_28 rfl (lv_at hl 2 rfl) ?_
    refine lv_aload_n hx hb dX4_moveInto_29 rfl (lv_at hl 4 rfl) ?_
    refine lv_aload_n hx hb dX4_moveInto_30 rfl (lv_at hl 5 rfl) ?_
    refine lv_iload hx hb dX4_moveInto_31 (lv_at hl 6 rfl) ?_
    refine lv_aload hx hb dX4_moveInto_33 (lv_at hl 1 rfl) ?_
    refine lv_aload_n hx hb dX4_moveInto_35 rfl (lv_at hl 3 rfl) ?_
    refine g9 (k := 1) (v := .ref (zad G 5 t2)) hC hW ht2 (by decide) mF_X4_117 rfl dX4_moveInto_36 ?_
    refine g5 (k := 3) (v := .int (nI (cN C1 5 t2 3))) hC hW (Or.inl ht2) (by decide) mF_X4_66 rfl dX4_moveInto_39 ?_
    refine z_callV (As := [.ref (zad G 3 d1), .ref (zad G 5 t1), .int (nI q), .ref (zad G 3 d2), .int (nI (cN C1 5 t2 3))]) (rest := []) (st1 := [.int ((mvC C1 d1 t1 d2 t2 q (cN C1 5 t2 3)).1)]) hC hW LL_0 rfl rfl rfl (c_X4_moveBlocks l G C1 M hd1 ht1 (by rw [eC1, carC_M, if_neg hdd]; exact hM1) nd.1 ht2 (by rw [eC1, carC_M, if_pos rfl]) hdd hI1 (q := q) (h := cN C1 5 t2 3) (by rw [eC1, carC_N3 d1 8 (Or.inl hdd), if_neg (fun z => hdd z.1)]; exact hp1) hq (by rw [eC1, carC_pos]; omega) (by have := hI1.1 t2; have := cap_le t2; omega)) mw_X4_moveBlocks mv_X4_moveBlocks mM_X4_207 ⟨Nat.le_of_ble_eq_true rfl, Nat.le_of_ble_eq_true rfl⟩ rfl rfl hl.1 (lv_room (Nat.le_of_ble_eq_true rfl)) dX4_moveInto_42 rfl (fun H locs hW => ?_) ⟨Nat.zero_le _, Nat.zero_le _⟩
    obtain ⟨C3, eC3⟩ : ∃ z, z = (mvC C1 d1 t1 d2 t2 q (cN C1 5 t2 3)).2 := ⟨_, rfl⟩
    rw [← eC3] at hW
    refine lv_istore (lv' := [(6, .int ((mvC C1 d1 t1 d2 t2 q (cN C1 5 t2 3)).1)), (5, .ref (zad G 3 d2)), (0, .ref (zad G 0 0)), (1, .ref (zad G 9 t2)), (2, .ref (zad G 3 d1)), (3, .ref (zad G 5 t1)), (4, .int (nI q))]) hx hb dX4_moveInto_45 hl (by decide) rfl (fun ls hl => ?_)
    exact J ((mvC C1 d1 t1 d2 t2 q (cN C1 5 t2 3)).1) C3 (by unfold mi1; rw [if_neg (fun q => q h25), ← eC1, eC3]) (by rw [eC3, mvC_M, eC1, carC_M, if_pos rfl]) _ _ _ hW (lv_sub hl [2, 3, 1, 0] rfl)

theorem c_X4_moveInto (l : Launch) (G : GG) (C : CS) (M : MS) {d1 t1 t2 : Nat} (hd1 : d1 < 3) (ht1 : t1 < zn G) (hM1 : cM C d1 = some t1) (ht2 : t2 < zn G) (hI : Iv C) (hT : ∀ d t, cM C d = some t → t < zn G) {q : Nat} (hp1 : cN C 3 d1 8 ≤ q) (hq : q < 100) : Ct l G yX4_moveInto cX4_moveInto 7 (some .int) 5 114 [.ref (zad G 0 0), .ref (zad G 9 t2), .ref (zad G 3 d1), .ref (zad G 5 t1), .int (nI q)] C M (some (.int (miC C d1 t1 t2 q).1)) (miC C d1 t1 t2 q).2 M := by
  cases hN : ndC C t2 with
  | none => exact c_X4_moveInto_n l G C M hd1 ht1 hM1 ht2 hI hT hp1 hq hN
  | some d => exact c_X4_moveInto_s l G C M hd1 ht1 hM1 ht2 hI hT hp1 hq hN

set_option maxHeartbeats 4000000 in
set_option maxRecDepth 100000 in
theorem c_X4_moveJob_n (l : Launch) (G : GG) (C : CS) (M : MS) {t1 t2 : Nat} (ht1 : t1 < zn G) (ht2 : t2 < zn G) (hI : Iv C) (hT : ∀ d t, cM C d = some t → t < zn G) {q : Nat} (hq : q < 100) (hN : ndC C t1 = none) : Ct l G yX4_moveJob cX4_moveJob 6 (some .int) 6 140 [.ref (zad G 0 0), .ref (zad G 9 t1), .int (nI q), .ref (zad G 9 t2)] C M (some (.int ((mjC C t1 q t2).1))) ((mjC C t1 q t2).2) M := by
  refine Ct_i (by decide) (Nat.le_of_ble_eq_true rfl) (fun {p e s m args below meth c A Q ls} hC hW hl hE => ?_)
  have hx := hC.1
  have hb := hC.2.1
  have hl : lv_has ls 6 [(0, .ref (zad G 0 0)), (1, .ref (zad G 9 t1)), (2, .int (nI q)), (3, .ref (zad G 9 t2))] := hl
  refine lv_aload_n hx hb dX4_moveJob_0 rfl (lv_at hl 0 rfl) ?_
  refine lv_aload_n hx hb dX4_moveJob_1 rfl (lv_at hl 1 rfl) ?_
  refine z_callV (As := [.ref (zad G 9 t1)]) (rest := []) (st1 := [.null]) hC hW LL_0 rfl rfl rfl (nd_n l G C M ht1 hI hT hN) mw_X4_nearestDrive mv_X4_nearestDrive mM_X4_166 ⟨Nat.le_of_ble_eq_true rfl, Nat.le_of_ble_eq_true rfl⟩ rfl rfl hl.1 (lv_room (Nat.le_of_ble_eq_true rfl)) dX4_moveJob_2 rfl (fun H locs hW => ?_) ⟨Nat.zero_le _, Nat.zero_le _⟩
  refine lv_astoreN (lv' := [(4, .null), (0, .ref (zad G 0 0)), (1, .ref (zad G 9 t1)), (2, .int (nI q)), (3, .ref (zad G 9 t2))]) hx hb dX4_moveJob_5 hl (by decide) rfl (fun ls hl => ?_)
  refine lv_aloadN hx hb dX4_moveJob_7 (lv_at hl 0 rfl) ?_
  refine lv_ifnonnullN hx hb dX4_moveJob_9 ?_
  refine lv_bipush (v := (-3)) hx hb dX4_moveJob_12 (by decide) ?_
  have hD2 : mjC C t1 q t2 = (-3, C) := by unfold mjC; rw [hN]
  rw [hD2] at hE
  exact hE hW rfl dX4_moveJob_14

set_option maxHeartbeats 4000000 in
set_option maxRecDepth 100000 in
theorem c_X4_moveJob_s (l : Launch) (G : GG) (C : CS) (M : MS) {t1 t2 : Nat} (ht1 : t1 < zn G) (ht2 : t2 < zn G) (hI : Iv C) (hT : ∀ d t, cM C d = some t → t < zn G) {q : Nat} (hq : q < 100) {d : Nat} (hN : ndC C t1 = some d) : Ct l G yX4_moveJob cX4_moveJob 6 (some .int) 6 140 [.ref (zad G 0 0), .ref (zad G 9 t1), .int (nI q), .ref (zad G 9 t2)] C M (some (.int ((mjC C t1 q t2).1))) ((mjC C t1 q t2).2) M := by
  refine Ct_i (by decide) (Nat.le_of_ble_eq_true rfl) (fun {p e s m args below meth c A Q ls} hC hW hl hE => ?_)
  have hx := hC.1
  have hb := hC.2.1
  have hl : lv_has ls 6 [(0, .ref (zad G 0 0)), (1, .ref (zad G 9 t1)), (2, .int (nI q)), (3, .ref (zad G 9 t2))] := hl
  have nd := nd_some hN
  refine lv_aload_n hx hb dX4_moveJob_0 rfl (lv_at hl 0 rfl) ?_
  refine lv_aload_n hx hb dX4_moveJob_1 rfl (lv_at hl 1 rfl) ?_
  refine z_callV (As := [.ref (zad G 9 t1)]) (rest := []) (st1 := [.ref (zad G 3 d)]) hC hW LL_0 rfl rfl rfl (nd_s l G C M ht1 hI hT hN) mw_X4_nearestDrive mv_X4_nearestDrive mM_X4_166 ⟨Nat.le_of_ble_eq_true rfl, Nat.le_of_ble_eq_true rfl⟩ rfl rfl hl.1 (lv_room (Nat.le_of_ble_eq_true rfl)) dX4_moveJob_2 rfl (fun H locs hW => ?_) ⟨Nat.zero_le _, Nat.zero_le _⟩
  refine lv_astore (lv' := [(4, .ref (zad G 3 d)), (0, .ref (zad G 0 0)), (1, .ref (zad G 9 t1)), (2, .int (nI q)), (3, .ref (zad G 9 t2))]) hx hb dX4_moveJob_5 hl (by decide) rfl (fun ls hl => ?_)
  refine lv_aload hx hb dX4_moveJob_7 (lv_at hl 0 rfl) ?_
  refine lv_ifnonnull (tgt := 15) hx hb dX4_moveJob_9 (by decide) ?_
  refine lv_aload hx hb dX4_moveJob_15 (lv_at hl 0 rfl) ?_
  refine lv_aload_n hx hb dX4_moveJob_17 rfl (lv_at hl 2 rfl) ?_
  refine z_callV (As := [.ref (zad G 9 t1)]) (rest := []) (st1 := [.int ((carC C d t1).1)]) hC hW (LL_3 nd.1) rfl rfl rfl (c_X1_carry l G C M nd.1 ht1 hI) mw_X1_carry mv_X1_carry mM_X4_170 ⟨Nat.le_of_ble_eq_true rfl, Nat.le_of_ble_eq_true rfl⟩ rfl rfl hl.1 (lv_room (Nat.le_of_ble_eq_true rfl)) dX4_moveJob_18 rfl (fun H locs hW => ?_) ⟨Nat.zero_le _, Nat.zero_le _⟩
  obtain ⟨C1, eC1⟩ : ∃ z, z = (carC C d t1).2 := ⟨_, rfl⟩
  rw [← eC1] at hW
  have hI1 : Iv C1 := by rw [eC1]; exact carC_I hI
  refine lv_istore (lv' := [(5, .int ((carC C d t1).1)), (4, .ref (zad G 3 d)), (0, .ref (zad G 0 0)), (1, .ref (zad G 9 t1)), (2, .int (nI q)), (3, .ref (zad G 9 t2))]) hx hb dX4_moveJob_21 hl (by decide) rfl (fun ls hl => ?_)
  have J : ∀ (u : Int32) (Cx : CS), mj1 C d t1 q t2 = (u, Cx) → cM Cx d = some t1 → Iv Cx → ∀ (H : Heap) (locs : List Loc) (ls : Array Slot), Wd G s A s.heap H locs Cx M → lv_has ls 6 [(0, .ref (zad G 0 0)), (1, .ref (zad G 9 t1)), (2, .int (nI q)), (3, .ref (zad G 9 t2)), (4, .ref (zad G 3 d)), (5, .int u)] → W p l e { frames := 6, cells := 0, slots := 0, locals := 140 } s m args below meth c H locs 0 0 Q (F0 m 42 ls []) := by
    intro u Cx hQ hMx hIx H locs ls hW hl
    refine lv_aload hx hb dX4_moveJob_42 (lv_at hl 4 rfl) ?_
    refine z_callV (As := []) (rest := []) (st1 := []) hC hW (LL_3 nd.1) rfl rfl rfl (c_X1_bringHome l G Cx M nd.1 ht1 hMx) mw_X1_bringHome mv_X1_bringHome mM_X4_177 ⟨Nat.le_of_ble_eq_true rfl, Nat.le_of_ble_eq_true rfl⟩ rfl rfl hl.1 (lv_room (Nat.le_of_ble_eq_true rfl)) dX4_moveJob_44 rfl (fun H locs hW => ?_) ⟨Nat.zero_le _, Nat.zero_le _⟩
    obtain ⟨C2, eC2⟩ : ∃ z, z = briC Cx d t1 := ⟨_, rfl⟩
    rw [← eC2] at hW
    refine lv_iload hx hb dX4_moveJob_47 (lv_at hl 5 rfl) ?_
    refine lv_if_lt (tgt := 63) hx hb dX4_moveJob_49 (by decide) (fun h49 => ?_) (fun h49 => ?_)
    · refine lv_iload hx hb dX4_moveJob_63 (lv_at hl 5 rfl) ?_
      have hD2 : mjC C t1 q t2 = (u, C2) := by unfold mjC; rw [hN]; show mjD C d t1 q t2 = _; unfold mjD; rw [hQ]; show (u, if u < 0 then briC Cx d t1 else _) = _; rw [if_pos h49, eC2]
      rw [hD2] at hE
      exact hE hW rfl dX4_moveJob_65
    · refine lv_aload_n hx hb dX4_moveJob_52 rfl (lv_at hl 3 rfl) ?_
      refine lv_iload hx hb dX4_moveJob_53 (lv_at hl 5 rfl) ?_
      obtain ⟨h, hh, hv⟩ := mj1_nn (d := d) (t1 := t1) (t2 := t2) (p := q) (C := C) (by rw [hQ]; exact h49)
      rw [hQ] at hv
      refine z_top (y := nI h) hv ?_
      refine z_callV (As := [.int (nI h)]) (rest := []) (st1 := []) hC hW (LL_9 ht2) rfl rfl rfl (c_X3_list l G C2 M ht2 (by rw [eC2]; exact briC_I hIx) (h := h) hh) mw_X3_list mv_X3_list mM_X4_180 ⟨Nat.le_of_ble_eq_true rfl, Nat.le_of_ble_eq_true rfl⟩ rfl rfl hl.1 (lv_room (Nat.le_of_ble_eq_true rfl)) dX4_moveJob_55 rfl (fun H locs hW => ?_) ⟨Nat.zero_le _, Nat.zero_le _⟩
      obtain ⟨C3, eC3⟩ : ∃ z, z = listC C2 t2 h := ⟨_, rfl⟩
      rw [← eC3] at hW
      refine lv_aload_n hx hb dX4_moveJob_58 rfl (lv_at hl 1 rfl) ?_
      refine lv_iload_n hx hb dX4_moveJob_59 rfl (lv_at hl 2 rfl) ?_
      refine z_callV (As := [.int (nI q)]) (rest := []) (st1 := []) hC hW (LL_9 ht1) rfl rfl rfl (c_X3_unlist_s l G C3 M ht1 (j := q) hq) mw_X3_unlist mv_X3_unlist mM_X4_204 ⟨Nat.le_of_ble_eq_true rfl, Nat.le_of_ble_eq_true rfl⟩ rfl rfl hl.1 (lv_room (Nat.le_of_ble_eq_true rfl)) dX4_moveJob_60 rfl (fun H locs hW => ?_) ⟨Nat.zero_le _, Nat.zero_le _⟩
      obtain ⟨C4, eC4⟩ : ∃ z, z = sB C3 11 t1 q 0 := ⟨_, rfl⟩
      rw [← eC4] at hW
      refine lv_iload hx hb dX4_moveJob_63 (lv_at hl 5 rfl) ?_
      have hD2 : mjC C t1 q t2 = (u, C4) := by unfold mjC; rw [hN]; show mjD C d t1 q t2 = _; unfold mjD; rw [hQ]; show (u, if u < 0 then briC Cx d t1 else sB (listC (briC Cx d t1) t2 u.toNatClampNeg) 11 t1 q 0) = _; rw [if_neg h49, show u.toNatClampNeg = h from by rw [show u = nI h from hv, cl_nI hh], eC4, eC3, eC2]
      rw [hD2] at hE
      exact hE hW rfl dX4_moveJob_65
  refine lv_iload hx hb dX4_moveJob_23 (lv_at hl 0 rfl) ?_
  refine lv_if_ne (tgt := 42) hx hb dX4_moveJob_25 (by decide) (fun h25 => ?_) (fun h25 => ?_)
  · exact J ((carC C d t1).1) C1 (by unfold mj1; rw [if_pos h25, eC1]) (by rw [eC1, carC_M, if_pos rfl]) (by rw [eC1]; exact carC_I hI) _ _ _ hW (lv_sub hl [2, 3, 4, 5, 1, 0] rfl)
  · refine lv_aload_n hx hb dX4_moveJob_28 rfl (lv_at hl 2 rfl) ?_
    refine lv_aload_n hx hb dX4_moveJob_29 rfl (lv_at hl 5 rfl) ?_
    refine lv_aload hx hb dX4_moveJob_30 (lv_at hl 1 rfl) ?_
    refine lv_aload_n hx hb dX4_moveJob_32 rfl (lv_at hl 3 rfl) ?_
    refine g9 (k := 1) (v := .ref (zad G 5 t1)) hC hW ht1 (by decide) mF_X4_117 rfl dX4_moveJob_33 ?_
    refine lv_iload_n hx hb dX4_moveJob_36 rfl (lv_at hl 4 rfl) ?_
    refine z_callV (As := [.ref (zad G 9 t2), .ref (zad G 3 d), .ref (zad G 5 t1), .int (nI q)]) (rest := []) (st1 := [.int ((miC C1 d t1 t2 q).1)]) hC hW LL_0 rfl rfl rfl (c_X4_moveInto l G C1 M nd.1 ht1 (by rw [eC1, carC_M, if_pos rfl]) ht2 hI1 (fun d' t' h' => by rw [eC1, carC_M] at h'; split at h'; (cases h'; exact ht1); exact hT _ _ h') (q := q) (by rw [eC1, carC_pos]; omega) hq) mw_X4_moveInto mv_X4_moveInto mM_X4_200 ⟨Nat.le_of_ble_eq_true rfl, Nat.le_of_ble_eq_true rfl⟩ rfl rfl hl.1 (lv_room (Nat.le_of_ble_eq_true rfl)) dX4_moveJob_37 rfl (fun H locs hW => ?_) ⟨Nat.zero_le _, Nat.zero_le _⟩
    obtain ⟨C5, eC5⟩ : ∃ z, z = (miC C1 d t1 t2 q).2 := ⟨_, rfl⟩
    rw [← eC5] at hW
    refine lv_istore (lv' := [(5, .int ((miC C1 d t1 t2 q).1)), (4, .ref (zad G 3 d)), (0, .ref (zad G 0 0)), (1, .ref (zad G 9 t1)), (2, .int (nI q)), (3, .ref (zad G 9 t2))]) hx hb dX4_moveJob_40 hl (by decide) rfl (fun ls hl => ?_)
    exact J ((miC C1 d t1 t2 q).1) C5 (by unfold mj1; rw [if_neg (fun q => q h25), ← eC1, eC5]) (by rw [eC5, miC_M, eC1, carC_M, if_pos rfl]) (by rw [eC5]; exact miC_I (by rw [eC1]; exact carC_I hI)) _ _ _ hW (lv_sub hl [2, 3, 4, 5, 1, 0] rfl)

theorem c_X4_moveJob (l : Launch) (G : GG) (C : CS) (M : MS) {t1 t2 : Nat} (ht1 : t1 < zn G) (ht2 : t2 < zn G) (hI : Iv C) (hT : ∀ d t, cM C d = some t → t < zn G) {q : Nat} (hq : q < 100) : Ct l G yX4_moveJob cX4_moveJob 6 (some .int) 6 140 [.ref (zad G 0 0), .ref (zad G 9 t1), .int (nI q), .ref (zad G 9 t2)] C M (some (.int (mjC C t1 q t2).1)) (mjC C t1 q t2).2 M := by
  cases hN : ndC C t1 with
  | none => exact c_X4_moveJob_n l G C M ht1 ht2 hI hT hq hN
  | some d => exact c_X4_moveJob_s l G C M ht1 ht2 hI hT hq hN

set_option maxHeartbeats 4000000 in
set_option maxRecDepth 100000 in
theorem c_X4_scanJob_n (l : Launch) (G : GG) (C : CS) (M : MS) {t : Nat} (ht : t < zn G) (hI : Iv C) (hT : ∀ d t, cM C d = some t → t < zn G) (hN : ndC C t = none) : Ct l G yX4_scanJob cX4_scanJob 4 (some .int) 5 108 [.ref (zad G 0 0), .ref (zad G 9 t)] C M (some (.int ((sjC C t).1))) ((sjC C t).2) M := by
  refine Ct_i (by decide) (Nat.le_of_ble_eq_true rfl) (fun {p e s m args below meth c A Q ls} hC hW hl hE => ?_)
  have hx := hC.1
  have hb := hC.2.1
  have hl : lv_has ls 4 [(0, .ref (zad G 0 0)), (1, .ref (zad G 9 t))] := hl
  refine lv_aload_n hx hb dX4_scanJob_0 rfl (lv_at hl 0 rfl) ?_
  refine lv_aload_n hx hb dX4_scanJob_1 rfl (lv_at hl 1 rfl) ?_
  refine z_callV (As := [.ref (zad G 9 t)]) (rest := []) (st1 := [.null]) hC hW LL_0 rfl rfl rfl (nd_n l G C M ht hI hT hN) mw_X4_nearestDrive mv_X4_nearestDrive mM_X4_166 ⟨Nat.le_of_ble_eq_true rfl, Nat.le_of_ble_eq_true rfl⟩ rfl rfl hl.1 (lv_room (Nat.le_of_ble_eq_true rfl)) dX4_scanJob_2 rfl (fun H locs hW => ?_) ⟨Nat.zero_le _, Nat.zero_le _⟩
  refine lv_astore_nN (lv' := [(2, .null), (0, .ref (zad G 0 0)), (1, .ref (zad G 9 t))]) hx hb dX4_scanJob_5 rfl hl (by decide) rfl (fun ls hl => ?_)
  refine lv_aload_nN hx hb dX4_scanJob_6 rfl (lv_at hl 0 rfl) ?_
  refine lv_ifnonnullN hx hb dX4_scanJob_7 ?_
  refine lv_bipush (v := (-3)) hx hb dX4_scanJob_10 (by decide) ?_
  have hD2 : sjC C t = (-3, C) := by unfold sjC; rw [hN]
  rw [hD2] at hE
  exact hE hW rfl dX4_scanJob_12

set_option maxHeartbeats 4000000 in
set_option maxRecDepth 100000 in
theorem c_X4_scanJob_s (l : Launch) (G : GG) (C : CS) (M : MS) {t : Nat} (ht : t < zn G) (hI : Iv C) (hT : ∀ d t, cM C d = some t → t < zn G) {d : Nat} (hN : ndC C t = some d) : Ct l G yX4_scanJob cX4_scanJob 4 (some .int) 5 108 [.ref (zad G 0 0), .ref (zad G 9 t)] C M (some (.int ((sjC C t).1))) ((sjC C t).2) M := by
  refine Ct_i (by decide) (Nat.le_of_ble_eq_true rfl) (fun {p e s m args below meth c A Q ls} hC hW hl hE => ?_)
  have hx := hC.1
  have hb := hC.2.1
  have hl : lv_has ls 4 [(0, .ref (zad G 0 0)), (1, .ref (zad G 9 t))] := hl
  have nd := nd_some hN
  refine lv_aload_n hx hb dX4_scanJob_0 rfl (lv_at hl 0 rfl) ?_
  refine lv_aload_n hx hb dX4_scanJob_1 rfl (lv_at hl 1 rfl) ?_
  refine z_callV (As := [.ref (zad G 9 t)]) (rest := []) (st1 := [.ref (zad G 3 d)]) hC hW LL_0 rfl rfl rfl (nd_s l G C M ht hI hT hN) mw_X4_nearestDrive mv_X4_nearestDrive mM_X4_166 ⟨Nat.le_of_ble_eq_true rfl, Nat.le_of_ble_eq_true rfl⟩ rfl rfl hl.1 (lv_room (Nat.le_of_ble_eq_true rfl)) dX4_scanJob_2 rfl (fun H locs hW => ?_) ⟨Nat.zero_le _, Nat.zero_le _⟩
  refine lv_astore_n (lv' := [(2, .ref (zad G 3 d)), (0, .ref (zad G 0 0)), (1, .ref (zad G 9 t))]) hx hb dX4_scanJob_5 rfl hl (by decide) rfl (fun ls hl => ?_)
  refine lv_aload_n hx hb dX4_scanJob_6 rfl (lv_at hl 0 rfl) ?_
  refine lv_ifnonnull (tgt := 13) hx hb dX4_scanJob_7 (by decide) ?_
  refine lv_aload_n hx hb dX4_scanJob_13 rfl (lv_at hl 0 rfl) ?_
  refine lv_aload_n hx hb dX4_scanJob_14 rfl (lv_at hl 2 rfl) ?_
  refine z_callV (As := [.ref (zad G 9 t)]) (rest := []) (st1 := [.int ((carC C d t).1)]) hC hW (LL_3 nd.1) rfl rfl rfl (c_X1_carry l G C M nd.1 ht hI) mw_X1_carry mv_X1_carry mM_X4_170 ⟨Nat.le_of_ble_eq_true rfl, Nat.le_of_ble_eq_true rfl⟩ rfl rfl hl.1 (lv_room (Nat.le_of_ble_eq_true rfl)) dX4_scanJob_15 rfl (fun H locs hW => ?_) ⟨Nat.zero_le _, Nat.zero_le _⟩
  obtain ⟨C1, eC1⟩ : ∃ z, z = (carC C d t).2 := ⟨_, rfl⟩
  rw [← eC1] at hW
  have hI1 : Iv C1 := by rw [eC1]; exact carC_I hI
  refine lv_istore_n (lv' := [(3, .int ((carC C d t).1)), (2, .ref (zad G 3 d)), (0, .ref (zad G 0 0)), (1, .ref (zad G 9 t))]) hx hb dX4_scanJob_18 rfl hl (by decide) rfl (fun ls hl => ?_)
  have J : ∀ (u : Int32) (Cx : CS), sj1 C d t = (u, Cx) → cM Cx d = some t → Iv Cx → ∀ (H : Heap) (locs : List Loc) (ls : Array Slot), Wd G s A s.heap H locs Cx M → lv_has ls 4 [(0, .ref (zad G 0 0)), (1, .ref (zad G 9 t)), (2, .ref (zad G 3 d)), (3, .int u)] → W p l e { frames := 5, cells := 0, slots := 0, locals := 108 } s m args below meth c H locs 0 0 Q (F0 m 28 ls []) := by
    intro u Cx hQ hMx hIx H locs ls hW hl
    refine lv_aload_n hx hb dX4_scanJob_28 rfl (lv_at hl 2 rfl) ?_
    refine z_callV (As := []) (rest := []) (st1 := []) hC hW (LL_3 nd.1) rfl rfl rfl (c_X1_bringHome l G Cx M nd.1 ht hMx) mw_X1_bringHome mv_X1_bringHome mM_X4_177 ⟨Nat.le_of_ble_eq_true rfl, Nat.le_of_ble_eq_true rfl⟩ rfl rfl hl.1 (lv_room (Nat.le_of_ble_eq_true rfl)) dX4_scanJob_29 rfl (fun H locs hW => ?_) ⟨Nat.zero_le _, Nat.zero_le _⟩
    obtain ⟨C2, eC2⟩ : ∃ z, z = briC Cx d t := ⟨_, rfl⟩
    rw [← eC2] at hW
    refine lv_iload_n hx hb dX4_scanJob_32 rfl (lv_at hl 3 rfl) ?_
    refine lv_if_ne (tgt := 43) hx hb dX4_scanJob_33 (by decide) (fun h33 => ?_) (fun h33 => ?_)
    · refine lv_iload_n hx hb dX4_scanJob_43 rfl (lv_at hl 3 rfl) ?_
      have hD2 : sjC C t = (u, C2) := by unfold sjC; rw [hN]; show sjD C d t = _; unfold sjD; rw [hQ, if_pos h33, eC2]
      rw [hD2] at hE
      exact hE hW rfl dX4_scanJob_44
    · refine lv_aload_n hx hb dX4_scanJob_36 rfl (lv_at hl 1 rfl) ?_
      refine z_callV (As := []) (rest := []) (st1 := [.int (nI (lcL (latC C2 t) t 100 0 0))]) hC hW (LL_9 ht) rfl rfl rfl (c_X3_listAllThatTell l G C2 M ht (by rw [eC2]; exact briC_I hIx)) mw_X3_listAllThatTell mv_X3_listAllThatTell mM_X4_214 ⟨Nat.le_of_ble_eq_true rfl, Nat.le_of_ble_eq_true rfl⟩ rfl rfl hl.1 (lv_room (Nat.le_of_ble_eq_true rfl)) dX4_scanJob_37 rfl (fun H locs hW => ?_) ⟨Nat.zero_le _, Nat.zero_le _⟩
      obtain ⟨C3, eC3⟩ : ∃ z, z = latC C2 t := ⟨_, rfl⟩
      rw [← eC3] at hW
      refine lv_goto (tgt := 44) hx hb dX4_scanJob_40 (by decide) ?_
      have hD2 : sjC C t = (nI (lcL (latC C2 t) t 100 0 0), C3) := by unfold sjC; rw [hN]; show sjD C d t = _; unfold sjD; rw [hQ, if_neg (fun q => q h33), eC3, eC2]
      rw [hD2] at hE
      exact hE hW rfl dX4_scanJob_44
  refine lv_iload_n hx hb dX4_scanJob_19 rfl (lv_at hl 0 rfl) ?_
  refine lv_if_ne (tgt := 28) hx hb dX4_scanJob_20 (by decide) (fun h20 => ?_) (fun h20 => ?_)
  · exact J ((carC C d t).1) C1 (by unfold sj1; rw [if_pos h20, eC1]) (by rw [eC1, carC_M, if_pos rfl]) (by rw [eC1]; exact carC_I hI) _ _ _ hW (lv_sub hl [2, 3, 1, 0] rfl)
  · refine lv_aload_n hx hb dX4_scanJob_23 rfl (lv_at hl 1 rfl) ?_
    refine z_callV (As := []) (rest := []) (st1 := [.int ((lookC C1 d t).1)]) hC hW (LL_3 nd.1) rfl rfl rfl (c_X1_lookThrough l G C1 M nd.1 ht (by rw [eC1, carC_M, if_pos rfl]) hI1 (by have := hI1.1 t; have := cap_le t; have : cN C1 3 d 8 = 0 := (by rw [eC1, carC_pos]); omega)) mw_X1_lookThrough mv_X1_lookThrough mM_X4_211 ⟨Nat.le_of_ble_eq_true rfl, Nat.le_of_ble_eq_true rfl⟩ rfl rfl hl.1 (lv_room (Nat.le_of_ble_eq_true rfl)) dX4_scanJob_24 rfl (fun H locs hW => ?_) ⟨Nat.zero_le _, Nat.zero_le _⟩
    obtain ⟨C4, eC4⟩ : ∃ z, z = (lookC C1 d t).2 := ⟨_, rfl⟩
    rw [← eC4] at hW
    refine lv_istore_n (lv' := [(3, .int ((lookC C1 d t).1)), (2, .ref (zad G 3 d)), (0, .ref (zad G 0 0)), (1, .ref (zad G 9 t))]) hx hb dX4_scanJob_27 rfl hl (by decide) rfl (fun ls hl => ?_)
    exact J ((lookC C1 d t).1) C4 (by unfold sj1; rw [if_neg (fun q => q h20), ← eC1, eC4]) (by rw [eC4]; unfold lookC; show cM (ltL _ _ _ _ _).2 d = _; rw [(Sm_lt _ _ _).2.2, eC1, carC_M, if_pos rfl]) (by rw [eC4]; exact (Sm_lt _ _ _).I (by rw [eC1]; exact carC_I hI)) _ _ _ hW (lv_sub hl [2, 3, 1, 0] rfl)

theorem c_X4_scanJob (l : Launch) (G : GG) (C : CS) (M : MS) {t : Nat} (ht : t < zn G) (hI : Iv C) (hT : ∀ d t, cM C d = some t → t < zn G) : Ct l G yX4_scanJob cX4_scanJob 4 (some .int) 5 108 [.ref (zad G 0 0), .ref (zad G 9 t)] C M (some (.int (sjC C t).1)) (sjC C t).2 M := by
  cases hN : ndC C t with
  | none => exact c_X4_scanJob_n l G C M ht hI hT hN
  | some d => exact c_X4_scanJob_s l G C M ht hI hT hN
end
section
/-! ===== the class: its calls ===== -/
abbrev tN (x : Int32) : Nat := x.toNatClampNeg
theorem tN_nI {a : Nat} (h : a < 2 ^ 31) : tN (nI a) = a := nI_clamp h
theorem nI_m2 : ∀ h, h < 100 → ¬ (nI h = -2) := by decide +kernel
theorem not_bad {n t : Nat} (hn : n ≤ 12) (ht : t < n) : ¬ badT n (nI t) := by
  intro h
  rcases h with h | h
  · exact nI_pos (by omega) h
  · exact absurd ((nI_leI (by omega) (by omega)).mp h) (by omega)
theorem tape_cases {n : Nat} (hn : n ≤ 12) (x : Int32) : badT n x ∨ ∃ t, t < n ∧ x = nI t ∧ ¬ badT n x ∧ tN x = t := by
  rcases tape_arg hn x with h | ⟨t, ht, rfl⟩
  · exact Or.inl h
  · exact Or.inr ⟨t, ht, rfl, not_bad hn ht, tN_nI (by omega)⟩
theorem place_arg {x : Int32} (h : placeP x) : ∃ a, a < 100 ∧ x = nI a ∧ tN x = a := by
  rcases pk_ix x (n := 100) (by decide) with q | q | ⟨j, hj, rfl⟩
  · exact absurd q h.1
  · exact absurd q h.2
  · exact ⟨j, hj, rfl, tN_nI (by omega)⟩
theorem rjC_M {C : CS} {t h d' : Nat} : cM (rjC C t h).2 d' = cM C d' := by
  unfold rjC
  split
  · rfl
  · rename_i d hN
    show cM (briC _ _ _) d' = _
    rw [briC_M]
    split
    · rename_i q; subst q; exact (nd_some hN).2.2.symm
    · rename_i q
      have h1 : cM (rj1 C d t h).2 d' = if d' = d then some t else cM C d' := by
        by_cases z : (carC C d t).1 ≠ 0
        · rw [show rj1 C d t h = carC C d t from if_pos z]; exact carC_M d'
        · rw [show rj1 C d t h = rfC (carC C d t).2 d t h from if_neg z, Sm_rfC.2.2]; exact carC_M d'
      rw [h1, if_neg q]
theorem rjC_I {C : CS} {t h : Nat} (hI : Iv C) : Iv (rjC C t h).2 := by
  unfold rjC
  split
  · exact hI
  · show Iv (briC _ _ _)
    refine briC_I ?_
    unfold rj1; split; exact carC_I hI; exact Sm_rfC.I (carC_I hI)
theorem couC_M (C : CS) (w : Int32) : cM (couC C w) = cM C := by unfold couC cou1; split <;> rfl
theorem couC_B (C : CS) (w : Int32) : cB (couC C w) = cB C := by unfold couC cou1; split <;> rfl
theorem couC_N (C : CS) (w : Int32) : cN (couC C w) = cN C := by unfold couC cou1; split <;> rfl
theorem couC_I {C : CS} {w : Int32} (hI : Iv C) : Iv (couC C w) := Iv_of hI (fun _ => by rw [couC_N]) (fun _ _ => by rw [couC_B]) (fun _ => by rw [couC_N])
def copT (n : Nat) (C : CS) (x : Int32) : Int32 × CS := if badT n x then (-1, C) else if cN C 5 12 3 = 0 then (-2, C) else ((copC C (tN x)).1, couC (copC C (tN x)).2 (copC C (tN x)).1)
def reaT (n : Nat) (C : CS) (x y : Int32) : Int32 × CS := if badT n y then (-1, C) else if nameP x then (match lh C (tN y) x with
  | none => (-2, C)
  | some h => ((rjC C (tN y) h).1, couC (rjC C (tN y) h).2 (rjC C (tN y) h).1)) else (-1, C)
def movT (n : Nat) (C : CS) (x y z : Int32) : Int32 × CS := if badT n y then (-1, C) else if badT n z then (-1, C) else if nameP x then (if tN y = tN z then (-1, C) else match lh C (tN y) x with
  | none => (-2, C)
  | some h => ((mjC C (tN y) h (tN z)).1, couC (mjC C (tN y) h (tN z)).2 (mjC C (tN y) h (tN z)).1)) else (-1, C)
def svS (C : CS) (j h : Nat) : CS := couC (rjC C j h).2 (rjC C j h).1
def svL (x : Int32) : Nat → Nat → Int32 → CS → Int32 × CS
  | 0, _, w, C => (w, C)
  | k + 1, j, w, C => match lh C j x with
    | none => svL x k (j + 1) w C
    | some h => if (rjC C j h).1 < 0 then (if (rjC C j h).1 = -4 then (-4, svS C j h) else svL x k (j + 1) (rjC C j h).1 (svS C j h)) else (nI j, svS C j h)
def salT (n : Nat) (C : CS) (x : Int32) : Int32 × CS := if nameP x then svL x n 0 (-2) C else (-1, C)
def scaT (n : Nat) (C : CS) (x : Int32) : Int32 × CS := if badT n x then (-1, C) else ((sjC C (tN x)).1, couC (sjC C (tN x)).2 (sjC C (tN x)).1)
def losT (n : Nat) (C : CS) (x : Int32) : Int32 × CS := if badT n x then (-1, C) else (nI (uaL (tN x) 100 0 0 C).1, (uaL (tN x) 100 0 0 C).2)
def damT (n : Nat) (C : CS) (x y z : Int32) : Int32 × CS := if badT n x then (-1, C) else if placeP y then (if z < 1 ∨ nI (100 - tN y) < z then (-1, C) else (nI (spL (tN x) (tN z) (tN y) 0 C).1, (spL (tN x) (tN z) (tN y) 0 C).2)) else (-1, C)
def jamC (C : CS) (d : Nat) (z : Int32) : Int32 × CS := if cF C 3 d 4 = 0 then (if z < -1 then (-1, C) else if z ≤ 1000 then (z, sF C 3 d 5 z) else (-1, C)) else (-1, C)
def jamT (C : CS) (x z : Int32) : Int32 × CS := if badT 3 x then (-1, C) else jamC C (tN x) z
def fixT (C : CS) (x : Int32) : Int32 × CS := if badT 3 x then (-1, C) else (if cF C 3 (tN x) 4 = 0 then 0 else 1, sF (sF C 3 (tN x) 4 0) 3 (tN x) 5 (-1))
def powT (C : CS) (x : Int32) : Int32 × CS := if x < -1 then (-1, C) else if x ≤ 100000 then (x, sF C 1 0 2 x) else (-1, C)
def plaT (n : Nat) (C : CS) (x y : Int32) : Int32 := if badT n y then -1 else if nameP x then oI (lh C (tN y) x) else -1
def bloC (C : CS) (t a : Nat) (w : Int32) : Int32 := if w = 0 then kAt C 6 t a else if w = 1 then kAt C 7 t a else if w = 2 then kAt C 8 t a else if w = 3 then bI (dmgP C t a) else -1
def bloT (n : Nat) (C : CS) (x y w : Int32) : Int32 := if badT n x then -1 else if placeP y then bloC C (tN x) (tN y) w else -1
def ttC (C : CS) (t : Nat) (w : Int32) : Int32 := if w = 0 then nI (cN C 9 t 0) else if w = 1 then nI (cN C 5 t 3) else if w = 2 then cF C 9 t 4 else if w = 3 then cF C 9 t 5 else -1
def ttT (n : Nat) (C : CS) (x w : Int32) : Int32 := if badT n x then -1 else ttC C (tN x) w
def dtC (C : CS) (d : Nat) (w : Int32) : Int32 := if w = 0 then cF C 3 d 2 else if w = 1 then cF C 3 d 3 else if w = 2 then (if cF C 3 d 4 = 0 then 0 else 1) else -1
def dtT (C : CS) (x w : Int32) : Int32 := if badT 3 x then -1 else dtC C (tN x) w
def toT (C : CS) (w : Int32) : Int32 := if w = 0 then cF C 1 0 0 else if w = 1 then cF C 1 0 1 else if w = 2 then cF C 0 0 5 else if w = 3 then cF C 0 0 6 else if w = 4 then cF C 1 0 2 else -1
def stL (sd st : Int32) : Nat → Nat → CS → CS
  | 0, _, C => C
  | k + 1, j, C => stL sd st k (j + 1) (addC C 12 2 (sd + nI j * st) 0)
def staC (C : CS) (x : Int32) (k : Nat) (sd st : Int32) : CS := addC (stL sd st k 0 (addC (sN C 5 12 3 0) 12 1 x (nI k))) 12 3 0 0
def staT (C : CS) (x z sd st : Int32) : Int32 × CS := if nameP x then (if z < 1 ∨ 30 < z then (-1, C) else (z, staC C x (tN z) sd st)) else (-1, C)
theorem sw4 (w : Int32) : w = 0 ∨ w = 1 ∨ w = 2 ∨ w = 3 ∨ (¬ w = 0 ∧ ¬ w = 1 ∧ ¬ w = 2 ∧ ¬ w = 3 ∧ (w.toInt < 0 ∨ 3 < w.toInt)) := by
  by_cases h0 : w = 0; exact Or.inl h0
  by_cases h1 : w = 1; exact Or.inr (Or.inl h1)
  by_cases h2 : w = 2; exact Or.inr (Or.inr (Or.inl h2))
  by_cases h3 : w = 3; exact Or.inr (Or.inr (Or.inr (Or.inl h3)))
  refine Or.inr (Or.inr (Or.inr (Or.inr ⟨h0, h1, h2, h3, ?_⟩)))
  have e0 : w.toInt ≠ 0 := fun q => h0 (Int32.toInt_inj.mp q)
  have e1 : w.toInt ≠ 1 := fun q => h1 (Int32.toInt_inj.mp q)
  have e2 : w.toInt ≠ 2 := fun q => h2 (Int32.toInt_inj.mp q)
  have e3 : w.toInt ≠ 3 := fun q => h3 (Int32.toInt_inj.mp q)
  omega
theorem sw3 (w : Int32) : w = 0 ∨ w = 1 ∨ w = 2 ∨ (¬ w = 0 ∧ ¬ w = 1 ∧ ¬ w = 2 ∧ (w.toInt < 0 ∨ 2 < w.toInt)) := by
  rcases sw4 w with h | h | h | h | h
  · exact Or.inl h
  · exact Or.inr (Or.inl h)
  · exact Or.inr (Or.inr (Or.inl h))
  · subst h; exact Or.inr (Or.inr (Or.inr ⟨by decide, by decide, by decide, by decide⟩))
  · exact Or.inr (Or.inr (Or.inr ⟨h.1, h.2.1, h.2.2.1, by have := h.2.2.2.2; omega⟩))
theorem sw5 (w : Int32) : w = 0 ∨ w = 1 ∨ w = 2 ∨ w = 3 ∨ w = 4 ∨ (¬ w = 0 ∧ ¬ w = 1 ∧ ¬ w = 2 ∧ ¬ w = 3 ∧ ¬ w = 4 ∧ (w.toInt < 0 ∨ 4 < w.toInt)) := by
  rcases sw4 w with h | h | h | h | h
  · exact Or.inl h
  · exact Or.inr (Or.inl h)
  · exact Or.inr (Or.inr (Or.inl h))
  · exact Or.inr (Or.inr (Or.inr (Or.inl h)))
  · by_cases h4 : w = 4
    · exact Or.inr (Or.inr (Or.inr (Or.inr (Or.inl h4))))
    · refine Or.inr (Or.inr (Or.inr (Or.inr (Or.inr ⟨h.1, h.2.1, h.2.2.1, h.2.2.2.1, h4, ?_⟩))))
      have e4 : w.toInt ≠ 4 := fun q => h4 (Int32.toInt_inj.mp q)
      have := h.2.2.2.2; omega

set_option maxHeartbeats 4000000 in
set_option maxRecDepth 100000 in
theorem c_copy_b (l : Launch) (G : GG) (C : CS) (M : MS) (h12 : zn G ≤ 12) {x : Int32} (hbx : badT (zn G) x) : Ct l G yX4_copy cX4_copy 3 (some .int) 6 133 [.ref (zad G 0 0), .int x] C M (some (.int (-1))) C M := by
  refine Ct_i (by decide) (Nat.le_of_ble_eq_true rfl) (fun {p e s m args below meth c A Q ls} hC hW hl hE => ?_)
  have hx := hC.1
  have hb := hC.2.1
  have hl : lv_has ls 3 [(0, .ref (zad G 0 0)), (1, .int x)] := hl
  refine lv_aload_n hx hb dX4_copy_0 rfl (lv_at hl 0 rfl) ?_
  refine lv_iload_n hx hb dX4_copy_1 rfl (lv_at hl 1 rfl) ?_
  refine z_callV (As := [.int x]) (rest := []) (st1 := [.null]) hC hW LL_0 rfl rfl rfl (c_X4_findTape_n l G C M h12 (x := x) hbx) mw_X4_findTape mv_X4_findTape mM_X4_62 ⟨Nat.le_of_ble_eq_true rfl, Nat.le_of_ble_eq_true rfl⟩ rfl rfl hl.1 (lv_room (Nat.le_of_ble_eq_true rfl)) dX4_copy_2 rfl (fun H locs hW => ?_) ⟨Nat.zero_le _, Nat.zero_le _⟩
  refine lv_astore_nN (lv' := [(2, .null), (0, .ref (zad G 0 0)), (1, .int x)]) hx hb dX4_copy_5 rfl hl (by decide) rfl (fun ls hl => ?_)
  refine lv_aload_nN hx hb dX4_copy_6 rfl (lv_at hl 0 rfl) ?_
  refine lv_ifnonnullN hx hb dX4_copy_7 ?_
  refine lv_iconst (v := (-1)) hx hb dX4_copy_10 (by decide) ?_
  have qr : ((-1) : Int32) = -1 := by simp [bI, cF_sF, cN_sN, cB_sB, cM_sM, cN_sF, cB_sF, cM_sF, cF_sN, cB_sN, cM_sN, cF_sB, cN_sB, cM_sB, cF_sM, cN_sM, cB_sM, mF_smF, mA_smF, mF_smA, mA_smA]
  exact hE hW qr dX4_copy_11

set_option maxHeartbeats 4000000 in
set_option maxRecDepth 100000 in
theorem c_copy_0 (l : Launch) (G : GG) (C : CS) (M : MS) (h12 : zn G ≤ 12) {t : Nat} (ht : t < zn G) (he0 : cN C 5 12 3 = 0) : Ct l G yX4_copy cX4_copy 3 (some .int) 6 133 [.ref (zad G 0 0), .int (nI t)] C M (some (.int (-2))) C M := by
  refine Ct_i (by decide) (Nat.le_of_ble_eq_true rfl) (fun {p e s m args below meth c A Q ls} hC hW hl hE => ?_)
  have hx := hC.1
  have hb := hC.2.1
  have hl : lv_has ls 3 [(0, .ref (zad G 0 0)), (1, .int (nI t))] := hl
  have h0 : cN C 5 12 3 < 2 ^ 31 := by omega
  refine lv_aload_n hx hb dX4_copy_0 rfl (lv_at hl 0 rfl) ?_
  refine lv_iload_n hx hb dX4_copy_1 rfl (lv_at hl 1 rfl) ?_
  refine z_callV (As := [.int (nI t)]) (rest := []) (st1 := [.ref (zad G 9 t)]) hC hW LL_0 rfl rfl rfl (c_X4_findTape l G C M h12 (t := t) ht) mw_X4_findTape mv_X4_findTape mM_X4_62 ⟨Nat.le_of_ble_eq_true rfl, Nat.le_of_ble_eq_true rfl⟩ rfl rfl hl.1 (lv_room (Nat.le_of_ble_eq_true rfl)) dX4_copy_2 rfl (fun H locs hW => ?_) ⟨Nat.zero_le _, Nat.zero_le _⟩
  refine lv_astore_n (lv' := [(2, .ref (zad G 9 t)), (0, .ref (zad G 0 0)), (1, .int (nI t))]) hx hb dX4_copy_5 rfl hl (by decide) rfl (fun ls hl => ?_)
  refine lv_aload_n hx hb dX4_copy_6 rfl (lv_at hl 0 rfl) ?_
  refine lv_ifnonnull (tgt := 12) hx hb dX4_copy_7 (by decide) ?_
  refine lv_aload_n hx hb dX4_copy_12 rfl (lv_at hl 1 rfl) ?_
  refine g0 (k := 3) (v := .ref (zad G 5 12)) hC hW (by decide) mF_X4_36 rfl dX4_copy_13 ?_
  refine g5 (k := 3) (v := .int (nI (cN C 5 12 3))) hC hW (Or.inr rfl) (by decide) mF_X4_66 rfl dX4_copy_16 ?_
  refine zf_ne (i := cN C 5 12 3) (tgt := 25) hx hb rfl (by omega) dX4_copy_19 (by decide) (fun h19 => ?_) (fun h19 => ?_)
  · exact absurd he0 h19
  · refine lv_bipush (v := (-2)) hx hb dX4_copy_22 (by decide) ?_
    have qr : ((-2) : Int32) = -2 := by simp [bI, h19, cF_sF, cN_sN, cB_sB, cM_sM, cN_sF, cB_sF, cM_sF, cF_sN, cB_sN, cM_sN, cF_sB, cN_sB, cM_sB, cF_sM, cN_sM, cB_sM, mF_smF, mA_smF, mF_smA, mA_smA]
    exact hE hW qr dX4_copy_24

set_option maxHeartbeats 4000000 in
set_option maxRecDepth 100000 in
theorem c_copy_1 (l : Launch) (G : GG) (C : CS) (M : MS) (h12 : zn G ≤ 12) {t : Nat} (ht : t < zn G) (hI : Iv C) (hT : ∀ d t, cM C d = some t → t < zn G) (hs : 0 < cN C 5 12 3) : Ct l G yX4_copy cX4_copy 3 (some .int) 6 133 [.ref (zad G 0 0), .int (nI t)] C M (some (.int ((copC C t).1))) (couC (copC C t).2 (copC C t).1) M := by
  refine Ct_i (by decide) (Nat.le_of_ble_eq_true rfl) (fun {p e s m args below meth c A Q ls} hC hW hl hE => ?_)
  have hx := hC.1
  have hb := hC.2.1
  have hl : lv_has ls 3 [(0, .ref (zad G 0 0)), (1, .int (nI t))] := hl
  have hc12 := hI.1 12
  have hcc := cap_12
  refine lv_aload_n hx hb dX4_copy_0 rfl (lv_at hl 0 rfl) ?_
  refine lv_iload_n hx hb dX4_copy_1 rfl (lv_at hl 1 rfl) ?_
  refine z_callV (As := [.int (nI t)]) (rest := []) (st1 := [.ref (zad G 9 t)]) hC hW LL_0 rfl rfl rfl (c_X4_findTape l G C M h12 (t := t) ht) mw_X4_findTape mv_X4_findTape mM_X4_62 ⟨Nat.le_of_ble_eq_true rfl, Nat.le_of_ble_eq_true rfl⟩ rfl rfl hl.1 (lv_room (Nat.le_of_ble_eq_true rfl)) dX4_copy_2 rfl (fun H locs hW => ?_) ⟨Nat.zero_le _, Nat.zero_le _⟩
  refine lv_astore_n (lv' := [(2, .ref (zad G 9 t)), (0, .ref (zad G 0 0)), (1, .int (nI t))]) hx hb dX4_copy_5 rfl hl (by decide) rfl (fun ls hl => ?_)
  refine lv_aload_n hx hb dX4_copy_6 rfl (lv_at hl 0 rfl) ?_
  refine lv_ifnonnull (tgt := 12) hx hb dX4_copy_7 (by decide) ?_
  refine lv_aload_n hx hb dX4_copy_12 rfl (lv_at hl 1 rfl) ?_
  refine g0 (k := 3) (v := .ref (zad G 5 12)) hC hW (by decide) mF_X4_36 rfl dX4_copy_13 ?_
  refine g5 (k := 3) (v := .int (nI (cN C 5 12 3))) hC hW (Or.inr rfl) (by decide) mF_X4_66 rfl dX4_copy_16 ?_
  refine zf_ne (i := cN C 5 12 3) (tgt := 25) hx hb rfl (by omega) dX4_copy_19 (by decide) (fun h19 => ?_) (fun h19 => ?_)
  · refine lv_aload_n hx hb dX4_copy_25 rfl (lv_at hl 1 rfl) ?_
    refine lv_aload_n hx hb dX4_copy_26 rfl (lv_at hl 1 rfl) ?_
    refine lv_aload_n hx hb dX4_copy_27 rfl (lv_at hl 0 rfl) ?_
    refine z_callV (As := [.ref (zad G 9 t)]) (rest := [.ref (zad G 0 0)]) (st1 := [.int ((copC C t).1), .ref (zad G 0 0)]) hC hW LL_0 rfl rfl rfl (c_X4_copyJob l G C M h12 ht hI hT hs) mw_X4_copyJob mv_X4_copyJob mM_X4_69 ⟨Nat.le_of_ble_eq_true rfl, Nat.le_of_ble_eq_true rfl⟩ rfl rfl hl.1 (lv_room (Nat.le_of_ble_eq_true rfl)) dX4_copy_28 rfl (fun H locs hW => ?_) ⟨Nat.zero_le _, Nat.zero_le _⟩
    obtain ⟨C1, eC1⟩ : ∃ z, z = (copC C t).2 := ⟨_, rfl⟩
    rw [← eC1] at hW
    refine z_callV (As := [.int ((copC C t).1)]) (rest := []) (st1 := [.int ((copC C t).1)]) hC hW LL_0 rfl rfl rfl (c_X4_counted l G C1 M ((copC C t).1)) mw_X4_counted mv_X4_counted mM_X4_73 ⟨Nat.le_of_ble_eq_true rfl, Nat.le_of_ble_eq_true rfl⟩ rfl rfl hl.1 (lv_room (Nat.le_of_ble_eq_true rfl)) dX4_copy_31 rfl (fun H locs hW => ?_) ⟨Nat.zero_le _, Nat.zero_le _⟩
    obtain ⟨C2, eC2⟩ : ∃ z, z = couC C1 ((copC C t).1) := ⟨_, rfl⟩
    rw [← eC2] at hW
    rw [eC2, eC1] at hW
    exact hE hW rfl dX4_copy_34
  · exact absurd h19 (by omega)

theorem c_X4_copy (l : Launch) (G : GG) (C : CS) (M : MS) (h12 : zn G ≤ 12) (hI : Iv C) (hT : ∀ d t, cM C d = some t → t < zn G) (x : Int32) : Ct l G yX4_copy cX4_copy 3 (some .int) 6 133 [.ref (zad G 0 0), .int x] C M (some (.int (copT (zn G) C x).1)) (copT (zn G) C x).2 M := by
  unfold copT
  rcases tape_cases h12 x with hb | ⟨t, ht, rfl, hb, htx⟩
  · rw [if_pos hb]; exact c_copy_b l G C M h12 hb
  · rw [if_neg hb, htx]
    by_cases he : cN C 5 12 3 = 0
    · rw [if_pos he]; exact c_copy_0 l G C M h12 ht he
    · rw [if_neg he]; exact c_copy_1 l G C M h12 ht hI hT (by omega)

set_option maxHeartbeats 4000000 in
set_option maxRecDepth 100000 in
theorem c_read_b (l : Launch) (G : GG) (C : CS) (M : MS) (h12 : zn G ≤ 12) {x y : Int32} (hby : badT (zn G) y) : Ct l G yX4_read cX4_read 5 (some .int) 5 113 [.ref (zad G 0 0), .int x, .int y] C M (some (.int (-1))) C M := by
  refine Ct_i (by decide) (Nat.le_of_ble_eq_true rfl) (fun {p e s m args below meth c A Q ls} hC hW hl hE => ?_)
  have hx := hC.1
  have hb := hC.2.1
  have hl : lv_has ls 5 [(0, .ref (zad G 0 0)), (1, .int x), (2, .int y)] := hl
  refine lv_aload_n hx hb dX4_read_0 rfl (lv_at hl 0 rfl) ?_
  refine lv_iload_n hx hb dX4_read_1 rfl (lv_at hl 2 rfl) ?_
  refine z_callV (As := [.int y]) (rest := []) (st1 := [.null]) hC hW LL_0 rfl rfl rfl (c_X4_findTape_n l G C M h12 (x := y) hby) mw_X4_findTape mv_X4_findTape mM_X4_62 ⟨Nat.le_of_ble_eq_true rfl, Nat.le_of_ble_eq_true rfl⟩ rfl rfl hl.1 (lv_room (Nat.le_of_ble_eq_true rfl)) dX4_read_2 rfl (fun H locs hW => ?_) ⟨Nat.zero_le _, Nat.zero_le _⟩
  refine lv_astore_nN (lv' := [(3, .null), (0, .ref (zad G 0 0)), (1, .int x), (2, .int y)]) hx hb dX4_read_5 rfl hl (by decide) rfl (fun ls hl => ?_)
  refine lv_iload_n hx hb dX4_read_6 rfl (lv_at hl 2 rfl) ?_
  refine z_callS (rest := []) (st1 := [.int (bI (nameP x))]) hC hW (c_X4_isName l G C M x) mw_X4_isName mT_X4_isName mM_X4_52 ⟨Nat.le_of_ble_eq_true rfl, Nat.le_of_ble_eq_true rfl⟩ rfl rfl hl.1 (lv_room (Nat.le_of_ble_eq_true rfl)) dX4_read_7 rfl (fun H locs hW => ?_) ⟨Nat.zero_le _, Nat.zero_le _⟩
  refine zb_eq (tgt := 17) hx hb (nameP x) rfl dX4_read_10 (by decide) (fun h10 => ?_) (fun h10 => ?_)
  · refine lv_iconst (v := (-1)) hx hb dX4_read_17 (by decide) ?_
    have qr : ((-1) : Int32) = -1 := by simp [bI, h10, cF_sF, cN_sN, cB_sB, cM_sM, cN_sF, cB_sF, cM_sF, cF_sN, cB_sN, cM_sN, cF_sB, cN_sB, cM_sB, cF_sM, cN_sM, cB_sM, mF_smF, mA_smF, mF_smA, mA_smA]
    exact hE hW qr dX4_read_18
  · refine lv_aload_nN hx hb dX4_read_13 rfl (lv_at hl 0 rfl) ?_
    refine lv_ifnonnullN hx hb dX4_read_14 ?_
    refine lv_iconst (v := (-1)) hx hb dX4_read_17 (by decide) ?_
    have qr : ((-1) : Int32) = -1 := by simp [bI, h10, cF_sF, cN_sN, cB_sB, cM_sM, cN_sF, cB_sF, cM_sF, cF_sN, cB_sN, cM_sN, cF_sB, cN_sB, cM_sB, cF_sM, cN_sM, cB_sM, mF_smF, mA_smF, mF_smA, mA_smA]
    exact hE hW qr dX4_read_18

set_option maxHeartbeats 4000000 in
set_option maxRecDepth 100000 in
theorem c_read_n (l : Launch) (G : GG) (C : CS) (M : MS) (h12 : zn G ≤ 12) {x : Int32} {t : Nat} (ht : t < zn G) (hn : ¬ nameP x) : Ct l G yX4_read cX4_read 5 (some .int) 5 113 [.ref (zad G 0 0), .int x, .int (nI t)] C M (some (.int (-1))) C M := by
  refine Ct_i (by decide) (Nat.le_of_ble_eq_true rfl) (fun {p e s m args below meth c A Q ls} hC hW hl hE => ?_)
  have hx := hC.1
  have hb := hC.2.1
  have hl : lv_has ls 5 [(0, .ref (zad G 0 0)), (1, .int x), (2, .int (nI t))] := hl
  refine lv_aload_n hx hb dX4_read_0 rfl (lv_at hl 0 rfl) ?_
  refine lv_iload_n hx hb dX4_read_1 rfl (lv_at hl 2 rfl) ?_
  refine z_callV (As := [.int (nI t)]) (rest := []) (st1 := [.ref (zad G 9 t)]) hC hW LL_0 rfl rfl rfl (c_X4_findTape l G C M h12 (t := t) ht) mw_X4_findTape mv_X4_findTape mM_X4_62 ⟨Nat.le_of_ble_eq_true rfl, Nat.le_of_ble_eq_true rfl⟩ rfl rfl hl.1 (lv_room (Nat.le_of_ble_eq_true rfl)) dX4_read_2 rfl (fun H locs hW => ?_) ⟨Nat.zero_le _, Nat.zero_le _⟩
  refine lv_astore_n (lv' := [(3, .ref (zad G 9 t)), (0, .ref (zad G 0 0)), (1, .int x), (2, .int (nI t))]) hx hb dX4_read_5 rfl hl (by decide) rfl (fun ls hl => ?_)
  refine lv_iload_n hx hb dX4_read_6 rfl (lv_at hl 2 rfl) ?_
  refine z_callS (rest := []) (st1 := [.int (bI (nameP x))]) hC hW (c_X4_isName l G C M x) mw_X4_isName mT_X4_isName mM_X4_52 ⟨Nat.le_of_ble_eq_true rfl, Nat.le_of_ble_eq_true rfl⟩ rfl rfl hl.1 (lv_room (Nat.le_of_ble_eq_true rfl)) dX4_read_7 rfl (fun H locs hW => ?_) ⟨Nat.zero_le _, Nat.zero_le _⟩
  refine zb_eq (tgt := 17) hx hb (nameP x) rfl dX4_read_10 (by decide) (fun h10 => ?_) (fun h10 => ?_)
  · refine lv_iconst (v := (-1)) hx hb dX4_read_17 (by decide) ?_
    have qr : ((-1) : Int32) = -1 := by simp [bI, h10, cF_sF, cN_sN, cB_sB, cM_sM, cN_sF, cB_sF, cM_sF, cF_sN, cB_sN, cM_sN, cF_sB, cN_sB, cM_sB, cF_sM, cN_sM, cB_sM, mF_smF, mA_smF, mF_smA, mA_smA]
    exact hE hW qr dX4_read_18
  · exact absurd h10 hn

set_option maxHeartbeats 4000000 in
set_option maxRecDepth 100000 in
theorem c_read_0 (l : Launch) (G : GG) (C : CS) (M : MS) (h12 : zn G ≤ 12) {x : Int32} {t : Nat} (ht : t < zn G) (hn : nameP x) (hI : Iv C) (hlh : lh C t x = none) : Ct l G yX4_read cX4_read 5 (some .int) 5 113 [.ref (zad G 0 0), .int x, .int (nI t)] C M (some (.int (-2))) C M := by
  refine Ct_i (by decide) (Nat.le_of_ble_eq_true rfl) (fun {p e s m args below meth c A Q ls} hC hW hl hE => ?_)
  have hx := hC.1
  have hb := hC.2.1
  have hl : lv_has ls 5 [(0, .ref (zad G 0 0)), (1, .int x), (2, .int (nI t))] := hl
  refine lv_aload_n hx hb dX4_read_0 rfl (lv_at hl 0 rfl) ?_
  refine lv_iload_n hx hb dX4_read_1 rfl (lv_at hl 2 rfl) ?_
  refine z_callV (As := [.int (nI t)]) (rest := []) (st1 := [.ref (zad G 9 t)]) hC hW LL_0 rfl rfl rfl (c_X4_findTape l G C M h12 (t := t) ht) mw_X4_findTape mv_X4_findTape mM_X4_62 ⟨Nat.le_of_ble_eq_true rfl, Nat.le_of_ble_eq_true rfl⟩ rfl rfl hl.1 (lv_room (Nat.le_of_ble_eq_true rfl)) dX4_read_2 rfl (fun H locs hW => ?_) ⟨Nat.zero_le _, Nat.zero_le _⟩
  refine lv_astore_n (lv' := [(3, .ref (zad G 9 t)), (0, .ref (zad G 0 0)), (1, .int x), (2, .int (nI t))]) hx hb dX4_read_5 rfl hl (by decide) rfl (fun ls hl => ?_)
  refine lv_iload_n hx hb dX4_read_6 rfl (lv_at hl 2 rfl) ?_
  refine z_callS (rest := []) (st1 := [.int (bI (nameP x))]) hC hW (c_X4_isName l G C M x) mw_X4_isName mT_X4_isName mM_X4_52 ⟨Nat.le_of_ble_eq_true rfl, Nat.le_of_ble_eq_true rfl⟩ rfl rfl hl.1 (lv_room (Nat.le_of_ble_eq_true rfl)) dX4_read_7 rfl (fun H locs hW => ?_) ⟨Nat.zero_le _, Nat.zero_le _⟩
  refine zb_eq (tgt := 17) hx hb (nameP x) rfl dX4_read_10 (by decide) (fun h10 => ?_) (fun h10 => ?_)
  · exact absurd hn h10
  · refine lv_aload_n hx hb dX4_read_13 rfl (lv_at hl 0 rfl) ?_
    refine lv_ifnonnull (tgt := 19) hx hb dX4_read_14 (by decide) ?_
    refine lv_aload_n hx hb dX4_read_19 rfl (lv_at hl 0 rfl) ?_
    refine lv_iload_n hx hb dX4_read_20 rfl (lv_at hl 2 rfl) ?_
    refine z_callV (As := [.int x]) (rest := []) (st1 := [.int (oI (lh C t x))]) hC hW (LL_9 ht) rfl rfl rfl (c_X3_listedHead l G C M ht hI x) mw_X3_listedHead mv_X3_listedHead mM_X4_77 ⟨Nat.le_of_ble_eq_true rfl, Nat.le_of_ble_eq_true rfl⟩ rfl rfl hl.1 (lv_room (Nat.le_of_ble_eq_true rfl)) dX4_read_21 rfl (fun H locs hW => ?_) ⟨Nat.zero_le _, Nat.zero_le _⟩
    refine z_top (y := -2) (by rw [hlh]; rfl) ?_
    refine lv_istore (lv' := [(4, .int (-2)), (3, .ref (zad G 9 t)), (0, .ref (zad G 0 0)), (1, .int x), (2, .int (nI t))]) hx hb dX4_read_24 hl (by decide) rfl (fun ls hl => ?_)
    refine lv_iload hx hb dX4_read_26 (lv_at hl 0 rfl) ?_
    refine lv_bipush (v := (-2)) hx hb dX4_read_28 (by decide) ?_
    refine lv_icmp_ne (tgt := 36) hx hb dX4_read_30 (by decide) (fun h30 => ?_) (fun h30 => ?_)
    · exact absurd rfl h30
    · refine lv_bipush (v := (-2)) hx hb dX4_read_33 (by decide) ?_
      have qr : ((-2) : Int32) = -2 := by simp [bI, h10, h30, cF_sF, cN_sN, cB_sB, cM_sM, cN_sF, cB_sF, cM_sF, cF_sN, cB_sN, cM_sN, cF_sB, cN_sB, cM_sB, cF_sM, cN_sM, cB_sM, mF_smF, mA_smF, mF_smA, mA_smA]
      exact hE hW qr dX4_read_35

set_option maxHeartbeats 4000000 in
set_option maxRecDepth 100000 in
theorem c_read_1 (l : Launch) (G : GG) (C : CS) (M : MS) (h12 : zn G ≤ 12) {x : Int32} {t : Nat} (ht : t < zn G) (hn : nameP x) (hI : Iv C) (hT : ∀ d t, cM C d = some t → t < zn G) {h : Nat} (hlh : lh C t x = some h) : Ct l G yX4_read cX4_read 5 (some .int) 5 113 [.ref (zad G 0 0), .int x, .int (nI t)] C M (some (.int ((rjC C t h).1))) (couC (rjC C t h).2 (rjC C t h).1) M := by
  refine Ct_i (by decide) (Nat.le_of_ble_eq_true rfl) (fun {p e s m args below meth c A Q ls} hC hW hl hE => ?_)
  have hx := hC.1
  have hb := hC.2.1
  have hl : lv_has ls 5 [(0, .ref (zad G 0 0)), (1, .int x), (2, .int (nI t))] := hl
  have hh : h < 100 := by have := lh_lt hlh; have := hI.1 t; have := cap_le t; omega
  refine lv_aload_n hx hb dX4_read_0 rfl (lv_at hl 0 rfl) ?_
  refine lv_iload_n hx hb dX4_read_1 rfl (lv_at hl 2 rfl) ?_
  refine z_callV (As := [.int (nI t)]) (rest := []) (st1 := [.ref (zad G 9 t)]) hC hW LL_0 rfl rfl rfl (c_X4_findTape l G C M h12 (t := t) ht) mw_X4_findTape mv_X4_findTape mM_X4_62 ⟨Nat.le_of_ble_eq_true rfl, Nat.le_of_ble_eq_true rfl⟩ rfl rfl hl.1 (lv_room (Nat.le_of_ble_eq_true rfl)) dX4_read_2 rfl (fun H locs hW => ?_) ⟨Nat.zero_le _, Nat.zero_le _⟩
  refine lv_astore_n (lv' := [(3, .ref (zad G 9 t)), (0, .ref (zad G 0 0)), (1, .int x), (2, .int (nI t))]) hx hb dX4_read_5 rfl hl (by decide) rfl (fun ls hl => ?_)
  refine lv_iload_n hx hb dX4_read_6 rfl (lv_at hl 2 rfl) ?_
  refine z_callS (rest := []) (st1 := [.int (bI (nameP x))]) hC hW (c_X4_isName l G C M x) mw_X4_isName mT_X4_isName mM_X4_52 ⟨Nat.le_of_ble_eq_true rfl, Nat.le_of_ble_eq_true rfl⟩ rfl rfl hl.1 (lv_room (Nat.le_of_ble_eq_true rfl)) dX4_read_7 rfl (fun H locs hW => ?_) ⟨Nat.zero_le _, Nat.zero_le _⟩
  refine zb_eq (tgt := 17) hx hb (nameP x) rfl dX4_read_10 (by decide) (fun h10 => ?_) (fun h10 => ?_)
  · exact absurd hn h10
  · refine lv_aload_n hx hb dX4_read_13 rfl (lv_at hl 0 rfl) ?_
    refine lv_ifnonnull (tgt := 19) hx hb dX4_read_14 (by decide) ?_
    refine lv_aload_n hx hb dX4_read_19 rfl (lv_at hl 0 rfl) ?_
    refine lv_iload_n hx hb dX4_read_20 rfl (lv_at hl 2 rfl) ?_
    refine z_callV (As := [.int x]) (rest := []) (st1 := [.int (oI (lh C t x))]) hC hW (LL_9 ht) rfl rfl rfl (c_X3_listedHead l G C M ht hI x) mw_X3_listedHead mv_X3_listedHead mM_X4_77 ⟨Nat.le_of_ble_eq_true rfl, Nat.le_of_ble_eq_true rfl⟩ rfl rfl hl.1 (lv_room (Nat.le_of_ble_eq_true rfl)) dX4_read_21 rfl (fun H locs hW => ?_) ⟨Nat.zero_le _, Nat.zero_le _⟩
    refine z_top (y := nI h) (by rw [hlh]; rfl) ?_
    refine lv_istore (lv' := [(4, .int (nI h)), (3, .ref (zad G 9 t)), (0, .ref (zad G 0 0)), (1, .int x), (2, .int (nI t))]) hx hb dX4_read_24 hl (by decide) rfl (fun ls hl => ?_)
    refine lv_iload hx hb dX4_read_26 (lv_at hl 0 rfl) ?_
    refine lv_bipush (v := (-2)) hx hb dX4_read_28 (by decide) ?_
    refine lv_icmp_ne (tgt := 36) hx hb dX4_read_30 (by decide) (fun h30 => ?_) (fun h30 => ?_)
    · refine lv_aload_n hx hb dX4_read_36 rfl (lv_at hl 2 rfl) ?_
      refine lv_aload_n hx hb dX4_read_37 rfl (lv_at hl 2 rfl) ?_
      refine lv_aload_n hx hb dX4_read_38 rfl (lv_at hl 1 rfl) ?_
      refine lv_iload hx hb dX4_read_39 (lv_at hl 0 rfl) ?_
      refine z_callV (As := [.ref (zad G 9 t), .int (nI h)]) (rest := [.ref (zad G 0 0)]) (st1 := [.int ((rjC C t h).1), .ref (zad G 0 0)]) hC hW LL_0 rfl rfl rfl (c_X4_readJob l G C M ht hI hT h12 (h := h) hh) mw_X4_readJob mv_X4_readJob mM_X4_80 ⟨Nat.le_of_ble_eq_true rfl, Nat.le_of_ble_eq_true rfl⟩ rfl rfl hl.1 (lv_room (Nat.le_of_ble_eq_true rfl)) dX4_read_41 rfl (fun H locs hW => ?_) ⟨Nat.zero_le _, Nat.zero_le _⟩
      obtain ⟨C1, eC1⟩ : ∃ z, z = (rjC C t h).2 := ⟨_, rfl⟩
      rw [← eC1] at hW
      refine z_callV (As := [.int ((rjC C t h).1)]) (rest := []) (st1 := [.int ((rjC C t h).1)]) hC hW LL_0 rfl rfl rfl (c_X4_counted l G C1 M ((rjC C t h).1)) mw_X4_counted mv_X4_counted mM_X4_73 ⟨Nat.le_of_ble_eq_true rfl, Nat.le_of_ble_eq_true rfl⟩ rfl rfl hl.1 (lv_room (Nat.le_of_ble_eq_true rfl)) dX4_read_44 rfl (fun H locs hW => ?_) ⟨Nat.zero_le _, Nat.zero_le _⟩
      obtain ⟨C2, eC2⟩ : ∃ z, z = couC C1 ((rjC C t h).1) := ⟨_, rfl⟩
      rw [← eC2] at hW
      rw [eC2, eC1] at hW
      exact hE hW rfl dX4_read_47
    · exact absurd h30 (nI_m2 h hh)

theorem c_X4_read (l : Launch) (G : GG) (C : CS) (M : MS) (h12 : zn G ≤ 12) (hI : Iv C) (hT : ∀ d t, cM C d = some t → t < zn G) (x y : Int32) : Ct l G yX4_read cX4_read 5 (some .int) 5 113 [.ref (zad G 0 0), .int x, .int y] C M (some (.int (reaT (zn G) C x y).1)) (reaT (zn G) C x y).2 M := by
  unfold reaT
  rcases tape_cases h12 y with hb | ⟨t, ht, rfl, hb, htx⟩
  · rw [if_pos hb]; exact c_read_b l G C M h12 hb
  · rw [if_neg hb, htx]
    by_cases hn : nameP x
    · rw [if_pos hn]
      cases hlh : lh C t x with
      | none => exact c_read_0 l G C M h12 ht hn hI hlh
      | some h => exact c_read_1 l G C M h12 ht hn hI hT hlh
    · rw [if_neg hn]; exact c_read_n l G C M h12 ht hn

set_option maxHeartbeats 4000000 in
set_option maxRecDepth 100000 in
theorem c_move_bb (l : Launch) (G : GG) (C : CS) (M : MS) (h12 : zn G ≤ 12) {x y z : Int32} (hby : badT (zn G) y) (hbz : badT (zn G) z) : Ct l G yX4_move cX4_move 7 (some .int) 7 165 [.ref (zad G 0 0), .int x, .int y, .int z] C M (some (.int (-1))) C M := by
  refine Ct_i (by decide) (Nat.le_of_ble_eq_true rfl) (fun {p e s m args below meth c A Q ls} hC hW hl hE => ?_)
  have hx := hC.1
  have hb := hC.2.1
  have hl : lv_has ls 7 [(0, .ref (zad G 0 0)), (1, .int x), (2, .int y), (3, .int z)] := hl
  refine lv_aload_n hx hb dX4_move_0 rfl (lv_at hl 0 rfl) ?_
  refine lv_iload_n hx hb dX4_move_1 rfl (lv_at hl 2 rfl) ?_
  refine z_callV (As := [.int y]) (rest := []) (st1 := [.null]) hC hW LL_0 rfl rfl rfl (c_X4_findTape_n l G C M h12 (x := y) hby) mw_X4_findTape mv_X4_findTape mM_X4_62 ⟨Nat.le_of_ble_eq_true rfl, Nat.le_of_ble_eq_true rfl⟩ rfl rfl hl.1 (lv_room (Nat.le_of_ble_eq_true rfl)) dX4_move_2 rfl (fun H locs hW => ?_) ⟨Nat.zero_le _, Nat.zero_le _⟩
  refine lv_astoreN (lv' := [(4, .null), (0, .ref (zad G 0 0)), (1, .int x), (2, .int y), (3, .int z)]) hx hb dX4_move_5 hl (by decide) rfl (fun ls hl => ?_)
  refine lv_aload_n hx hb dX4_move_7 rfl (lv_at hl 1 rfl) ?_
  refine lv_iload_n hx hb dX4_move_8 rfl (lv_at hl 4 rfl) ?_
  refine z_callV (As := [.int z]) (rest := []) (st1 := [.null]) hC hW LL_0 rfl rfl rfl (c_X4_findTape_n l G C M h12 (x := z) hbz) mw_X4_findTape mv_X4_findTape mM_X4_62 ⟨Nat.le_of_ble_eq_true rfl, Nat.le_of_ble_eq_true rfl⟩ rfl rfl hl.1 (lv_room (Nat.le_of_ble_eq_true rfl)) dX4_move_9 rfl (fun H locs hW => ?_) ⟨Nat.zero_le _, Nat.zero_le _⟩
  refine lv_astoreN (lv' := [(5, .null), (4, .null), (0, .ref (zad G 0 0)), (1, .int x), (2, .int y), (3, .int z)]) hx hb dX4_move_12 hl (by decide) rfl (fun ls hl => ?_)
  refine lv_iload_n hx hb dX4_move_14 rfl (lv_at hl 3 rfl) ?_
  refine z_callS (rest := []) (st1 := [.int (bI (nameP x))]) hC hW (c_X4_isName l G C M x) mw_X4_isName mT_X4_isName mM_X4_52 ⟨Nat.le_of_ble_eq_true rfl, Nat.le_of_ble_eq_true rfl⟩ rfl rfl hl.1 (lv_room (Nat.le_of_ble_eq_true rfl)) dX4_move_15 rfl (fun H locs hW => ?_) ⟨Nat.zero_le _, Nat.zero_le _⟩
  refine zb_eq (tgt := 36) hx hb (nameP x) rfl dX4_move_18 (by decide) (fun h18 => ?_) (fun h18 => ?_)
  · refine lv_iconst (v := (-1)) hx hb dX4_move_36 (by decide) ?_
    have qr : ((-1) : Int32) = -1 := by simp [bI, h18, cF_sF, cN_sN, cB_sB, cM_sM, cN_sF, cB_sF, cM_sF, cF_sN, cB_sN, cM_sN, cF_sB, cN_sB, cM_sB, cF_sM, cN_sM, cB_sM, mF_smF, mA_smF, mF_smA, mA_smA]
    exact hE hW qr dX4_move_37
  · refine lv_aloadN hx hb dX4_move_21 (lv_at hl 1 rfl) ?_
    refine lv_ifnullN (tgt := 36) hx hb dX4_move_23 (by decide) ?_
    refine lv_iconst (v := (-1)) hx hb dX4_move_36 (by decide) ?_
    have qr : ((-1) : Int32) = -1 := by simp [bI, h18, cF_sF, cN_sN, cB_sB, cM_sM, cN_sF, cB_sF, cM_sF, cF_sN, cB_sN, cM_sN, cF_sB, cN_sB, cM_sB, cF_sM, cN_sM, cB_sM, mF_smF, mA_smF, mF_smA, mA_smA]
    exact hE hW qr dX4_move_37

set_option maxHeartbeats 4000000 in
set_option maxRecDepth 100000 in
theorem c_move_bo (l : Launch) (G : GG) (C : CS) (M : MS) (h12 : zn G ≤ 12) {x y : Int32} (hby : badT (zn G) y) {t : Nat} (ht : t < zn G) : Ct l G yX4_move cX4_move 7 (some .int) 7 165 [.ref (zad G 0 0), .int x, .int y, .int (nI t)] C M (some (.int (-1))) C M := by
  refine Ct_i (by decide) (Nat.le_of_ble_eq_true rfl) (fun {p e s m args below meth c A Q ls} hC hW hl hE => ?_)
  have hx := hC.1
  have hb := hC.2.1
  have hl : lv_has ls 7 [(0, .ref (zad G 0 0)), (1, .int x), (2, .int y), (3, .int (nI t))] := hl
  refine lv_aload_n hx hb dX4_move_0 rfl (lv_at hl 0 rfl) ?_
  refine lv_iload_n hx hb dX4_move_1 rfl (lv_at hl 2 rfl) ?_
  refine z_callV (As := [.int y]) (rest := []) (st1 := [.null]) hC hW LL_0 rfl rfl rfl (c_X4_findTape_n l G C M h12 (x := y) hby) mw_X4_findTape mv_X4_findTape mM_X4_62 ⟨Nat.le_of_ble_eq_true rfl, Nat.le_of_ble_eq_true rfl⟩ rfl rfl hl.1 (lv_room (Nat.le_of_ble_eq_true rfl)) dX4_move_2 rfl (fun H locs hW => ?_) ⟨Nat.zero_le _, Nat.zero_le _⟩
  refine lv_astoreN (lv' := [(4, .null), (0, .ref (zad G 0 0)), (1, .int x), (2, .int y), (3, .int (nI t))]) hx hb dX4_move_5 hl (by decide) rfl (fun ls hl => ?_)
  refine lv_aload_n hx hb dX4_move_7 rfl (lv_at hl 1 rfl) ?_
  refine lv_iload_n hx hb dX4_move_8 rfl (lv_at hl 4 rfl) ?_
  refine z_callV (As := [.int (nI t)]) (rest := []) (st1 := [.ref (zad G 9 t)]) hC hW LL_0 rfl rfl rfl (c_X4_findTape l G C M h12 (t := t) ht) mw_X4_findTape mv_X4_findTape mM_X4_62 ⟨Nat.le_of_ble_eq_true rfl, Nat.le_of_ble_eq_true rfl⟩ rfl rfl hl.1 (lv_room (Nat.le_of_ble_eq_true rfl)) dX4_move_9 rfl (fun H locs hW => ?_) ⟨Nat.zero_le _, Nat.zero_le _⟩
  refine lv_astore (lv' := [(5, .ref (zad G 9 t)), (4, .null), (0, .ref (zad G 0 0)), (1, .int x), (2, .int y), (3, .int (nI t))]) hx hb dX4_move_12 hl (by decide) rfl (fun ls hl => ?_)
  refine lv_iload_n hx hb dX4_move_14 rfl (lv_at hl 3 rfl) ?_
  refine z_callS (rest := []) (st1 := [.int (bI (nameP x))]) hC hW (c_X4_isName l G C M x) mw_X4_isName mT_X4_isName mM_X4_52 ⟨Nat.le_of_ble_eq_true rfl, Nat.le_of_ble_eq_true rfl⟩ rfl rfl hl.1 (lv_room (Nat.le_of_ble_eq_true rfl)) dX4_move_15 rfl (fun H locs hW => ?_) ⟨Nat.zero_le _, Nat.zero_le _⟩
  refine zb_eq (tgt := 36) hx hb (nameP x) rfl dX4_move_18 (by decide) (fun h18 => ?_) (fun h18 => ?_)
  · refine lv_iconst (v := (-1)) hx hb dX4_move_36 (by decide) ?_
    have qr : ((-1) : Int32) = -1 := by simp [bI, h18, cF_sF, cN_sN, cB_sB, cM_sM, cN_sF, cB_sF, cM_sF, cF_sN, cB_sN, cM_sN, cF_sB, cN_sB, cM_sB, cF_sM, cN_sM, cB_sM, mF_smF, mA_smF, mF_smA, mA_smA]
    exact hE hW qr dX4_move_37
  · refine lv_aloadN hx hb dX4_move_21 (lv_at hl 1 rfl) ?_
    refine lv_ifnullN (tgt := 36) hx hb dX4_move_23 (by decide) ?_
    refine lv_iconst (v := (-1)) hx hb dX4_move_36 (by decide) ?_
    have qr : ((-1) : Int32) = -1 := by simp [bI, h18, cF_sF, cN_sN, cB_sB, cM_sM, cN_sF, cB_sF, cM_sF, cF_sN, cB_sN, cM_sN, cF_sB, cN_sB, cM_sB, cF_sM, cN_sM, cB_sM, mF_smF, mA_smF, mF_smA, mA_smA]
    exact hE hW qr dX4_move_37

set_option maxHeartbeats 4000000 in
set_option maxRecDepth 100000 in
theorem c_move_ob (l : Launch) (G : GG) (C : CS) (M : MS) (h12 : zn G ≤ 12) {x z : Int32} {t : Nat} (ht : t < zn G) (hbz : badT (zn G) z) : Ct l G yX4_move cX4_move 7 (some .int) 7 165 [.ref (zad G 0 0), .int x, .int (nI t), .int z] C M (some (.int (-1))) C M := by
  refine Ct_i (by decide) (Nat.le_of_ble_eq_true rfl) (fun {p e s m args below meth c A Q ls} hC hW hl hE => ?_)
  have hx := hC.1
  have hb := hC.2.1
  have hl : lv_has ls 7 [(0, .ref (zad G 0 0)), (1, .int x), (2, .int (nI t)), (3, .int z)] := hl
  refine lv_aload_n hx hb dX4_move_0 rfl (lv_at hl 0 rfl) ?_
  refine lv_iload_n hx hb dX4_move_1 rfl (lv_at hl 2 rfl) ?_
  refine z_callV (As := [.int (nI t)]) (rest := []) (st1 := [.ref (zad G 9 t)]) hC hW LL_0 rfl rfl rfl (c_X4_findTape l G C M h12 (t := t) ht) mw_X4_findTape mv_X4_findTape mM_X4_62 ⟨Nat.le_of_ble_eq_true rfl, Nat.le_of_ble_eq_true rfl⟩ rfl rfl hl.1 (lv_room (Nat.le_of_ble_eq_true rfl)) dX4_move_2 rfl (fun H locs hW => ?_) ⟨Nat.zero_le _, Nat.zero_le _⟩
  refine lv_astore (lv' := [(4, .ref (zad G 9 t)), (0, .ref (zad G 0 0)), (1, .int x), (2, .int (nI t)), (3, .int z)]) hx hb dX4_move_5 hl (by decide) rfl (fun ls hl => ?_)
  refine lv_aload_n hx hb dX4_move_7 rfl (lv_at hl 1 rfl) ?_
  refine lv_iload_n hx hb dX4_move_8 rfl (lv_at hl 4 rfl) ?_
  refine z_callV (As := [.int z]) (rest := []) (st1 := [.null]) hC hW LL_0 rfl rfl rfl (c_X4_findTape_n l G C M h12 (x := z) hbz) mw_X4_findTape mv_X4_findTape mM_X4_62 ⟨Nat.le_of_ble_eq_true rfl, Nat.le_of_ble_eq_true rfl⟩ rfl rfl hl.1 (lv_room (Nat.le_of_ble_eq_true rfl)) dX4_move_9 rfl (fun H locs hW => ?_) ⟨Nat.zero_le _, Nat.zero_le _⟩
  refine lv_astoreN (lv' := [(5, .null), (4, .ref (zad G 9 t)), (0, .ref (zad G 0 0)), (1, .int x), (2, .int (nI t)), (3, .int z)]) hx hb dX4_move_12 hl (by decide) rfl (fun ls hl => ?_)
  refine lv_iload_n hx hb dX4_move_14 rfl (lv_at hl 3 rfl) ?_
  refine z_callS (rest := []) (st1 := [.int (bI (nameP x))]) hC hW (c_X4_isName l G C M x) mw_X4_isName mT_X4_isName mM_X4_52 ⟨Nat.le_of_ble_eq_true rfl, Nat.le_of_ble_eq_true rfl⟩ rfl rfl hl.1 (lv_room (Nat.le_of_ble_eq_true rfl)) dX4_move_15 rfl (fun H locs hW => ?_) ⟨Nat.zero_le _, Nat.zero_le _⟩
  refine zb_eq (tgt := 36) hx hb (nameP x) rfl dX4_move_18 (by decide) (fun h18 => ?_) (fun h18 => ?_)
  · refine lv_iconst (v := (-1)) hx hb dX4_move_36 (by decide) ?_
    have qr : ((-1) : Int32) = -1 := by simp [bI, h18, cF_sF, cN_sN, cB_sB, cM_sM, cN_sF, cB_sF, cM_sF, cF_sN, cB_sN, cM_sN, cF_sB, cN_sB, cM_sB, cF_sM, cN_sM, cB_sM, mF_smF, mA_smF, mF_smA, mA_smA]
    exact hE hW qr dX4_move_37
  · refine lv_aload hx hb dX4_move_21 (lv_at hl 1 rfl) ?_
    refine lv_ifnull hx hb dX4_move_23 ?_
    refine lv_aloadN hx hb dX4_move_26 (lv_at hl 0 rfl) ?_
    refine lv_ifnullN (tgt := 36) hx hb dX4_move_28 (by decide) ?_
    refine lv_iconst (v := (-1)) hx hb dX4_move_36 (by decide) ?_
    have qr : ((-1) : Int32) = -1 := by simp [bI, h18, cF_sF, cN_sN, cB_sB, cM_sM, cN_sF, cB_sF, cM_sF, cF_sN, cB_sN, cM_sN, cF_sB, cN_sB, cM_sB, cF_sM, cN_sM, cB_sM, mF_smF, mA_smF, mF_smA, mA_smA]
    exact hE hW qr dX4_move_37

set_option maxHeartbeats 4000000 in
set_option maxRecDepth 100000 in
theorem c_move_n (l : Launch) (G : GG) (C : CS) (M : MS) (h12 : zn G ≤ 12) {x : Int32} {t1 t2 : Nat} (ht1 : t1 < zn G) (ht2 : t2 < zn G) (hn : ¬ nameP x) : Ct l G yX4_move cX4_move 7 (some .int) 7 165 [.ref (zad G 0 0), .int x, .int (nI t1), .int (nI t2)] C M (some (.int (-1))) C M := by
  refine Ct_i (by decide) (Nat.le_of_ble_eq_true rfl) (fun {p e s m args below meth c A Q ls} hC hW hl hE => ?_)
  have hx := hC.1
  have hb := hC.2.1
  have hl : lv_has ls 7 [(0, .ref (zad G 0 0)), (1, .int x), (2, .int (nI t1)), (3, .int (nI t2))] := hl
  refine lv_aload_n hx hb dX4_move_0 rfl (lv_at hl 0 rfl) ?_
  refine lv_iload_n hx hb dX4_move_1 rfl (lv_at hl 2 rfl) ?_
  refine z_callV (As := [.int (nI t1)]) (rest := []) (st1 := [.ref (zad G 9 t1)]) hC hW LL_0 rfl rfl rfl (c_X4_findTape l G C M h12 (t := t1) ht1) mw_X4_findTape mv_X4_findTape mM_X4_62 ⟨Nat.le_of_ble_eq_true rfl, Nat.le_of_ble_eq_true rfl⟩ rfl rfl hl.1 (lv_room (Nat.le_of_ble_eq_true rfl)) dX4_move_2 rfl (fun H locs hW => ?_) ⟨Nat.zero_le _, Nat.zero_le _⟩
  refine lv_astore (lv' := [(4, .ref (zad G 9 t1)), (0, .ref (zad G 0 0)), (1, .int x), (2, .int (nI t1)), (3, .int (nI t2))]) hx hb dX4_move_5 hl (by decide) rfl (fun ls hl => ?_)
  refine lv_aload_n hx hb dX4_move_7 rfl (lv_at hl 1 rfl) ?_
  refine lv_iload_n hx hb dX4_move_8 rfl (lv_at hl 4 rfl) ?_
  refine z_callV (As := [.int (nI t2)]) (rest := []) (st1 := [.ref (zad G 9 t2)]) hC hW LL_0 rfl rfl rfl (c_X4_findTape l G C M h12 (t := t2) ht2) mw_X4_findTape mv_X4_findTape mM_X4_62 ⟨Nat.le_of_ble_eq_true rfl, Nat.le_of_ble_eq_true rfl⟩ rfl rfl hl.1 (lv_room (Nat.le_of_ble_eq_true rfl)) dX4_move_9 rfl (fun H locs hW => ?_) ⟨Nat.zero_le _, Nat.zero_le _⟩
  refine lv_astore (lv' := [(5, .ref (zad G 9 t2)), (4, .ref (zad G 9 t1)), (0, .ref (zad G 0 0)), (1, .int x), (2, .int (nI t1)), (3, .int (nI t2))]) hx hb dX4_move_12 hl (by decide) rfl (fun ls hl => ?_)
  refine lv_iload_n hx hb dX4_move_14 rfl (lv_at hl 3 rfl) ?_
  refine z_callS (rest := []) (st1 := [.int (bI (nameP x))]) hC hW (c_X4_isName l G C M x) mw_X4_isName mT_X4_isName mM_X4_52 ⟨Nat.le_of_ble_eq_true rfl, Nat.le_of_ble_eq_true rfl⟩ rfl rfl hl.1 (lv_room (Nat.le_of_ble_eq_true rfl)) dX4_move_15 rfl (fun H locs hW => ?_) ⟨Nat.zero_le _, Nat.zero_le _⟩
  refine zb_eq (tgt := 36) hx hb (nameP x) rfl dX4_move_18 (by decide) (fun h18 => ?_) (fun h18 => ?_)
  · refine lv_iconst (v := (-1)) hx hb dX4_move_36 (by decide) ?_
    have qr : ((-1) : Int32) = -1 := by simp [bI, h18, cF_sF, cN_sN, cB_sB, cM_sM, cN_sF, cB_sF, cM_sF, cF_sN, cB_sN, cM_sN, cF_sB, cN_sB, cM_sB, cF_sM, cN_sM, cB_sM, mF_smF, mA_smF, mF_smA, mA_smA]
    exact hE hW qr dX4_move_37
  · exact absurd h18 hn

set_option maxHeartbeats 4000000 in
set_option maxRecDepth 100000 in
theorem c_move_s (l : Launch) (G : GG) (C : CS) (M : MS) (h12 : zn G ≤ 12) {x : Int32} {t1 t2 : Nat} (ht1 : t1 < zn G) (ht2 : t2 < zn G) (hn : nameP x) (hs : t1 = t2) : Ct l G yX4_move cX4_move 7 (some .int) 7 165 [.ref (zad G 0 0), .int x, .int (nI t1), .int (nI t2)] C M (some (.int (-1))) C M := by
  refine Ct_i (by decide) (Nat.le_of_ble_eq_true rfl) (fun {p e s m args below meth c A Q ls} hC hW hl hE => ?_)
  have hx := hC.1
  have hb := hC.2.1
  have hl : lv_has ls 7 [(0, .ref (zad G 0 0)), (1, .int x), (2, .int (nI t1)), (3, .int (nI t2))] := hl
  refine lv_aload_n hx hb dX4_move_0 rfl (lv_at hl 0 rfl) ?_
  refine lv_iload_n hx hb dX4_move_1 rfl (lv_at hl 2 rfl) ?_
  refine z_callV (As := [.int (nI t1)]) (rest := []) (st1 := [.ref (zad G 9 t1)]) hC hW LL_0 rfl rfl rfl (c_X4_findTape l G C M h12 (t := t1) ht1) mw_X4_findTape mv_X4_findTape mM_X4_62 ⟨Nat.le_of_ble_eq_true rfl, Nat.le_of_ble_eq_true rfl⟩ rfl rfl hl.1 (lv_room (Nat.le_of_ble_eq_true rfl)) dX4_move_2 rfl (fun H locs hW => ?_) ⟨Nat.zero_le _, Nat.zero_le _⟩
  refine lv_astore (lv' := [(4, .ref (zad G 9 t1)), (0, .ref (zad G 0 0)), (1, .int x), (2, .int (nI t1)), (3, .int (nI t2))]) hx hb dX4_move_5 hl (by decide) rfl (fun ls hl => ?_)
  refine lv_aload_n hx hb dX4_move_7 rfl (lv_at hl 1 rfl) ?_
  refine lv_iload_n hx hb dX4_move_8 rfl (lv_at hl 4 rfl) ?_
  refine z_callV (As := [.int (nI t2)]) (rest := []) (st1 := [.ref (zad G 9 t2)]) hC hW LL_0 rfl rfl rfl (c_X4_findTape l G C M h12 (t := t2) ht2) mw_X4_findTape mv_X4_findTape mM_X4_62 ⟨Nat.le_of_ble_eq_true rfl, Nat.le_of_ble_eq_true rfl⟩ rfl rfl hl.1 (lv_room (Nat.le_of_ble_eq_true rfl)) dX4_move_9 rfl (fun H locs hW => ?_) ⟨Nat.zero_le _, Nat.zero_le _⟩
  refine lv_astore (lv' := [(5, .ref (zad G 9 t2)), (4, .ref (zad G 9 t1)), (0, .ref (zad G 0 0)), (1, .int x), (2, .int (nI t1)), (3, .int (nI t2))]) hx hb dX4_move_12 hl (by decide) rfl (fun ls hl => ?_)
  refine lv_iload_n hx hb dX4_move_14 rfl (lv_at hl 3 rfl) ?_
  refine z_callS (rest := []) (st1 := [.int (bI (nameP x))]) hC hW (c_X4_isName l G C M x) mw_X4_isName mT_X4_isName mM_X4_52 ⟨Nat.le_of_ble_eq_true rfl, Nat.le_of_ble_eq_true rfl⟩ rfl rfl hl.1 (lv_room (Nat.le_of_ble_eq_true rfl)) dX4_move_15 rfl (fun H locs hW => ?_) ⟨Nat.zero_le _, Nat.zero_le _⟩
  refine zb_eq (tgt := 36) hx hb (nameP x) rfl dX4_move_18 (by decide) (fun h18 => ?_) (fun h18 => ?_)
  · exact absurd hn h18
  · refine lv_aload hx hb dX4_move_21 (lv_at hl 1 rfl) ?_
    refine lv_ifnull hx hb dX4_move_23 ?_
    refine lv_aload hx hb dX4_move_26 (lv_at hl 0 rfl) ?_
    refine lv_ifnull hx hb dX4_move_28 ?_
    refine lv_iload_n hx hb dX4_move_31 rfl (lv_at hl 4 rfl) ?_
    refine lv_iload_n hx hb dX4_move_32 rfl (lv_at hl 5 rfl) ?_
    refine zc_ne (i := t1) (j := t2) (tgt := 38) hx hb rfl rfl (by omega) (by omega) dX4_move_33 (by decide) (fun h33 => ?_) (fun h33 => ?_)
    · exact absurd hs h33
    · refine lv_iconst (v := (-1)) hx hb dX4_move_36 (by decide) ?_
      have qr : ((-1) : Int32) = -1 := by simp [bI, h18, h33, cF_sF, cN_sN, cB_sB, cM_sM, cN_sF, cB_sF, cM_sF, cF_sN, cB_sN, cM_sN, cF_sB, cN_sB, cM_sB, cF_sM, cN_sM, cB_sM, mF_smF, mA_smF, mF_smA, mA_smA]
      exact hE hW qr dX4_move_37

set_option maxHeartbeats 4000000 in
set_option maxRecDepth 100000 in
theorem c_move_0 (l : Launch) (G : GG) (C : CS) (M : MS) (h12 : zn G ≤ 12) {x : Int32} {t1 t2 : Nat} (ht1 : t1 < zn G) (ht2 : t2 < zn G) (hn : nameP x) (hs : t1 ≠ t2) (hI : Iv C) (hlh : lh C t1 x = none) : Ct l G yX4_move cX4_move 7 (some .int) 7 165 [.ref (zad G 0 0), .int x, .int (nI t1), .int (nI t2)] C M (some (.int (-2))) C M := by
  refine Ct_i (by decide) (Nat.le_of_ble_eq_true rfl) (fun {p e s m args below meth c A Q ls} hC hW hl hE => ?_)
  have hx := hC.1
  have hb := hC.2.1
  have hl : lv_has ls 7 [(0, .ref (zad G 0 0)), (1, .int x), (2, .int (nI t1)), (3, .int (nI t2))] := hl
  refine lv_aload_n hx hb dX4_move_0 rfl (lv_at hl 0 rfl) ?_
  refine lv_iload_n hx hb dX4_move_1 rfl (lv_at hl 2 rfl) ?_
  refine z_callV (As := [.int (nI t1)]) (rest := []) (st1 := [.ref (zad G 9 t1)]) hC hW LL_0 rfl rfl rfl (c_X4_findTape l G C M h12 (t := t1) ht1) mw_X4_findTape mv_X4_findTape mM_X4_62 ⟨Nat.le_of_ble_eq_true rfl, Nat.le_of_ble_eq_true rfl⟩ rfl rfl hl.1 (lv_room (Nat.le_of_ble_eq_true rfl)) dX4_move_2 rfl (fun H locs hW => ?_) ⟨Nat.zero_le _, Nat.zero_le _⟩
  refine lv_astore (lv' := [(4, .ref (zad G 9 t1)), (0, .ref (zad G 0 0)), (1, .int x), (2, .int (nI t1)), (3, .int (nI t2))]) hx hb dX4_move_5 hl (by decide) rfl (fun ls hl => ?_)
  refine lv_aload_n hx hb dX4_move_7 rfl (lv_at hl 1 rfl) ?_
  refine lv_iload_n hx hb dX4_move_8 rfl (lv_at hl 4 rfl) ?_
  refine z_callV (As := [.int (nI t2)]) (rest := []) (st1 := [.ref (zad G 9 t2)]) hC hW LL_0 rfl rfl rfl (c_X4_findTape l G C M h12 (t := t2) ht2) mw_X4_findTape mv_X4_findTape mM_X4_62 ⟨Nat.le_of_ble_eq_true rfl, Nat.le_of_ble_eq_true rfl⟩ rfl rfl hl.1 (lv_room (Nat.le_of_ble_eq_true rfl)) dX4_move_9 rfl (fun H locs hW => ?_) ⟨Nat.zero_le _, Nat.zero_le _⟩
  refine lv_astore (lv' := [(5, .ref (zad G 9 t2)), (4, .ref (zad G 9 t1)), (0, .ref (zad G 0 0)), (1, .int x), (2, .int (nI t1)), (3, .int (nI t2))]) hx hb dX4_move_12 hl (by decide) rfl (fun ls hl => ?_)
  refine lv_iload_n hx hb dX4_move_14 rfl (lv_at hl 3 rfl) ?_
  refine z_callS (rest := []) (st1 := [.int (bI (nameP x))]) hC hW (c_X4_isName l G C M x) mw_X4_isName mT_X4_isName mM_X4_52 ⟨Nat.le_of_ble_eq_true rfl, Nat.le_of_ble_eq_true rfl⟩ rfl rfl hl.1 (lv_room (Nat.le_of_ble_eq_true rfl)) dX4_move_15 rfl (fun H locs hW => ?_) ⟨Nat.zero_le _, Nat.zero_le _⟩
  refine zb_eq (tgt := 36) hx hb (nameP x) rfl dX4_move_18 (by decide) (fun h18 => ?_) (fun h18 => ?_)
  · exact absurd hn h18
  · refine lv_aload hx hb dX4_move_21 (lv_at hl 1 rfl) ?_
    refine lv_ifnull hx hb dX4_move_23 ?_
    refine lv_aload hx hb dX4_move_26 (lv_at hl 0 rfl) ?_
    refine lv_ifnull hx hb dX4_move_28 ?_
    refine lv_iload_n hx hb dX4_move_31 rfl (lv_at hl 4 rfl) ?_
    refine lv_iload_n hx hb dX4_move_32 rfl (lv_at hl 5 rfl) ?_
    refine zc_ne (i := t1) (j := t2) (tgt := 38) hx hb rfl rfl (by omega) (by omega) dX4_move_33 (by decide) (fun h33 => ?_) (fun h33 => ?_)
    · refine lv_aload hx hb dX4_move_38 (lv_at hl 1 rfl) ?_
      refine lv_iload_n hx hb dX4_move_40 rfl (lv_at hl 3 rfl) ?_
      refine z_callV (As := [.int x]) (rest := []) (st1 := [.int (oI (lh C t1 x))]) hC hW (LL_9 ht1) rfl rfl rfl (c_X3_listedHead l G C M ht1 hI x) mw_X3_listedHead mv_X3_listedHead mM_X4_77 ⟨Nat.le_of_ble_eq_true rfl, Nat.le_of_ble_eq_true rfl⟩ rfl rfl hl.1 (lv_room (Nat.le_of_ble_eq_true rfl)) dX4_move_41 rfl (fun H locs hW => ?_) ⟨Nat.zero_le _, Nat.zero_le _⟩
      refine z_top (y := -2) (by rw [hlh]; rfl) ?_
      refine lv_istore (lv' := [(6, .int (-2)), (5, .ref (zad G 9 t2)), (4, .ref (zad G 9 t1)), (0, .ref (zad G 0 0)), (1, .int x), (2, .int (nI t1)), (3, .int (nI t2))]) hx hb dX4_move_44 hl (by decide) rfl (fun ls hl => ?_)
      refine lv_iload hx hb dX4_move_46 (lv_at hl 0 rfl) ?_
      refine lv_bipush (v := (-2)) hx hb dX4_move_48 (by decide) ?_
      refine lv_icmp_ne (tgt := 56) hx hb dX4_move_50 (by decide) (fun h50 => ?_) (fun h50 => ?_)
      · exact absurd rfl h50
      · refine lv_bipush (v := (-2)) hx hb dX4_move_53 (by decide) ?_
        have qr : ((-2) : Int32) = -2 := by simp [bI, h18, h33, h50, cF_sF, cN_sN, cB_sB, cM_sM, cN_sF, cB_sF, cM_sF, cF_sN, cB_sN, cM_sN, cF_sB, cN_sB, cM_sB, cF_sM, cN_sM, cB_sM, mF_smF, mA_smF, mF_smA, mA_smA]
        exact hE hW qr dX4_move_55
    · exact absurd h33 hs

set_option maxHeartbeats 4000000 in
set_option maxRecDepth 100000 in
theorem c_move_1 (l : Launch) (G : GG) (C : CS) (M : MS) (h12 : zn G ≤ 12) {x : Int32} {t1 t2 : Nat} (ht1 : t1 < zn G) (ht2 : t2 < zn G) (hn : nameP x) (hs : t1 ≠ t2) (hI : Iv C) (hT : ∀ d t, cM C d = some t → t < zn G) {h : Nat} (hlh : lh C t1 x = some h) : Ct l G yX4_move cX4_move 7 (some .int) 7 165 [.ref (zad G 0 0), .int x, .int (nI t1), .int (nI t2)] C M (some (.int ((mjC C t1 h t2).1))) (couC (mjC C t1 h t2).2 (mjC C t1 h t2).1) M := by
  refine Ct_i (by decide) (Nat.le_of_ble_eq_true rfl) (fun {p e s m args below meth c A Q ls} hC hW hl hE => ?_)
  have hx := hC.1
  have hb := hC.2.1
  have hl : lv_has ls 7 [(0, .ref (zad G 0 0)), (1, .int x), (2, .int (nI t1)), (3, .int (nI t2))] := hl
  have hh : h < 100 := by have := lh_lt hlh; have := hI.1 t1; have := cap_le t1; omega
  refine lv_aload_n hx hb dX4_move_0 rfl (lv_at hl 0 rfl) ?_
  refine lv_iload_n hx hb dX4_move_1 rfl (lv_at hl 2 rfl) ?_
  refine z_callV (As := [.int (nI t1)]) (rest := []) (st1 := [.ref (zad G 9 t1)]) hC hW LL_0 rfl rfl rfl (c_X4_findTape l G C M h12 (t := t1) ht1) mw_X4_findTape mv_X4_findTape mM_X4_62 ⟨Nat.le_of_ble_eq_true rfl, Nat.le_of_ble_eq_true rfl⟩ rfl rfl hl.1 (lv_room (Nat.le_of_ble_eq_true rfl)) dX4_move_2 rfl (fun H locs hW => ?_) ⟨Nat.zero_le _, Nat.zero_le _⟩
  refine lv_astore (lv' := [(4, .ref (zad G 9 t1)), (0, .ref (zad G 0 0)), (1, .int x), (2, .int (nI t1)), (3, .int (nI t2))]) hx hb dX4_move_5 hl (by decide) rfl (fun ls hl => ?_)
  refine lv_aload_n hx hb dX4_move_7 rfl (lv_at hl 1 rfl) ?_
  refine lv_iload_n hx hb dX4_move_8 rfl (lv_at hl 4 rfl) ?_
  refine z_callV (As := [.int (nI t2)]) (rest := []) (st1 := [.ref (zad G 9 t2)]) hC hW LL_0 rfl rfl rfl (c_X4_findTape l G C M h12 (t := t2) ht2) mw_X4_findTape mv_X4_findTape mM_X4_62 ⟨Nat.le_of_ble_eq_true rfl, Nat.le_of_ble_eq_true rfl⟩ rfl rfl hl.1 (lv_room (Nat.le_of_ble_eq_true rfl)) dX4_move_9 rfl (fun H locs hW => ?_) ⟨Nat.zero_le _, Nat.zero_le _⟩
  refine lv_astore (lv' := [(5, .ref (zad G 9 t2)), (4, .ref (zad G 9 t1)), (0, .ref (zad G 0 0)), (1, .int x), (2, .int (nI t1)), (3, .int (nI t2))]) hx hb dX4_move_12 hl (by decide) rfl (fun ls hl => ?_)
  refine lv_iload_n hx hb dX4_move_14 rfl (lv_at hl 3 rfl) ?_
  refine z_callS (rest := []) (st1 := [.int (bI (nameP x))]) hC hW (c_X4_isName l G C M x) mw_X4_isName mT_X4_isName mM_X4_52 ⟨Nat.le_of_ble_eq_true rfl, Nat.le_of_ble_eq_true rfl⟩ rfl rfl hl.1 (lv_room (Nat.le_of_ble_eq_true rfl)) dX4_move_15 rfl (fun H locs hW => ?_) ⟨Nat.zero_le _, Nat.zero_le _⟩
  refine zb_eq (tgt := 36) hx hb (nameP x) rfl dX4_move_18 (by decide) (fun h18 => ?_) (fun h18 => ?_)
  · exact absurd hn h18
  · refine lv_aload hx hb dX4_move_21 (lv_at hl 1 rfl) ?_
    refine lv_ifnull hx hb dX4_move_23 ?_
    refine lv_aload hx hb dX4_move_26 (lv_at hl 0 rfl) ?_
    refine lv_ifnull hx hb dX4_move_28 ?_
    refine lv_iload_n hx hb dX4_move_31 rfl (lv_at hl 4 rfl) ?_
    refine lv_iload_n hx hb dX4_move_32 rfl (lv_at hl 5 rfl) ?_
    refine zc_ne (i := t1) (j := t2) (tgt := 38) hx hb rfl rfl (by omega) (by omega) dX4_move_33 (by decide) (fun h33 => ?_) (fun h33 => ?_)
    · refine lv_aload hx hb dX4_move_38 (lv_at hl 1 rfl) ?_
      refine lv_iload_n hx hb dX4_move_40 rfl (lv_at hl 3 rfl) ?_
      refine z_callV (As := [.int x]) (rest := []) (st1 := [.int (oI (lh C t1 x))]) hC hW (LL_9 ht1) rfl rfl rfl (c_X3_listedHead l G C M ht1 hI x) mw_X3_listedHead mv_X3_listedHead mM_X4_77 ⟨Nat.le_of_ble_eq_true rfl, Nat.le_of_ble_eq_true rfl⟩ rfl rfl hl.1 (lv_room (Nat.le_of_ble_eq_true rfl)) dX4_move_41 rfl (fun H locs hW => ?_) ⟨Nat.zero_le _, Nat.zero_le _⟩
      refine z_top (y := nI h) (by rw [hlh]; rfl) ?_
      refine lv_istore (lv' := [(6, .int (nI h)), (5, .ref (zad G 9 t2)), (4, .ref (zad G 9 t1)), (0, .ref (zad G 0 0)), (1, .int x), (2, .int (nI t1)), (3, .int (nI t2))]) hx hb dX4_move_44 hl (by decide) rfl (fun ls hl => ?_)
      refine lv_iload hx hb dX4_move_46 (lv_at hl 0 rfl) ?_
      refine lv_bipush (v := (-2)) hx hb dX4_move_48 (by decide) ?_
      refine lv_icmp_ne (tgt := 56) hx hb dX4_move_50 (by decide) (fun h50 => ?_) (fun h50 => ?_)
      · refine lv_aload_n hx hb dX4_move_56 rfl (lv_at hl 3 rfl) ?_
        refine lv_aload_n hx hb dX4_move_57 rfl (lv_at hl 3 rfl) ?_
        refine lv_aload hx hb dX4_move_58 (lv_at hl 2 rfl) ?_
        refine lv_iload hx hb dX4_move_60 (lv_at hl 0 rfl) ?_
        refine lv_aload hx hb dX4_move_62 (lv_at hl 1 rfl) ?_
        refine z_callV (As := [.ref (zad G 9 t1), .int (nI h), .ref (zad G 9 t2)]) (rest := [.ref (zad G 0 0)]) (st1 := [.int ((mjC C t1 h t2).1), .ref (zad G 0 0)]) hC hW LL_0 rfl rfl rfl (c_X4_moveJob l G C M ht1 ht2 hI hT (q := h) hh) mw_X4_moveJob mv_X4_moveJob mM_X4_84 ⟨Nat.le_of_ble_eq_true rfl, Nat.le_of_ble_eq_true rfl⟩ rfl rfl hl.1 (lv_room (Nat.le_of_ble_eq_true rfl)) dX4_move_64 rfl (fun H locs hW => ?_) ⟨Nat.zero_le _, Nat.zero_le _⟩
        obtain ⟨C1, eC1⟩ : ∃ z, z = (mjC C t1 h t2).2 := ⟨_, rfl⟩
        rw [← eC1] at hW
        refine z_callV (As := [.int ((mjC C t1 h t2).1)]) (rest := []) (st1 := [.int ((mjC C t1 h t2).1)]) hC hW LL_0 rfl rfl rfl (c_X4_counted l G C1 M ((mjC C t1 h t2).1)) mw_X4_counted mv_X4_counted mM_X4_73 ⟨Nat.le_of_ble_eq_true rfl, Nat.le_of_ble_eq_true rfl⟩ rfl rfl hl.1 (lv_room (Nat.le_of_ble_eq_true rfl)) dX4_move_67 rfl (fun H locs hW => ?_) ⟨Nat.zero_le _, Nat.zero_le _⟩
        obtain ⟨C2, eC2⟩ : ∃ z, z = couC C1 ((mjC C t1 h t2).1) := ⟨_, rfl⟩
        rw [← eC2] at hW
        rw [eC2, eC1] at hW
        exact hE hW rfl dX4_move_70
      · exact absurd h50 (nI_m2 h hh)
    · exact absurd h33 hs

theorem c_X4_move (l : Launch) (G : GG) (C : CS) (M : MS) (h12 : zn G ≤ 12) (hI : Iv C) (hT : ∀ d t, cM C d = some t → t < zn G) (x y z : Int32) : Ct l G yX4_move cX4_move 7 (some .int) 7 165 [.ref (zad G 0 0), .int x, .int y, .int z] C M (some (.int (movT (zn G) C x y z).1)) (movT (zn G) C x y z).2 M := by
  unfold movT
  rcases tape_cases h12 y with hb | ⟨t, ht, rfl, hb, htx⟩
  · rw [if_pos hb]
    rcases tape_cases h12 z with hb2 | ⟨t2, ht2, rfl, hb2, htx2⟩
    · exact c_move_bb l G C M h12 hb hb2
    · exact c_move_bo l G C M h12 hb ht2
  · rw [if_neg hb, htx]
    rcases tape_cases h12 z with hb2 | ⟨t2, ht2, rfl, hb2, htx2⟩
    · rw [if_pos hb2]; exact c_move_ob l G C M h12 ht hb2
    · rw [if_neg hb2, htx2]
      by_cases hn : nameP x
      · rw [if_pos hn]
        by_cases hs : t = t2
        · rw [if_pos hs]; exact c_move_s l G C M h12 ht ht2 hn hs
        · rw [if_neg hs]
          cases hlh : lh C t x with
          | none => exact c_move_0 l G C M h12 ht ht2 hn hs hI hlh
          | some h => exact c_move_1 l G C M h12 ht ht2 hn hs hI hT hlh
      · rw [if_neg hn]; exact c_move_n l G C M h12 ht ht2 hn

set_option maxHeartbeats 4000000 in
set_option maxRecDepth 100000 in
theorem c_sal_n (l : Launch) (G : GG) (C : CS) (M : MS) {x : Int32} (hn : ¬ nameP x) : Ct l G yX4_salvage cX4_salvage 5 (some .int) 5 113 [.ref (zad G 0 0), .int x] C M (some (.int (-1))) C M := by
  refine Ct_i (by decide) (Nat.le_of_ble_eq_true rfl) (fun {p e s m args below meth c A Q ls} hC hW hl hE => ?_)
  have hx := hC.1
  have hb := hC.2.1
  have hl : lv_has ls 5 [(0, .ref (zad G 0 0)), (1, .int x)] := hl
  refine lv_iload_n hx hb dX4_salvage_0 rfl (lv_at hl 1 rfl) ?_
  refine z_callS (rest := []) (st1 := [.int (bI (nameP x))]) hC hW (c_X4_isName l G C M x) mw_X4_isName mT_X4_isName mM_X4_52 ⟨Nat.le_of_ble_eq_true rfl, Nat.le_of_ble_eq_true rfl⟩ rfl rfl hl.1 (lv_room (Nat.le_of_ble_eq_true rfl)) dX4_salvage_1 rfl (fun H locs hW => ?_) ⟨Nat.zero_le _, Nat.zero_le _⟩
  refine zb_ne (tgt := 9) hx hb (nameP x) rfl dX4_salvage_4 (by decide) (fun h4 => ?_) (fun h4 => ?_)
  · exact absurd h4 hn
  · refine lv_iconst (v := (-1)) hx hb dX4_salvage_7 (by decide) ?_
    have qr : ((-1) : Int32) = -1 := by simp [bI, h4, cF_sF, cN_sN, cB_sB, cM_sM, cN_sF, cB_sF, cM_sF, cF_sN, cB_sN, cM_sN, cF_sB, cN_sB, cM_sB, cF_sM, cN_sM, cB_sM, mF_smF, mA_smF, mF_smA, mA_smA]
    exact hE hW qr dX4_salvage_8

set_option maxHeartbeats 4000000 in
set_option maxRecDepth 100000 in
theorem c_sal_1 (l : Launch) (G : GG) (C : CS) (M : MS) (h12 : zn G ≤ 12) {x : Int32} (hn : nameP x) (hI : Iv C) (hT : ∀ d t, cM C d = some t → t < zn G) : Ct l G yX4_salvage cX4_salvage 5 (some .int) 5 113 [.ref (zad G 0 0), .int x] C M (some (.int ((svL x (zn G) 0 (-2) C).1))) ((svL x (zn G) 0 (-2) C).2) M := by
  refine Ct_i (by decide) (Nat.le_of_ble_eq_true rfl) (fun {p e s m args below meth c A Q ls} hC hW hl hE => ?_)
  have hx := hC.1
  have hb := hC.2.1
  have hl : lv_has ls 5 [(0, .ref (zad G 0 0)), (1, .int x)] := hl
  refine lv_iload_n hx hb dX4_salvage_0 rfl (lv_at hl 1 rfl) ?_
  refine z_callS (rest := []) (st1 := [.int (bI (nameP x))]) hC hW (c_X4_isName l G C M x) mw_X4_isName mT_X4_isName mM_X4_52 ⟨Nat.le_of_ble_eq_true rfl, Nat.le_of_ble_eq_true rfl⟩ rfl rfl hl.1 (lv_room (Nat.le_of_ble_eq_true rfl)) dX4_salvage_1 rfl (fun H locs hW => ?_) ⟨Nat.zero_le _, Nat.zero_le _⟩
  refine zb_ne (tgt := 9) hx hb (nameP x) rfl dX4_salvage_4 (by decide) (fun h4 => ?_) (fun h4 => ?_)
  · refine lv_bipush (v := (-2)) hx hb dX4_salvage_9 (by decide) ?_
    refine lv_istore_n (lv' := [(2, .int (-2)), (0, .ref (zad G 0 0)), (1, .int x)]) hx hb dX4_salvage_11 rfl hl (by decide) rfl (fun ls hl => ?_)
    refine lv_iconst (v := 0) hx hb dX4_salvage_12 (by decide) ?_
    refine lv_istore_n (lv' := [(3, .int 0), (2, .int (-2)), (0, .ref (zad G 0 0)), (1, .int x)]) hx hb dX4_salvage_13 rfl hl (by decide) rfl (fun ls hl => ?_)
    have lp : ∀ (k : Nat) (j : Nat) (u : Int32) (Cj : CS), j + k = zn G → Iv Cj → cM Cj = cM C → svL x k j u Cj = svL x (zn G) 0 (-2) C → ∀ (H : Heap) (locs : List Loc) (ls : Array Slot), Wd G s A s.heap H locs Cj M → lv_has ls 5 [(0, .ref (zad G 0 0)), (1, .int x), (2, .int u), (3, .int (nI j))] → W p l e { frames := 5, cells := 0, slots := 0, locals := 113 } s m args below meth c H locs 0 0 Q (F0 m 14 ls []) := by
      intro k
      induction k with
      | zero =>
        intro j u Cj hk hIj hmj hD H locs ls hW hl
        refine lv_iload_n hx hb dX4_salvage_14 rfl (lv_at hl 3 rfl) ?_
        refine lv_aload_n hx hb dX4_salvage_15 rfl (lv_at hl 0 rfl) ?_
        refine g0 (k := 4) (v := .int (nI (zn G))) hC hW (by decide) mF_X4_48 rfl dX4_salvage_16 ?_
        refine zc_ge (i := j) (j := zn G) (tgt := 79) hx hb rfl rfl (by omega) (by omega) dX4_salvage_19 (by decide) (fun h19 => ?_) (fun h19 => ?_)
        · refine lv_iload_n hx hb dX4_salvage_79 rfl (lv_at hl 2 rfl) ?_
          have hD2 : svL x (zn G) 0 (-2) C = (u, Cj) := by rw [← hD]; rfl
          rw [hD2] at hE
          exact hE hW rfl dX4_salvage_80
        · exact absurd h19 (by omega)
      | succ k ih =>
        intro j u Cj hk hIj hmj hD H locs ls hW hl
        have hj : j < zn G := by omega
        refine lv_iload_n hx hb dX4_salvage_14 rfl (lv_at hl 3 rfl) ?_
        refine lv_aload_n hx hb dX4_salvage_15 rfl (lv_at hl 0 rfl) ?_
        refine g0 (k := 4) (v := .int (nI (zn G))) hC hW (by decide) mF_X4_48 rfl dX4_salvage_16 ?_
        refine zc_ge (i := j) (j := zn G) (tgt := 79) hx hb rfl rfl (by omega) (by omega) dX4_salvage_19 (by decide) (fun h19 => ?_) (fun h19 => ?_)
        · exact absurd h19 (by omega)
        · refine lv_aload_n hx hb dX4_salvage_22 rfl (lv_at hl 0 rfl) ?_
          refine g0 (k := 2) (v := .ref (zad G 4 0)) hC hW (by decide) mF_X4_27 rfl dX4_salvage_23 ?_
          refine lv_iload_n hx hb dX4_salvage_26 rfl (lv_at hl 3 rfl) ?_
          refine at9 (t := j) hC hW rfl (by omega) h12 dX4_salvage_27 ?_
          refine lv_iload_n hx hb dX4_salvage_28 rfl (lv_at hl 1 rfl) ?_
          refine z_callV (As := [.int x]) (rest := []) (st1 := [.int (oI (lh Cj j x))]) hC hW (LL_9 (by omega)) rfl rfl rfl (c_X3_listedHead l G Cj M hj hIj x) mw_X3_listedHead mv_X3_listedHead mM_X4_77 ⟨Nat.le_of_ble_eq_true rfl, Nat.le_of_ble_eq_true rfl⟩ rfl rfl hl.1 (lv_room (Nat.le_of_ble_eq_true rfl)) dX4_salvage_29 rfl (fun H locs hW => ?_) ⟨Nat.zero_le _, Nat.zero_le _⟩
          cases hlh : lh Cj j x with
          | none =>
            refine z_top (y := -2) rfl ?_
            refine lv_istore (lv' := [(4, .int (-2)), (0, .ref (zad G 0 0)), (1, .int x), (2, .int u), (3, .int (nI j))]) hx hb dX4_salvage_32 hl (by decide) rfl (fun ls hl => ?_)
            refine lv_iload hx hb dX4_salvage_34 (lv_at hl 0 rfl) ?_
            refine lv_bipush (v := (-2)) hx hb dX4_salvage_36 (by decide) ?_
            refine lv_icmp_eq (tgt := 73) hx hb dX4_salvage_38 (by decide) (fun h38 => ?_) (fun h38 => ?_)
            · refine lv_iinc (k := 4) (v := nI (j + 1)) (lv' := [(3, .int (nI (j + 1))), (4, .int (-2)), (0, .ref (zad G 0 0)), (1, .int x), (2, .int u)]) hx hb dX4_salvage_73 hl rfl (nI_inc _) (by decide) rfl (fun ls hl => ?_)
              refine lv_goto (tgt := 14) hx hb dX4_salvage_76 (by decide) ?_
              exact ih (j + 1) u Cj (by omega) hIj hmj (by rw [← hD, svL, hlh]) _ _ _ hW (lv_sub hl [2, 3, 4, 0] rfl)
            · exact absurd rfl h38
          | some h =>
            have hh : h < 100 := by have := lh_lt hlh; have := hIj.1 j; have := cap_le j; omega
            refine z_top (y := nI h) rfl ?_
            refine lv_istore (lv' := [(4, .int (nI h)), (0, .ref (zad G 0 0)), (1, .int x), (2, .int u), (3, .int (nI j))]) hx hb dX4_salvage_32 hl (by decide) rfl (fun ls hl => ?_)
            refine lv_iload hx hb dX4_salvage_34 (lv_at hl 0 rfl) ?_
            refine lv_bipush (v := (-2)) hx hb dX4_salvage_36 (by decide) ?_
            refine lv_icmp_eq (tgt := 73) hx hb dX4_salvage_38 (by decide) (fun h38 => ?_) (fun h38 => ?_)
            · exact absurd h38 (nI_m2 h hh)
            · refine lv_aload_n hx hb dX4_salvage_41 rfl (lv_at hl 1 rfl) ?_
              refine lv_aload_n hx hb dX4_salvage_42 rfl (lv_at hl 1 rfl) ?_
              refine lv_aload_n hx hb dX4_salvage_43 rfl (lv_at hl 1 rfl) ?_
              refine g0 (k := 2) (v := .ref (zad G 4 0)) hC hW (by decide) mF_X4_27 rfl dX4_salvage_44 ?_
              refine lv_iload_n hx hb dX4_salvage_47 rfl (lv_at hl 4 rfl) ?_
              refine at9 (t := j) hC hW rfl (by omega) h12 dX4_salvage_48 ?_
              refine lv_iload hx hb dX4_salvage_49 (lv_at hl 0 rfl) ?_
              refine z_callV (As := [.ref (zad G 9 j), .int (nI h)]) (rest := [.ref (zad G 0 0)]) (st1 := [.int ((rjC Cj j h).1), .ref (zad G 0 0)]) hC hW LL_0 rfl rfl rfl (c_X4_readJob l G Cj M hj hIj (by rw [hmj]; exact hT) h12 (h := h) hh) mw_X4_readJob mv_X4_readJob mM_X4_80 ⟨Nat.le_of_ble_eq_true rfl, Nat.le_of_ble_eq_true rfl⟩ rfl rfl hl.1 (lv_room (Nat.le_of_ble_eq_true rfl)) dX4_salvage_51 rfl (fun H locs hW => ?_) ⟨Nat.zero_le _, Nat.zero_le _⟩
              obtain ⟨C1, eC1⟩ : ∃ z, z = (rjC Cj j h).2 := ⟨_, rfl⟩
              rw [← eC1] at hW
              refine z_callV (As := [.int ((rjC Cj j h).1)]) (rest := []) (st1 := [.int ((rjC Cj j h).1)]) hC hW LL_0 rfl rfl rfl (c_X4_counted l G C1 M ((rjC Cj j h).1)) mw_X4_counted mv_X4_counted mM_X4_73 ⟨Nat.le_of_ble_eq_true rfl, Nat.le_of_ble_eq_true rfl⟩ rfl rfl hl.1 (lv_room (Nat.le_of_ble_eq_true rfl)) dX4_salvage_54 rfl (fun H locs hW => ?_) ⟨Nat.zero_le _, Nat.zero_le _⟩
              obtain ⟨C2, eC2⟩ : ∃ z, z = couC C1 ((rjC Cj j h).1) := ⟨_, rfl⟩
              rw [← eC2] at hW
              refine lv_istore_n (lv' := [(2, .int ((rjC Cj j h).1)), (4, .int (nI h)), (0, .ref (zad G 0 0)), (1, .int x), (3, .int (nI j))]) hx hb dX4_salvage_57 rfl hl (by decide) rfl (fun ls hl => ?_)
              refine lv_iload_n hx hb dX4_salvage_58 rfl (lv_at hl 0 rfl) ?_
              refine lv_if_lt (tgt := 64) hx hb dX4_salvage_59 (by decide) (fun h59 => ?_) (fun h59 => ?_)
              · refine lv_iload_n hx hb dX4_salvage_64 rfl (lv_at hl 0 rfl) ?_
                refine lv_bipush (v := (-4)) hx hb dX4_salvage_65 (by decide) ?_
                refine lv_icmp_ne (tgt := 73) hx hb dX4_salvage_67 (by decide) (fun h67 => ?_) (fun h67 => ?_)
                · refine lv_iinc (k := 4) (v := nI (j + 1)) (lv' := [(3, .int (nI (j + 1))), (2, .int ((rjC Cj j h).1)), (4, .int (nI h)), (0, .ref (zad G 0 0)), (1, .int x)]) hx hb dX4_salvage_73 hl rfl (nI_inc _) (by decide) rfl (fun ls hl => ?_)
                  refine lv_goto (tgt := 14) hx hb dX4_salvage_76 (by decide) ?_
                  exact ih (j + 1) ((rjC Cj j h).1) C2 (by omega) (by rw [eC2, eC1]; exact couC_I (rjC_I hIj)) (by funext d'; rw [eC2, couC_M, eC1, rjC_M, hmj]) (by rw [← hD, svL, hlh]; show _ = (if (rjC Cj j h).1 < 0 then (if (rjC Cj j h).1 = -4 then (-4, svS Cj j h) else svL x k (j + 1) (rjC Cj j h).1 (svS Cj j h)) else (nI j, svS Cj j h)); rw [if_pos h59, if_neg h67, eC2, eC1]; rfl) _ _ _ hW (lv_sub hl [3, 4, 1, 0] rfl)
                · refine lv_bipush (v := (-4)) hx hb dX4_salvage_70 (by decide) ?_
                  have hD2 : svL x (zn G) 0 (-2) C = (-4, C2) := by rw [← hD, svL, hlh]; show (if (rjC Cj j h).1 < 0 then (if (rjC Cj j h).1 = -4 then (-4, svS Cj j h) else svL x k (j + 1) (rjC Cj j h).1 (svS Cj j h)) else (nI j, svS Cj j h)) = _; rw [if_pos h59, if_pos h67, eC2, eC1]; rfl
                  rw [hD2] at hE
                  exact hE hW rfl dX4_salvage_72
              · refine lv_iload_n hx hb dX4_salvage_62 rfl (lv_at hl 4 rfl) ?_
                have hD2 : svL x (zn G) 0 (-2) C = (nI j, C2) := by rw [← hD, svL, hlh]; show (if (rjC Cj j h).1 < 0 then (if (rjC Cj j h).1 = -4 then (-4, svS Cj j h) else svL x k (j + 1) (rjC Cj j h).1 (svS Cj j h)) else (nI j, svS Cj j h)) = _; rw [if_neg h59, eC2, eC1]; rfl
                rw [hD2] at hE
                exact hE hW rfl dX4_salvage_63
    exact lp (zn G) 0 (-2) C (by omega) hI rfl rfl _ _ _ hW (lv_sub hl [2, 3, 1, 0] rfl)
  · exact absurd hn h4

theorem c_X4_salvage (l : Launch) (G : GG) (C : CS) (M : MS) (h12 : zn G ≤ 12) (hI : Iv C) (hT : ∀ d t, cM C d = some t → t < zn G) (x : Int32) : Ct l G yX4_salvage cX4_salvage 5 (some .int) 5 113 [.ref (zad G 0 0), .int x] C M (some (.int (salT (zn G) C x).1)) (salT (zn G) C x).2 M := by
  unfold salT
  by_cases hn : nameP x
  · rw [if_pos hn]; exact c_sal_1 l G C M h12 hn hI hT
  · rw [if_neg hn]; exact c_sal_n l G C M hn

set_option maxHeartbeats 4000000 in
set_option maxRecDepth 100000 in
theorem c_scan_b (l : Launch) (G : GG) (C : CS) (M : MS) (h12 : zn G ≤ 12) {x : Int32} (hbx : badT (zn G) x) : Ct l G yX4_scan cX4_scan 3 (some .int) 6 131 [.ref (zad G 0 0), .int x] C M (some (.int (-1))) C M := by
  refine Ct_i (by decide) (Nat.le_of_ble_eq_true rfl) (fun {p e s m args below meth c A Q ls} hC hW hl hE => ?_)
  have hx := hC.1
  have hb := hC.2.1
  have hl : lv_has ls 3 [(0, .ref (zad G 0 0)), (1, .int x)] := hl
  refine lv_aload_n hx hb dX4_scan_0 rfl (lv_at hl 0 rfl) ?_
  refine lv_iload_n hx hb dX4_scan_1 rfl (lv_at hl 1 rfl) ?_
  refine z_callV (As := [.int x]) (rest := []) (st1 := [.null]) hC hW LL_0 rfl rfl rfl (c_X4_findTape_n l G C M h12 (x := x) hbx) mw_X4_findTape mv_X4_findTape mM_X4_62 ⟨Nat.le_of_ble_eq_true rfl, Nat.le_of_ble_eq_true rfl⟩ rfl rfl hl.1 (lv_room (Nat.le_of_ble_eq_true rfl)) dX4_scan_2 rfl (fun H locs hW => ?_) ⟨Nat.zero_le _, Nat.zero_le _⟩
  refine lv_astore_nN (lv' := [(2, .null), (0, .ref (zad G 0 0)), (1, .int x)]) hx hb dX4_scan_5 rfl hl (by decide) rfl (fun ls hl => ?_)
  refine lv_aload_nN hx hb dX4_scan_6 rfl (lv_at hl 0 rfl) ?_
  refine lv_ifnonnullN hx hb dX4_scan_7 ?_
  refine lv_iconst (v := (-1)) hx hb dX4_scan_10 (by decide) ?_
  have qr : ((-1) : Int32) = -1 := by simp [bI, cF_sF, cN_sN, cB_sB, cM_sM, cN_sF, cB_sF, cM_sF, cF_sN, cB_sN, cM_sN, cF_sB, cN_sB, cM_sB, cF_sM, cN_sM, cB_sM, mF_smF, mA_smF, mF_smA, mA_smA]
  exact hE hW qr dX4_scan_11

set_option maxHeartbeats 4000000 in
set_option maxRecDepth 100000 in
theorem c_scan_1 (l : Launch) (G : GG) (C : CS) (M : MS) (h12 : zn G ≤ 12) {t : Nat} (ht : t < zn G) (hI : Iv C) (hT : ∀ d t, cM C d = some t → t < zn G) : Ct l G yX4_scan cX4_scan 3 (some .int) 6 131 [.ref (zad G 0 0), .int (nI t)] C M (some (.int ((sjC C t).1))) (couC (sjC C t).2 (sjC C t).1) M := by
  refine Ct_i (by decide) (Nat.le_of_ble_eq_true rfl) (fun {p e s m args below meth c A Q ls} hC hW hl hE => ?_)
  have hx := hC.1
  have hb := hC.2.1
  have hl : lv_has ls 3 [(0, .ref (zad G 0 0)), (1, .int (nI t))] := hl
  refine lv_aload_n hx hb dX4_scan_0 rfl (lv_at hl 0 rfl) ?_
  refine lv_iload_n hx hb dX4_scan_1 rfl (lv_at hl 1 rfl) ?_
  refine z_callV (As := [.int (nI t)]) (rest := []) (st1 := [.ref (zad G 9 t)]) hC hW LL_0 rfl rfl rfl (c_X4_findTape l G C M h12 (t := t) ht) mw_X4_findTape mv_X4_findTape mM_X4_62 ⟨Nat.le_of_ble_eq_true rfl, Nat.le_of_ble_eq_true rfl⟩ rfl rfl hl.1 (lv_room (Nat.le_of_ble_eq_true rfl)) dX4_scan_2 rfl (fun H locs hW => ?_) ⟨Nat.zero_le _, Nat.zero_le _⟩
  refine lv_astore_n (lv' := [(2, .ref (zad G 9 t)), (0, .ref (zad G 0 0)), (1, .int (nI t))]) hx hb dX4_scan_5 rfl hl (by decide) rfl (fun ls hl => ?_)
  refine lv_aload_n hx hb dX4_scan_6 rfl (lv_at hl 0 rfl) ?_
  refine lv_ifnonnull (tgt := 12) hx hb dX4_scan_7 (by decide) ?_
  refine lv_aload_n hx hb dX4_scan_12 rfl (lv_at hl 1 rfl) ?_
  refine lv_aload_n hx hb dX4_scan_13 rfl (lv_at hl 1 rfl) ?_
  refine lv_aload_n hx hb dX4_scan_14 rfl (lv_at hl 0 rfl) ?_
  refine z_callV (As := [.ref (zad G 9 t)]) (rest := [.ref (zad G 0 0)]) (st1 := [.int ((sjC C t).1), .ref (zad G 0 0)]) hC hW LL_0 rfl rfl rfl (c_X4_scanJob l G C M ht hI hT) mw_X4_scanJob mv_X4_scanJob mM_X4_88 ⟨Nat.le_of_ble_eq_true rfl, Nat.le_of_ble_eq_true rfl⟩ rfl rfl hl.1 (lv_room (Nat.le_of_ble_eq_true rfl)) dX4_scan_15 rfl (fun H locs hW => ?_) ⟨Nat.zero_le _, Nat.zero_le _⟩
  obtain ⟨C1, eC1⟩ : ∃ z, z = (sjC C t).2 := ⟨_, rfl⟩
  rw [← eC1] at hW
  refine z_callV (As := [.int ((sjC C t).1)]) (rest := []) (st1 := [.int ((sjC C t).1)]) hC hW LL_0 rfl rfl rfl (c_X4_counted l G C1 M ((sjC C t).1)) mw_X4_counted mv_X4_counted mM_X4_73 ⟨Nat.le_of_ble_eq_true rfl, Nat.le_of_ble_eq_true rfl⟩ rfl rfl hl.1 (lv_room (Nat.le_of_ble_eq_true rfl)) dX4_scan_18 rfl (fun H locs hW => ?_) ⟨Nat.zero_le _, Nat.zero_le _⟩
  obtain ⟨C2, eC2⟩ : ∃ z, z = couC C1 ((sjC C t).1) := ⟨_, rfl⟩
  rw [← eC2] at hW
  rw [eC2, eC1] at hW
  exact hE hW rfl dX4_scan_21

set_option maxHeartbeats 4000000 in
set_option maxRecDepth 100000 in
theorem c_lose_b (l : Launch) (G : GG) (C : CS) (M : MS) (h12 : zn G ≤ 12) {x : Int32} (hbx : badT (zn G) x) : Ct l G yX4_lose cX4_lose 3 (some .int) 1 22 [.ref (zad G 0 0), .int x] C M (some (.int (-1))) C M := by
  refine Ct_i (by decide) (Nat.le_of_ble_eq_true rfl) (fun {p e s m args below meth c A Q ls} hC hW hl hE => ?_)
  have hx := hC.1
  have hb := hC.2.1
  have hl : lv_has ls 3 [(0, .ref (zad G 0 0)), (1, .int x)] := hl
  refine lv_aload_n hx hb dX4_lose_0 rfl (lv_at hl 0 rfl) ?_
  refine lv_iload_n hx hb dX4_lose_1 rfl (lv_at hl 1 rfl) ?_
  refine z_callV (As := [.int x]) (rest := []) (st1 := [.null]) hC hW LL_0 rfl rfl rfl (c_X4_findTape_n l G C M h12 (x := x) hbx) mw_X4_findTape mv_X4_findTape mM_X4_62 ⟨Nat.le_of_ble_eq_true rfl, Nat.le_of_ble_eq_true rfl⟩ rfl rfl hl.1 (lv_room (Nat.le_of_ble_eq_true rfl)) dX4_lose_2 rfl (fun H locs hW => ?_) ⟨Nat.zero_le _, Nat.zero_le _⟩
  refine lv_astore_nN (lv' := [(2, .null), (0, .ref (zad G 0 0)), (1, .int x)]) hx hb dX4_lose_5 rfl hl (by decide) rfl (fun ls hl => ?_)
  refine lv_aload_nN hx hb dX4_lose_6 rfl (lv_at hl 0 rfl) ?_
  refine lv_ifnonnullN hx hb dX4_lose_7 ?_
  refine lv_iconst (v := (-1)) hx hb dX4_lose_10 (by decide) ?_
  refine lv_goto (tgt := 18) hx hb dX4_lose_11 (by decide) ?_
  have qr : ((-1) : Int32) = -1 := by simp [bI, cF_sF, cN_sN, cB_sB, cM_sM, cN_sF, cB_sF, cM_sF, cF_sN, cB_sN, cM_sN, cF_sB, cN_sB, cM_sB, cF_sM, cN_sM, cB_sM, mF_smF, mA_smF, mF_smA, mA_smA]
  exact hE hW qr dX4_lose_18

set_option maxHeartbeats 4000000 in
set_option maxRecDepth 100000 in
theorem c_lose_1 (l : Launch) (G : GG) (C : CS) (M : MS) (h12 : zn G ≤ 12) {t : Nat} (ht : t < zn G) : Ct l G yX4_lose cX4_lose 3 (some .int) 1 22 [.ref (zad G 0 0), .int (nI t)] C M (some (.int (nI (uaL t 100 0 0 C).1))) ((uaL t 100 0 0 C).2) M := by
  refine Ct_i (by decide) (Nat.le_of_ble_eq_true rfl) (fun {p e s m args below meth c A Q ls} hC hW hl hE => ?_)
  have hx := hC.1
  have hb := hC.2.1
  have hl : lv_has ls 3 [(0, .ref (zad G 0 0)), (1, .int (nI t))] := hl
  refine lv_aload_n hx hb dX4_lose_0 rfl (lv_at hl 0 rfl) ?_
  refine lv_iload_n hx hb dX4_lose_1 rfl (lv_at hl 1 rfl) ?_
  refine z_callV (As := [.int (nI t)]) (rest := []) (st1 := [.ref (zad G 9 t)]) hC hW LL_0 rfl rfl rfl (c_X4_findTape l G C M h12 (t := t) ht) mw_X4_findTape mv_X4_findTape mM_X4_62 ⟨Nat.le_of_ble_eq_true rfl, Nat.le_of_ble_eq_true rfl⟩ rfl rfl hl.1 (lv_room (Nat.le_of_ble_eq_true rfl)) dX4_lose_2 rfl (fun H locs hW => ?_) ⟨Nat.zero_le _, Nat.zero_le _⟩
  refine lv_astore_n (lv' := [(2, .ref (zad G 9 t)), (0, .ref (zad G 0 0)), (1, .int (nI t))]) hx hb dX4_lose_5 rfl hl (by decide) rfl (fun ls hl => ?_)
  refine lv_aload_n hx hb dX4_lose_6 rfl (lv_at hl 0 rfl) ?_
  refine lv_ifnonnull (tgt := 14) hx hb dX4_lose_7 (by decide) ?_
  refine lv_aload_n hx hb dX4_lose_14 rfl (lv_at hl 0 rfl) ?_
  refine z_callV (As := []) (rest := []) (st1 := [.int (nI ((uaL t 100 0 0 C).1))]) hC hW (LL_9 ht) rfl rfl rfl (c_X3_unlistAll l G C M ht) mw_X3_unlistAll mv_X3_unlistAll mM_X4_91 ⟨Nat.le_of_ble_eq_true rfl, Nat.le_of_ble_eq_true rfl⟩ rfl rfl hl.1 (lv_room (Nat.le_of_ble_eq_true rfl)) dX4_lose_15 rfl (fun H locs hW => ?_) ⟨Nat.zero_le _, Nat.zero_le _⟩
  obtain ⟨C1, eC1⟩ : ∃ z, z = (uaL t 100 0 0 C).2 := ⟨_, rfl⟩
  rw [← eC1] at hW
  rw [eC1] at hW
  exact hE hW rfl dX4_lose_18

theorem c_X4_scan (l : Launch) (G : GG) (C : CS) (M : MS) (h12 : zn G ≤ 12) (hI : Iv C) (hT : ∀ d t, cM C d = some t → t < zn G) (x : Int32) : Ct l G yX4_scan cX4_scan 3 (some .int) 6 131 [.ref (zad G 0 0), .int x] C M (some (.int (scaT (zn G) C x).1)) (scaT (zn G) C x).2 M := by
  unfold scaT
  rcases tape_cases h12 x with hb | ⟨t, ht, rfl, hb, htx⟩
  · rw [if_pos hb]; exact c_scan_b l G C M h12 hb
  · rw [if_neg hb, htx]; exact c_scan_1 l G C M h12 ht hI hT

theorem c_X4_lose (l : Launch) (G : GG) (C : CS) (M : MS) (h12 : zn G ≤ 12)  (x : Int32) : Ct l G yX4_lose cX4_lose 3 (some .int) 1 22 [.ref (zad G 0 0), .int x] C M (some (.int (losT (zn G) C x).1)) (losT (zn G) C x).2 M := by
  unfold losT
  rcases tape_cases h12 x with hb | ⟨t, ht, rfl, hb, htx⟩
  · rw [if_pos hb]; exact c_lose_b l G C M h12 hb
  · rw [if_neg hb, htx]; exact c_lose_1 l G C M h12 ht
end
section
/-! ===== the class: its calls, second half ===== -/

set_option maxHeartbeats 4000000 in
set_option maxRecDepth 100000 in
theorem c_dam_b (l : Launch) (G : GG) (C : CS) (M : MS) (h12 : zn G ≤ 12) {x : Int32} (hbx : badT (zn G) x) (y z : Int32) : Ct l G yX4_damage cX4_damage 5 (some .int) 1 24 [.ref (zad G 0 0), .int x, .int y, .int z] C M (some (.int (-1))) C M := by
  refine Ct_i (by decide) (Nat.le_of_ble_eq_true rfl) (fun {p e s m args below meth c A Q ls} hC hW hl hE => ?_)
  have hx := hC.1
  have hb := hC.2.1
  have hl : lv_has ls 5 [(0, .ref (zad G 0 0)), (1, .int x), (2, .int y), (3, .int z)] := hl
  refine lv_aload_n hx hb dX4_damage_0 rfl (lv_at hl 0 rfl) ?_
  refine lv_iload_n hx hb dX4_damage_1 rfl (lv_at hl 1 rfl) ?_
  refine z_callV (As := [.int x]) (rest := []) (st1 := [.null]) hC hW LL_0 rfl rfl rfl (c_X4_findTape_n l G C M h12 (x := x) hbx) mw_X4_findTape mv_X4_findTape mM_X4_62 ⟨Nat.le_of_ble_eq_true rfl, Nat.le_of_ble_eq_true rfl⟩ rfl rfl hl.1 (lv_room (Nat.le_of_ble_eq_true rfl)) dX4_damage_2 rfl (fun H locs hW => ?_) ⟨Nat.zero_le _, Nat.zero_le _⟩
  refine lv_astoreN (lv' := [(4, .null), (0, .ref (zad G 0 0)), (1, .int x), (2, .int y), (3, .int z)]) hx hb dX4_damage_5 hl (by decide) rfl (fun ls hl => ?_)
  refine lv_aloadN hx hb dX4_damage_7 (lv_at hl 0 rfl) ?_
  refine lv_ifnullN (tgt := 32) hx hb dX4_damage_9 (by decide) ?_
  refine lv_iconst (v := (-1)) hx hb dX4_damage_32 (by decide) ?_
  have qr : ((-1) : Int32) = -1 := by simp [bI, cF_sF, cN_sN, cB_sB, cM_sM, cN_sF, cB_sF, cM_sF, cF_sN, cB_sN, cM_sN, cF_sB, cN_sB, cM_sB, cF_sM, cN_sM, cB_sM, mF_smF, mA_smF, mF_smA, mA_smA]
  exact hE hW qr dX4_damage_33

set_option maxHeartbeats 4000000 in
set_option maxRecDepth 100000 in
theorem c_dam_p (l : Launch) (G : GG) (C : CS) (M : MS) (h12 : zn G ≤ 12) {t : Nat} (ht : t < zn G) {y : Int32} (hp : ¬ placeP y) (z : Int32) : Ct l G yX4_damage cX4_damage 5 (some .int) 1 24 [.ref (zad G 0 0), .int (nI t), .int y, .int z] C M (some (.int (-1))) C M := by
  refine Ct_i (by decide) (Nat.le_of_ble_eq_true rfl) (fun {p e s m args below meth c A Q ls} hC hW hl hE => ?_)
  have hx := hC.1
  have hb := hC.2.1
  have hl : lv_has ls 5 [(0, .ref (zad G 0 0)), (1, .int (nI t)), (2, .int y), (3, .int z)] := hl
  refine lv_aload_n hx hb dX4_damage_0 rfl (lv_at hl 0 rfl) ?_
  refine lv_iload_n hx hb dX4_damage_1 rfl (lv_at hl 1 rfl) ?_
  refine z_callV (As := [.int (nI t)]) (rest := []) (st1 := [.ref (zad G 9 t)]) hC hW LL_0 rfl rfl rfl (c_X4_findTape l G C M h12 (t := t) ht) mw_X4_findTape mv_X4_findTape mM_X4_62 ⟨Nat.le_of_ble_eq_true rfl, Nat.le_of_ble_eq_true rfl⟩ rfl rfl hl.1 (lv_room (Nat.le_of_ble_eq_true rfl)) dX4_damage_2 rfl (fun H locs hW => ?_) ⟨Nat.zero_le _, Nat.zero_le _⟩
  refine lv_astore (lv' := [(4, .ref (zad G 9 t)), (0, .ref (zad G 0 0)), (1, .int (nI t)), (2, .int y), (3, .int z)]) hx hb dX4_damage_5 hl (by decide) rfl (fun ls hl => ?_)
  refine lv_aload hx hb dX4_damage_7 (lv_at hl 0 rfl) ?_
  refine lv_ifnull hx hb dX4_damage_9 ?_
  refine lv_iload_n hx hb dX4_damage_12 rfl (lv_at hl 3 rfl) ?_
  refine z_callS (rest := []) (st1 := [.int (bI (placeP y))]) hC hW (c_X4_isPlace l G C M y) mw_X4_isPlace mT_X4_isPlace mM_X4_95 ⟨Nat.le_of_ble_eq_true rfl, Nat.le_of_ble_eq_true rfl⟩ rfl rfl hl.1 (lv_room (Nat.le_of_ble_eq_true rfl)) dX4_damage_13 rfl (fun H locs hW => ?_) ⟨Nat.zero_le _, Nat.zero_le _⟩
  refine zb_eq (tgt := 32) hx hb (placeP y) rfl dX4_damage_16 (by decide) (fun h16 => ?_) (fun h16 => ?_)
  · refine lv_iconst (v := (-1)) hx hb dX4_damage_32 (by decide) ?_
    have qr : ((-1) : Int32) = -1 := by simp [bI, h16, cF_sF, cN_sN, cB_sB, cM_sM, cN_sF, cB_sF, cM_sF, cF_sN, cB_sN, cM_sN, cF_sB, cN_sB, cM_sB, cF_sM, cN_sM, cB_sM, mF_smF, mA_smF, mF_smA, mA_smA]
    exact hE hW qr dX4_damage_33
  · exact absurd h16 hp

set_option maxHeartbeats 4000000 in
set_option maxRecDepth 100000 in
theorem c_dam_n (l : Launch) (G : GG) (C : CS) (M : MS) (h12 : zn G ≤ 12) {t a : Nat} (ht : t < zn G) (ha : a < 100) (hp : placeP (nI a)) (z : Int32) (hz : z < 1 ∨ nI (100 - a) < z) : Ct l G yX4_damage cX4_damage 5 (some .int) 1 24 [.ref (zad G 0 0), .int (nI t), .int (nI a), .int z] C M (some (.int (-1))) C M := by
  refine Ct_i (by decide) (Nat.le_of_ble_eq_true rfl) (fun {p e s m args below meth c A Q ls} hC hW hl hE => ?_)
  have hx := hC.1
  have hb := hC.2.1
  have hl : lv_has ls 5 [(0, .ref (zad G 0 0)), (1, .int (nI t)), (2, .int (nI a)), (3, .int z)] := hl
  refine lv_aload_n hx hb dX4_damage_0 rfl (lv_at hl 0 rfl) ?_
  refine lv_iload_n hx hb dX4_damage_1 rfl (lv_at hl 1 rfl) ?_
  refine z_callV (As := [.int (nI t)]) (rest := []) (st1 := [.ref (zad G 9 t)]) hC hW LL_0 rfl rfl rfl (c_X4_findTape l G C M h12 (t := t) ht) mw_X4_findTape mv_X4_findTape mM_X4_62 ⟨Nat.le_of_ble_eq_true rfl, Nat.le_of_ble_eq_true rfl⟩ rfl rfl hl.1 (lv_room (Nat.le_of_ble_eq_true rfl)) dX4_damage_2 rfl (fun H locs hW => ?_) ⟨Nat.zero_le _, Nat.zero_le _⟩
  refine lv_astore (lv' := [(4, .ref (zad G 9 t)), (0, .ref (zad G 0 0)), (1, .int (nI t)), (2, .int (nI a)), (3, .int z)]) hx hb dX4_damage_5 hl (by decide) rfl (fun ls hl => ?_)
  refine lv_aload hx hb dX4_damage_7 (lv_at hl 0 rfl) ?_
  refine lv_ifnull hx hb dX4_damage_9 ?_
  refine lv_iload_n hx hb dX4_damage_12 rfl (lv_at hl 3 rfl) ?_
  refine z_callS (rest := []) (st1 := [.int (bI (placeP (nI a)))]) hC hW (c_X4_isPlace l G C M (nI a)) mw_X4_isPlace mT_X4_isPlace mM_X4_95 ⟨Nat.le_of_ble_eq_true rfl, Nat.le_of_ble_eq_true rfl⟩ rfl rfl hl.1 (lv_room (Nat.le_of_ble_eq_true rfl)) dX4_damage_13 rfl (fun H locs hW => ?_) ⟨Nat.zero_le _, Nat.zero_le _⟩
  refine zb_eq (tgt := 32) hx hb (placeP (nI a)) rfl dX4_damage_16 (by decide) (fun h16 => ?_) (fun h16 => ?_)
  · exact absurd hp h16
  · refine lv_iload_n hx hb dX4_damage_19 rfl (lv_at hl 4 rfl) ?_
    refine lv_iconst (v := 1) hx hb dX4_damage_20 (by decide) ?_
    refine lv_icmp_lt (tgt := 32) hx hb dX4_damage_21 (by decide) (fun h21 => ?_) (fun h21 => ?_)
    · refine lv_iconst (v := (-1)) hx hb dX4_damage_32 (by decide) ?_
      have qr : ((-1) : Int32) = -1 := by simp [bI, h16, h21, cF_sF, cN_sN, cB_sB, cM_sM, cN_sF, cB_sF, cM_sF, cF_sN, cB_sN, cM_sN, cF_sB, cN_sB, cM_sB, cF_sM, cN_sM, cB_sM, mF_smF, mA_smF, mF_smA, mA_smA]
      exact hE hW qr dX4_damage_33
    · refine lv_iload_n hx hb dX4_damage_24 rfl (lv_at hl 4 rfl) ?_
      refine lv_bipush (v := 100) hx hb dX4_damage_25 (by decide) ?_
      refine lv_iload_n hx hb dX4_damage_27 rfl (lv_at hl 3 rfl) ?_
      refine zi_sub (i := 100) (j := a) hx hb rfl rfl (by omega) dX4_damage_28 ?_
      refine lv_icmp_le (tgt := 34) hx hb dX4_damage_29 (by decide) (fun h29 => ?_) (fun h29 => ?_)
      · exact absurd h29 (hz.elim (fun q => absurd q h21) (fun q => Int32.not_le.mpr q))
      · refine lv_iconst (v := (-1)) hx hb dX4_damage_32 (by decide) ?_
        have qr : ((-1) : Int32) = -1 := by simp [bI, h16, h21, h29, cF_sF, cN_sN, cB_sB, cM_sM, cN_sF, cB_sF, cM_sF, cF_sN, cB_sN, cM_sN, cF_sB, cN_sB, cM_sB, cF_sM, cN_sM, cB_sM, mF_smF, mA_smF, mF_smA, mA_smA]
        exact hE hW qr dX4_damage_33

set_option maxHeartbeats 4000000 in
set_option maxRecDepth 100000 in
theorem c_dam_1 (l : Launch) (G : GG) (C : CS) (M : MS) (h12 : zn G ≤ 12) {t a n : Nat} (ht : t < zn G) (ha : a < 100) (hp : placeP (nI a)) (h1 : 1 ≤ n) (h2 : n ≤ 100 - a) : Ct l G yX4_damage cX4_damage 5 (some .int) 1 24 [.ref (zad G 0 0), .int (nI t), .int (nI a), .int (nI n)] C M (some (.int (nI (spL t n a 0 C).1))) ((spL t n a 0 C).2) M := by
  refine Ct_i (by decide) (Nat.le_of_ble_eq_true rfl) (fun {p e s m args below meth c A Q ls} hC hW hl hE => ?_)
  have hx := hC.1
  have hb := hC.2.1
  have hl : lv_has ls 5 [(0, .ref (zad G 0 0)), (1, .int (nI t)), (2, .int (nI a)), (3, .int (nI n))] := hl
  refine lv_aload_n hx hb dX4_damage_0 rfl (lv_at hl 0 rfl) ?_
  refine lv_iload_n hx hb dX4_damage_1 rfl (lv_at hl 1 rfl) ?_
  refine z_callV (As := [.int (nI t)]) (rest := []) (st1 := [.ref (zad G 9 t)]) hC hW LL_0 rfl rfl rfl (c_X4_findTape l G C M h12 (t := t) ht) mw_X4_findTape mv_X4_findTape mM_X4_62 ⟨Nat.le_of_ble_eq_true rfl, Nat.le_of_ble_eq_true rfl⟩ rfl rfl hl.1 (lv_room (Nat.le_of_ble_eq_true rfl)) dX4_damage_2 rfl (fun H locs hW => ?_) ⟨Nat.zero_le _, Nat.zero_le _⟩
  refine lv_astore (lv' := [(4, .ref (zad G 9 t)), (0, .ref (zad G 0 0)), (1, .int (nI t)), (2, .int (nI a)), (3, .int (nI n))]) hx hb dX4_damage_5 hl (by decide) rfl (fun ls hl => ?_)
  refine lv_aload hx hb dX4_damage_7 (lv_at hl 0 rfl) ?_
  refine lv_ifnull hx hb dX4_damage_9 ?_
  refine lv_iload_n hx hb dX4_damage_12 rfl (lv_at hl 3 rfl) ?_
  refine z_callS (rest := []) (st1 := [.int (bI (placeP (nI a)))]) hC hW (c_X4_isPlace l G C M (nI a)) mw_X4_isPlace mT_X4_isPlace mM_X4_95 ⟨Nat.le_of_ble_eq_true rfl, Nat.le_of_ble_eq_true rfl⟩ rfl rfl hl.1 (lv_room (Nat.le_of_ble_eq_true rfl)) dX4_damage_13 rfl (fun H locs hW => ?_) ⟨Nat.zero_le _, Nat.zero_le _⟩
  refine zb_eq (tgt := 32) hx hb (placeP (nI a)) rfl dX4_damage_16 (by decide) (fun h16 => ?_) (fun h16 => ?_)
  · exact absurd hp h16
  · refine lv_iload_n hx hb dX4_damage_19 rfl (lv_at hl 4 rfl) ?_
    refine lv_iconst (v := 1) hx hb dX4_damage_20 (by decide) ?_
    refine zc_lt (i := n) (j := 1) (tgt := 32) hx hb rfl rfl (by omega) (by omega) dX4_damage_21 (by decide) (fun h21 => ?_) (fun h21 => ?_)
    · exact absurd h21 (by omega)
    · refine lv_iload_n hx hb dX4_damage_24 rfl (lv_at hl 4 rfl) ?_
      refine lv_bipush (v := 100) hx hb dX4_damage_25 (by decide) ?_
      refine lv_iload_n hx hb dX4_damage_27 rfl (lv_at hl 3 rfl) ?_
      refine zi_sub (i := 100) (j := a) hx hb rfl rfl (by omega) dX4_damage_28 ?_
      refine zc_le (i := n) (j := 100 - a) (tgt := 34) hx hb rfl rfl (by omega) (by omega) dX4_damage_29 (by decide) (fun h29 => ?_) (fun h29 => ?_)
      · refine lv_aload hx hb dX4_damage_34 (lv_at hl 0 rfl) ?_
        refine lv_iload_n hx hb dX4_damage_36 rfl (lv_at hl 3 rfl) ?_
        refine lv_iload_n hx hb dX4_damage_37 rfl (lv_at hl 4 rfl) ?_
        refine z_callV (As := [.int (nI a), .int (nI n)]) (rest := []) (st1 := [.int (nI ((spL t n a 0 C).1))]) hC hW (LL_9 ht) rfl rfl rfl (c_X3_spoil l G C M ht (a := a) (n := n) (by omega)) mw_X3_spoil mv_X3_spoil mM_X4_98 ⟨Nat.le_of_ble_eq_true rfl, Nat.le_of_ble_eq_true rfl⟩ rfl rfl hl.1 (lv_room (Nat.le_of_ble_eq_true rfl)) dX4_damage_38 rfl (fun H locs hW => ?_) ⟨Nat.zero_le _, Nat.zero_le _⟩
        obtain ⟨C1, eC1⟩ : ∃ z, z = (spL t n a 0 C).2 := ⟨_, rfl⟩
        rw [← eC1] at hW
        rw [eC1] at hW
        exact hE hW rfl dX4_damage_41
      · exact absurd h29 (by omega)

theorem c_X4_damage (l : Launch) (G : GG) (C : CS) (M : MS) (h12 : zn G ≤ 12) (x y z : Int32) : Ct l G yX4_damage cX4_damage 5 (some .int) 1 24 [.ref (zad G 0 0), .int x, .int y, .int z] C M (some (.int (damT (zn G) C x y z).1)) (damT (zn G) C x y z).2 M := by
  unfold damT
  rcases tape_cases h12 x with hb | ⟨t, ht, rfl, hb, htx⟩
  · rw [if_pos hb]; exact c_dam_b l G C M h12 hb y z
  · rw [if_neg hb, htx]
    by_cases hp : placeP y
    · rw [if_pos hp]
      obtain ⟨a, ha, rfl, hax⟩ := place_arg hp
      rw [hax]
      by_cases hz : z < 1 ∨ nI (100 - a) < z
      · rw [if_pos hz]; exact c_dam_n l G C M h12 ht ha hp z hz
      · rw [if_neg hz]
        rcases pk_ix z (n := 101) (by decide) with q | q | ⟨n, hn, rfl⟩
        · exact absurd (Or.inl (Int32.lt_trans q (by decide))) hz
        · exact absurd (Or.inr (Int32.lt_of_lt_of_le ((nI_ltI (a := 100 - a) (b := 101) (by omega) (by omega)).mpr (by omega)) q)) hz
        · have h1 : 1 ≤ n := by
            refine Nat.pos_of_ne_zero (fun q => hz (Or.inl ?_)); subst q; decide
          have h2 : n ≤ 100 - a := by
            refine Nat.le_of_not_lt (fun q => hz (Or.inr ((nI_ltI (by omega) (by omega)).mpr q)))
          rw [tN_nI (show n < 2 ^ 31 by omega)]
          exact c_dam_1 l G C M h12 ht ha hp h1 h2
    · rw [if_neg hp]; exact c_dam_p l G C M h12 ht hp z

set_option maxHeartbeats 4000000 in
set_option maxRecDepth 100000 in
theorem c_jam_b (l : Launch) (G : GG) (C : CS) (M : MS) {x : Int32} (hbx : badT 3 x) (z : Int32) : Ct l G yX4_jam cX4_jam 4 (some .int) 1 21 [.ref (zad G 0 0), .int x, .int z] C M (some (.int (-1))) C M := by
  refine Ct_i (by decide) (Nat.le_of_ble_eq_true rfl) (fun {p e s m args below meth c A Q ls} hC hW hl hE => ?_)
  have hx := hC.1
  have hb := hC.2.1
  have hl : lv_has ls 4 [(0, .ref (zad G 0 0)), (1, .int x), (2, .int z)] := hl
  refine lv_aload_n hx hb dX4_jam_0 rfl (lv_at hl 0 rfl) ?_
  refine lv_iload_n hx hb dX4_jam_1 rfl (lv_at hl 1 rfl) ?_
  refine z_callV (As := [.int x]) (rest := []) (st1 := [.null]) hC hW LL_0 rfl rfl rfl (c_X4_findDrive_n l G C M (x := x) hbx) mw_X4_findDrive mv_X4_findDrive mM_X4_102 ⟨Nat.le_of_ble_eq_true rfl, Nat.le_of_ble_eq_true rfl⟩ rfl rfl hl.1 (lv_room (Nat.le_of_ble_eq_true rfl)) dX4_jam_2 rfl (fun H locs hW => ?_) ⟨Nat.zero_le _, Nat.zero_le _⟩
  refine lv_astore_nN (lv' := [(3, .null), (0, .ref (zad G 0 0)), (1, .int x), (2, .int z)]) hx hb dX4_jam_5 rfl hl (by decide) rfl (fun ls hl => ?_)
  refine lv_aload_nN hx hb dX4_jam_6 rfl (lv_at hl 0 rfl) ?_
  refine lv_ifnullN (tgt := 29) hx hb dX4_jam_7 (by decide) ?_
  refine lv_iconst (v := (-1)) hx hb dX4_jam_29 (by decide) ?_
  have qr : ((-1) : Int32) = -1 := by simp [bI, cF_sF, cN_sN, cB_sB, cM_sM, cN_sF, cB_sF, cM_sF, cF_sN, cB_sN, cM_sN, cF_sB, cN_sB, cM_sB, cF_sM, cN_sM, cB_sM, mF_smF, mA_smF, mF_smA, mA_smA]
  exact hE hW qr dX4_jam_30

set_option maxHeartbeats 4000000 in
set_option maxRecDepth 100000 in
theorem c_jam_1 (l : Launch) (G : GG) (C : CS) (M : MS) {d : Nat} (hd : d < 3) (z : Int32) : Ct l G yX4_jam cX4_jam 4 (some .int) 1 21 [.ref (zad G 0 0), .int (nI d), .int z] C M (some (.int ((jamC C d z).1))) ((jamC C d z).2) M := by
  refine Ct_i (by decide) (Nat.le_of_ble_eq_true rfl) (fun {p e s m args below meth c A Q ls} hC hW hl hE => ?_)
  have hx := hC.1
  have hb := hC.2.1
  have hl : lv_has ls 4 [(0, .ref (zad G 0 0)), (1, .int (nI d)), (2, .int z)] := hl
  refine lv_aload_n hx hb dX4_jam_0 rfl (lv_at hl 0 rfl) ?_
  refine lv_iload_n hx hb dX4_jam_1 rfl (lv_at hl 1 rfl) ?_
  refine z_callV (As := [.int (nI d)]) (rest := []) (st1 := [.ref (zad G 3 d)]) hC hW LL_0 rfl rfl rfl (c_X4_findDrive l G C M (d := d) hd) mw_X4_findDrive mv_X4_findDrive mM_X4_102 ⟨Nat.le_of_ble_eq_true rfl, Nat.le_of_ble_eq_true rfl⟩ rfl rfl hl.1 (lv_room (Nat.le_of_ble_eq_true rfl)) dX4_jam_2 rfl (fun H locs hW => ?_) ⟨Nat.zero_le _, Nat.zero_le _⟩
  refine lv_astore_n (lv' := [(3, .ref (zad G 3 d)), (0, .ref (zad G 0 0)), (1, .int (nI d)), (2, .int z)]) hx hb dX4_jam_5 rfl hl (by decide) rfl (fun ls hl => ?_)
  refine lv_aload_n hx hb dX4_jam_6 rfl (lv_at hl 0 rfl) ?_
  refine lv_ifnull hx hb dX4_jam_7 ?_
  refine lv_aload_n hx hb dX4_jam_10 rfl (lv_at hl 0 rfl) ?_
  refine g3 (k := 4) (v := .int (cF C 3 d 4)) hC hW hd (by decide) mF_X4_106 rfl dX4_jam_11 ?_
  refine lv_if_ne (tgt := 29) hx hb dX4_jam_14 (by decide) (fun h14 => ?_) (fun h14 => ?_)
  · refine lv_iconst (v := (-1)) hx hb dX4_jam_29 (by decide) ?_
    have qC : C = (jamC C d z).2 := by simp [jamC, h14]
    rw [qC] at hW
    have qr : ((-1) : Int32) = (jamC C d z).1 := by simp [jamC, h14]
    exact hE hW qr dX4_jam_30
  · refine lv_iload_n hx hb dX4_jam_17 rfl (lv_at hl 3 rfl) ?_
    refine lv_iconst (v := (-1)) hx hb dX4_jam_18 (by decide) ?_
    refine lv_icmp_lt (tgt := 29) hx hb dX4_jam_19 (by decide) (fun h19 => ?_) (fun h19 => ?_)
    · refine lv_iconst (v := (-1)) hx hb dX4_jam_29 (by decide) ?_
      have qC : C = (jamC C d z).2 := by simp [jamC, h14, h19]
      rw [qC] at hW
      have qr : ((-1) : Int32) = (jamC C d z).1 := by simp [jamC, h14, h19]
      exact hE hW qr dX4_jam_30
    · refine lv_iload_n hx hb dX4_jam_22 rfl (lv_at hl 3 rfl) ?_
      refine lv_sipush (v := 1000) hx hb dX4_jam_23 (by decide) ?_
      refine lv_icmp_le (tgt := 31) hx hb dX4_jam_26 (by decide) (fun h26 => ?_) (fun h26 => ?_)
      · refine lv_aload_n hx hb dX4_jam_31 rfl (lv_at hl 0 rfl) ?_
        refine lv_iload_n hx hb dX4_jam_32 rfl (lv_at hl 3 rfl) ?_
        refine p3F (k := 5) (v := z) hC hW hd (by decide) mF_X4_110 dX4_jam_33 (fun _ eS H locs hW => ?_)
        subst eS
        refine lv_iload_n hx hb dX4_jam_36 rfl (lv_at hl 3 rfl) ?_
        have qC : sF C 3 d 5 z = (jamC C d z).2 := by simp [jamC, h14, h19, h26]
        rw [qC] at hW
        have qr : (z : Int32) = (jamC C d z).1 := by simp [jamC, h14, h19, h26]
        exact hE hW qr dX4_jam_37
      · refine lv_iconst (v := (-1)) hx hb dX4_jam_29 (by decide) ?_
        have qC : C = (jamC C d z).2 := by simp [jamC, h14, h19, h26]
        rw [qC] at hW
        have qr : ((-1) : Int32) = (jamC C d z).1 := by simp [jamC, h14, h19, h26]
        exact hE hW qr dX4_jam_30

theorem drive_cases (x : Int32) : badT 3 x ∨ ∃ d, d < 3 ∧ x = nI d ∧ ¬ badT 3 x ∧ tN x = d := tape_cases (by decide) x
theorem c_X4_jam (l : Launch) (G : GG) (C : CS) (M : MS) (x z : Int32) : Ct l G yX4_jam cX4_jam 4 (some .int) 1 21 [.ref (zad G 0 0), .int x, .int z] C M (some (.int (jamT C x z).1)) (jamT C x z).2 M := by
  unfold jamT
  rcases drive_cases x with hb | ⟨d, hd, rfl, hb, hdx⟩
  · rw [if_pos hb]; exact c_jam_b l G C M hb z
  · rw [if_neg hb, hdx]; exact c_jam_1 l G C M hd z

set_option maxHeartbeats 4000000 in
set_option maxRecDepth 100000 in
theorem c_fix_b (l : Launch) (G : GG) (C : CS) (M : MS) {x : Int32} (hbx : badT 3 x) : Ct l G yX4_fix cX4_fix 4 (some .int) 1 21 [.ref (zad G 0 0), .int x] C M (some (.int (-1))) C M := by
  refine Ct_i (by decide) (Nat.le_of_ble_eq_true rfl) (fun {p e s m args below meth c A Q ls} hC hW hl hE => ?_)
  have hx := hC.1
  have hb := hC.2.1
  have hl : lv_has ls 4 [(0, .ref (zad G 0 0)), (1, .int x)] := hl
  refine lv_aload_n hx hb dX4_fix_0 rfl (lv_at hl 0 rfl) ?_
  refine lv_iload_n hx hb dX4_fix_1 rfl (lv_at hl 1 rfl) ?_
  refine z_callV (As := [.int x]) (rest := []) (st1 := [.null]) hC hW LL_0 rfl rfl rfl (c_X4_findDrive_n l G C M (x := x) hbx) mw_X4_findDrive mv_X4_findDrive mM_X4_102 ⟨Nat.le_of_ble_eq_true rfl, Nat.le_of_ble_eq_true rfl⟩ rfl rfl hl.1 (lv_room (Nat.le_of_ble_eq_true rfl)) dX4_fix_2 rfl (fun H locs hW => ?_) ⟨Nat.zero_le _, Nat.zero_le _⟩
  refine lv_astore_nN (lv' := [(2, .null), (0, .ref (zad G 0 0)), (1, .int x)]) hx hb dX4_fix_5 rfl hl (by decide) rfl (fun ls hl => ?_)
  refine lv_aload_nN hx hb dX4_fix_6 rfl (lv_at hl 0 rfl) ?_
  refine lv_ifnonnullN hx hb dX4_fix_7 ?_
  refine lv_iconst (v := (-1)) hx hb dX4_fix_10 (by decide) ?_
  have qr : ((-1) : Int32) = -1 := by simp [bI, cF_sF, cN_sN, cB_sB, cM_sM, cN_sF, cB_sF, cM_sF, cF_sN, cB_sN, cM_sN, cF_sB, cN_sB, cM_sB, cF_sM, cN_sM, cB_sM, mF_smF, mA_smF, mF_smA, mA_smA]
  exact hE hW qr dX4_fix_11

set_option maxHeartbeats 4000000 in
set_option maxRecDepth 100000 in
theorem c_fix_1 (l : Launch) (G : GG) (C : CS) (M : MS) {d : Nat} (hd : d < 3) : Ct l G yX4_fix cX4_fix 4 (some .int) 1 21 [.ref (zad G 0 0), .int (nI d)] C M (some (.int (if cF C 3 d 4 = 0 then 0 else 1))) (sF (sF C 3 d 4 0) 3 d 5 (-1)) M := by
  refine Ct_i (by decide) (Nat.le_of_ble_eq_true rfl) (fun {p e s m args below meth c A Q ls} hC hW hl hE => ?_)
  have hx := hC.1
  have hb := hC.2.1
  have hl : lv_has ls 4 [(0, .ref (zad G 0 0)), (1, .int (nI d))] := hl
  refine lv_aload_n hx hb dX4_fix_0 rfl (lv_at hl 0 rfl) ?_
  refine lv_iload_n hx hb dX4_fix_1 rfl (lv_at hl 1 rfl) ?_
  refine z_callV (As := [.int (nI d)]) (rest := []) (st1 := [.ref (zad G 3 d)]) hC hW LL_0 rfl rfl rfl (c_X4_findDrive l G C M (d := d) hd) mw_X4_findDrive mv_X4_findDrive mM_X4_102 ⟨Nat.le_of_ble_eq_true rfl, Nat.le_of_ble_eq_true rfl⟩ rfl rfl hl.1 (lv_room (Nat.le_of_ble_eq_true rfl)) dX4_fix_2 rfl (fun H locs hW => ?_) ⟨Nat.zero_le _, Nat.zero_le _⟩
  refine lv_astore_n (lv' := [(2, .ref (zad G 3 d)), (0, .ref (zad G 0 0)), (1, .int (nI d))]) hx hb dX4_fix_5 rfl hl (by decide) rfl (fun ls hl => ?_)
  refine lv_aload_n hx hb dX4_fix_6 rfl (lv_at hl 0 rfl) ?_
  refine lv_ifnonnull (tgt := 12) hx hb dX4_fix_7 (by decide) ?_
  refine lv_aload_n hx hb dX4_fix_12 rfl (lv_at hl 0 rfl) ?_
  refine g3 (k := 4) (v := .int (cF C 3 d 4)) hC hW hd (by decide) mF_X4_106 rfl dX4_fix_13 ?_
  refine lv_if_eq (tgt := 23) hx hb dX4_fix_16 (by decide) (fun h16 => ?_) (fun h16 => ?_)
  · refine lv_iconst (v := 0) hx hb dX4_fix_23 (by decide) ?_
    refine lv_istore_n (lv' := [(3, .int 0), (2, .ref (zad G 3 d)), (0, .ref (zad G 0 0)), (1, .int (nI d))]) hx hb dX4_fix_24 rfl hl (by decide) rfl (fun ls hl => ?_)
    refine lv_aload_n hx hb dX4_fix_25 rfl (lv_at hl 1 rfl) ?_
    refine lv_iconst (v := 0) hx hb dX4_fix_26 (by decide) ?_
    refine p3J (v := 0) hC hW hd (by decide) mF_X4_106 dX4_fix_27 (fun _ eS H locs hW => ?_)
    subst eS
    refine lv_aload_n hx hb dX4_fix_30 rfl (lv_at hl 1 rfl) ?_
    refine lv_iconst (v := (-1)) hx hb dX4_fix_31 (by decide) ?_
    refine p3F (k := 5) (v := (-1)) hC hW hd (by decide) mF_X4_110 dX4_fix_32 (fun _ eS H locs hW => ?_)
    subst eS
    refine lv_iload_n hx hb dX4_fix_35 rfl (lv_at hl 0 rfl) ?_
    have qr : (0 : Int32) = if cF C 3 d 4 = 0 then 0 else 1 := by rw [if_pos h16]
    exact hE hW qr dX4_fix_36
  · refine lv_iconst (v := 1) hx hb dX4_fix_19 (by decide) ?_
    refine lv_goto (tgt := 24) hx hb dX4_fix_20 (by decide) ?_
    refine lv_istore_n (lv' := [(3, .int 1), (2, .ref (zad G 3 d)), (0, .ref (zad G 0 0)), (1, .int (nI d))]) hx hb dX4_fix_24 rfl hl (by decide) rfl (fun ls hl => ?_)
    refine lv_aload_n hx hb dX4_fix_25 rfl (lv_at hl 1 rfl) ?_
    refine lv_iconst (v := 0) hx hb dX4_fix_26 (by decide) ?_
    refine p3J (v := 0) hC hW hd (by decide) mF_X4_106 dX4_fix_27 (fun _ eS H locs hW => ?_)
    subst eS
    refine lv_aload_n hx hb dX4_fix_30 rfl (lv_at hl 1 rfl) ?_
    refine lv_iconst (v := (-1)) hx hb dX4_fix_31 (by decide) ?_
    refine p3F (k := 5) (v := (-1)) hC hW hd (by decide) mF_X4_110 dX4_fix_32 (fun _ eS H locs hW => ?_)
    subst eS
    refine lv_iload_n hx hb dX4_fix_35 rfl (lv_at hl 0 rfl) ?_
    have qr : (1 : Int32) = if cF C 3 d 4 = 0 then 0 else 1 := by rw [if_neg h16]
    exact hE hW qr dX4_fix_36

theorem c_X4_fix (l : Launch) (G : GG) (C : CS) (M : MS) (x : Int32) : Ct l G yX4_fix cX4_fix 4 (some .int) 1 21 [.ref (zad G 0 0), .int x] C M (some (.int (fixT C x).1)) (fixT C x).2 M := by
  unfold fixT
  rcases drive_cases x with hb | ⟨d, hd, rfl, hb, hdx⟩
  · rw [if_pos hb]; exact c_fix_b l G C M hb
  · rw [if_neg hb, hdx]; exact c_fix_1 l G C M hd

set_option maxHeartbeats 4000000 in
set_option maxRecDepth 100000 in
theorem c_X4_power (l : Launch) (G : GG) (C : CS) (M : MS) (x : Int32) : Ct l G yX4_power cX4_power 2 (some .int) 0 0 [.ref (zad G 0 0), .int x] C M (some (.int ((powT C x).1))) ((powT C x).2) M := by
  refine Ct_i (by decide) (Nat.le_of_ble_eq_true rfl) (fun {p e s m args below meth c A Q ls} hC hW hl hE => ?_)
  have hx := hC.1
  have hb := hC.2.1
  have hl : lv_has ls 2 [(0, .ref (zad G 0 0)), (1, .int x)] := hl
  refine lv_iload_n hx hb dX4_power_0 rfl (lv_at hl 1 rfl) ?_
  refine lv_iconst (v := (-1)) hx hb dX4_power_1 (by decide) ?_
  refine lv_icmp_lt (tgt := 11) hx hb dX4_power_2 (by decide) (fun h2 => ?_) (fun h2 => ?_)
  · refine lv_iconst (v := (-1)) hx hb dX4_power_11 (by decide) ?_
    have qC : C = (powT C x).2 := by simp [powT, h2]
    rw [qC] at hW
    have qr : ((-1) : Int32) = (powT C x).1 := by simp [powT, h2]
    exact hE hW qr dX4_power_12
  · refine lv_iload_n hx hb dX4_power_5 rfl (lv_at hl 1 rfl) ?_
    refine lv_ldc (v := 100000) hx hb hC.2.2.2.1 (hC.2.2.2.2 _ mQ_X4_113) dX4_power_6 ?_
    refine lv_icmp_le (tgt := 13) hx hb dX4_power_8 (by decide) (fun h8 => ?_) (fun h8 => ?_)
    · refine lv_aload_n hx hb dX4_power_13 rfl (lv_at hl 0 rfl) ?_
      refine g0 (k := 0) (v := .ref (zad G 1 0)) hC hW (by decide) mF_X4_10 rfl dX4_power_14 ?_
      refine lv_iload_n hx hb dX4_power_17 rfl (lv_at hl 1 rfl) ?_
      refine p1 (k := 2) (v := x) hC hW (by decide) mF_X4_114 dX4_power_18 (fun _ eS H locs hW => ?_)
      subst eS
      refine lv_iload_n hx hb dX4_power_21 rfl (lv_at hl 1 rfl) ?_
      have qC : sF C 1 0 2 x = (powT C x).2 := by simp [powT, h2, h8]
      rw [qC] at hW
      have qr : (x : Int32) = (powT C x).1 := by simp [powT, h2, h8]
      exact hE hW qr dX4_power_22
    · refine lv_iconst (v := (-1)) hx hb dX4_power_11 (by decide) ?_
      have qC : C = (powT C x).2 := by simp [powT, h2, h8]
      rw [qC] at hW
      have qr : ((-1) : Int32) = (powT C x).1 := by simp [powT, h2, h8]
      exact hE hW qr dX4_power_12

set_option maxHeartbeats 4000000 in
set_option maxRecDepth 100000 in
theorem c_pla_b (l : Launch) (G : GG) (C : CS) (M : MS) (h12 : zn G ≤ 12) {x y : Int32} (hby : badT (zn G) y) : Ct l G yX4_place cX4_place 4 (some .int) 3 64 [.ref (zad G 0 0), .int x, .int y] C M (some (.int (-1))) C M := by
  refine Ct_i (by decide) (Nat.le_of_ble_eq_true rfl) (fun {p e s m args below meth c A Q ls} hC hW hl hE => ?_)
  have hx := hC.1
  have hb := hC.2.1
  have hl : lv_has ls 4 [(0, .ref (zad G 0 0)), (1, .int x), (2, .int y)] := hl
  refine lv_aload_n hx hb dX4_place_0 rfl (lv_at hl 0 rfl) ?_
  refine lv_iload_n hx hb dX4_place_1 rfl (lv_at hl 2 rfl) ?_
  refine z_callV (As := [.int y]) (rest := []) (st1 := [.null]) hC hW LL_0 rfl rfl rfl (c_X4_findTape_n l G C M h12 (x := y) hby) mw_X4_findTape mv_X4_findTape mM_X4_62 ⟨Nat.le_of_ble_eq_true rfl, Nat.le_of_ble_eq_true rfl⟩ rfl rfl hl.1 (lv_room (Nat.le_of_ble_eq_true rfl)) dX4_place_2 rfl (fun H locs hW => ?_) ⟨Nat.zero_le _, Nat.zero_le _⟩
  refine lv_astore_nN (lv' := [(3, .null), (0, .ref (zad G 0 0)), (1, .int x), (2, .int y)]) hx hb dX4_place_5 rfl hl (by decide) rfl (fun ls hl => ?_)
  refine lv_iload_n hx hb dX4_place_6 rfl (lv_at hl 2 rfl) ?_
  refine z_callS (rest := []) (st1 := [.int (bI (nameP x))]) hC hW (c_X4_isName l G C M x) mw_X4_isName mT_X4_isName mM_X4_52 ⟨Nat.le_of_ble_eq_true rfl, Nat.le_of_ble_eq_true rfl⟩ rfl rfl hl.1 (lv_room (Nat.le_of_ble_eq_true rfl)) dX4_place_7 rfl (fun H locs hW => ?_) ⟨Nat.zero_le _, Nat.zero_le _⟩
  refine zb_eq (tgt := 17) hx hb (nameP x) rfl dX4_place_10 (by decide) (fun h10 => ?_) (fun h10 => ?_)
  · refine lv_iconst (v := (-1)) hx hb dX4_place_17 (by decide) ?_
    have qr : ((-1) : Int32) = -1 := by simp [bI, h10, cF_sF, cN_sN, cB_sB, cM_sM, cN_sF, cB_sF, cM_sF, cF_sN, cB_sN, cM_sN, cF_sB, cN_sB, cM_sB, cF_sM, cN_sM, cB_sM, mF_smF, mA_smF, mF_smA, mA_smA]
    exact hE hW qr dX4_place_18
  · refine lv_aload_nN hx hb dX4_place_13 rfl (lv_at hl 0 rfl) ?_
    refine lv_ifnonnullN hx hb dX4_place_14 ?_
    refine lv_iconst (v := (-1)) hx hb dX4_place_17 (by decide) ?_
    have qr : ((-1) : Int32) = -1 := by simp [bI, h10, cF_sF, cN_sN, cB_sB, cM_sM, cN_sF, cB_sF, cM_sF, cF_sN, cB_sN, cM_sN, cF_sB, cN_sB, cM_sB, cF_sM, cN_sM, cB_sM, mF_smF, mA_smF, mF_smA, mA_smA]
    exact hE hW qr dX4_place_18

set_option maxHeartbeats 4000000 in
set_option maxRecDepth 100000 in
theorem c_pla_n (l : Launch) (G : GG) (C : CS) (M : MS) (h12 : zn G ≤ 12) {x : Int32} {t : Nat} (ht : t < zn G) (hn : ¬ nameP x) : Ct l G yX4_place cX4_place 4 (some .int) 3 64 [.ref (zad G 0 0), .int x, .int (nI t)] C M (some (.int (-1))) C M := by
  refine Ct_i (by decide) (Nat.le_of_ble_eq_true rfl) (fun {p e s m args below meth c A Q ls} hC hW hl hE => ?_)
  have hx := hC.1
  have hb := hC.2.1
  have hl : lv_has ls 4 [(0, .ref (zad G 0 0)), (1, .int x), (2, .int (nI t))] := hl
  refine lv_aload_n hx hb dX4_place_0 rfl (lv_at hl 0 rfl) ?_
  refine lv_iload_n hx hb dX4_place_1 rfl (lv_at hl 2 rfl) ?_
  refine z_callV (As := [.int (nI t)]) (rest := []) (st1 := [.ref (zad G 9 t)]) hC hW LL_0 rfl rfl rfl (c_X4_findTape l G C M h12 (t := t) ht) mw_X4_findTape mv_X4_findTape mM_X4_62 ⟨Nat.le_of_ble_eq_true rfl, Nat.le_of_ble_eq_true rfl⟩ rfl rfl hl.1 (lv_room (Nat.le_of_ble_eq_true rfl)) dX4_place_2 rfl (fun H locs hW => ?_) ⟨Nat.zero_le _, Nat.zero_le _⟩
  refine lv_astore_n (lv' := [(3, .ref (zad G 9 t)), (0, .ref (zad G 0 0)), (1, .int x), (2, .int (nI t))]) hx hb dX4_place_5 rfl hl (by decide) rfl (fun ls hl => ?_)
  refine lv_iload_n hx hb dX4_place_6 rfl (lv_at hl 2 rfl) ?_
  refine z_callS (rest := []) (st1 := [.int (bI (nameP x))]) hC hW (c_X4_isName l G C M x) mw_X4_isName mT_X4_isName mM_X4_52 ⟨Nat.le_of_ble_eq_true rfl, Nat.le_of_ble_eq_true rfl⟩ rfl rfl hl.1 (lv_room (Nat.le_of_ble_eq_true rfl)) dX4_place_7 rfl (fun H locs hW => ?_) ⟨Nat.zero_le _, Nat.zero_le _⟩
  refine zb_eq (tgt := 17) hx hb (nameP x) rfl dX4_place_10 (by decide) (fun h10 => ?_) (fun h10 => ?_)
  · refine lv_iconst (v := (-1)) hx hb dX4_place_17 (by decide) ?_
    have qr : ((-1) : Int32) = -1 := by simp [bI, h10, cF_sF, cN_sN, cB_sB, cM_sM, cN_sF, cB_sF, cM_sF, cF_sN, cB_sN, cM_sN, cF_sB, cN_sB, cM_sB, cF_sM, cN_sM, cB_sM, mF_smF, mA_smF, mF_smA, mA_smA]
    exact hE hW qr dX4_place_18
  · exact absurd h10 hn

set_option maxHeartbeats 4000000 in
set_option maxRecDepth 100000 in
theorem c_pla_1 (l : Launch) (G : GG) (C : CS) (M : MS) (h12 : zn G ≤ 12) {x : Int32} {t : Nat} (ht : t < zn G) (hn : nameP x) (hI : Iv C) : Ct l G yX4_place cX4_place 4 (some .int) 3 64 [.ref (zad G 0 0), .int x, .int (nI t)] C M (some (.int (oI (lh C t x)))) C M := by
  refine Ct_i (by decide) (Nat.le_of_ble_eq_true rfl) (fun {p e s m args below meth c A Q ls} hC hW hl hE => ?_)
  have hx := hC.1
  have hb := hC.2.1
  have hl : lv_has ls 4 [(0, .ref (zad G 0 0)), (1, .int x), (2, .int (nI t))] := hl
  refine lv_aload_n hx hb dX4_place_0 rfl (lv_at hl 0 rfl) ?_
  refine lv_iload_n hx hb dX4_place_1 rfl (lv_at hl 2 rfl) ?_
  refine z_callV (As := [.int (nI t)]) (rest := []) (st1 := [.ref (zad G 9 t)]) hC hW LL_0 rfl rfl rfl (c_X4_findTape l G C M h12 (t := t) ht) mw_X4_findTape mv_X4_findTape mM_X4_62 ⟨Nat.le_of_ble_eq_true rfl, Nat.le_of_ble_eq_true rfl⟩ rfl rfl hl.1 (lv_room (Nat.le_of_ble_eq_true rfl)) dX4_place_2 rfl (fun H locs hW => ?_) ⟨Nat.zero_le _, Nat.zero_le _⟩
  refine lv_astore_n (lv' := [(3, .ref (zad G 9 t)), (0, .ref (zad G 0 0)), (1, .int x), (2, .int (nI t))]) hx hb dX4_place_5 rfl hl (by decide) rfl (fun ls hl => ?_)
  refine lv_iload_n hx hb dX4_place_6 rfl (lv_at hl 2 rfl) ?_
  refine z_callS (rest := []) (st1 := [.int (bI (nameP x))]) hC hW (c_X4_isName l G C M x) mw_X4_isName mT_X4_isName mM_X4_52 ⟨Nat.le_of_ble_eq_true rfl, Nat.le_of_ble_eq_true rfl⟩ rfl rfl hl.1 (lv_room (Nat.le_of_ble_eq_true rfl)) dX4_place_7 rfl (fun H locs hW => ?_) ⟨Nat.zero_le _, Nat.zero_le _⟩
  refine zb_eq (tgt := 17) hx hb (nameP x) rfl dX4_place_10 (by decide) (fun h10 => ?_) (fun h10 => ?_)
  · exact absurd hn h10
  · refine lv_aload_n hx hb dX4_place_13 rfl (lv_at hl 0 rfl) ?_
    refine lv_ifnonnull (tgt := 19) hx hb dX4_place_14 (by decide) ?_
    refine lv_aload_n hx hb dX4_place_19 rfl (lv_at hl 0 rfl) ?_
    refine lv_iload_n hx hb dX4_place_20 rfl (lv_at hl 2 rfl) ?_
    refine z_callV (As := [.int x]) (rest := []) (st1 := [.int (oI (lh C t x))]) hC hW (LL_9 ht) rfl rfl rfl (c_X3_listedHead l G C M ht hI x) mw_X3_listedHead mv_X3_listedHead mM_X4_77 ⟨Nat.le_of_ble_eq_true rfl, Nat.le_of_ble_eq_true rfl⟩ rfl rfl hl.1 (lv_room (Nat.le_of_ble_eq_true rfl)) dX4_place_21 rfl (fun H locs hW => ?_) ⟨Nat.zero_le _, Nat.zero_le _⟩
    exact hE hW rfl dX4_place_24

theorem c_X4_place (l : Launch) (G : GG) (C : CS) (M : MS) (h12 : zn G ≤ 12) (hI : Iv C) (x y : Int32) : Ct l G yX4_place cX4_place 4 (some .int) 3 64 [.ref (zad G 0 0), .int x, .int y] C M (some (.int (plaT (zn G) C x y))) C M := by
  unfold plaT
  rcases tape_cases h12 y with hb | ⟨t, ht, rfl, hb, htx⟩
  · rw [if_pos hb]; exact c_pla_b l G C M h12 hb
  · rw [if_neg hb, htx]
    by_cases hn : nameP x
    · rw [if_pos hn]; exact c_pla_1 l G C M h12 ht hn hI
    · rw [if_neg hn]; exact c_pla_n l G C M h12 ht hn

set_option maxHeartbeats 4000000 in
set_option maxRecDepth 100000 in
theorem c_blo_b (l : Launch) (G : GG) (C : CS) (M : MS) (h12 : zn G ≤ 12) {x : Int32} (hbx : badT (zn G) x) (y z : Int32) : Ct l G yX4_block cX4_block 5 (some .int) 2 42 [.ref (zad G 0 0), .int x, .int y, .int z] C M (some (.int (-1))) C M := by
  refine Ct_i (by decide) (Nat.le_of_ble_eq_true rfl) (fun {p e s m args below meth c A Q ls} hC hW hl hE => ?_)
  have hx := hC.1
  have hb := hC.2.1
  have hl : lv_has ls 5 [(0, .ref (zad G 0 0)), (1, .int x), (2, .int y), (3, .int z)] := hl
  refine lv_aload_n hx hb dX4_block_0 rfl (lv_at hl 0 rfl) ?_
  refine lv_iload_n hx hb dX4_block_1 rfl (lv_at hl 1 rfl) ?_
  refine z_callV (As := [.int x]) (rest := []) (st1 := [.null]) hC hW LL_0 rfl rfl rfl (c_X4_findTape_n l G C M h12 (x := x) hbx) mw_X4_findTape mv_X4_findTape mM_X4_62 ⟨Nat.le_of_ble_eq_true rfl, Nat.le_of_ble_eq_true rfl⟩ rfl rfl hl.1 (lv_room (Nat.le_of_ble_eq_true rfl)) dX4_block_2 rfl (fun H locs hW => ?_) ⟨Nat.zero_le _, Nat.zero_le _⟩
  refine lv_astoreN (lv' := [(4, .null), (0, .ref (zad G 0 0)), (1, .int x), (2, .int y), (3, .int z)]) hx hb dX4_block_5 hl (by decide) rfl (fun ls hl => ?_)
  refine lv_aloadN hx hb dX4_block_7 (lv_at hl 0 rfl) ?_
  refine lv_ifnullN (tgt := 19) hx hb dX4_block_9 (by decide) ?_
  refine lv_iconst (v := (-1)) hx hb dX4_block_19 (by decide) ?_
  have qr : ((-1) : Int32) = -1 := by simp [bI, cF_sF, cN_sN, cB_sB, cM_sM, cN_sF, cB_sF, cM_sF, cF_sN, cB_sN, cM_sN, cF_sB, cN_sB, cM_sB, cF_sM, cN_sM, cB_sM, mF_smF, mA_smF, mF_smA, mA_smA]
  exact hE hW qr dX4_block_20

set_option maxHeartbeats 4000000 in
set_option maxRecDepth 100000 in
theorem c_blo_p (l : Launch) (G : GG) (C : CS) (M : MS) (h12 : zn G ≤ 12) {t : Nat} (ht : t < zn G) {y : Int32} (hp : ¬ placeP y) (z : Int32) : Ct l G yX4_block cX4_block 5 (some .int) 2 42 [.ref (zad G 0 0), .int (nI t), .int y, .int z] C M (some (.int (-1))) C M := by
  refine Ct_i (by decide) (Nat.le_of_ble_eq_true rfl) (fun {p e s m args below meth c A Q ls} hC hW hl hE => ?_)
  have hx := hC.1
  have hb := hC.2.1
  have hl : lv_has ls 5 [(0, .ref (zad G 0 0)), (1, .int (nI t)), (2, .int y), (3, .int z)] := hl
  refine lv_aload_n hx hb dX4_block_0 rfl (lv_at hl 0 rfl) ?_
  refine lv_iload_n hx hb dX4_block_1 rfl (lv_at hl 1 rfl) ?_
  refine z_callV (As := [.int (nI t)]) (rest := []) (st1 := [.ref (zad G 9 t)]) hC hW LL_0 rfl rfl rfl (c_X4_findTape l G C M h12 (t := t) ht) mw_X4_findTape mv_X4_findTape mM_X4_62 ⟨Nat.le_of_ble_eq_true rfl, Nat.le_of_ble_eq_true rfl⟩ rfl rfl hl.1 (lv_room (Nat.le_of_ble_eq_true rfl)) dX4_block_2 rfl (fun H locs hW => ?_) ⟨Nat.zero_le _, Nat.zero_le _⟩
  refine lv_astore (lv' := [(4, .ref (zad G 9 t)), (0, .ref (zad G 0 0)), (1, .int (nI t)), (2, .int y), (3, .int z)]) hx hb dX4_block_5 hl (by decide) rfl (fun ls hl => ?_)
  refine lv_aload hx hb dX4_block_7 (lv_at hl 0 rfl) ?_
  refine lv_ifnull hx hb dX4_block_9 ?_
  refine lv_iload_n hx hb dX4_block_12 rfl (lv_at hl 3 rfl) ?_
  refine z_callS (rest := []) (st1 := [.int (bI (placeP y))]) hC hW (c_X4_isPlace l G C M y) mw_X4_isPlace mT_X4_isPlace mM_X4_95 ⟨Nat.le_of_ble_eq_true rfl, Nat.le_of_ble_eq_true rfl⟩ rfl rfl hl.1 (lv_room (Nat.le_of_ble_eq_true rfl)) dX4_block_13 rfl (fun H locs hW => ?_) ⟨Nat.zero_le _, Nat.zero_le _⟩
  refine zb_ne (tgt := 21) hx hb (placeP y) rfl dX4_block_16 (by decide) (fun h16 => ?_) (fun h16 => ?_)
  · exact absurd h16 hp
  · refine lv_iconst (v := (-1)) hx hb dX4_block_19 (by decide) ?_
    have qr : ((-1) : Int32) = -1 := by simp [bI, h16, cF_sF, cN_sN, cB_sB, cM_sM, cN_sF, cB_sF, cM_sF, cF_sN, cB_sN, cM_sN, cF_sB, cN_sB, cM_sB, cF_sM, cN_sM, cB_sM, mF_smF, mA_smF, mF_smA, mA_smA]
    exact hE hW qr dX4_block_20

set_option maxHeartbeats 4000000 in
set_option maxRecDepth 100000 in
theorem c_blo_1 (l : Launch) (G : GG) (C : CS) (M : MS) (h12 : zn G ≤ 12) {t a : Nat} (ht : t < zn G) (hI : Iv C) (ha : a < 100) (hp : placeP (nI a)) (w : Int32) : Ct l G yX4_block cX4_block 5 (some .int) 2 42 [.ref (zad G 0 0), .int (nI t), .int (nI a), .int w] C M (some (.int (bloC C t a w))) C M := by
  refine Ct_i (by decide) (Nat.le_of_ble_eq_true rfl) (fun {p e s m args below meth c A Q ls} hC hW hl hE => ?_)
  have hx := hC.1
  have hb := hC.2.1
  have hl : lv_has ls 5 [(0, .ref (zad G 0 0)), (1, .int (nI t)), (2, .int (nI a)), (3, .int w)] := hl
  refine lv_aload_n hx hb dX4_block_0 rfl (lv_at hl 0 rfl) ?_
  refine lv_iload_n hx hb dX4_block_1 rfl (lv_at hl 1 rfl) ?_
  refine z_callV (As := [.int (nI t)]) (rest := []) (st1 := [.ref (zad G 9 t)]) hC hW LL_0 rfl rfl rfl (c_X4_findTape l G C M h12 (t := t) ht) mw_X4_findTape mv_X4_findTape mM_X4_62 ⟨Nat.le_of_ble_eq_true rfl, Nat.le_of_ble_eq_true rfl⟩ rfl rfl hl.1 (lv_room (Nat.le_of_ble_eq_true rfl)) dX4_block_2 rfl (fun H locs hW => ?_) ⟨Nat.zero_le _, Nat.zero_le _⟩
  refine lv_astore (lv' := [(4, .ref (zad G 9 t)), (0, .ref (zad G 0 0)), (1, .int (nI t)), (2, .int (nI a)), (3, .int w)]) hx hb dX4_block_5 hl (by decide) rfl (fun ls hl => ?_)
  refine lv_aload hx hb dX4_block_7 (lv_at hl 0 rfl) ?_
  refine lv_ifnull hx hb dX4_block_9 ?_
  refine lv_iload_n hx hb dX4_block_12 rfl (lv_at hl 3 rfl) ?_
  refine z_callS (rest := []) (st1 := [.int (bI (placeP (nI a)))]) hC hW (c_X4_isPlace l G C M (nI a)) mw_X4_isPlace mT_X4_isPlace mM_X4_95 ⟨Nat.le_of_ble_eq_true rfl, Nat.le_of_ble_eq_true rfl⟩ rfl rfl hl.1 (lv_room (Nat.le_of_ble_eq_true rfl)) dX4_block_13 rfl (fun H locs hW => ?_) ⟨Nat.zero_le _, Nat.zero_le _⟩
  refine zb_ne (tgt := 21) hx hb (placeP (nI a)) rfl dX4_block_16 (by decide) (fun h16 => ?_) (fun h16 => ?_)
  · refine lv_iload_n hx hb dX4_block_21 rfl (lv_at hl 4 rfl) ?_
    rcases sw4 w with rfl | rfl | rfl | rfl | ⟨w0, w1, w2, w3, wn⟩
    · refine lv_tableIn (off := 30) (tgt := 52) hx hb dX4_block_22 (by decide) (by decide) (by decide) (by decide) ?_
      refine lv_aload hx hb dX4_block_52 (lv_at hl 0 rfl) ?_
      refine g9 (k := 1) (v := .ref (zad G 5 t)) hC hW ht (by decide) mF_X4_117 rfl dX4_block_54 ?_
      refine lv_iload_n hx hb dX4_block_57 rfl (lv_at hl 3 rfl) ?_
      refine z_callV (As := [.int (nI a)]) (rest := []) (st1 := [.int (kAt C 6 t a)]) hC hW (LL_5 (Or.inl ht)) rfl rfl rfl (c_X0_kindAt l G C M (Or.inl ht) (hI.1 t) (a := a) (by omega)) mw_X0_kindAt mv_X0_kindAt mM_X4_120 ⟨Nat.le_of_ble_eq_true rfl, Nat.le_of_ble_eq_true rfl⟩ rfl rfl hl.1 (lv_room (Nat.le_of_ble_eq_true rfl)) dX4_block_58 rfl (fun H locs hW => ?_) ⟨Nat.zero_le _, Nat.zero_le _⟩
      have qr : (kAt C 6 t a : Int32) = bloC C t a 0 := by simp [bloC, h16]
      exact hE hW qr dX4_block_61
    · refine lv_tableIn (off := 40) (tgt := 62) hx hb dX4_block_22 (by decide) (by decide) (by decide) (by decide) ?_
      refine lv_aload hx hb dX4_block_62 (lv_at hl 0 rfl) ?_
      refine g9 (k := 1) (v := .ref (zad G 5 t)) hC hW ht (by decide) mF_X4_117 rfl dX4_block_64 ?_
      refine lv_iload_n hx hb dX4_block_67 rfl (lv_at hl 3 rfl) ?_
      refine z_callV (As := [.int (nI a)]) (rest := []) (st1 := [.int (kAt C 7 t a)]) hC hW (LL_5 (Or.inl ht)) rfl rfl rfl (c_X0_valueAt l G C M (Or.inl ht) (hI.1 t) (a := a) (by omega)) mw_X0_valueAt mv_X0_valueAt mM_X4_123 ⟨Nat.le_of_ble_eq_true rfl, Nat.le_of_ble_eq_true rfl⟩ rfl rfl hl.1 (lv_room (Nat.le_of_ble_eq_true rfl)) dX4_block_68 rfl (fun H locs hW => ?_) ⟨Nat.zero_le _, Nat.zero_le _⟩
      have qr : (kAt C 7 t a : Int32) = bloC C t a 1 := by simp [bloC, h16]
      exact hE hW qr dX4_block_71
    · refine lv_tableIn (off := 50) (tgt := 72) hx hb dX4_block_22 (by decide) (by decide) (by decide) (by decide) ?_
      refine lv_aload hx hb dX4_block_72 (lv_at hl 0 rfl) ?_
      refine g9 (k := 1) (v := .ref (zad G 5 t)) hC hW ht (by decide) mF_X4_117 rfl dX4_block_74 ?_
      refine lv_iload_n hx hb dX4_block_77 rfl (lv_at hl 3 rfl) ?_
      refine z_callV (As := [.int (nI a)]) (rest := []) (st1 := [.int (kAt C 8 t a)]) hC hW (LL_5 (Or.inl ht)) rfl rfl rfl (c_X0_sizeAt l G C M (Or.inl ht) (hI.1 t) (a := a) (by omega)) mw_X0_sizeAt mv_X0_sizeAt mM_X4_126 ⟨Nat.le_of_ble_eq_true rfl, Nat.le_of_ble_eq_true rfl⟩ rfl rfl hl.1 (lv_room (Nat.le_of_ble_eq_true rfl)) dX4_block_78 rfl (fun H locs hW => ?_) ⟨Nat.zero_le _, Nat.zero_le _⟩
      have qr : (kAt C 8 t a : Int32) = bloC C t a 2 := by simp [bloC, h16]
      exact hE hW qr dX4_block_81
    · refine lv_tableIn (off := 60) (tgt := 82) hx hb dX4_block_22 (by decide) (by decide) (by decide) (by decide) ?_
      refine lv_aload hx hb dX4_block_82 (lv_at hl 0 rfl) ?_
      refine lv_iload_n hx hb dX4_block_84 rfl (lv_at hl 3 rfl) ?_
      refine z_callV (As := [.int (nI a)]) (rest := []) (st1 := [.int (bI (dmgP C t a))]) hC hW (LL_9 ht) rfl rfl rfl (c_X3_isDamaged l G C M ht (a := a) (by omega)) mw_X3_isDamaged mv_X3_isDamaged mM_X4_129 ⟨Nat.le_of_ble_eq_true rfl, Nat.le_of_ble_eq_true rfl⟩ rfl rfl hl.1 (lv_room (Nat.le_of_ble_eq_true rfl)) dX4_block_85 rfl (fun H locs hW => ?_) ⟨Nat.zero_le _, Nat.zero_le _⟩
      refine zb_eq (tgt := 95) hx hb (dmgP C t a) rfl dX4_block_88 (by decide) (fun h88 => ?_) (fun h88 => ?_)
      · refine lv_iconst (v := 0) hx hb dX4_block_95 (by decide) ?_
        have qr : (0 : Int32) = bloC C t a 3 := by show (0 : Int32) = bI (dmgP C t a); exact bI_f h88
        exact hE hW qr dX4_block_96
      · refine lv_iconst (v := 1) hx hb dX4_block_91 (by decide) ?_
        refine lv_goto (tgt := 96) hx hb dX4_block_92 (by decide) ?_
        have qr : (1 : Int32) = bloC C t a 3 := by show (1 : Int32) = bI (dmgP C t a); exact bI_t h88
        exact hE hW qr dX4_block_96
    · refine lv_tableOut (tgt := 97) hx hb dX4_block_22 wn (by decide) ?_
      refine lv_iconst (v := (-1)) hx hb dX4_block_97 (by decide) ?_
      have qr : ((-1) : Int32) = bloC C t a w := by simp [bloC, w0, w1, w2, w3]
      exact hE hW qr dX4_block_98
  · exact absurd hp h16

theorem c_X4_block (l : Launch) (G : GG) (C : CS) (M : MS) (h12 : zn G ≤ 12) (hI : Iv C) (x y w : Int32) : Ct l G yX4_block cX4_block 5 (some .int) 2 42 [.ref (zad G 0 0), .int x, .int y, .int w] C M (some (.int (bloT (zn G) C x y w))) C M := by
  unfold bloT
  rcases tape_cases h12 x with hb | ⟨t, ht, rfl, hb, htx⟩
  · rw [if_pos hb]; exact c_blo_b l G C M h12 hb y w
  · rw [if_neg hb, htx]
    by_cases hp : placeP y
    · rw [if_pos hp]
      obtain ⟨a, ha, rfl, hax⟩ := place_arg hp
      rw [hax]
      exact c_blo_1 l G C M h12 ht hI ha hp w
    · rw [if_neg hp]; exact c_blo_p l G C M h12 ht hp w

set_option maxHeartbeats 4000000 in
set_option maxRecDepth 100000 in
theorem c_tt_b (l : Launch) (G : GG) (C : CS) (M : MS) (h12 : zn G ≤ 12) {x : Int32} (hbx : badT (zn G) x) (z : Int32) : Ct l G yX4_tapeTold cX4_tapeTold 4 (some .int) 1 21 [.ref (zad G 0 0), .int x, .int z] C M (some (.int (-1))) C M := by
  refine Ct_i (by decide) (Nat.le_of_ble_eq_true rfl) (fun {p e s m args below meth c A Q ls} hC hW hl hE => ?_)
  have hx := hC.1
  have hb := hC.2.1
  have hl : lv_has ls 4 [(0, .ref (zad G 0 0)), (1, .int x), (2, .int z)] := hl
  refine lv_aload_n hx hb dX4_tapeTold_0 rfl (lv_at hl 0 rfl) ?_
  refine lv_iload_n hx hb dX4_tapeTold_1 rfl (lv_at hl 1 rfl) ?_
  refine z_callV (As := [.int x]) (rest := []) (st1 := [.null]) hC hW LL_0 rfl rfl rfl (c_X4_findTape_n l G C M h12 (x := x) hbx) mw_X4_findTape mv_X4_findTape mM_X4_62 ⟨Nat.le_of_ble_eq_true rfl, Nat.le_of_ble_eq_true rfl⟩ rfl rfl hl.1 (lv_room (Nat.le_of_ble_eq_true rfl)) dX4_tapeTold_2 rfl (fun H locs hW => ?_) ⟨Nat.zero_le _, Nat.zero_le _⟩
  refine lv_astore_nN (lv' := [(3, .null), (0, .ref (zad G 0 0)), (1, .int x), (2, .int z)]) hx hb dX4_tapeTold_5 rfl hl (by decide) rfl (fun ls hl => ?_)
  refine lv_aload_nN hx hb dX4_tapeTold_6 rfl (lv_at hl 0 rfl) ?_
  refine lv_ifnonnullN hx hb dX4_tapeTold_7 ?_
  refine lv_iconst (v := (-1)) hx hb dX4_tapeTold_10 (by decide) ?_
  have qr : ((-1) : Int32) = -1 := by simp [bI, cF_sF, cN_sN, cB_sB, cM_sM, cN_sF, cB_sF, cM_sF, cF_sN, cB_sN, cM_sN, cF_sB, cN_sB, cM_sB, cF_sM, cN_sM, cB_sM, mF_smF, mA_smF, mF_smA, mA_smA]
  exact hE hW qr dX4_tapeTold_11

set_option maxHeartbeats 4000000 in
set_option maxRecDepth 100000 in
theorem c_tt_1 (l : Launch) (G : GG) (C : CS) (M : MS) (h12 : zn G ≤ 12) {t : Nat} (ht : t < zn G) (w : Int32) : Ct l G yX4_tapeTold cX4_tapeTold 4 (some .int) 1 21 [.ref (zad G 0 0), .int (nI t), .int w] C M (some (.int (ttC C t w))) C M := by
  refine Ct_i (by decide) (Nat.le_of_ble_eq_true rfl) (fun {p e s m args below meth c A Q ls} hC hW hl hE => ?_)
  have hx := hC.1
  have hb := hC.2.1
  have hl : lv_has ls 4 [(0, .ref (zad G 0 0)), (1, .int (nI t)), (2, .int w)] := hl
  refine lv_aload_n hx hb dX4_tapeTold_0 rfl (lv_at hl 0 rfl) ?_
  refine lv_iload_n hx hb dX4_tapeTold_1 rfl (lv_at hl 1 rfl) ?_
  refine z_callV (As := [.int (nI t)]) (rest := []) (st1 := [.ref (zad G 9 t)]) hC hW LL_0 rfl rfl rfl (c_X4_findTape l G C M h12 (t := t) ht) mw_X4_findTape mv_X4_findTape mM_X4_62 ⟨Nat.le_of_ble_eq_true rfl, Nat.le_of_ble_eq_true rfl⟩ rfl rfl hl.1 (lv_room (Nat.le_of_ble_eq_true rfl)) dX4_tapeTold_2 rfl (fun H locs hW => ?_) ⟨Nat.zero_le _, Nat.zero_le _⟩
  refine lv_astore_n (lv' := [(3, .ref (zad G 9 t)), (0, .ref (zad G 0 0)), (1, .int (nI t)), (2, .int w)]) hx hb dX4_tapeTold_5 rfl hl (by decide) rfl (fun ls hl => ?_)
  refine lv_aload_n hx hb dX4_tapeTold_6 rfl (lv_at hl 0 rfl) ?_
  refine lv_ifnonnull (tgt := 12) hx hb dX4_tapeTold_7 (by decide) ?_
  refine lv_iload_n hx hb dX4_tapeTold_12 rfl (lv_at hl 3 rfl) ?_
  rcases sw4 w with rfl | rfl | rfl | rfl | ⟨w0, w1, w2, w3, wn⟩
  · refine lv_tableIn (off := 31) (tgt := 44) hx hb dX4_tapeTold_13 (by decide) (by decide) (by decide) (by decide) ?_
    refine lv_aload_n hx hb dX4_tapeTold_44 rfl (lv_at hl 0 rfl) ?_
    refine g9 (k := 0) (v := .int (nI (cN C 9 t 0))) hC hW ht (by decide) mF_X4_132 rfl dX4_tapeTold_45 ?_
    have qr : (nI (cN C 9 t 0) : Int32) = ttC C t 0 := by simp [ttC]
    exact hE hW qr dX4_tapeTold_48
  · refine lv_tableIn (off := 36) (tgt := 49) hx hb dX4_tapeTold_13 (by decide) (by decide) (by decide) (by decide) ?_
    refine lv_aload_n hx hb dX4_tapeTold_49 rfl (lv_at hl 0 rfl) ?_
    refine g9 (k := 1) (v := .ref (zad G 5 t)) hC hW ht (by decide) mF_X4_117 rfl dX4_tapeTold_50 ?_
    refine g5 (k := 3) (v := .int (nI (cN C 5 t 3))) hC hW (Or.inl ht) (by decide) mF_X4_66 rfl dX4_tapeTold_53 ?_
    have qr : (nI (cN C 5 t 3) : Int32) = ttC C t 1 := by simp [ttC]
    exact hE hW qr dX4_tapeTold_56
  · refine lv_tableIn (off := 44) (tgt := 57) hx hb dX4_tapeTold_13 (by decide) (by decide) (by decide) (by decide) ?_
    refine lv_aload_n hx hb dX4_tapeTold_57 rfl (lv_at hl 0 rfl) ?_
    refine g9 (k := 4) (v := .int (cF C 9 t 4)) hC hW ht (by decide) mF_X4_135 rfl dX4_tapeTold_58 ?_
    have qr : (cF C 9 t 4 : Int32) = ttC C t 2 := by simp [ttC]
    exact hE hW qr dX4_tapeTold_61
  · refine lv_tableIn (off := 49) (tgt := 62) hx hb dX4_tapeTold_13 (by decide) (by decide) (by decide) (by decide) ?_
    refine lv_aload_n hx hb dX4_tapeTold_62 rfl (lv_at hl 0 rfl) ?_
    refine g9 (k := 5) (v := .int (cF C 9 t 5)) hC hW ht (by decide) mF_X4_138 rfl dX4_tapeTold_63 ?_
    have qr : (cF C 9 t 5 : Int32) = ttC C t 3 := by simp [ttC]
    exact hE hW qr dX4_tapeTold_66
  · refine lv_tableOut (tgt := 67) hx hb dX4_tapeTold_13 wn (by decide) ?_
    refine lv_iconst (v := (-1)) hx hb dX4_tapeTold_67 (by decide) ?_
    have qr : ((-1) : Int32) = ttC C t w := by simp [ttC, w0, w1, w2, w3]
    exact hE hW qr dX4_tapeTold_68

set_option maxHeartbeats 4000000 in
set_option maxRecDepth 100000 in
theorem c_dt_b (l : Launch) (G : GG) (C : CS) (M : MS) {x : Int32} (hbx : badT 3 x) (z : Int32) : Ct l G yX4_driveTold cX4_driveTold 4 (some .int) 1 21 [.ref (zad G 0 0), .int x, .int z] C M (some (.int (-1))) C M := by
  refine Ct_i (by decide) (Nat.le_of_ble_eq_true rfl) (fun {p e s m args below meth c A Q ls} hC hW hl hE => ?_)
  have hx := hC.1
  have hb := hC.2.1
  have hl : lv_has ls 4 [(0, .ref (zad G 0 0)), (1, .int x), (2, .int z)] := hl
  refine lv_aload_n hx hb dX4_driveTold_0 rfl (lv_at hl 0 rfl) ?_
  refine lv_iload_n hx hb dX4_driveTold_1 rfl (lv_at hl 1 rfl) ?_
  refine z_callV (As := [.int x]) (rest := []) (st1 := [.null]) hC hW LL_0 rfl rfl rfl (c_X4_findDrive_n l G C M (x := x) hbx) mw_X4_findDrive mv_X4_findDrive mM_X4_102 ⟨Nat.le_of_ble_eq_true rfl, Nat.le_of_ble_eq_true rfl⟩ rfl rfl hl.1 (lv_room (Nat.le_of_ble_eq_true rfl)) dX4_driveTold_2 rfl (fun H locs hW => ?_) ⟨Nat.zero_le _, Nat.zero_le _⟩
  refine lv_astore_nN (lv' := [(3, .null), (0, .ref (zad G 0 0)), (1, .int x), (2, .int z)]) hx hb dX4_driveTold_5 rfl hl (by decide) rfl (fun ls hl => ?_)
  refine lv_aload_nN hx hb dX4_driveTold_6 rfl (lv_at hl 0 rfl) ?_
  refine lv_ifnonnullN hx hb dX4_driveTold_7 ?_
  refine lv_iconst (v := (-1)) hx hb dX4_driveTold_10 (by decide) ?_
  have qr : ((-1) : Int32) = -1 := by simp [bI, cF_sF, cN_sN, cB_sB, cM_sM, cN_sF, cB_sF, cM_sF, cF_sN, cB_sN, cM_sN, cF_sB, cN_sB, cM_sB, cF_sM, cN_sM, cB_sM, mF_smF, mA_smF, mF_smA, mA_smA]
  exact hE hW qr dX4_driveTold_11

set_option maxHeartbeats 4000000 in
set_option maxRecDepth 100000 in
theorem c_dt_1 (l : Launch) (G : GG) (C : CS) (M : MS) {d : Nat} (hd : d < 3) (w : Int32) : Ct l G yX4_driveTold cX4_driveTold 4 (some .int) 1 21 [.ref (zad G 0 0), .int (nI d), .int w] C M (some (.int (dtC C d w))) C M := by
  refine Ct_i (by decide) (Nat.le_of_ble_eq_true rfl) (fun {p e s m args below meth c A Q ls} hC hW hl hE => ?_)
  have hx := hC.1
  have hb := hC.2.1
  have hl : lv_has ls 4 [(0, .ref (zad G 0 0)), (1, .int (nI d)), (2, .int w)] := hl
  refine lv_aload_n hx hb dX4_driveTold_0 rfl (lv_at hl 0 rfl) ?_
  refine lv_iload_n hx hb dX4_driveTold_1 rfl (lv_at hl 1 rfl) ?_
  refine z_callV (As := [.int (nI d)]) (rest := []) (st1 := [.ref (zad G 3 d)]) hC hW LL_0 rfl rfl rfl (c_X4_findDrive l G C M (d := d) hd) mw_X4_findDrive mv_X4_findDrive mM_X4_102 ⟨Nat.le_of_ble_eq_true rfl, Nat.le_of_ble_eq_true rfl⟩ rfl rfl hl.1 (lv_room (Nat.le_of_ble_eq_true rfl)) dX4_driveTold_2 rfl (fun H locs hW => ?_) ⟨Nat.zero_le _, Nat.zero_le _⟩
  refine lv_astore_n (lv' := [(3, .ref (zad G 3 d)), (0, .ref (zad G 0 0)), (1, .int (nI d)), (2, .int w)]) hx hb dX4_driveTold_5 rfl hl (by decide) rfl (fun ls hl => ?_)
  refine lv_aload_n hx hb dX4_driveTold_6 rfl (lv_at hl 0 rfl) ?_
  refine lv_ifnonnull (tgt := 12) hx hb dX4_driveTold_7 (by decide) ?_
  refine lv_iload_n hx hb dX4_driveTold_12 rfl (lv_at hl 3 rfl) ?_
  rcases sw3 w with rfl | rfl | rfl | ⟨w0, w1, w2, wn⟩
  · refine lv_tableIn (off := 27) (tgt := 40) hx hb dX4_driveTold_13 (by decide) (by decide) (by decide) (by decide) ?_
    refine lv_aload_n hx hb dX4_driveTold_40 rfl (lv_at hl 0 rfl) ?_
    refine g3 (k := 2) (v := .int (cF C 3 d 2)) hC hW hd (by decide) mF_X4_141 rfl dX4_driveTold_41 ?_
    have qr : (cF C 3 d 2 : Int32) = dtC C d 0 := by simp [dtC]
    exact hE hW qr dX4_driveTold_44
  · refine lv_tableIn (off := 32) (tgt := 45) hx hb dX4_driveTold_13 (by decide) (by decide) (by decide) (by decide) ?_
    refine lv_aload_n hx hb dX4_driveTold_45 rfl (lv_at hl 0 rfl) ?_
    refine g3 (k := 3) (v := .int (cF C 3 d 3)) hC hW hd (by decide) mF_X4_144 rfl dX4_driveTold_46 ?_
    have qr : (cF C 3 d 3 : Int32) = dtC C d 1 := by simp [dtC]
    exact hE hW qr dX4_driveTold_49
  · refine lv_tableIn (off := 37) (tgt := 50) hx hb dX4_driveTold_13 (by decide) (by decide) (by decide) (by decide) ?_
    refine lv_aload_n hx hb dX4_driveTold_50 rfl (lv_at hl 0 rfl) ?_
    refine g3 (k := 4) (v := .int (cF C 3 d 4)) hC hW hd (by decide) mF_X4_106 rfl dX4_driveTold_51 ?_
    refine lv_if_eq (tgt := 61) hx hb dX4_driveTold_54 (by decide) (fun h54 => ?_) (fun h54 => ?_)
    · refine lv_iconst (v := 0) hx hb dX4_driveTold_61 (by decide) ?_
      have qr : (0 : Int32) = dtC C d 2 := by simp [dtC, h54]
      exact hE hW qr dX4_driveTold_62
    · refine lv_iconst (v := 1) hx hb dX4_driveTold_57 (by decide) ?_
      refine lv_goto (tgt := 62) hx hb dX4_driveTold_58 (by decide) ?_
      have qr : (1 : Int32) = dtC C d 2 := by simp [dtC, h54]
      exact hE hW qr dX4_driveTold_62
  · refine lv_tableOut (tgt := 63) hx hb dX4_driveTold_13 wn (by decide) ?_
    refine lv_iconst (v := (-1)) hx hb dX4_driveTold_63 (by decide) ?_
    have qr : ((-1) : Int32) = dtC C d w := by simp [dtC, w0, w1, w2]
    exact hE hW qr dX4_driveTold_64

set_option maxHeartbeats 4000000 in
set_option maxRecDepth 100000 in
theorem c_X4_told (l : Launch) (G : GG) (C : CS) (M : MS) (w : Int32) : Ct l G yX4_told cX4_told 2 (some .int) 0 0 [.ref (zad G 0 0), .int w] C M (some (.int (toT C w))) C M := by
  refine Ct_i (by decide) (Nat.le_of_ble_eq_true rfl) (fun {p e s m args below meth c A Q ls} hC hW hl hE => ?_)
  have hx := hC.1
  have hb := hC.2.1
  have hl : lv_has ls 2 [(0, .ref (zad G 0 0)), (1, .int w)] := hl
  refine lv_iload_n hx hb dX4_told_0 rfl (lv_at hl 1 rfl) ?_
  rcases sw5 w with rfl | rfl | rfl | rfl | rfl | ⟨w0, w1, w2, w3, w4, wn⟩
  · refine lv_tableIn (off := 35) (tgt := 36) hx hb dX4_told_1 (by decide) (by decide) (by decide) (by decide) ?_
    refine lv_aload_n hx hb dX4_told_36 rfl (lv_at hl 0 rfl) ?_
    refine g0 (k := 0) (v := .ref (zad G 1 0)) hC hW (by decide) mF_X4_10 rfl dX4_told_37 ?_
    refine g1 (k := 0) (v := .int (cF C 1 0 0)) hC hW (by decide) mF_X4_147 rfl dX4_told_40 ?_
    have qr : (cF C 1 0 0 : Int32) = toT C 0 := by simp [toT]
    exact hE hW qr dX4_told_43
  · refine lv_tableIn (off := 43) (tgt := 44) hx hb dX4_told_1 (by decide) (by decide) (by decide) (by decide) ?_
    refine lv_aload_n hx hb dX4_told_44 rfl (lv_at hl 0 rfl) ?_
    refine g0 (k := 0) (v := .ref (zad G 1 0)) hC hW (by decide) mF_X4_10 rfl dX4_told_45 ?_
    refine g1 (k := 1) (v := .int (cF C 1 0 1)) hC hW (by decide) mF_X4_150 rfl dX4_told_48 ?_
    have qr : (cF C 1 0 1 : Int32) = toT C 1 := by simp [toT]
    exact hE hW qr dX4_told_51
  · refine lv_tableIn (off := 51) (tgt := 52) hx hb dX4_told_1 (by decide) (by decide) (by decide) (by decide) ?_
    refine lv_aload_n hx hb dX4_told_52 rfl (lv_at hl 0 rfl) ?_
    refine g0 (k := 5) (v := .int (cF C 0 0 5)) hC hW (by decide) mF_X4_153 rfl dX4_told_53 ?_
    have qr : (cF C 0 0 5 : Int32) = toT C 2 := by simp [toT]
    exact hE hW qr dX4_told_56
  · refine lv_tableIn (off := 56) (tgt := 57) hx hb dX4_told_1 (by decide) (by decide) (by decide) (by decide) ?_
    refine lv_aload_n hx hb dX4_told_57 rfl (lv_at hl 0 rfl) ?_
    refine g0 (k := 6) (v := .int (cF C 0 0 6)) hC hW (by decide) mF_X4_156 rfl dX4_told_58 ?_
    have qr : (cF C 0 0 6 : Int32) = toT C 3 := by simp [toT]
    exact hE hW qr dX4_told_61
  · refine lv_tableIn (off := 61) (tgt := 62) hx hb dX4_told_1 (by decide) (by decide) (by decide) (by decide) ?_
    refine lv_aload_n hx hb dX4_told_62 rfl (lv_at hl 0 rfl) ?_
    refine g0 (k := 0) (v := .ref (zad G 1 0)) hC hW (by decide) mF_X4_10 rfl dX4_told_63 ?_
    refine g1 (k := 2) (v := .int (cF C 1 0 2)) hC hW (by decide) mF_X4_114 rfl dX4_told_66 ?_
    have qr : (cF C 1 0 2 : Int32) = toT C 4 := by simp [toT]
    exact hE hW qr dX4_told_69
  · refine lv_tableOut (tgt := 70) hx hb dX4_told_1 wn (by decide) ?_
    refine lv_iconst (v := (-1)) hx hb dX4_told_70 (by decide) ?_
    have qr : ((-1) : Int32) = toT C w := by simp [toT, w0, w1, w2, w3, w4]
    exact hE hW qr dX4_told_71

set_option maxHeartbeats 4000000 in
set_option maxRecDepth 100000 in
theorem c_X4_fold (l : Launch) (G : GG) (C : CS) (M : MS)  : Ct l G yX4_fold cX4_fold 1 (some .int) 0 0 [.ref (zad G 0 0)] C M (some (.int (cF C 0 0 7))) C M := by
  refine Ct_i (by decide) (Nat.le_of_ble_eq_true rfl) (fun {p e s m args below meth c A Q ls} hC hW hl hE => ?_)
  have hx := hC.1
  have hb := hC.2.1
  have hl : lv_has ls 1 [(0, .ref (zad G 0 0))] := hl
  refine lv_aload_n hx hb dX4_fold_0 rfl (lv_at hl 0 rfl) ?_
  refine g0 (k := 7) (v := .int (cF C 0 0 7)) hC hW (by decide) mF_X4_40 rfl dX4_fold_1 ?_
  exact hE hW rfl dX4_fold_4

theorem c_X4_tapeTold (l : Launch) (G : GG) (C : CS) (M : MS) (h12 : zn G ≤ 12) (x w : Int32) : Ct l G yX4_tapeTold cX4_tapeTold 4 (some .int) 1 21 [.ref (zad G 0 0), .int x, .int w] C M (some (.int (ttT (zn G) C x w))) C M := by
  unfold ttT
  rcases tape_cases h12 x with hb | ⟨t, ht, rfl, hb, htx⟩
  · rw [if_pos hb]; exact c_tt_b l G C M h12 hb w
  · rw [if_neg hb, htx]; exact c_tt_1 l G C M h12 ht w
theorem c_X4_driveTold (l : Launch) (G : GG) (C : CS) (M : MS) (x w : Int32) : Ct l G yX4_driveTold cX4_driveTold 4 (some .int) 1 21 [.ref (zad G 0 0), .int x, .int w] C M (some (.int (dtT C x w))) C M := by
  unfold dtT
  rcases drive_cases x with hb | ⟨d, hd, rfl, hb, hdx⟩
  · rw [if_pos hb]; exact c_dt_b l G C M hb w
  · rw [if_neg hb, hdx]; exact c_dt_1 l G C M hd w

set_option maxHeartbeats 4000000 in
set_option maxRecDepth 100000 in
theorem c_sta_n (l : Launch) (G : GG) (C : CS) (M : MS) {x : Int32} (hn : ¬ nameP x) (z sd sp : Int32) : Ct l G yX4_stage cX4_stage 6 (some .int) 2 43 [.ref (zad G 0 0), .int x, .int z, .int sd, .int sp] C M (some (.int (-1))) C M := by
  refine Ct_i (by decide) (Nat.le_of_ble_eq_true rfl) (fun {p e s m args below meth c A Q ls} hC hW hl hE => ?_)
  have hx := hC.1
  have hb := hC.2.1
  have hl : lv_has ls 6 [(0, .ref (zad G 0 0)), (1, .int x), (2, .int z), (3, .int sd), (4, .int sp)] := hl
  refine lv_iload_n hx hb dX4_stage_0 rfl (lv_at hl 1 rfl) ?_
  refine z_callS (rest := []) (st1 := [.int (bI (nameP x))]) hC hW (c_X4_isName l G C M x) mw_X4_isName mT_X4_isName mM_X4_52 ⟨Nat.le_of_ble_eq_true rfl, Nat.le_of_ble_eq_true rfl⟩ rfl rfl hl.1 (lv_room (Nat.le_of_ble_eq_true rfl)) dX4_stage_1 rfl (fun H locs hW => ?_) ⟨Nat.zero_le _, Nat.zero_le _⟩
  refine zb_eq (tgt := 18) hx hb (nameP x) rfl dX4_stage_4 (by decide) (fun h4 => ?_) (fun h4 => ?_)
  · refine lv_iconst (v := (-1)) hx hb dX4_stage_18 (by decide) ?_
    have qr : ((-1) : Int32) = -1 := by simp [bI, h4, cF_sF, cN_sN, cB_sB, cM_sM, cN_sF, cB_sF, cM_sF, cF_sN, cB_sN, cM_sN, cF_sB, cN_sB, cM_sB, cF_sM, cN_sM, cB_sM, mF_smF, mA_smF, mF_smA, mA_smA]
    exact hE hW qr dX4_stage_19
  · exact absurd h4 hn

set_option maxHeartbeats 4000000 in
set_option maxRecDepth 100000 in
theorem c_sta_s (l : Launch) (G : GG) (C : CS) (M : MS) {x : Int32} (hn : nameP x) {z : Int32} (hz : z < 1 ∨ 30 < z) (sd sp : Int32) : Ct l G yX4_stage cX4_stage 6 (some .int) 2 43 [.ref (zad G 0 0), .int x, .int z, .int sd, .int sp] C M (some (.int (-1))) C M := by
  refine Ct_i (by decide) (Nat.le_of_ble_eq_true rfl) (fun {p e s m args below meth c A Q ls} hC hW hl hE => ?_)
  have hx := hC.1
  have hb := hC.2.1
  have hl : lv_has ls 6 [(0, .ref (zad G 0 0)), (1, .int x), (2, .int z), (3, .int sd), (4, .int sp)] := hl
  refine lv_iload_n hx hb dX4_stage_0 rfl (lv_at hl 1 rfl) ?_
  refine z_callS (rest := []) (st1 := [.int (bI (nameP x))]) hC hW (c_X4_isName l G C M x) mw_X4_isName mT_X4_isName mM_X4_52 ⟨Nat.le_of_ble_eq_true rfl, Nat.le_of_ble_eq_true rfl⟩ rfl rfl hl.1 (lv_room (Nat.le_of_ble_eq_true rfl)) dX4_stage_1 rfl (fun H locs hW => ?_) ⟨Nat.zero_le _, Nat.zero_le _⟩
  refine zb_eq (tgt := 18) hx hb (nameP x) rfl dX4_stage_4 (by decide) (fun h4 => ?_) (fun h4 => ?_)
  · exact absurd hn h4
  · refine lv_iload_n hx hb dX4_stage_7 rfl (lv_at hl 2 rfl) ?_
    refine lv_iconst (v := 1) hx hb dX4_stage_8 (by decide) ?_
    refine lv_icmp_lt (tgt := 18) hx hb dX4_stage_9 (by decide) (fun h9 => ?_) (fun h9 => ?_)
    · refine lv_iconst (v := (-1)) hx hb dX4_stage_18 (by decide) ?_
      have qr : ((-1) : Int32) = -1 := by simp [bI, h4, h9, cF_sF, cN_sN, cB_sB, cM_sM, cN_sF, cB_sF, cM_sF, cF_sN, cB_sN, cM_sN, cF_sB, cN_sB, cM_sB, cF_sM, cN_sM, cB_sM, mF_smF, mA_smF, mF_smA, mA_smA]
      exact hE hW qr dX4_stage_19
    · refine lv_iload_n hx hb dX4_stage_12 rfl (lv_at hl 2 rfl) ?_
      refine lv_bipush (v := 30) hx hb dX4_stage_13 (by decide) ?_
      refine lv_icmp_le (tgt := 20) hx hb dX4_stage_15 (by decide) (fun h15 => ?_) (fun h15 => ?_)
      · exact absurd h15 (hz.elim (fun q => absurd q h9) (fun q => Int32.not_le.mpr q))
      · refine lv_iconst (v := (-1)) hx hb dX4_stage_18 (by decide) ?_
        have qr : ((-1) : Int32) = -1 := by simp [bI, h4, h9, h15, cF_sF, cN_sN, cB_sB, cM_sM, cN_sF, cB_sF, cM_sF, cF_sN, cB_sN, cM_sN, cF_sB, cN_sB, cM_sB, cF_sM, cN_sM, cB_sM, mF_smF, mA_smF, mF_smA, mA_smA]
        exact hE hW qr dX4_stage_19

theorem Iv_clr {C : CS} (hI : Iv C) : Iv (sN C 5 12 3 0) := by
  refine ⟨fun b => ?_, hI.2.1, fun t => ?_⟩
  · rw [cN_sN]; split
    · omega
    · exact hI.1 b
  · rw [cN_sN, if_neg (by omega)]; exact hI.2.2 t

set_option maxHeartbeats 4000000 in
set_option maxRecDepth 100000 in
theorem c_sta_1 (l : Launch) (G : GG) (C : CS) (M : MS) {x : Int32} (hn : nameP x) (hI : Iv C) {n : Nat} (h1 : 1 ≤ n) (h2 : n ≤ 30) (sd sp : Int32) : Ct l G yX4_stage cX4_stage 6 (some .int) 2 43 [.ref (zad G 0 0), .int x, .int (nI n), .int sd, .int sp] C M (some (.int (nI n))) (staC C x n sd sp) M := by
  refine Ct_i (by decide) (Nat.le_of_ble_eq_true rfl) (fun {p e s m args below meth c A Q ls} hC hW hl hE => ?_)
  have hx := hC.1
  have hb := hC.2.1
  have hl : lv_has ls 6 [(0, .ref (zad G 0 0)), (1, .int x), (2, .int (nI n)), (3, .int sd), (4, .int sp)] := hl
  refine lv_iload_n hx hb dX4_stage_0 rfl (lv_at hl 1 rfl) ?_
  refine z_callS (rest := []) (st1 := [.int (bI (nameP x))]) hC hW (c_X4_isName l G C M x) mw_X4_isName mT_X4_isName mM_X4_52 ⟨Nat.le_of_ble_eq_true rfl, Nat.le_of_ble_eq_true rfl⟩ rfl rfl hl.1 (lv_room (Nat.le_of_ble_eq_true rfl)) dX4_stage_1 rfl (fun H locs hW => ?_) ⟨Nat.zero_le _, Nat.zero_le _⟩
  refine zb_eq (tgt := 18) hx hb (nameP x) rfl dX4_stage_4 (by decide) (fun h4 => ?_) (fun h4 => ?_)
  · exact absurd hn h4
  · refine lv_iload_n hx hb dX4_stage_7 rfl (lv_at hl 2 rfl) ?_
    refine lv_iconst (v := 1) hx hb dX4_stage_8 (by decide) ?_
    refine zc_lt (i := n) (j := 1) (tgt := 18) hx hb rfl rfl (by omega) (by omega) dX4_stage_9 (by decide) (fun h9 => ?_) (fun h9 => ?_)
    · exact absurd h9 (by omega)
    · refine lv_iload_n hx hb dX4_stage_12 rfl (lv_at hl 2 rfl) ?_
      refine lv_bipush (v := 30) hx hb dX4_stage_13 (by decide) ?_
      refine zc_le (i := n) (j := 30) (tgt := 20) hx hb rfl rfl (by omega) (by omega) dX4_stage_15 (by decide) (fun h15 => ?_) (fun h15 => ?_)
      · refine lv_aload_n hx hb dX4_stage_20 rfl (lv_at hl 0 rfl) ?_
        refine g0 (k := 3) (v := .ref (zad G 5 12)) hC hW (by decide) mF_X4_36 rfl dX4_stage_21 ?_
        refine z_callV (As := []) (rest := []) (st1 := []) hC hW (LL_5 (Or.inr rfl)) rfl rfl rfl (c_X0_clear l G C M (b := 12) (Or.inr rfl)) mw_X0_clear mv_X0_clear mM_X4_55 ⟨Nat.le_of_ble_eq_true rfl, Nat.le_of_ble_eq_true rfl⟩ rfl rfl hl.1 (lv_room (Nat.le_of_ble_eq_true rfl)) dX4_stage_24 rfl (fun H locs hW => ?_) ⟨Nat.zero_le _, Nat.zero_le _⟩
        obtain ⟨C1, eC1⟩ : ∃ z, z = sN C 5 12 3 0 := ⟨_, rfl⟩
        rw [← eC1] at hW
        have hI1 : Iv C1 := by rw [eC1]; exact Iv_clr hI
        refine lv_aload_n hx hb dX4_stage_27 rfl (lv_at hl 0 rfl) ?_
        refine g0 (k := 3) (v := .ref (zad G 5 12)) hC hW (by decide) mF_X4_36 rfl dX4_stage_28 ?_
        refine lv_iconst (v := 1) hx hb dX4_stage_31 (by decide) ?_
        refine lv_iload_n hx hb dX4_stage_32 rfl (lv_at hl 1 rfl) ?_
        refine lv_iload_n hx hb dX4_stage_33 rfl (lv_at hl 2 rfl) ?_
        refine z_callV (As := [.int 1, .int x, .int (nI n)]) (rest := []) (st1 := []) hC hW (LL_5 (Or.inr rfl)) rfl rfl rfl (c_X0_add l G C1 M (b := 12) (Or.inr rfl) (hI1.1 12) 1 x (nI n)) mw_X0_add mv_X0_add mM_X4_58 ⟨Nat.le_of_ble_eq_true rfl, Nat.le_of_ble_eq_true rfl⟩ rfl rfl hl.1 (lv_room (Nat.le_of_ble_eq_true rfl)) dX4_stage_34 rfl (fun H locs hW => ?_) ⟨Nat.zero_le _, Nat.zero_le _⟩
        obtain ⟨C2, eC2⟩ : ∃ z, z = addC C1 12 1 x (nI n) := ⟨_, rfl⟩
        rw [← eC2] at hW
        refine lv_iconst (v := 0) hx hb dX4_stage_37 (by decide) ?_
        refine lv_istore (lv' := [(5, .int 0), (0, .ref (zad G 0 0)), (1, .int x), (2, .int (nI n)), (3, .int sd), (4, .int sp)]) hx hb dX4_stage_38 hl (by decide) rfl (fun ls hl => ?_)
        have lp : ∀ (k : Nat) (j : Nat) (Cj : CS), j + k = n → Iv Cj → stL sd sp k j Cj = stL sd sp n 0 (addC (sN C 5 12 3 0) 12 1 x (nI n)) → ∀ (H : Heap) (locs : List Loc) (ls : Array Slot), Wd G s A s.heap H locs Cj M → lv_has ls 6 [(0, .ref (zad G 0 0)), (1, .int x), (2, .int (nI n)), (3, .int sd), (4, .int sp), (5, .int (nI j))] → W p l e { frames := 2, cells := 0, slots := 0, locals := 43 } s m args below meth c H locs 0 0 Q (F0 m 40 ls []) := by
          intro k
          induction k with
          | zero =>
            intro j Cj hk hIj hD H locs ls hW hl
            refine lv_iload hx hb dX4_stage_40 (lv_at hl 5 rfl) ?_
            refine lv_iload_n hx hb dX4_stage_42 rfl (lv_at hl 2 rfl) ?_
            refine zc_ge (i := j) (j := n) (tgt := 68) hx hb rfl rfl (by omega) (by omega) dX4_stage_43 (by decide) (fun h43 => ?_) (fun h43 => ?_)
            · refine lv_aload_n hx hb dX4_stage_68 rfl (lv_at hl 0 rfl) ?_
              refine g0 (k := 3) (v := .ref (zad G 5 12)) hC hW (by decide) mF_X4_36 rfl dX4_stage_69 ?_
              refine lv_iconst (v := 3) hx hb dX4_stage_72 (by decide) ?_
              refine lv_iconst (v := 0) hx hb dX4_stage_73 (by decide) ?_
              refine lv_iconst (v := 0) hx hb dX4_stage_74 (by decide) ?_
              refine z_callV (As := [.int 3, .int 0, .int 0]) (rest := []) (st1 := []) hC hW (LL_5 (Or.inr rfl)) rfl rfl rfl (c_X0_add l G Cj M (b := 12) (Or.inr rfl) (hIj.1 12) 3 0 0) mw_X0_add mv_X0_add mM_X4_58 ⟨Nat.le_of_ble_eq_true rfl, Nat.le_of_ble_eq_true rfl⟩ rfl rfl hl.1 (lv_room (Nat.le_of_ble_eq_true rfl)) dX4_stage_75 rfl (fun H locs hW => ?_) ⟨Nat.zero_le _, Nat.zero_le _⟩
              obtain ⟨C3, eC3⟩ : ∃ z, z = addC Cj 12 3 0 0 := ⟨_, rfl⟩
              rw [← eC3] at hW
              refine lv_iload_n hx hb dX4_stage_78 rfl (lv_at hl 2 rfl) ?_
              have hD2 : staC C x n sd sp = C3 := by unfold staC; rw [← hD, eC3]; rfl
              rw [hD2] at hE
              exact hE hW rfl dX4_stage_79
            · exact absurd h43 (by omega)
          | succ k ih =>
            intro j Cj hk hIj hD H locs ls hW hl
            refine lv_iload hx hb dX4_stage_40 (lv_at hl 5 rfl) ?_
            refine lv_iload_n hx hb dX4_stage_42 rfl (lv_at hl 2 rfl) ?_
            refine zc_ge (i := j) (j := n) (tgt := 68) hx hb rfl rfl (by omega) (by omega) dX4_stage_43 (by decide) (fun h43 => ?_) (fun h43 => ?_)
            · exact absurd h43 (by omega)
            · refine lv_aload_n hx hb dX4_stage_46 rfl (lv_at hl 0 rfl) ?_
              refine g0 (k := 3) (v := .ref (zad G 5 12)) hC hW (by decide) mF_X4_36 rfl dX4_stage_47 ?_
              refine lv_iconst (v := 2) hx hb dX4_stage_50 (by decide) ?_
              refine lv_iload_n hx hb dX4_stage_51 rfl (lv_at hl 3 rfl) ?_
              refine lv_iload hx hb dX4_stage_52 (lv_at hl 5 rfl) ?_
              refine lv_iload hx hb dX4_stage_54 (lv_at hl 4 rfl) ?_
              refine lv_imul hx hb dX4_stage_56 ?_
              refine lv_iadd hx hb dX4_stage_57 ?_
              refine lv_iconst (v := 0) hx hb dX4_stage_58 (by decide) ?_
              refine z_callV (As := [.int 2, .int (sd + ((nI j) * sp)), .int 0]) (rest := []) (st1 := []) hC hW (LL_5 (Or.inr rfl)) rfl rfl rfl (c_X0_add l G Cj M (b := 12) (Or.inr rfl) (hIj.1 12) 2 (sd + ((nI j) * sp)) 0) mw_X0_add mv_X0_add mM_X4_58 ⟨Nat.le_of_ble_eq_true rfl, Nat.le_of_ble_eq_true rfl⟩ rfl rfl hl.1 (lv_room (Nat.le_of_ble_eq_true rfl)) dX4_stage_59 rfl (fun H locs hW => ?_) ⟨Nat.zero_le _, Nat.zero_le _⟩
              obtain ⟨C4, eC4⟩ : ∃ z, z = addC Cj 12 2 (sd + ((nI j) * sp)) 0 := ⟨_, rfl⟩
              rw [← eC4] at hW
              refine lv_iinc (k := 5) (v := nI (j + 1)) (lv' := [(5, .int (nI (j + 1))), (0, .ref (zad G 0 0)), (1, .int x), (2, .int (nI n)), (3, .int sd), (4, .int sp)]) hx hb dX4_stage_62 hl rfl (nI_inc _) (by decide) rfl (fun ls hl => ?_)
              refine lv_goto (tgt := 40) hx hb dX4_stage_65 (by decide) ?_
              exact ih (j + 1) C4 (by omega) (by rw [eC4]; exact Iv_add hIj ⟨rfl, by decide⟩) (by rw [← hD, stL, eC4]) _ _ _ hW (lv_sub hl [1, 2, 3, 4, 5, 0] rfl)
        exact lp n 0 C2 (by omega) (by rw [eC2]; exact Iv_add hI1 ⟨by rw [nI_clamp (by omega)], by rw [nI_clamp (by omega)]; omega⟩) (by rw [eC2, eC1]) _ _ _ hW (lv_sub hl [1, 2, 3, 4, 5, 0] rfl)
      · exact absurd h15 (by omega)

theorem c_X4_stage (l : Launch) (G : GG) (C : CS) (M : MS) (hI : Iv C) (x z sd sp : Int32) : Ct l G yX4_stage cX4_stage 6 (some .int) 2 43 [.ref (zad G 0 0), .int x, .int z, .int sd, .int sp] C M (some (.int (staT C x z sd sp).1)) (staT C x z sd sp).2 M := by
  unfold staT
  by_cases hn : nameP x
  · rw [if_pos hn]
    by_cases hz : z < 1 ∨ 30 < z
    · rw [if_pos hz]; exact c_sta_s l G C M hn hz sd sp
    · rw [if_neg hz]
      rcases pk_ix z (n := 31) (by decide) with q | q | ⟨n, h31, rfl⟩
      · exact absurd (Or.inl (Int32.lt_trans q (by decide))) hz
      · exact absurd (Or.inr (Int32.lt_of_lt_of_le (by decide) q)) hz
      · have h1 : 1 ≤ n := by
          refine Nat.pos_of_ne_zero (fun q => hz (Or.inl ?_)); subst q; decide
        rw [tN_nI (show n < 2 ^ 31 by omega)]
        exact c_sta_1 l G C M hn hI h1 (by omega) sd sp
  · rw [if_neg hn]; exact c_sta_n l G C M hn z sd sp
end
