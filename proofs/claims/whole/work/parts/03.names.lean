/-! names, fields, words: by a program of mine out of the printed claim -/
def cn_D : String := "JournaledFiles$Disk"
def ft_D : u_T := fun k => match k with
  | 0 => ("JournaledFiles$Disk", "state", "[I", true)
  | _ => ("JournaledFiles$Disk", "committed", "[I", true)
def fy_D : Nat → FieldType := fun k => match k with
  | 0 => .array .int
  | _ => .array .int
theorem fn_D : ∀ a, a < 2 → ∀ b, b < 2 → a ≠ b → (ft_D a).2.1 ≠ (ft_D b).2.1 := by decide +kernel
theorem fo_D : ∀ k, k < 2 → parseFieldDescriptor (ft_D k).2.2.1 = some (fy_D k) := by decide +kernel
def cn_H : String := "JournaledFiles$Handle"
def ft_H : u_T := fun k => match k with
  | 0 => ("JournaledFiles$Handle", "isOpen", "Z", false)
  | 1 => ("JournaledFiles$Handle", "inode", "I", false)
  | 2 => ("JournaledFiles$Handle", "generation", "I", false)
  | 3 => ("JournaledFiles$Handle", "mode", "I", false)
  | _ => ("JournaledFiles$Handle", "position", "I", false)
def fy_H : Nat → FieldType := fun k => match k with
  | 0 => .boolean
  | 1 => .int
  | 2 => .int
  | 3 => .int
  | _ => .int
theorem fn_H : ∀ a, a < 5 → ∀ b, b < 5 → a ≠ b → (ft_H a).2.1 ≠ (ft_H b).2.1 := by decide +kernel
theorem fo_H : ∀ k, k < 5 → parseFieldDescriptor (ft_H k).2.2.1 = some (fy_H k) := by decide +kernel
def cn_I : String := "JournaledFiles$Inodes"
def ft_I : u_T := fun k => match k with
  | _ => ("JournaledFiles$Inodes", "disk", "LJournaledFiles$Disk;", true)
def fy_I : Nat → FieldType := fun k => match k with
  | _ => .object "JournaledFiles$Disk"
theorem fn_I : ∀ a, a < 1 → ∀ b, b < 1 → a ≠ b → (ft_I a).2.1 ≠ (ft_I b).2.1 := by decide +kernel
theorem fo_I : ∀ k, k < 1 → parseFieldDescriptor (ft_I k).2.2.1 = some (fy_I k) := by decide +kernel
def cn_J : String := "JournaledFiles"
def ft_J : u_T := fun k => match k with
  | 0 => ("JournaledFiles", "disk", "LJournaledFiles$Disk;", true)
  | 1 => ("JournaledFiles", "inodes", "LJournaledFiles$Inodes;", true)
  | 2 => ("JournaledFiles", "handles", "[LJournaledFiles$Handle;", true)
  | 3 => ("JournaledFiles", "writesToCut", "I", false)
  | 4 => ("JournaledFiles", "writesDone", "I", false)
  | _ => ("JournaledFiles", "timesOff", "I", false)
def fy_J : Nat → FieldType := fun k => match k with
  | 0 => .object "JournaledFiles$Disk"
  | 1 => .object "JournaledFiles$Inodes"
  | 2 => .array (.object "JournaledFiles$Handle")
  | 3 => .int
  | 4 => .int
  | _ => .int
theorem fn_J : ∀ a, a < 6 → ∀ b, b < 6 → a ≠ b → (ft_J a).2.1 ≠ (ft_J b).2.1 := by decide +kernel
theorem fo_J : ∀ k, k < 6 → parseFieldDescriptor (ft_J k).2.2.1 = some (fy_J k) := by decide +kernel
def cn_M : String := "JournaledFilesModel"
def ft_M : u_T := fun k => match k with
  | 0 => ("JournaledFilesModel", "kind", "[I", true)
  | 1 => ("JournaledFilesModel", "size", "[I", true)
  | 2 => ("JournaledFilesModel", "generation", "[I", true)
  | 3 => ("JournaledFilesModel", "blocks", "[I", true)
  | 4 => ("JournaledFilesModel", "bytes", "[I", true)
  | 5 => ("JournaledFilesModel", "inode", "[I", true)
  | 6 => ("JournaledFilesModel", "born", "[I", true)
  | 7 => ("JournaledFilesModel", "mode", "[I", true)
  | 8 => ("JournaledFilesModel", "place", "[I", true)
  | 9 => ("JournaledFilesModel", "cut", "I", false)
  | 10 => ("JournaledFilesModel", "writes", "I", false)
  | 11 => ("JournaledFilesModel", "offs", "I", false)
  | 12 => ("JournaledFilesModel", "thrown", "I", false)
  | 13 => ("JournaledFilesModel", "parent", "I", false)
  | 14 => ("JournaledFilesModel", "entry", "I", false)
  | 15 => ("JournaledFilesModel", "found", "I", false)
  | _ => ("JournaledFilesModel", "last", "I", false)
def fy_M : Nat → FieldType := fun k => match k with
  | 0 => .array .int
  | 1 => .array .int
  | 2 => .array .int
  | 3 => .array .int
  | 4 => .array .int
  | 5 => .array .int
  | 6 => .array .int
  | 7 => .array .int
  | 8 => .array .int
  | 9 => .int
  | 10 => .int
  | 11 => .int
  | 12 => .int
  | 13 => .int
  | 14 => .int
  | 15 => .int
  | _ => .int
theorem fn_M : ∀ a, a < 17 → ∀ b, b < 17 → a ≠ b → (ft_M a).2.1 ≠ (ft_M b).2.1 := by decide +kernel
theorem fo_M : ∀ k, k < 17 → parseFieldDescriptor (ft_M k).2.2.1 = some (fy_M k) := by decide +kernel
def cn_L : String := "JournaledFilesLaw"
def yn_J_init : MethodName := ⟨cn_J, "<init>", "()V"⟩
abbrev cd_J_init : ByteArray := prog_1_method_1_code
def yn_D_init : MethodName := ⟨cn_D, "<init>", "()V"⟩
abbrev cd_D_init : ByteArray := prog_2_method_1_code
def yn_D_mark : MethodName := ⟨cn_D, "mark", "(IZ)V"⟩
abbrev cd_D_mark : ByteArray := prog_2_method_6_code
def yn_D_get : MethodName := ⟨cn_D, "get", "(I)I"⟩
abbrev cd_D_get : ByteArray := prog_2_method_2_code
def yn_D_put : MethodName := ⟨cn_D, "put", "(II)V"⟩
abbrev cd_D_put : ByteArray := prog_2_method_4_code
def yn_I_init : MethodName := ⟨cn_I, "<init>", "(LJournaledFiles$Disk;)V"⟩
abbrev cd_I_init : ByteArray := prog_4_method_1_code
def yn_H_init : MethodName := ⟨cn_H, "<init>", "()V"⟩
abbrev cd_H_init : ByteArray := prog_3_method_1_code
def yn_I_occupy : MethodName := ⟨cn_I, "occupy", "(II)V"⟩
abbrev cd_I_occupy : ByteArray := prog_4_method_10_code
def yn_I_putField : MethodName := ⟨cn_I, "putField", "(III)V"⟩
abbrev cd_I_putField : ByteArray := prog_4_method_3_code
def yn_I_generation : MethodName := ⟨cn_I, "generation", "(I)I"⟩
abbrev cd_I_generation : ByteArray := prog_4_method_6_code
def yn_I_field : MethodName := ⟨cn_I, "field", "(II)I"⟩
abbrev cd_I_field : ByteArray := prog_4_method_2_code
def yn_D_keep : MethodName := ⟨cn_D, "keep", "()V"⟩
abbrev cd_D_keep : ByteArray := prog_2_method_12_code
def yn_J_crash : MethodName := ⟨cn_J, "crash", "()V"⟩
abbrev cd_J_crash : ByteArray := prog_1_method_15_code
def yn_J_losePower : MethodName := ⟨cn_J, "losePower", "()V"⟩
abbrev cd_J_losePower : ByteArray := prog_1_method_39_code
def yn_D_goBack : MethodName := ⟨cn_D, "goBack", "()V"⟩
abbrev cd_D_goBack : ByteArray := prog_2_method_13_code
def yn_J_count : MethodName := ⟨cn_J, "count", "(I)I"⟩
abbrev cd_J_count : ByteArray := prog_1_method_17_code
def yn_D_freeBlocks : MethodName := ⟨cn_D, "freeBlocks", "()I"⟩
abbrev cd_D_freeBlocks : ByteArray := prog_2_method_7_code
def yn_D_isUsed : MethodName := ⟨cn_D, "isUsed", "(I)Z"⟩
abbrev cd_D_isUsed : ByteArray := prog_2_method_5_code
def yn_I_freeInodes : MethodName := ⟨cn_I, "freeInodes", "()I"⟩
abbrev cd_I_freeInodes : ByteArray := prog_4_method_8_code
def yn_I_kind : MethodName := ⟨cn_I, "kind", "(I)I"⟩
abbrev cd_I_kind : ByteArray := prog_4_method_4_code
def yn_J_openHandles : MethodName := ⟨cn_J, "openHandles", "()I"⟩
abbrev cd_J_openHandles : ByteArray := prog_1_method_37_code
def yn_D_differingBlocks : MethodName := ⟨cn_D, "differingBlocks", "()I"⟩
abbrev cd_D_differingBlocks : ByteArray := prog_2_method_10_code
def yn_D_differs : MethodName := ⟨cn_D, "differs", "(I)Z"⟩
abbrev cd_D_differs : ByteArray := prog_2_method_11_code
def yn_D_getKept : MethodName := ⟨cn_D, "getKept", "(I)I"⟩
abbrev cd_D_getKept : ByteArray := prog_2_method_3_code
def yn_J_staleHandles : MethodName := ⟨cn_J, "staleHandles", "()I"⟩
abbrev cd_J_staleHandles : ByteArray := prog_1_method_38_code
def yn_J_isStale : MethodName := ⟨cn_J, "isStale", "(LJournaledFiles$Handle;)Z"⟩
abbrev cd_J_isStale : ByteArray := prog_1_method_36_code
def yn_J_kindFor : MethodName := ⟨cn_J, "kindFor", "(I)I"⟩
abbrev cd_J_kindFor : ByteArray := prog_1_method_32_code
def yn_L_directory : MethodName := ⟨cn_L, "directory", "(LJournaledFiles;I[J)I"⟩
abbrev cd_L_directory : ByteArray := method_3_code
def yn_J_directory : MethodName := ⟨cn_J, "directory", "(I)I"⟩
abbrev cd_J_directory : ByteArray := prog_1_method_2_code
def yn_J_checkPath : MethodName := ⟨cn_J, "checkPath", "(I)V"⟩
abbrev cd_J_checkPath : ByteArray := prog_1_method_19_code
def yn_J_inodeAt : MethodName := ⟨cn_J, "inodeAt", "(I)I"⟩
abbrev cd_J_inodeAt : ByteArray := prog_1_method_22_code
def yn_I_findEntry : MethodName := ⟨cn_I, "findEntry", "(II)I"⟩
abbrev cd_I_findEntry : ByteArray := prog_4_method_21_code
def yn_I_entries : MethodName := ⟨cn_I, "entries", "(I)I"⟩
abbrev cd_I_entries : ByteArray := prog_4_method_7_code
def yn_I_size : MethodName := ⟨cn_I, "size", "(I)I"⟩
abbrev cd_I_size : ByteArray := prog_4_method_5_code
def yn_I_byteOf : MethodName := ⟨cn_I, "byteOf", "(II)I"⟩
abbrev cd_I_byteOf : ByteArray := prog_4_method_13_code
def yn_I_placeOf : MethodName := ⟨cn_I, "placeOf", "(II)I"⟩
abbrev cd_I_placeOf : ByteArray := prog_4_method_12_code
def yn_I_entryInode : MethodName := ⟨cn_I, "entryInode", "(II)I"⟩
abbrev cd_I_entryInode : ByteArray := prog_4_method_19_code
def yn_J_parentNeeded : MethodName := ⟨cn_J, "parentNeeded", "(I)I"⟩
abbrev cd_J_parentNeeded : ByteArray := prog_1_method_24_code
def yn_J_parentPath : MethodName := ⟨cn_J, "parentPath", "(I)I"⟩
abbrev cd_J_parentPath : ByteArray := prog_1_method_20_code
def yn_J_checkRoomForNew : MethodName := ⟨cn_J, "checkRoomForNew", "(I)V"⟩
abbrev cd_J_checkRoomForNew : ByteArray := prog_1_method_25_code
def yn_I_leastFree : MethodName := ⟨cn_I, "leastFree", "()I"⟩
abbrev cd_I_leastFree : ByteArray := prog_4_method_9_code
def yn_I_hasRoomForEntry : MethodName := ⟨cn_I, "hasRoomForEntry", "(I)Z"⟩
abbrev cd_I_hasRoomForEntry : ByteArray := prog_4_method_23_code
def yn_I_startsBlock : MethodName := ⟨cn_I, "startsBlock", "(I)Z"⟩
abbrev cd_I_startsBlock : ByteArray := prog_4_method_22_code
def yn_J_makeNew : MethodName := ⟨cn_J, "makeNew", "(III)I"⟩
abbrev cd_J_makeNew : ByteArray := prog_1_method_27_code
def yn_I_addEntry : MethodName := ⟨cn_I, "addEntry", "(III)V"⟩
abbrev cd_I_addEntry : ByteArray := prog_4_method_24_code
def yn_I_resize : MethodName := ⟨cn_I, "resize", "(II)V"⟩
abbrev cd_I_resize : ByteArray := prog_4_method_17_code
def yn_I_putByte : MethodName := ⟨cn_I, "putByte", "(III)V"⟩
abbrev cd_I_putByte : ByteArray := prog_4_method_14_code
def yn_I_blocksFor : MethodName := ⟨cn_I, "blocksFor", "(I)I"⟩
abbrev cd_I_blocksFor : ByteArray := prog_4_method_15_code
def yn_D_giveBack : MethodName := ⟨cn_D, "giveBack", "(I)V"⟩
abbrev cd_D_giveBack : ByteArray := prog_2_method_9_code
def yn_D_takeBlock : MethodName := ⟨cn_D, "takeBlock", "()I"⟩
abbrev cd_D_takeBlock : ByteArray := prog_2_method_8_code
def yn_I_putEntry : MethodName := ⟨cn_I, "putEntry", "(IIII)V"⟩
abbrev cd_I_putEntry : ByteArray := prog_4_method_20_code
def yn_L_open : MethodName := ⟨cn_L, "open", "(LJournaledFiles;IIZZZ[J)I"⟩
abbrev cd_L_open : ByteArray := method_4_code
def yn_J_open : MethodName := ⟨cn_J, "open", "(IIZZZ)I"⟩
abbrev cd_J_open : ByteArray := prog_1_method_3_code
def yn_J_checkRange : MethodName := ⟨cn_J, "checkRange", "(III)V"⟩
abbrev cd_J_checkRange : ByteArray := prog_1_method_18_code
def yn_J_writesBy : MethodName := ⟨cn_J, "writesBy", "(I)Z"⟩
abbrev cd_J_writesBy : ByteArray := prog_1_method_30_code
def yn_J_closedHandleNeeded : MethodName := ⟨cn_J, "closedHandleNeeded", "()I"⟩
abbrev cd_J_closedHandleNeeded : ByteArray := prog_1_method_33_code
def yn_J_openHandle : MethodName := ⟨cn_J, "openHandle", "(IIII)I"⟩
abbrev cd_J_openHandle : ByteArray := prog_1_method_34_code
def yn_L_close : MethodName := ⟨cn_L, "close", "(LJournaledFiles;I)I"⟩
abbrev cd_L_close : ByteArray := method_5_code
def yn_J_close : MethodName := ⟨cn_J, "close", "(I)V"⟩
abbrev cd_J_close : ByteArray := prog_1_method_4_code
def yn_L_write : MethodName := ⟨cn_L, "write", "(LJournaledFiles;IJI)I"⟩
abbrev cd_L_write : ByteArray := method_6_code
def yn_J_write : MethodName := ⟨cn_J, "write", "(IJI)V"⟩
abbrev cd_J_write : ByteArray := prog_1_method_5_code
def yn_J_usableHandle : MethodName := ⟨cn_J, "usableHandle", "(I)LJournaledFiles$Handle;"⟩
abbrev cd_J_usableHandle : ByteArray := prog_1_method_35_code
def yn_J_checkRoomForSize : MethodName := ⟨cn_J, "checkRoomForSize", "(II)V"⟩
abbrev cd_J_checkRoomForSize : ByteArray := prog_1_method_26_code
def yn_I_hasRoomForSize : MethodName := ⟨cn_I, "hasRoomForSize", "(II)Z"⟩
abbrev cd_I_hasRoomForSize : ByteArray := prog_4_method_16_code
def yn_L_read : MethodName := ⟨cn_L, "read", "(LJournaledFiles;II[J)I"⟩
abbrev cd_L_read : ByteArray := method_7_code
def yn_J_read : MethodName := ⟨cn_J, "read", "(II)J"⟩
abbrev cd_J_read : ByteArray := prog_1_method_6_code
def yn_J_readsBy : MethodName := ⟨cn_J, "readsBy", "(I)Z"⟩
abbrev cd_J_readsBy : ByteArray := prog_1_method_31_code
def yn_L_seek : MethodName := ⟨cn_L, "seek", "(LJournaledFiles;II)I"⟩
abbrev cd_L_seek : ByteArray := method_8_code
def yn_J_seek : MethodName := ⟨cn_J, "seek", "(II)V"⟩
abbrev cd_J_seek : ByteArray := prog_1_method_7_code
def yn_L_next : MethodName := ⟨cn_L, "next", "(LJournaledFiles;I[J)I"⟩
abbrev cd_L_next : ByteArray := method_9_code
def yn_J_next : MethodName := ⟨cn_J, "next", "(I)I"⟩
abbrev cd_J_next : ByteArray := prog_1_method_8_code
def yn_I_entryName : MethodName := ⟨cn_I, "entryName", "(II)I"⟩
abbrev cd_I_entryName : ByteArray := prog_4_method_18_code
def yn_L_remove : MethodName := ⟨cn_L, "remove", "(LJournaledFiles;I)I"⟩
abbrev cd_L_remove : ByteArray := method_10_code
def yn_J_remove : MethodName := ⟨cn_J, "remove", "(I)V"⟩
abbrev cd_J_remove : ByteArray := prog_1_method_9_code
def yn_J_inodeNeeded : MethodName := ⟨cn_J, "inodeNeeded", "(I)I"⟩
abbrev cd_J_inodeNeeded : ByteArray := prog_1_method_23_code
def yn_I_dropEntry : MethodName := ⟨cn_I, "dropEntry", "(II)V"⟩
abbrev cd_I_dropEntry : ByteArray := prog_4_method_26_code
def yn_I_vacate : MethodName := ⟨cn_I, "vacate", "(I)V"⟩
abbrev cd_I_vacate : ByteArray := prog_4_method_11_code
def yn_L_rename : MethodName := ⟨cn_L, "rename", "(LJournaledFiles;II)I"⟩
abbrev cd_L_rename : ByteArray := method_11_code
def yn_J_rename : MethodName := ⟨cn_J, "rename", "(II)V"⟩
abbrev cd_J_rename : ByteArray := prog_1_method_10_code
def yn_J_checkMove : MethodName := ⟨cn_J, "checkMove", "(IIII)V"⟩
abbrev cd_J_checkMove : ByteArray := prog_1_method_28_code
def yn_J_isAtOrBelow : MethodName := ⟨cn_J, "isAtOrBelow", "(II)Z"⟩
abbrev cd_J_isAtOrBelow : ByteArray := prog_1_method_21_code
def yn_J_hasRoomAfterLeaving : MethodName := ⟨cn_J, "hasRoomAfterLeaving", "(II)Z"⟩
abbrev cd_J_hasRoomAfterLeaving : ByteArray := prog_1_method_29_code
def yn_I_redirectEntry : MethodName := ⟨cn_I, "redirectEntry", "(III)V"⟩
abbrev cd_I_redirectEntry : ByteArray := prog_4_method_25_code
def yn_L_truncate : MethodName := ⟨cn_L, "truncate", "(LJournaledFiles;II)I"⟩
abbrev cd_L_truncate : ByteArray := method_12_code
def yn_J_truncate : MethodName := ⟨cn_J, "truncate", "(II)V"⟩
abbrev cd_J_truncate : ByteArray := prog_1_method_11_code
def yn_L_stat : MethodName := ⟨cn_L, "stat", "(LJournaledFiles;II[J)I"⟩
abbrev cd_L_stat : ByteArray := method_13_code
def yn_J_stat : MethodName := ⟨cn_J, "stat", "(II)I"⟩
abbrev cd_J_stat : ByteArray := prog_1_method_12_code
def yn_L_commit : MethodName := ⟨cn_L, "commit", "(LJournaledFiles;[J)I"⟩
abbrev cd_L_commit : ByteArray := method_14_code
def yn_J_commit : MethodName := ⟨cn_J, "commit", "()I"⟩
abbrev cd_J_commit : ByteArray := prog_1_method_13_code
def yn_L_cutPower : MethodName := ⟨cn_L, "cutPower", "(LJournaledFiles;I)I"⟩
abbrev cd_L_cutPower : ByteArray := method_15_code
def yn_J_cutPower : MethodName := ⟨cn_J, "cutPower", "(I)V"⟩
abbrev cd_J_cutPower : ByteArray := prog_1_method_14_code
def yn_L_block : MethodName := ⟨cn_L, "block", "(LJournaledFiles;IIZ[J)I"⟩
abbrev cd_L_block : ByteArray := method_16_code
def yn_J_block : MethodName := ⟨cn_J, "block", "(IIZ)I"⟩
abbrev cd_J_block : ByteArray := prog_1_method_16_code
def yn_M_init : MethodName := ⟨cn_M, "<init>", "()V"⟩
abbrev cd_M_init : ByteArray := prog_6_method_1_code
def yn_M_thrown : MethodName := ⟨cn_M, "thrown", "()I"⟩
abbrev cd_M_thrown : ByteArray := prog_6_method_2_code
def yn_M_directory : MethodName := ⟨cn_M, "directory", "(I)I"⟩
abbrev cd_M_directory : ByteArray := prog_6_method_18_code
def yn_M_badPath : MethodName := ⟨cn_M, "badPath", "(I)Z"⟩
abbrev cd_M_badPath : ByteArray := prog_6_method_15_code
def yn_M_lead : MethodName := ⟨cn_M, "lead", "(I)Z"⟩
abbrev cd_M_lead : ByteArray := prog_6_method_16_code
def yn_M_entryOf : MethodName := ⟨cn_M, "entryOf", "(II)I"⟩
abbrev cd_M_entryOf : ByteArray := prog_6_method_12_code
def yn_M_newInode : MethodName := ⟨cn_M, "newInode", "()I"⟩
abbrev cd_M_newInode : ByteArray := prog_6_method_6_code
def yn_M_entryRoom : MethodName := ⟨cn_M, "entryRoom", "(II)Z"⟩
abbrev cd_M_entryRoom : ByteArray := prog_6_method_17_code
def yn_M_needed : MethodName := ⟨cn_M, "needed", "(I)I"⟩
abbrev cd_M_needed : ByteArray := prog_6_method_7_code
def yn_M_freeBlocks : MethodName := ⟨cn_M, "freeBlocks", "()I"⟩
abbrev cd_M_freeBlocks : ByteArray := prog_6_method_4_code
def yn_M_isUsed : MethodName := ⟨cn_M, "isUsed", "(II)Z"⟩
abbrev cd_M_isUsed : ByteArray := prog_6_method_3_code
def yn_M_create : MethodName := ⟨cn_M, "create", "(I)I"⟩
abbrev cd_M_create : ByteArray := prog_6_method_11_code
def yn_M_addEntry : MethodName := ⟨cn_M, "addEntry", "(III)V"⟩
abbrev cd_M_addEntry : ByteArray := prog_6_method_13_code
def yn_M_resize : MethodName := ⟨cn_M, "resize", "(II)V"⟩
abbrev cd_M_resize : ByteArray := prog_6_method_9_code
def yn_M_newBlock : MethodName := ⟨cn_M, "newBlock", "()I"⟩
abbrev cd_M_newBlock : ByteArray := prog_6_method_5_code
def yn_M_open : MethodName := ⟨cn_M, "open", "(IIZZZ)I"⟩
abbrev cd_M_open : ByteArray := prog_6_method_20_code
def yn_M_closedHandle : MethodName := ⟨cn_M, "closedHandle", "()I"⟩
abbrev cd_M_closedHandle : ByteArray := prog_6_method_19_code
def yn_M_close : MethodName := ⟨cn_M, "close", "(I)V"⟩
abbrev cd_M_close : ByteArray := prog_6_method_21_code
def yn_M_write : MethodName := ⟨cn_M, "write", "(IJI)V"⟩
abbrev cd_M_write : ByteArray := prog_6_method_24_code
def yn_M_wrong : MethodName := ⟨cn_M, "wrong", "(III)I"⟩
abbrev cd_M_wrong : ByteArray := prog_6_method_23_code
def yn_M_stale : MethodName := ⟨cn_M, "stale", "(I)Z"⟩
abbrev cd_M_stale : ByteArray := prog_6_method_22_code
def yn_M_roomFor : MethodName := ⟨cn_M, "roomFor", "(II)Z"⟩
abbrev cd_M_roomFor : ByteArray := prog_6_method_8_code
def yn_M_read : MethodName := ⟨cn_M, "read", "(II)J"⟩
abbrev cd_M_read : ByteArray := prog_6_method_25_code
def yn_M_seek : MethodName := ⟨cn_M, "seek", "(II)V"⟩
abbrev cd_M_seek : ByteArray := prog_6_method_26_code
def yn_M_next : MethodName := ⟨cn_M, "next", "(I)I"⟩
abbrev cd_M_next : ByteArray := prog_6_method_27_code
def yn_M_remove : MethodName := ⟨cn_M, "remove", "(I)V"⟩
abbrev cd_M_remove : ByteArray := prog_6_method_28_code
def yn_M_dropEntry : MethodName := ⟨cn_M, "dropEntry", "(II)V"⟩
abbrev cd_M_dropEntry : ByteArray := prog_6_method_14_code
def yn_M_release : MethodName := ⟨cn_M, "release", "(I)V"⟩
abbrev cd_M_release : ByteArray := prog_6_method_10_code
def yn_M_rename : MethodName := ⟨cn_M, "rename", "(II)V"⟩
abbrev cd_M_rename : ByteArray := prog_6_method_30_code
def yn_M_within : MethodName := ⟨cn_M, "within", "(II)Z"⟩
abbrev cd_M_within : ByteArray := prog_6_method_29_code
def yn_M_truncate : MethodName := ⟨cn_M, "truncate", "(II)V"⟩
abbrev cd_M_truncate : ByteArray := prog_6_method_31_code
def yn_M_stat : MethodName := ⟨cn_M, "stat", "(II)I"⟩
abbrev cd_M_stat : ByteArray := prog_6_method_32_code
def yn_M_commit : MethodName := ⟨cn_M, "commit", "()I"⟩
abbrev cd_M_commit : ByteArray := prog_6_method_38_code
def yn_M_differing : MethodName := ⟨cn_M, "differing", "()I"⟩
abbrev cd_M_differing : ByteArray := prog_6_method_36_code
def yn_M_byteOf : MethodName := ⟨cn_M, "byteOf", "(III)I"⟩
abbrev cd_M_byteOf : ByteArray := prog_6_method_35_code
def yn_M_mapByte : MethodName := ⟨cn_M, "mapByte", "(II)I"⟩
abbrev cd_M_mapByte : ByteArray := prog_6_method_33_code
def yn_M_inodeByte : MethodName := ⟨cn_M, "inodeByte", "(II)I"⟩
abbrev cd_M_inodeByte : ByteArray := prog_6_method_34_code
def yn_M_copyTables : MethodName := ⟨cn_M, "copyTables", "(II)V"⟩
abbrev cd_M_copyTables : ByteArray := prog_6_method_37_code
def yn_M_crash : MethodName := ⟨cn_M, "crash", "()V"⟩
abbrev cd_M_crash : ByteArray := prog_6_method_40_code
def yn_M_cutPower : MethodName := ⟨cn_M, "cutPower", "(I)V"⟩
abbrev cd_M_cutPower : ByteArray := prog_6_method_39_code
def yn_M_block : MethodName := ⟨cn_M, "block", "(IIZ)I"⟩
abbrev cd_M_block : ByteArray := prog_6_method_41_code
def yn_M_count : MethodName := ⟨cn_M, "count", "(I)I"⟩
abbrev cd_M_count : ByteArray := prog_6_method_42_code
abbrev jcl : List vw_C := [(cn_D, ft_D, 2), (cn_H, ft_H, 5), (cn_I, ft_I, 1), (cn_J, ft_J, 6), (cn_M, ft_M, 17)]
/-- the words that hold in every frame -/
def jb : List Cond := lw_tbl.filter goodWord
theorem jb_t {w : Cond} (h : w ∈ tables_1) (g : goodWord w = true) : w ∈ jb := List.mem_filter.mpr ⟨List.mem_append_right _ h, g⟩
theorem jb_s {w : Cond} (h : w ∈ k2_sels lw_privs) (g : goodWord w = true) : w ∈ jb := List.mem_filter.mpr ⟨List.mem_append_left _ h, g⟩
theorem jb_g {w : Cond} (h : w ∈ jb) : goodWord w = true := (List.mem_filter.mp h).2
theorem jb_good {c : Cond} {L : List Cond} (h : ∀ w ∈ L, w ∈ jb) : GoodIn (c :: jb) L := fun w hw => ⟨List.mem_cons_of_mem _ (h w hw), good_of_word (jb_g (h w hw))⟩
theorem jb_law {L : List Cond} (h : ∀ w ∈ L, w ∈ jb) : GoodIn lw_tbl L := fun w hw => ⟨(List.mem_filter.mp (h w hw)).1, good_of_word (jb_g (h w hw))⟩
theorem tw_0 : Cond.initialized "JournaledFilesLaw" ∈ jb := jb_t (List.mem_append_left _ (List.mem_of_getElem? (i := 0) rfl)) rfl
theorem tw_1 : Cond.initialized "JournaledFiles" ∈ jb := jb_t (List.mem_append_left _ (List.mem_of_getElem? (i := 1) rfl)) rfl
theorem tw_2 : Cond.initialized "JournaledFiles$Disk" ∈ jb := jb_t (List.mem_append_left _ (List.mem_of_getElem? (i := 2) rfl)) rfl
theorem tw_3 : Cond.initialized "JournaledFiles$Inodes" ∈ jb := jb_t (List.mem_append_left _ (List.mem_of_getElem? (i := 3) rfl)) rfl
theorem tw_4 : Cond.initialized "JournaledFiles$Handle" ∈ jb := jb_t (List.mem_append_left _ (List.mem_of_getElem? (i := 4) rfl)) rfl
theorem tw_5 : Cond.initialized "java/lang/System" ∈ jb := jb_t (List.mem_append_left _ (List.mem_of_getElem? (i := 5) rfl)) rfl
theorem tw_6 : Cond.initialized "JournaledFilesModel" ∈ jb := jb_t (List.mem_append_left _ (List.mem_of_getElem? (i := 6) rfl)) rfl
theorem tw_14 : Cond.initialized "java/lang/Math" ∈ jb := jb_t (List.mem_append_left _ (List.mem_of_getElem? (i := 14) rfl)) rfl
theorem tw_15 : Cond.classLink "JournaledFilesLaw" 8 "JournaledFiles" ∈ jb := jb_t (List.mem_append_left _ (List.mem_of_getElem? (i := 15) rfl)) rfl
theorem tw_16 : Cond.instantiable "JournaledFiles" 6 ∈ jb := jb_t (List.mem_append_left _ (List.mem_of_getElem? (i := 16) rfl)) rfl
theorem tw_17 : Cond.methodLink "JournaledFilesLaw" 68 yn_J_init ∈ jb := jb_t (List.mem_append_left _ (List.mem_of_getElem? (i := 17) rfl)) rfl
theorem tw_18 : Cond.instanceMethod yn_J_init ∈ jb := jb_t (List.mem_append_left _ (List.mem_of_getElem? (i := 18) rfl)) rfl
theorem tw_19 : Cond.code yn_J_init prog_1_method_1_code 2 none ∈ jb := jb_t (List.mem_append_left _ (List.mem_of_getElem? (i := 19) rfl)) rfl
theorem tw_20 : Cond.methodLink "JournaledFiles" 3 ⟨"java/lang/Object", "<init>", "()V"⟩ ∈ jb := jb_t (List.mem_append_left _ (List.mem_of_getElem? (i := 20) rfl)) rfl
theorem tw_21 : Cond.instanceMethod ⟨"java/lang/Object", "<init>", "()V"⟩ ∈ jb := jb_t (List.mem_append_left _ (List.mem_of_getElem? (i := 21) rfl)) rfl
theorem tw_22 : Cond.code ⟨"java/lang/Object", "<init>", "()V"⟩ object_method_1_code 1 none ∈ jb := jb_t (List.mem_append_left _ (List.mem_of_getElem? (i := 22) rfl)) rfl
theorem tw_23 : Cond.classLink "JournaledFiles" 9 "JournaledFiles$Disk" ∈ jb := jb_t (List.mem_append_left _ (List.mem_of_getElem? (i := 23) rfl)) rfl
theorem tw_24 : Cond.instantiable "JournaledFiles$Disk" 2 ∈ jb := jb_t (List.mem_append_left _ (List.mem_of_getElem? (i := 24) rfl)) rfl
theorem tw_25 : Cond.methodLink "JournaledFiles" 11 yn_D_init ∈ jb := jb_t (List.mem_append_left _ (List.mem_of_getElem? (i := 25) rfl)) rfl
theorem tw_26 : Cond.instanceMethod yn_D_init ∈ jb := jb_t (List.mem_append_left _ (List.mem_of_getElem? (i := 26) rfl)) rfl
theorem tw_27 : Cond.code yn_D_init prog_2_method_1_code 2 none ∈ jb := jb_t (List.mem_append_left _ (List.mem_of_getElem? (i := 27) rfl)) rfl
theorem tw_28 : Cond.methodLink "JournaledFiles$Disk" 3 ⟨"java/lang/Object", "<init>", "()V"⟩ ∈ jb := jb_t (List.mem_append_left _ (List.mem_of_getElem? (i := 28) rfl)) rfl
theorem tw_29 : Cond.methodLink "JournaledFiles$Disk" 18 yn_D_mark ∈ jb := jb_t (List.mem_append_left _ (List.mem_of_getElem? (i := 29) rfl)) rfl
theorem tw_31 : Cond.instanceMethod yn_D_mark ∈ jb := jb_t (List.mem_append_left _ (List.mem_of_getElem? (i := 31) rfl)) rfl
theorem tw_32 : Cond.code yn_D_mark prog_2_method_6_code 5 none ∈ jb := jb_t (List.mem_append_left _ (List.mem_of_getElem? (i := 32) rfl)) rfl
theorem tw_33 : Cond.methodLink "JournaledFiles$Disk" 22 yn_D_get ∈ jb := jb_t (List.mem_append_left _ (List.mem_of_getElem? (i := 33) rfl)) rfl
theorem tw_34 : Cond.instanceMethod yn_D_get ∈ jb := jb_t (List.mem_append_left _ (List.mem_of_getElem? (i := 34) rfl)) rfl
theorem tw_35 : Cond.selects "JournaledFiles$Disk" yn_D_get yn_D_get ∈ jb := jb_t (List.mem_append_left _ (List.mem_of_getElem? (i := 35) rfl)) rfl
theorem tw_36 : Cond.code yn_D_get prog_2_method_2_code 2 (some .int) ∈ jb := jb_t (List.mem_append_left _ (List.mem_of_getElem? (i := 36) rfl)) rfl
theorem tw_37 : Cond.methodLink "JournaledFiles$Disk" 26 yn_D_put ∈ jb := jb_t (List.mem_append_left _ (List.mem_of_getElem? (i := 37) rfl)) rfl
theorem tw_38 : Cond.instanceMethod yn_D_put ∈ jb := jb_t (List.mem_append_left _ (List.mem_of_getElem? (i := 38) rfl)) rfl
theorem tw_39 : Cond.selects "JournaledFiles$Disk" yn_D_put yn_D_put ∈ jb := jb_t (List.mem_append_left _ (List.mem_of_getElem? (i := 39) rfl)) rfl
theorem tw_40 : Cond.code yn_D_put prog_2_method_4_code 3 none ∈ jb := jb_t (List.mem_append_left _ (List.mem_of_getElem? (i := 40) rfl)) rfl
theorem tw_41 : Cond.fieldLink "JournaledFiles$Disk" 9 "JournaledFiles$Disk" "state" "[I" ∈ jb := jb_t (List.mem_append_left _ (List.mem_of_getElem? (i := 41) rfl)) rfl
theorem tw_42 : Cond.fieldLink "JournaledFiles$Disk" 15 "JournaledFiles$Disk" "committed" "[I" ∈ jb := jb_t (List.mem_append_left _ (List.mem_of_getElem? (i := 42) rfl)) rfl
theorem tw_43 : Cond.laysFinal "JournaledFiles$Disk" "JournaledFiles$Disk" "state" "[I" ∈ jb := jb_t (List.mem_append_left _ (List.mem_of_getElem? (i := 43) rfl)) rfl
theorem tw_45 : Cond.laysFinal "JournaledFiles$Disk" "JournaledFiles$Disk" "committed" "[I" ∈ jb := jb_t (List.mem_append_left _ (List.mem_of_getElem? (i := 45) rfl)) rfl
theorem tw_48 : Cond.arrayClass .int ∈ jb := jb_t (List.mem_append_left _ (List.mem_of_getElem? (i := 48) rfl)) rfl
theorem tw_49 : Cond.classLink "JournaledFiles" 16 "JournaledFiles$Inodes" ∈ jb := jb_t (List.mem_append_left _ (List.mem_of_getElem? (i := 49) rfl)) rfl
theorem tw_50 : Cond.instantiable "JournaledFiles$Inodes" 1 ∈ jb := jb_t (List.mem_append_left _ (List.mem_of_getElem? (i := 50) rfl)) rfl
theorem tw_51 : Cond.methodLink "JournaledFiles" 18 yn_I_init ∈ jb := jb_t (List.mem_append_left _ (List.mem_of_getElem? (i := 51) rfl)) rfl
theorem tw_52 : Cond.instanceMethod yn_I_init ∈ jb := jb_t (List.mem_append_left _ (List.mem_of_getElem? (i := 52) rfl)) rfl
theorem tw_53 : Cond.code yn_I_init prog_4_method_1_code 2 none ∈ jb := jb_t (List.mem_append_left _ (List.mem_of_getElem? (i := 53) rfl)) rfl
theorem tw_54 : Cond.methodLink "JournaledFiles$Inodes" 3 ⟨"java/lang/Object", "<init>", "()V"⟩ ∈ jb := jb_t (List.mem_append_left _ (List.mem_of_getElem? (i := 54) rfl)) rfl
theorem tw_55 : Cond.fieldLink "JournaledFiles$Inodes" 9 "JournaledFiles$Inodes" "disk" "LJournaledFiles$Disk;" ∈ jb := jb_t (List.mem_append_left _ (List.mem_of_getElem? (i := 55) rfl)) rfl
theorem tw_56 : Cond.laysFinal "JournaledFiles$Inodes" "JournaledFiles$Inodes" "disk" "LJournaledFiles$Disk;" ∈ jb := jb_t (List.mem_append_left _ (List.mem_of_getElem? (i := 56) rfl)) rfl
theorem tw_59 : Cond.classLink "JournaledFiles" 25 "JournaledFiles$Handle" ∈ jb := jb_t (List.mem_append_left _ (List.mem_of_getElem? (i := 59) rfl)) rfl
theorem tw_61 : Cond.instantiable "JournaledFiles$Handle" 5 ∈ jb := jb_t (List.mem_append_left _ (List.mem_of_getElem? (i := 61) rfl)) rfl
theorem tw_63 : Cond.instanceMethod yn_H_init ∈ jb := jb_t (List.mem_append_left _ (List.mem_of_getElem? (i := 63) rfl)) rfl
theorem tw_64 : Cond.code yn_H_init prog_3_method_1_code 1 none ∈ jb := jb_t (List.mem_append_left _ (List.mem_of_getElem? (i := 64) rfl)) rfl
theorem tw_65 : Cond.methodLink "JournaledFiles$Handle" 1 ⟨"java/lang/Object", "<init>", "()V"⟩ ∈ jb := jb_t (List.mem_append_left _ (List.mem_of_getElem? (i := 65) rfl)) rfl
theorem tw_66 : Cond.fieldLink "JournaledFiles" 99 "JournaledFiles$Handle" "isOpen" "Z" ∈ jb := jb_t (List.mem_append_left _ (List.mem_of_getElem? (i := 66) rfl)) rfl
theorem tw_67 : Cond.fieldLink "JournaledFiles" 118 "JournaledFiles$Handle" "inode" "I" ∈ jb := jb_t (List.mem_append_left _ (List.mem_of_getElem? (i := 67) rfl)) rfl
theorem tw_68 : Cond.fieldLink "JournaledFiles" 271 "JournaledFiles$Handle" "generation" "I" ∈ jb := jb_t (List.mem_append_left _ (List.mem_of_getElem? (i := 68) rfl)) rfl
theorem tw_69 : Cond.fieldLink "JournaledFiles" 109 "JournaledFiles$Handle" "mode" "I" ∈ jb := jb_t (List.mem_append_left _ (List.mem_of_getElem? (i := 69) rfl)) rfl
theorem tw_70 : Cond.fieldLink "JournaledFiles" 115 "JournaledFiles$Handle" "position" "I" ∈ jb := jb_t (List.mem_append_left _ (List.mem_of_getElem? (i := 70) rfl)) rfl
theorem tw_71 : Cond.lays "JournaledFiles$Handle" "JournaledFiles$Handle" "isOpen" "Z" ∈ jb := jb_t (List.mem_append_left _ (List.mem_of_getElem? (i := 71) rfl)) rfl
theorem tw_73 : Cond.lays "JournaledFiles$Handle" "JournaledFiles$Handle" "inode" "I" ∈ jb := jb_t (List.mem_append_left _ (List.mem_of_getElem? (i := 73) rfl)) rfl
theorem tw_75 : Cond.lays "JournaledFiles$Handle" "JournaledFiles$Handle" "generation" "I" ∈ jb := jb_t (List.mem_append_left _ (List.mem_of_getElem? (i := 75) rfl)) rfl
theorem tw_77 : Cond.lays "JournaledFiles$Handle" "JournaledFiles$Handle" "mode" "I" ∈ jb := jb_t (List.mem_append_left _ (List.mem_of_getElem? (i := 77) rfl)) rfl
theorem tw_79 : Cond.lays "JournaledFiles$Handle" "JournaledFiles$Handle" "position" "I" ∈ jb := jb_t (List.mem_append_left _ (List.mem_of_getElem? (i := 79) rfl)) rfl
theorem tw_82 : Cond.methodLink "JournaledFiles" 32 yn_I_occupy ∈ jb := jb_t (List.mem_append_left _ (List.mem_of_getElem? (i := 82) rfl)) rfl
theorem tw_83 : Cond.instanceMethod yn_I_occupy ∈ jb := jb_t (List.mem_append_left _ (List.mem_of_getElem? (i := 83) rfl)) rfl
theorem tw_84 : Cond.selects "JournaledFiles$Inodes" yn_I_occupy yn_I_occupy ∈ jb := jb_t (List.mem_append_left _ (List.mem_of_getElem? (i := 84) rfl)) rfl
theorem tw_85 : Cond.code yn_I_occupy prog_4_method_10_code 3 none ∈ jb := jb_t (List.mem_append_left _ (List.mem_of_getElem? (i := 85) rfl)) rfl
theorem tw_86 : Cond.methodLink "JournaledFiles$Inodes" 35 yn_I_putField ∈ jb := jb_t (List.mem_append_left _ (List.mem_of_getElem? (i := 86) rfl)) rfl
theorem tw_88 : Cond.instanceMethod yn_I_putField ∈ jb := jb_t (List.mem_append_left _ (List.mem_of_getElem? (i := 88) rfl)) rfl
theorem tw_89 : Cond.code yn_I_putField prog_4_method_3_code 4 none ∈ jb := jb_t (List.mem_append_left _ (List.mem_of_getElem? (i := 89) rfl)) rfl
theorem tw_90 : Cond.methodLink "JournaledFiles$Inodes" 21 yn_D_put ∈ jb := jb_t (List.mem_append_left _ (List.mem_of_getElem? (i := 90) rfl)) rfl
theorem tw_91 : Cond.methodLink "JournaledFiles$Inodes" 39 yn_I_generation ∈ jb := jb_t (List.mem_append_left _ (List.mem_of_getElem? (i := 91) rfl)) rfl
theorem tw_92 : Cond.instanceMethod yn_I_generation ∈ jb := jb_t (List.mem_append_left _ (List.mem_of_getElem? (i := 92) rfl)) rfl
theorem tw_93 : Cond.selects "JournaledFiles$Inodes" yn_I_generation yn_I_generation ∈ jb := jb_t (List.mem_append_left _ (List.mem_of_getElem? (i := 93) rfl)) rfl
theorem tw_94 : Cond.code yn_I_generation prog_4_method_6_code 2 (some .int) ∈ jb := jb_t (List.mem_append_left _ (List.mem_of_getElem? (i := 94) rfl)) rfl
theorem tw_95 : Cond.methodLink "JournaledFiles$Inodes" 25 yn_I_field ∈ jb := jb_t (List.mem_append_left _ (List.mem_of_getElem? (i := 95) rfl)) rfl
theorem tw_97 : Cond.instanceMethod yn_I_field ∈ jb := jb_t (List.mem_append_left _ (List.mem_of_getElem? (i := 97) rfl)) rfl
theorem tw_98 : Cond.code yn_I_field prog_4_method_2_code 3 (some .int) ∈ jb := jb_t (List.mem_append_left _ (List.mem_of_getElem? (i := 98) rfl)) rfl
theorem tw_99 : Cond.methodLink "JournaledFiles$Inodes" 15 yn_D_get ∈ jb := jb_t (List.mem_append_left _ (List.mem_of_getElem? (i := 99) rfl)) rfl
theorem tw_100 : Cond.methodLink "JournaledFiles" 36 yn_D_keep ∈ jb := jb_t (List.mem_append_left _ (List.mem_of_getElem? (i := 100) rfl)) rfl
theorem tw_101 : Cond.instanceMethod yn_D_keep ∈ jb := jb_t (List.mem_append_left _ (List.mem_of_getElem? (i := 101) rfl)) rfl
theorem tw_102 : Cond.selects "JournaledFiles$Disk" yn_D_keep yn_D_keep ∈ jb := jb_t (List.mem_append_left _ (List.mem_of_getElem? (i := 102) rfl)) rfl
theorem tw_103 : Cond.code yn_D_keep prog_2_method_12_code 1 none ∈ jb := jb_t (List.mem_append_left _ (List.mem_of_getElem? (i := 103) rfl)) rfl
theorem tw_104 : Cond.methodLink "JournaledFiles$Disk" 40 ⟨"java/lang/System", "arraycopy", "(Ljava/lang/Object;ILjava/lang/Object;II)V"⟩ ∈ jb := jb_t (List.mem_append_left _ (List.mem_of_getElem? (i := 104) rfl)) rfl
theorem tw_105 : Cond.static ⟨"java/lang/System", "arraycopy", "(Ljava/lang/Object;ILjava/lang/Object;II)V"⟩ ∈ jb := jb_t (List.mem_append_left _ (List.mem_of_getElem? (i := 105) rfl)) rfl
theorem tw_106 : Cond.native ⟨"java/lang/System", "arraycopy", "(Ljava/lang/Object;ILjava/lang/Object;II)V"⟩ ∈ jb := jb_t (List.mem_append_left _ (List.mem_of_getElem? (i := 106) rfl)) rfl
theorem tw_107 : Cond.fieldLink "JournaledFiles" 12 "JournaledFiles" "disk" "LJournaledFiles$Disk;" ∈ jb := jb_t (List.mem_append_left _ (List.mem_of_getElem? (i := 107) rfl)) rfl
theorem tw_108 : Cond.fieldLink "JournaledFiles" 21 "JournaledFiles" "inodes" "LJournaledFiles$Inodes;" ∈ jb := jb_t (List.mem_append_left _ (List.mem_of_getElem? (i := 108) rfl)) rfl
theorem tw_109 : Cond.fieldLink "JournaledFiles" 27 "JournaledFiles" "handles" "[LJournaledFiles$Handle;" ∈ jb := jb_t (List.mem_append_left _ (List.mem_of_getElem? (i := 109) rfl)) rfl
theorem tw_110 : Cond.fieldLink "JournaledFiles" 197 "JournaledFiles" "writesToCut" "I" ∈ jb := jb_t (List.mem_append_left _ (List.mem_of_getElem? (i := 110) rfl)) rfl
theorem tw_111 : Cond.fieldLink "JournaledFiles" 200 "JournaledFiles" "writesDone" "I" ∈ jb := jb_t (List.mem_append_left _ (List.mem_of_getElem? (i := 111) rfl)) rfl
theorem tw_112 : Cond.fieldLink "JournaledFiles" 223 "JournaledFiles" "timesOff" "I" ∈ jb := jb_t (List.mem_append_left _ (List.mem_of_getElem? (i := 112) rfl)) rfl
theorem tw_113 : Cond.laysFinal "JournaledFiles" "JournaledFiles" "disk" "LJournaledFiles$Disk;" ∈ jb := jb_t (List.mem_append_left _ (List.mem_of_getElem? (i := 113) rfl)) rfl
theorem tw_115 : Cond.laysFinal "JournaledFiles" "JournaledFiles" "inodes" "LJournaledFiles$Inodes;" ∈ jb := jb_t (List.mem_append_left _ (List.mem_of_getElem? (i := 115) rfl)) rfl
theorem tw_117 : Cond.laysFinal "JournaledFiles" "JournaledFiles" "handles" "[LJournaledFiles$Handle;" ∈ jb := jb_t (List.mem_append_left _ (List.mem_of_getElem? (i := 117) rfl)) rfl
theorem tw_119 : Cond.lays "JournaledFiles" "JournaledFiles" "writesToCut" "I" ∈ jb := jb_t (List.mem_append_left _ (List.mem_of_getElem? (i := 119) rfl)) rfl
theorem tw_121 : Cond.lays "JournaledFiles" "JournaledFiles" "writesDone" "I" ∈ jb := jb_t (List.mem_append_left _ (List.mem_of_getElem? (i := 121) rfl)) rfl
theorem tw_123 : Cond.lays "JournaledFiles" "JournaledFiles" "timesOff" "I" ∈ jb := jb_t (List.mem_append_left _ (List.mem_of_getElem? (i := 123) rfl)) rfl
theorem tw_126 : Cond.methodLink "JournaledFilesLaw" 125 yn_J_crash ∈ jb := jb_t (List.mem_append_left _ (List.mem_of_getElem? (i := 126) rfl)) rfl
theorem tw_127 : Cond.instanceMethod yn_J_crash ∈ jb := jb_t (List.mem_append_left _ (List.mem_of_getElem? (i := 127) rfl)) rfl
theorem tw_128 : Cond.selects "JournaledFiles" yn_J_crash yn_J_crash ∈ jb := jb_t (List.mem_append_left _ (List.mem_of_getElem? (i := 128) rfl)) rfl
theorem tw_129 : Cond.code yn_J_crash prog_1_method_15_code 1 none ∈ jb := jb_t (List.mem_append_left _ (List.mem_of_getElem? (i := 129) rfl)) rfl
theorem tw_130 : Cond.methodLink "JournaledFiles" 203 yn_J_losePower ∈ jb := jb_t (List.mem_append_left _ (List.mem_of_getElem? (i := 130) rfl)) rfl
theorem tw_132 : Cond.instanceMethod yn_J_losePower ∈ jb := jb_t (List.mem_append_left _ (List.mem_of_getElem? (i := 132) rfl)) rfl
theorem tw_133 : Cond.code yn_J_losePower prog_1_method_39_code 2 none ∈ jb := jb_t (List.mem_append_left _ (List.mem_of_getElem? (i := 133) rfl)) rfl
theorem tw_134 : Cond.methodLink "JournaledFiles" 279 yn_D_goBack ∈ jb := jb_t (List.mem_append_left _ (List.mem_of_getElem? (i := 134) rfl)) rfl
theorem tw_135 : Cond.instanceMethod yn_D_goBack ∈ jb := jb_t (List.mem_append_left _ (List.mem_of_getElem? (i := 135) rfl)) rfl
theorem tw_136 : Cond.selects "JournaledFiles$Disk" yn_D_goBack yn_D_goBack ∈ jb := jb_t (List.mem_append_left _ (List.mem_of_getElem? (i := 136) rfl)) rfl
theorem tw_137 : Cond.code yn_D_goBack prog_2_method_13_code 1 none ∈ jb := jb_t (List.mem_append_left _ (List.mem_of_getElem? (i := 137) rfl)) rfl
theorem tw_138 : Cond.methodLink "JournaledFilesLaw" 133 yn_J_count ∈ jb := jb_t (List.mem_append_left _ (List.mem_of_getElem? (i := 138) rfl)) rfl
theorem tw_139 : Cond.instanceMethod yn_J_count ∈ jb := jb_t (List.mem_append_left _ (List.mem_of_getElem? (i := 139) rfl)) rfl
theorem tw_140 : Cond.selects "JournaledFiles" yn_J_count yn_J_count ∈ jb := jb_t (List.mem_append_left _ (List.mem_of_getElem? (i := 140) rfl)) rfl
theorem tw_141 : Cond.code yn_J_count prog_1_method_17_code 2 (some .int) ∈ jb := jb_t (List.mem_append_left _ (List.mem_of_getElem? (i := 141) rfl)) rfl
theorem tw_142 : Cond.methodLink "JournaledFiles" 214 yn_D_freeBlocks ∈ jb := jb_t (List.mem_append_left _ (List.mem_of_getElem? (i := 142) rfl)) rfl
theorem tw_143 : Cond.instanceMethod yn_D_freeBlocks ∈ jb := jb_t (List.mem_append_left _ (List.mem_of_getElem? (i := 143) rfl)) rfl
theorem tw_144 : Cond.selects "JournaledFiles$Disk" yn_D_freeBlocks yn_D_freeBlocks ∈ jb := jb_t (List.mem_append_left _ (List.mem_of_getElem? (i := 144) rfl)) rfl
theorem tw_145 : Cond.code yn_D_freeBlocks prog_2_method_7_code 3 (some .int) ∈ jb := jb_t (List.mem_append_left _ (List.mem_of_getElem? (i := 145) rfl)) rfl
theorem tw_146 : Cond.methodLink "JournaledFiles$Disk" 30 yn_D_isUsed ∈ jb := jb_t (List.mem_append_left _ (List.mem_of_getElem? (i := 146) rfl)) rfl
theorem tw_148 : Cond.instanceMethod yn_D_isUsed ∈ jb := jb_t (List.mem_append_left _ (List.mem_of_getElem? (i := 148) rfl)) rfl
theorem tw_149 : Cond.code yn_D_isUsed prog_2_method_5_code 2 (some .boolean) ∈ jb := jb_t (List.mem_append_left _ (List.mem_of_getElem? (i := 149) rfl)) rfl
theorem tw_150 : Cond.methodLink "JournaledFiles" 217 yn_I_freeInodes ∈ jb := jb_t (List.mem_append_left _ (List.mem_of_getElem? (i := 150) rfl)) rfl
theorem tw_151 : Cond.instanceMethod yn_I_freeInodes ∈ jb := jb_t (List.mem_append_left _ (List.mem_of_getElem? (i := 151) rfl)) rfl
theorem tw_152 : Cond.selects "JournaledFiles$Inodes" yn_I_freeInodes yn_I_freeInodes ∈ jb := jb_t (List.mem_append_left _ (List.mem_of_getElem? (i := 152) rfl)) rfl
theorem tw_153 : Cond.code yn_I_freeInodes prog_4_method_8_code 3 (some .int) ∈ jb := jb_t (List.mem_append_left _ (List.mem_of_getElem? (i := 153) rfl)) rfl
theorem tw_154 : Cond.methodLink "JournaledFiles$Inodes" 29 yn_I_kind ∈ jb := jb_t (List.mem_append_left _ (List.mem_of_getElem? (i := 154) rfl)) rfl
theorem tw_155 : Cond.instanceMethod yn_I_kind ∈ jb := jb_t (List.mem_append_left _ (List.mem_of_getElem? (i := 155) rfl)) rfl
theorem tw_156 : Cond.selects "JournaledFiles$Inodes" yn_I_kind yn_I_kind ∈ jb := jb_t (List.mem_append_left _ (List.mem_of_getElem? (i := 156) rfl)) rfl
theorem tw_157 : Cond.code yn_I_kind prog_4_method_4_code 2 (some .int) ∈ jb := jb_t (List.mem_append_left _ (List.mem_of_getElem? (i := 157) rfl)) rfl
theorem tw_158 : Cond.methodLink "JournaledFiles" 220 yn_J_openHandles ∈ jb := jb_t (List.mem_append_left _ (List.mem_of_getElem? (i := 158) rfl)) rfl
theorem tw_160 : Cond.instanceMethod yn_J_openHandles ∈ jb := jb_t (List.mem_append_left _ (List.mem_of_getElem? (i := 160) rfl)) rfl
theorem tw_161 : Cond.code yn_J_openHandles prog_1_method_37_code 3 (some .int) ∈ jb := jb_t (List.mem_append_left _ (List.mem_of_getElem? (i := 161) rfl)) rfl
theorem tw_162 : Cond.methodLink "JournaledFiles" 194 yn_D_differingBlocks ∈ jb := jb_t (List.mem_append_left _ (List.mem_of_getElem? (i := 162) rfl)) rfl
theorem tw_163 : Cond.instanceMethod yn_D_differingBlocks ∈ jb := jb_t (List.mem_append_left _ (List.mem_of_getElem? (i := 163) rfl)) rfl
theorem tw_164 : Cond.selects "JournaledFiles$Disk" yn_D_differingBlocks yn_D_differingBlocks ∈ jb := jb_t (List.mem_append_left _ (List.mem_of_getElem? (i := 164) rfl)) rfl
theorem tw_165 : Cond.code yn_D_differingBlocks prog_2_method_10_code 3 (some .int) ∈ jb := jb_t (List.mem_append_left _ (List.mem_of_getElem? (i := 165) rfl)) rfl
theorem tw_166 : Cond.methodLink "JournaledFiles$Disk" 34 yn_D_differs ∈ jb := jb_t (List.mem_append_left _ (List.mem_of_getElem? (i := 166) rfl)) rfl
theorem tw_168 : Cond.instanceMethod yn_D_differs ∈ jb := jb_t (List.mem_append_left _ (List.mem_of_getElem? (i := 168) rfl)) rfl
theorem tw_169 : Cond.code yn_D_differs prog_2_method_11_code 4 (some .boolean) ∈ jb := jb_t (List.mem_append_left _ (List.mem_of_getElem? (i := 169) rfl)) rfl
theorem tw_170 : Cond.methodLink "JournaledFiles$Disk" 37 yn_D_getKept ∈ jb := jb_t (List.mem_append_left _ (List.mem_of_getElem? (i := 170) rfl)) rfl
theorem tw_171 : Cond.instanceMethod yn_D_getKept ∈ jb := jb_t (List.mem_append_left _ (List.mem_of_getElem? (i := 171) rfl)) rfl
theorem tw_172 : Cond.selects "JournaledFiles$Disk" yn_D_getKept yn_D_getKept ∈ jb := jb_t (List.mem_append_left _ (List.mem_of_getElem? (i := 172) rfl)) rfl
theorem tw_173 : Cond.code yn_D_getKept prog_2_method_3_code 2 (some .int) ∈ jb := jb_t (List.mem_append_left _ (List.mem_of_getElem? (i := 173) rfl)) rfl
theorem tw_174 : Cond.methodLink "JournaledFiles" 226 yn_J_staleHandles ∈ jb := jb_t (List.mem_append_left _ (List.mem_of_getElem? (i := 174) rfl)) rfl
theorem tw_176 : Cond.instanceMethod yn_J_staleHandles ∈ jb := jb_t (List.mem_append_left _ (List.mem_of_getElem? (i := 176) rfl)) rfl
theorem tw_177 : Cond.code yn_J_staleHandles prog_1_method_38_code 3 (some .int) ∈ jb := jb_t (List.mem_append_left _ (List.mem_of_getElem? (i := 177) rfl)) rfl
theorem tw_178 : Cond.methodLink "JournaledFiles" 273 yn_J_isStale ∈ jb := jb_t (List.mem_append_left _ (List.mem_of_getElem? (i := 178) rfl)) rfl
theorem tw_180 : Cond.instanceMethod yn_J_isStale ∈ jb := jb_t (List.mem_append_left _ (List.mem_of_getElem? (i := 180) rfl)) rfl
theorem tw_181 : Cond.code yn_J_isStale prog_1_method_36_code 2 (some .boolean) ∈ jb := jb_t (List.mem_append_left _ (List.mem_of_getElem? (i := 181) rfl)) rfl
theorem tw_182 : Cond.methodLink "JournaledFiles" 85 yn_I_kind ∈ jb := jb_t (List.mem_append_left _ (List.mem_of_getElem? (i := 182) rfl)) rfl
theorem tw_183 : Cond.methodLink "JournaledFiles" 88 yn_J_kindFor ∈ jb := jb_t (List.mem_append_left _ (List.mem_of_getElem? (i := 183) rfl)) rfl
theorem tw_184 : Cond.static yn_J_kindFor ∈ jb := jb_t (List.mem_append_left _ (List.mem_of_getElem? (i := 184) rfl)) rfl
theorem tw_185 : Cond.code yn_J_kindFor prog_1_method_32_code 1 (some .int) ∈ jb := jb_t (List.mem_append_left _ (List.mem_of_getElem? (i := 185) rfl)) rfl
theorem tw_186 : Cond.methodLink "JournaledFiles" 191 yn_I_generation ∈ jb := jb_t (List.mem_append_left _ (List.mem_of_getElem? (i := 186) rfl)) rfl
theorem tw_187 : Cond.methodLink "JournaledFilesLaw" 72 yn_L_directory ∈ jb := jb_t (List.mem_append_left _ (List.mem_of_getElem? (i := 187) rfl)) rfl
theorem tw_188 : Cond.static yn_L_directory ∈ jb := jb_t (List.mem_append_left _ (List.mem_of_getElem? (i := 188) rfl)) rfl
theorem tw_194 : Cond.methodLink "JournaledFilesLaw" 7 yn_J_directory ∈ jb := jb_t (List.mem_append_left _ (List.mem_of_getElem? (i := 194) rfl)) rfl
theorem tw_195 : Cond.instanceMethod yn_J_directory ∈ jb := jb_t (List.mem_append_left _ (List.mem_of_getElem? (i := 195) rfl)) rfl
theorem tw_196 : Cond.selects "JournaledFiles" yn_J_directory yn_J_directory ∈ jb := jb_t (List.mem_append_left _ (List.mem_of_getElem? (i := 196) rfl)) rfl
theorem tw_197 : Cond.code yn_J_directory prog_1_method_2_code 3 (some .int) ∈ jb := jb_t (List.mem_append_left _ (List.mem_of_getElem? (i := 197) rfl)) rfl
theorem tw_198 : Cond.methodLink "JournaledFiles" 39 yn_J_checkPath ∈ jb := jb_t (List.mem_append_left _ (List.mem_of_getElem? (i := 198) rfl)) rfl
theorem tw_199 : Cond.static yn_J_checkPath ∈ jb := jb_t (List.mem_append_left _ (List.mem_of_getElem? (i := 199) rfl)) rfl
theorem tw_200 : Cond.code yn_J_checkPath prog_1_method_19_code 3 none ∈ jb := jb_t (List.mem_append_left _ (List.mem_of_getElem? (i := 200) rfl)) rfl
theorem tw_269 : Cond.arrayClass .byte ∈ jb := jb_t (List.mem_append_right _ (List.mem_append_left _ (List.mem_of_getElem? (i := 29) rfl))) rfl
theorem tw_270 : Cond.methodLink "JournaledFiles" 43 yn_J_inodeAt ∈ jb := jb_t (List.mem_append_right _ (List.mem_append_left _ (List.mem_of_getElem? (i := 30) rfl))) rfl
theorem tw_272 : Cond.instanceMethod yn_J_inodeAt ∈ jb := jb_t (List.mem_append_right _ (List.mem_append_left _ (List.mem_of_getElem? (i := 32) rfl))) rfl
theorem tw_273 : Cond.code yn_J_inodeAt prog_1_method_22_code 6 (some .int) ∈ jb := jb_t (List.mem_append_right _ (List.mem_append_left _ (List.mem_of_getElem? (i := 33) rfl))) rfl
theorem tw_274 : Cond.methodLink "JournaledFiles" 236 yn_I_findEntry ∈ jb := jb_t (List.mem_append_right _ (List.mem_append_left _ (List.mem_of_getElem? (i := 34) rfl))) rfl
theorem tw_275 : Cond.instanceMethod yn_I_findEntry ∈ jb := jb_t (List.mem_append_right _ (List.mem_append_left _ (List.mem_of_getElem? (i := 35) rfl))) rfl
theorem tw_276 : Cond.selects "JournaledFiles$Inodes" yn_I_findEntry yn_I_findEntry ∈ jb := jb_t (List.mem_append_right _ (List.mem_append_left _ (List.mem_of_getElem? (i := 36) rfl))) rfl
theorem tw_277 : Cond.code yn_I_findEntry prog_4_method_21_code 5 (some .int) ∈ jb := jb_t (List.mem_append_right _ (List.mem_append_left _ (List.mem_of_getElem? (i := 37) rfl))) rfl
theorem tw_278 : Cond.methodLink "JournaledFiles$Inodes" 68 yn_I_entries ∈ jb := jb_t (List.mem_append_right _ (List.mem_append_left _ (List.mem_of_getElem? (i := 38) rfl))) rfl
theorem tw_279 : Cond.instanceMethod yn_I_entries ∈ jb := jb_t (List.mem_append_right _ (List.mem_append_left _ (List.mem_of_getElem? (i := 39) rfl))) rfl
theorem tw_280 : Cond.selects "JournaledFiles$Inodes" yn_I_entries yn_I_entries ∈ jb := jb_t (List.mem_append_right _ (List.mem_append_left _ (List.mem_of_getElem? (i := 40) rfl))) rfl
theorem tw_281 : Cond.code yn_I_entries prog_4_method_7_code 2 (some .int) ∈ jb := jb_t (List.mem_append_right _ (List.mem_append_left _ (List.mem_of_getElem? (i := 41) rfl))) rfl
theorem tw_282 : Cond.methodLink "JournaledFiles$Inodes" 32 yn_I_size ∈ jb := jb_t (List.mem_append_right _ (List.mem_append_left _ (List.mem_of_getElem? (i := 42) rfl))) rfl
theorem tw_283 : Cond.instanceMethod yn_I_size ∈ jb := jb_t (List.mem_append_right _ (List.mem_append_left _ (List.mem_of_getElem? (i := 43) rfl))) rfl
theorem tw_284 : Cond.selects "JournaledFiles$Inodes" yn_I_size yn_I_size ∈ jb := jb_t (List.mem_append_right _ (List.mem_append_left _ (List.mem_of_getElem? (i := 44) rfl))) rfl
theorem tw_285 : Cond.code yn_I_size prog_4_method_5_code 2 (some .int) ∈ jb := jb_t (List.mem_append_right _ (List.mem_append_left _ (List.mem_of_getElem? (i := 45) rfl))) rfl
theorem tw_286 : Cond.methodLink "JournaledFiles$Inodes" 65 yn_I_byteOf ∈ jb := jb_t (List.mem_append_right _ (List.mem_append_left _ (List.mem_of_getElem? (i := 46) rfl))) rfl
theorem tw_287 : Cond.instanceMethod yn_I_byteOf ∈ jb := jb_t (List.mem_append_right _ (List.mem_append_left _ (List.mem_of_getElem? (i := 47) rfl))) rfl
theorem tw_288 : Cond.selects "JournaledFiles$Inodes" yn_I_byteOf yn_I_byteOf ∈ jb := jb_t (List.mem_append_right _ (List.mem_append_left _ (List.mem_of_getElem? (i := 48) rfl))) rfl
theorem tw_289 : Cond.code yn_I_byteOf prog_4_method_13_code 3 (some .int) ∈ jb := jb_t (List.mem_append_right _ (List.mem_append_left _ (List.mem_of_getElem? (i := 49) rfl))) rfl
theorem tw_290 : Cond.methodLink "JournaledFiles$Inodes" 45 yn_I_placeOf ∈ jb := jb_t (List.mem_append_right _ (List.mem_append_left _ (List.mem_of_getElem? (i := 50) rfl))) rfl
theorem tw_292 : Cond.instanceMethod yn_I_placeOf ∈ jb := jb_t (List.mem_append_right _ (List.mem_append_left _ (List.mem_of_getElem? (i := 52) rfl))) rfl
theorem tw_293 : Cond.code yn_I_placeOf prog_4_method_12_code 4 (some .int) ∈ jb := jb_t (List.mem_append_right _ (List.mem_append_left _ (List.mem_of_getElem? (i := 53) rfl))) rfl
theorem tw_294 : Cond.methodLink "JournaledFiles" 239 yn_I_entryInode ∈ jb := jb_t (List.mem_append_right _ (List.mem_append_left _ (List.mem_of_getElem? (i := 54) rfl))) rfl
theorem tw_295 : Cond.instanceMethod yn_I_entryInode ∈ jb := jb_t (List.mem_append_right _ (List.mem_append_left _ (List.mem_of_getElem? (i := 55) rfl))) rfl
theorem tw_296 : Cond.selects "JournaledFiles$Inodes" yn_I_entryInode yn_I_entryInode ∈ jb := jb_t (List.mem_append_right _ (List.mem_append_left _ (List.mem_of_getElem? (i := 56) rfl))) rfl
theorem tw_297 : Cond.code yn_I_entryInode prog_4_method_19_code 3 (some .int) ∈ jb := jb_t (List.mem_append_right _ (List.mem_append_left _ (List.mem_of_getElem? (i := 57) rfl))) rfl
theorem tw_314 : Cond.methodLink "JournaledFiles" 54 yn_J_parentNeeded ∈ jb := jb_t (List.mem_append_right _ (List.mem_append_left _ (List.mem_of_getElem? (i := 74) rfl))) rfl
theorem tw_316 : Cond.instanceMethod yn_J_parentNeeded ∈ jb := jb_t (List.mem_append_right _ (List.mem_append_left _ (List.mem_of_getElem? (i := 76) rfl))) rfl
theorem tw_317 : Cond.code yn_J_parentNeeded prog_1_method_24_code 3 (some .int) ∈ jb := jb_t (List.mem_append_right _ (List.mem_append_left _ (List.mem_of_getElem? (i := 77) rfl))) rfl
theorem tw_318 : Cond.methodLink "JournaledFiles" 161 yn_J_parentPath ∈ jb := jb_t (List.mem_append_right _ (List.mem_append_left _ (List.mem_of_getElem? (i := 78) rfl))) rfl
theorem tw_319 : Cond.static yn_J_parentPath ∈ jb := jb_t (List.mem_append_right _ (List.mem_append_left _ (List.mem_of_getElem? (i := 79) rfl))) rfl
theorem tw_320 : Cond.code yn_J_parentPath prog_1_method_20_code 1 (some .int) ∈ jb := jb_t (List.mem_append_right _ (List.mem_append_left _ (List.mem_of_getElem? (i := 80) rfl))) rfl
theorem tw_337 : Cond.methodLink "JournaledFiles" 57 yn_J_checkRoomForNew ∈ jb := jb_t (List.mem_append_right _ (List.mem_append_left _ (List.mem_of_getElem? (i := 97) rfl))) rfl
theorem tw_339 : Cond.instanceMethod yn_J_checkRoomForNew ∈ jb := jb_t (List.mem_append_right _ (List.mem_append_left _ (List.mem_of_getElem? (i := 99) rfl))) rfl
theorem tw_340 : Cond.code yn_J_checkRoomForNew prog_1_method_25_code 2 none ∈ jb := jb_t (List.mem_append_right _ (List.mem_append_left _ (List.mem_of_getElem? (i := 100) rfl))) rfl
theorem tw_341 : Cond.methodLink "JournaledFiles" 246 yn_I_leastFree ∈ jb := jb_t (List.mem_append_right _ (List.mem_append_left _ (List.mem_of_getElem? (i := 101) rfl))) rfl
theorem tw_342 : Cond.instanceMethod yn_I_leastFree ∈ jb := jb_t (List.mem_append_right _ (List.mem_append_left _ (List.mem_of_getElem? (i := 102) rfl))) rfl
theorem tw_343 : Cond.selects "JournaledFiles$Inodes" yn_I_leastFree yn_I_leastFree ∈ jb := jb_t (List.mem_append_right _ (List.mem_append_left _ (List.mem_of_getElem? (i := 103) rfl))) rfl
theorem tw_344 : Cond.code yn_I_leastFree prog_4_method_9_code 2 (some .int) ∈ jb := jb_t (List.mem_append_right _ (List.mem_append_left _ (List.mem_of_getElem? (i := 104) rfl))) rfl
theorem tw_345 : Cond.methodLink "JournaledFiles" 249 yn_I_hasRoomForEntry ∈ jb := jb_t (List.mem_append_right _ (List.mem_append_left _ (List.mem_of_getElem? (i := 105) rfl))) rfl
theorem tw_346 : Cond.instanceMethod yn_I_hasRoomForEntry ∈ jb := jb_t (List.mem_append_right _ (List.mem_append_left _ (List.mem_of_getElem? (i := 106) rfl))) rfl
theorem tw_347 : Cond.selects "JournaledFiles$Inodes" yn_I_hasRoomForEntry yn_I_hasRoomForEntry ∈ jb := jb_t (List.mem_append_right _ (List.mem_append_left _ (List.mem_of_getElem? (i := 107) rfl))) rfl
theorem tw_348 : Cond.code yn_I_hasRoomForEntry prog_4_method_23_code 3 (some .boolean) ∈ jb := jb_t (List.mem_append_right _ (List.mem_append_left _ (List.mem_of_getElem? (i := 108) rfl))) rfl
theorem tw_349 : Cond.methodLink "JournaledFiles$Inodes" 71 yn_I_startsBlock ∈ jb := jb_t (List.mem_append_right _ (List.mem_append_left _ (List.mem_of_getElem? (i := 109) rfl))) rfl
theorem tw_350 : Cond.static yn_I_startsBlock ∈ jb := jb_t (List.mem_append_right _ (List.mem_append_left _ (List.mem_of_getElem? (i := 110) rfl))) rfl
theorem tw_351 : Cond.code yn_I_startsBlock prog_4_method_22_code 1 (some .boolean) ∈ jb := jb_t (List.mem_append_right _ (List.mem_append_left _ (List.mem_of_getElem? (i := 111) rfl))) rfl
theorem tw_352 : Cond.methodLink "JournaledFiles$Inodes" 51 yn_D_freeBlocks ∈ jb := jb_t (List.mem_append_right _ (List.mem_append_left _ (List.mem_of_getElem? (i := 112) rfl))) rfl
theorem tw_369 : Cond.methodLink "JournaledFiles" 60 yn_J_makeNew ∈ jb := jb_t (List.mem_append_right _ (List.mem_append_left _ (List.mem_of_getElem? (i := 129) rfl))) rfl
theorem tw_371 : Cond.instanceMethod yn_J_makeNew ∈ jb := jb_t (List.mem_append_right _ (List.mem_append_left _ (List.mem_of_getElem? (i := 131) rfl))) rfl
theorem tw_372 : Cond.code yn_J_makeNew prog_1_method_27_code 5 (some .int) ∈ jb := jb_t (List.mem_append_right _ (List.mem_append_left _ (List.mem_of_getElem? (i := 132) rfl))) rfl
theorem tw_373 : Cond.methodLink "JournaledFiles" 183 yn_I_addEntry ∈ jb := jb_t (List.mem_append_right _ (List.mem_append_left _ (List.mem_of_getElem? (i := 133) rfl))) rfl
theorem tw_374 : Cond.instanceMethod yn_I_addEntry ∈ jb := jb_t (List.mem_append_right _ (List.mem_append_left _ (List.mem_of_getElem? (i := 134) rfl))) rfl
theorem tw_375 : Cond.selects "JournaledFiles$Inodes" yn_I_addEntry yn_I_addEntry ∈ jb := jb_t (List.mem_append_right _ (List.mem_append_left _ (List.mem_of_getElem? (i := 135) rfl))) rfl
theorem tw_376 : Cond.code yn_I_addEntry prog_4_method_24_code 5 none ∈ jb := jb_t (List.mem_append_right _ (List.mem_append_left _ (List.mem_of_getElem? (i := 136) rfl))) rfl
theorem tw_377 : Cond.methodLink "JournaledFiles$Inodes" 42 yn_I_resize ∈ jb := jb_t (List.mem_append_right _ (List.mem_append_left _ (List.mem_of_getElem? (i := 137) rfl))) rfl
theorem tw_378 : Cond.instanceMethod yn_I_resize ∈ jb := jb_t (List.mem_append_right _ (List.mem_append_left _ (List.mem_of_getElem? (i := 138) rfl))) rfl
theorem tw_379 : Cond.selects "JournaledFiles$Inodes" yn_I_resize yn_I_resize ∈ jb := jb_t (List.mem_append_right _ (List.mem_append_left _ (List.mem_of_getElem? (i := 139) rfl))) rfl
theorem tw_380 : Cond.code yn_I_resize prog_4_method_17_code 5 none ∈ jb := jb_t (List.mem_append_right _ (List.mem_append_left _ (List.mem_of_getElem? (i := 140) rfl))) rfl
theorem tw_381 : Cond.methodLink "JournaledFiles$Inodes" 55 yn_I_putByte ∈ jb := jb_t (List.mem_append_right _ (List.mem_append_left _ (List.mem_of_getElem? (i := 141) rfl))) rfl
theorem tw_382 : Cond.instanceMethod yn_I_putByte ∈ jb := jb_t (List.mem_append_right _ (List.mem_append_left _ (List.mem_of_getElem? (i := 142) rfl))) rfl
theorem tw_383 : Cond.selects "JournaledFiles$Inodes" yn_I_putByte yn_I_putByte ∈ jb := jb_t (List.mem_append_right _ (List.mem_append_left _ (List.mem_of_getElem? (i := 143) rfl))) rfl
theorem tw_384 : Cond.code yn_I_putByte prog_4_method_14_code 4 none ∈ jb := jb_t (List.mem_append_right _ (List.mem_append_left _ (List.mem_of_getElem? (i := 144) rfl))) rfl
theorem tw_385 : Cond.methodLink "JournaledFiles$Inodes" 48 yn_I_blocksFor ∈ jb := jb_t (List.mem_append_right _ (List.mem_append_left _ (List.mem_of_getElem? (i := 145) rfl))) rfl
theorem tw_386 : Cond.static yn_I_blocksFor ∈ jb := jb_t (List.mem_append_right _ (List.mem_append_left _ (List.mem_of_getElem? (i := 146) rfl))) rfl
theorem tw_387 : Cond.code yn_I_blocksFor prog_4_method_15_code 1 (some .int) ∈ jb := jb_t (List.mem_append_right _ (List.mem_append_left _ (List.mem_of_getElem? (i := 147) rfl))) rfl
theorem tw_388 : Cond.methodLink "JournaledFiles$Inodes" 58 yn_D_giveBack ∈ jb := jb_t (List.mem_append_right _ (List.mem_append_left _ (List.mem_of_getElem? (i := 148) rfl))) rfl
theorem tw_389 : Cond.instanceMethod yn_D_giveBack ∈ jb := jb_t (List.mem_append_right _ (List.mem_append_left _ (List.mem_of_getElem? (i := 149) rfl))) rfl
theorem tw_390 : Cond.selects "JournaledFiles$Disk" yn_D_giveBack yn_D_giveBack ∈ jb := jb_t (List.mem_append_right _ (List.mem_append_left _ (List.mem_of_getElem? (i := 150) rfl))) rfl
theorem tw_391 : Cond.code yn_D_giveBack prog_2_method_9_code 2 none ∈ jb := jb_t (List.mem_append_right _ (List.mem_append_left _ (List.mem_of_getElem? (i := 151) rfl))) rfl
theorem tw_392 : Cond.methodLink "JournaledFiles$Inodes" 62 yn_D_takeBlock ∈ jb := jb_t (List.mem_append_right _ (List.mem_append_left _ (List.mem_of_getElem? (i := 152) rfl))) rfl
theorem tw_393 : Cond.instanceMethod yn_D_takeBlock ∈ jb := jb_t (List.mem_append_right _ (List.mem_append_left _ (List.mem_of_getElem? (i := 153) rfl))) rfl
theorem tw_394 : Cond.selects "JournaledFiles$Disk" yn_D_takeBlock yn_D_takeBlock ∈ jb := jb_t (List.mem_append_right _ (List.mem_append_left _ (List.mem_of_getElem? (i := 154) rfl))) rfl
theorem tw_395 : Cond.code yn_D_takeBlock prog_2_method_8_code 2 (some .int) ∈ jb := jb_t (List.mem_append_right _ (List.mem_append_left _ (List.mem_of_getElem? (i := 155) rfl))) rfl
theorem tw_396 : Cond.methodLink "JournaledFiles$Inodes" 75 yn_I_putEntry ∈ jb := jb_t (List.mem_append_right _ (List.mem_append_left _ (List.mem_of_getElem? (i := 156) rfl))) rfl
theorem tw_398 : Cond.instanceMethod yn_I_putEntry ∈ jb := jb_t (List.mem_append_right _ (List.mem_append_left _ (List.mem_of_getElem? (i := 158) rfl))) rfl
theorem tw_399 : Cond.code yn_I_putEntry prog_4_method_20_code 5 none ∈ jb := jb_t (List.mem_append_right _ (List.mem_append_left _ (List.mem_of_getElem? (i := 159) rfl))) rfl
theorem tw_400 : Cond.methodLink "JournaledFilesLaw" 81 yn_L_open ∈ jb := jb_t (List.mem_append_right _ (List.mem_append_left _ (List.mem_of_getElem? (i := 160) rfl))) rfl
theorem tw_401 : Cond.static yn_L_open ∈ jb := jb_t (List.mem_append_right _ (List.mem_append_left _ (List.mem_of_getElem? (i := 161) rfl))) rfl
theorem tw_403 : Cond.methodLink "JournaledFilesLaw" 21 yn_J_open ∈ jb := jb_t (List.mem_append_right _ (List.mem_append_left _ (List.mem_of_getElem? (i := 163) rfl))) rfl
theorem tw_404 : Cond.instanceMethod yn_J_open ∈ jb := jb_t (List.mem_append_right _ (List.mem_append_left _ (List.mem_of_getElem? (i := 164) rfl))) rfl
theorem tw_405 : Cond.selects "JournaledFiles" yn_J_open yn_J_open ∈ jb := jb_t (List.mem_append_right _ (List.mem_append_left _ (List.mem_of_getElem? (i := 165) rfl))) rfl
theorem tw_406 : Cond.code yn_J_open prog_1_method_3_code 9 (some .int) ∈ jb := jb_t (List.mem_append_right _ (List.mem_append_left _ (List.mem_of_getElem? (i := 166) rfl))) rfl
theorem tw_407 : Cond.methodLink "JournaledFiles" 64 yn_J_checkRange ∈ jb := jb_t (List.mem_append_right _ (List.mem_append_left _ (List.mem_of_getElem? (i := 167) rfl))) rfl
theorem tw_408 : Cond.static yn_J_checkRange ∈ jb := jb_t (List.mem_append_right _ (List.mem_append_left _ (List.mem_of_getElem? (i := 168) rfl))) rfl
theorem tw_409 : Cond.code yn_J_checkRange prog_1_method_18_code 3 none ∈ jb := jb_t (List.mem_append_right _ (List.mem_append_left _ (List.mem_of_getElem? (i := 169) rfl))) rfl
theorem tw_411 : Cond.methodLink "JournaledFiles" 68 yn_J_writesBy ∈ jb := jb_t (List.mem_append_right _ (List.mem_append_left _ (List.mem_of_getElem? (i := 171) rfl))) rfl
theorem tw_412 : Cond.static yn_J_writesBy ∈ jb := jb_t (List.mem_append_right _ (List.mem_append_left _ (List.mem_of_getElem? (i := 172) rfl))) rfl
theorem tw_413 : Cond.code yn_J_writesBy prog_1_method_30_code 1 (some .boolean) ∈ jb := jb_t (List.mem_append_right _ (List.mem_append_left _ (List.mem_of_getElem? (i := 173) rfl))) rfl
theorem tw_415 : Cond.methodLink "JournaledFiles" 77 yn_J_closedHandleNeeded ∈ jb := jb_t (List.mem_append_right _ (List.mem_append_left _ (List.mem_of_getElem? (i := 175) rfl))) rfl
theorem tw_417 : Cond.instanceMethod yn_J_closedHandleNeeded ∈ jb := jb_t (List.mem_append_right _ (List.mem_append_left _ (List.mem_of_getElem? (i := 177) rfl))) rfl
theorem tw_418 : Cond.code yn_J_closedHandleNeeded prog_1_method_33_code 2 (some .int) ∈ jb := jb_t (List.mem_append_right _ (List.mem_append_left _ (List.mem_of_getElem? (i := 178) rfl))) rfl
theorem tw_420 : Cond.methodLink "JournaledFiles" 81 yn_J_openHandle ∈ jb := jb_t (List.mem_append_right _ (List.mem_append_left _ (List.mem_of_getElem? (i := 180) rfl))) rfl
theorem tw_422 : Cond.instanceMethod yn_J_openHandle ∈ jb := jb_t (List.mem_append_right _ (List.mem_append_left _ (List.mem_of_getElem? (i := 182) rfl))) rfl
theorem tw_423 : Cond.code yn_J_openHandle prog_1_method_34_code 6 (some .int) ∈ jb := jb_t (List.mem_append_right _ (List.mem_append_left _ (List.mem_of_getElem? (i := 183) rfl))) rfl
theorem tw_425 : Cond.methodLink "JournaledFiles" 93 yn_I_resize ∈ jb := jb_t (List.mem_append_right _ (List.mem_append_left _ (List.mem_of_getElem? (i := 185) rfl))) rfl
theorem tw_426 : Cond.methodLink "JournaledFiles" 96 yn_I_size ∈ jb := jb_t (List.mem_append_right _ (List.mem_append_left _ (List.mem_of_getElem? (i := 186) rfl))) rfl
theorem tw_427 : Cond.methodLink "JournaledFilesLaw" 85 yn_L_close ∈ jb := jb_t (List.mem_append_right _ (List.mem_append_left _ (List.mem_of_getElem? (i := 187) rfl))) rfl
theorem tw_428 : Cond.static yn_L_close ∈ jb := jb_t (List.mem_append_right _ (List.mem_append_left _ (List.mem_of_getElem? (i := 188) rfl))) rfl
theorem tw_430 : Cond.methodLink "JournaledFilesLaw" 25 yn_J_close ∈ jb := jb_t (List.mem_append_right _ (List.mem_append_left _ (List.mem_of_getElem? (i := 190) rfl))) rfl
theorem tw_431 : Cond.instanceMethod yn_J_close ∈ jb := jb_t (List.mem_append_right _ (List.mem_append_left _ (List.mem_of_getElem? (i := 191) rfl))) rfl
theorem tw_432 : Cond.selects "JournaledFiles" yn_J_close yn_J_close ∈ jb := jb_t (List.mem_append_right _ (List.mem_append_left _ (List.mem_of_getElem? (i := 192) rfl))) rfl
theorem tw_433 : Cond.code yn_J_close prog_1_method_4_code 3 none ∈ jb := jb_t (List.mem_append_right _ (List.mem_append_left _ (List.mem_of_getElem? (i := 193) rfl))) rfl
theorem tw_435 : Cond.methodLink "JournaledFilesLaw" 91 yn_L_write ∈ jb := jb_t (List.mem_append_right _ (List.mem_append_left _ (List.mem_of_getElem? (i := 195) rfl))) rfl
theorem tw_436 : Cond.static yn_L_write ∈ jb := jb_t (List.mem_append_right _ (List.mem_append_left _ (List.mem_of_getElem? (i := 196) rfl))) rfl
theorem tw_438 : Cond.methodLink "JournaledFilesLaw" 29 yn_J_write ∈ jb := jb_t (List.mem_append_right _ (List.mem_append_left _ (List.mem_of_getElem? (i := 198) rfl))) rfl
theorem tw_439 : Cond.instanceMethod yn_J_write ∈ jb := jb_t (List.mem_append_right _ (List.mem_append_left _ (List.mem_of_getElem? (i := 199) rfl))) rfl
theorem tw_440 : Cond.selects "JournaledFiles" yn_J_write yn_J_write ∈ jb := jb_t (List.mem_append_right _ (List.mem_append_left _ (List.mem_of_getElem? (i := 200) rfl))) rfl
theorem tw_441 : Cond.code yn_J_write prog_1_method_5_code 9 none ∈ jb := jb_t (List.mem_append_right _ (List.mem_append_left _ (List.mem_of_getElem? (i := 201) rfl))) rfl
theorem tw_442 : Cond.methodLink "JournaledFiles" 105 yn_J_usableHandle ∈ jb := jb_t (List.mem_append_right _ (List.mem_append_left _ (List.mem_of_getElem? (i := 202) rfl))) rfl
theorem tw_444 : Cond.instanceMethod yn_J_usableHandle ∈ jb := jb_t (List.mem_append_right _ (List.mem_append_left _ (List.mem_of_getElem? (i := 204) rfl))) rfl
theorem tw_445 : Cond.code yn_J_usableHandle prog_1_method_35_code 3 (some (.object "JournaledFiles$Handle")) ∈ jb := jb_t (List.mem_append_right _ (List.mem_append_left _ (List.mem_of_getElem? (i := 205) rfl))) rfl
theorem tw_448 : Cond.methodLink "JournaledFiles" 121 ⟨"java/lang/Math", "max", "(II)I"⟩ ∈ jb := jb_t (List.mem_append_right _ (List.mem_append_left _ (List.mem_of_getElem? (i := 208) rfl))) rfl
theorem tw_449 : Cond.static ⟨"java/lang/Math", "max", "(II)I"⟩ ∈ jb := jb_t (List.mem_append_right _ (List.mem_append_left _ (List.mem_of_getElem? (i := 209) rfl))) rfl
theorem tw_450 : Cond.code ⟨"java/lang/Math", "max", "(II)I"⟩ prog_10_method_65_code 2 (some .int) ∈ jb := jb_t (List.mem_append_right _ (List.mem_append_left _ (List.mem_of_getElem? (i := 210) rfl))) rfl
theorem tw_451 : Cond.methodLink "JournaledFiles" 127 yn_J_checkRoomForSize ∈ jb := jb_t (List.mem_append_right _ (List.mem_append_left _ (List.mem_of_getElem? (i := 211) rfl))) rfl
theorem tw_453 : Cond.instanceMethod yn_J_checkRoomForSize ∈ jb := jb_t (List.mem_append_right _ (List.mem_append_left _ (List.mem_of_getElem? (i := 213) rfl))) rfl
theorem tw_454 : Cond.code yn_J_checkRoomForSize prog_1_method_26_code 3 none ∈ jb := jb_t (List.mem_append_right _ (List.mem_append_left _ (List.mem_of_getElem? (i := 214) rfl))) rfl
theorem tw_455 : Cond.methodLink "JournaledFiles" 254 yn_I_hasRoomForSize ∈ jb := jb_t (List.mem_append_right _ (List.mem_append_left _ (List.mem_of_getElem? (i := 215) rfl))) rfl
theorem tw_456 : Cond.instanceMethod yn_I_hasRoomForSize ∈ jb := jb_t (List.mem_append_right _ (List.mem_append_left _ (List.mem_of_getElem? (i := 216) rfl))) rfl
theorem tw_457 : Cond.selects "JournaledFiles$Inodes" yn_I_hasRoomForSize yn_I_hasRoomForSize ∈ jb := jb_t (List.mem_append_right _ (List.mem_append_left _ (List.mem_of_getElem? (i := 217) rfl))) rfl
theorem tw_458 : Cond.code yn_I_hasRoomForSize prog_4_method_16_code 3 (some .boolean) ∈ jb := jb_t (List.mem_append_right _ (List.mem_append_left _ (List.mem_of_getElem? (i := 218) rfl))) rfl
theorem tw_460 : Cond.methodLink "JournaledFiles" 130 yn_I_putByte ∈ jb := jb_t (List.mem_append_right _ (List.mem_append_left _ (List.mem_of_getElem? (i := 220) rfl))) rfl
theorem tw_461 : Cond.methodLink "JournaledFilesLaw" 95 yn_L_read ∈ jb := jb_t (List.mem_append_right _ (List.mem_append_left _ (List.mem_of_getElem? (i := 221) rfl))) rfl
theorem tw_462 : Cond.static yn_L_read ∈ jb := jb_t (List.mem_append_right _ (List.mem_append_left _ (List.mem_of_getElem? (i := 222) rfl))) rfl
theorem tw_464 : Cond.methodLink "JournaledFilesLaw" 33 yn_J_read ∈ jb := jb_t (List.mem_append_right _ (List.mem_append_left _ (List.mem_of_getElem? (i := 224) rfl))) rfl
theorem tw_465 : Cond.instanceMethod yn_J_read ∈ jb := jb_t (List.mem_append_right _ (List.mem_append_left _ (List.mem_of_getElem? (i := 225) rfl))) rfl
theorem tw_466 : Cond.selects "JournaledFiles" yn_J_read yn_J_read ∈ jb := jb_t (List.mem_append_right _ (List.mem_append_left _ (List.mem_of_getElem? (i := 226) rfl))) rfl
theorem tw_467 : Cond.code yn_J_read prog_1_method_6_code 9 (some .long) ∈ jb := jb_t (List.mem_append_right _ (List.mem_append_left _ (List.mem_of_getElem? (i := 227) rfl))) rfl
theorem tw_468 : Cond.methodLink "JournaledFiles" 133 yn_J_readsBy ∈ jb := jb_t (List.mem_append_right _ (List.mem_append_left _ (List.mem_of_getElem? (i := 228) rfl))) rfl
theorem tw_469 : Cond.static yn_J_readsBy ∈ jb := jb_t (List.mem_append_right _ (List.mem_append_left _ (List.mem_of_getElem? (i := 229) rfl))) rfl
theorem tw_470 : Cond.code yn_J_readsBy prog_1_method_31_code 1 (some .boolean) ∈ jb := jb_t (List.mem_append_right _ (List.mem_append_left _ (List.mem_of_getElem? (i := 230) rfl))) rfl
theorem tw_472 : Cond.methodLink "JournaledFiles" 138 ⟨"java/lang/Math", "min", "(II)I"⟩ ∈ jb := jb_t (List.mem_append_right _ (List.mem_append_left _ (List.mem_of_getElem? (i := 232) rfl))) rfl
theorem tw_473 : Cond.static ⟨"java/lang/Math", "min", "(II)I"⟩ ∈ jb := jb_t (List.mem_append_right _ (List.mem_append_left _ (List.mem_of_getElem? (i := 233) rfl))) rfl
theorem tw_474 : Cond.code ⟨"java/lang/Math", "min", "(II)I"⟩ prog_10_method_69_code 2 (some .int) ∈ jb := jb_t (List.mem_append_right _ (List.mem_append_left _ (List.mem_of_getElem? (i := 234) rfl))) rfl
theorem tw_475 : Cond.methodLink "JournaledFiles" 141 yn_I_byteOf ∈ jb := jb_t (List.mem_append_right _ (List.mem_append_left _ (List.mem_of_getElem? (i := 235) rfl))) rfl
theorem tw_476 : Cond.methodLink "JournaledFilesLaw" 99 yn_L_seek ∈ jb := jb_t (List.mem_append_right _ (List.mem_append_left _ (List.mem_of_getElem? (i := 236) rfl))) rfl
theorem tw_477 : Cond.static yn_L_seek ∈ jb := jb_t (List.mem_append_right _ (List.mem_append_left _ (List.mem_of_getElem? (i := 237) rfl))) rfl
theorem tw_479 : Cond.methodLink "JournaledFilesLaw" 37 yn_J_seek ∈ jb := jb_t (List.mem_append_right _ (List.mem_append_left _ (List.mem_of_getElem? (i := 239) rfl))) rfl
theorem tw_480 : Cond.instanceMethod yn_J_seek ∈ jb := jb_t (List.mem_append_right _ (List.mem_append_right _ (List.mem_append_left _ (List.mem_of_getElem? (i := 0) rfl)))) rfl
theorem tw_481 : Cond.selects "JournaledFiles" yn_J_seek yn_J_seek ∈ jb := jb_t (List.mem_append_right _ (List.mem_append_right _ (List.mem_append_left _ (List.mem_of_getElem? (i := 1) rfl)))) rfl
theorem tw_482 : Cond.code yn_J_seek prog_1_method_7_code 4 none ∈ jb := jb_t (List.mem_append_right _ (List.mem_append_right _ (List.mem_append_left _ (List.mem_of_getElem? (i := 2) rfl)))) rfl
theorem tw_484 : Cond.methodLink "JournaledFilesLaw" 103 yn_L_next ∈ jb := jb_t (List.mem_append_right _ (List.mem_append_right _ (List.mem_append_left _ (List.mem_of_getElem? (i := 4) rfl)))) rfl
theorem tw_485 : Cond.static yn_L_next ∈ jb := jb_t (List.mem_append_right _ (List.mem_append_right _ (List.mem_append_left _ (List.mem_of_getElem? (i := 5) rfl)))) rfl
theorem tw_487 : Cond.methodLink "JournaledFilesLaw" 41 yn_J_next ∈ jb := jb_t (List.mem_append_right _ (List.mem_append_right _ (List.mem_append_left _ (List.mem_of_getElem? (i := 7) rfl)))) rfl
theorem tw_488 : Cond.instanceMethod yn_J_next ∈ jb := jb_t (List.mem_append_right _ (List.mem_append_right _ (List.mem_append_left _ (List.mem_of_getElem? (i := 8) rfl)))) rfl
theorem tw_489 : Cond.selects "JournaledFiles" yn_J_next yn_J_next ∈ jb := jb_t (List.mem_append_right _ (List.mem_append_right _ (List.mem_append_left _ (List.mem_of_getElem? (i := 9) rfl)))) rfl
theorem tw_490 : Cond.code yn_J_next prog_1_method_8_code 4 (some .int) ∈ jb := jb_t (List.mem_append_right _ (List.mem_append_right _ (List.mem_append_left _ (List.mem_of_getElem? (i := 10) rfl)))) rfl
theorem tw_492 : Cond.methodLink "JournaledFiles" 148 yn_I_entries ∈ jb := jb_t (List.mem_append_right _ (List.mem_append_right _ (List.mem_append_left _ (List.mem_of_getElem? (i := 12) rfl)))) rfl
theorem tw_493 : Cond.methodLink "JournaledFiles" 151 yn_I_entryName ∈ jb := jb_t (List.mem_append_right _ (List.mem_append_right _ (List.mem_append_left _ (List.mem_of_getElem? (i := 13) rfl)))) rfl
theorem tw_494 : Cond.instanceMethod yn_I_entryName ∈ jb := jb_t (List.mem_append_right _ (List.mem_append_right _ (List.mem_append_left _ (List.mem_of_getElem? (i := 14) rfl)))) rfl
theorem tw_495 : Cond.selects "JournaledFiles$Inodes" yn_I_entryName yn_I_entryName ∈ jb := jb_t (List.mem_append_right _ (List.mem_append_right _ (List.mem_append_left _ (List.mem_of_getElem? (i := 15) rfl)))) rfl
theorem tw_496 : Cond.code yn_I_entryName prog_4_method_18_code 3 (some .int) ∈ jb := jb_t (List.mem_append_right _ (List.mem_append_right _ (List.mem_append_left _ (List.mem_of_getElem? (i := 16) rfl)))) rfl
theorem tw_497 : Cond.methodLink "JournaledFilesLaw" 106 yn_L_remove ∈ jb := jb_t (List.mem_append_right _ (List.mem_append_right _ (List.mem_append_left _ (List.mem_of_getElem? (i := 17) rfl)))) rfl
theorem tw_498 : Cond.static yn_L_remove ∈ jb := jb_t (List.mem_append_right _ (List.mem_append_right _ (List.mem_append_left _ (List.mem_of_getElem? (i := 18) rfl)))) rfl
theorem tw_500 : Cond.methodLink "JournaledFilesLaw" 44 yn_J_remove ∈ jb := jb_t (List.mem_append_right _ (List.mem_append_right _ (List.mem_append_left _ (List.mem_of_getElem? (i := 20) rfl)))) rfl
theorem tw_501 : Cond.instanceMethod yn_J_remove ∈ jb := jb_t (List.mem_append_right _ (List.mem_append_right _ (List.mem_append_left _ (List.mem_of_getElem? (i := 21) rfl)))) rfl
theorem tw_502 : Cond.selects "JournaledFiles" yn_J_remove yn_J_remove ∈ jb := jb_t (List.mem_append_right _ (List.mem_append_right _ (List.mem_append_left _ (List.mem_of_getElem? (i := 22) rfl)))) rfl
theorem tw_503 : Cond.code yn_J_remove prog_1_method_9_code 3 none ∈ jb := jb_t (List.mem_append_right _ (List.mem_append_right _ (List.mem_append_left _ (List.mem_of_getElem? (i := 23) rfl)))) rfl
theorem tw_504 : Cond.methodLink "JournaledFiles" 154 yn_J_inodeNeeded ∈ jb := jb_t (List.mem_append_right _ (List.mem_append_right _ (List.mem_append_left _ (List.mem_of_getElem? (i := 24) rfl)))) rfl
theorem tw_506 : Cond.instanceMethod yn_J_inodeNeeded ∈ jb := jb_t (List.mem_append_right _ (List.mem_append_right _ (List.mem_append_left _ (List.mem_of_getElem? (i := 26) rfl)))) rfl
theorem tw_507 : Cond.code yn_J_inodeNeeded prog_1_method_23_code 3 (some .int) ∈ jb := jb_t (List.mem_append_right _ (List.mem_append_right _ (List.mem_append_left _ (List.mem_of_getElem? (i := 27) rfl)))) rfl
theorem tw_511 : Cond.methodLink "JournaledFiles" 164 yn_I_dropEntry ∈ jb := jb_t (List.mem_append_right _ (List.mem_append_right _ (List.mem_append_left _ (List.mem_of_getElem? (i := 31) rfl)))) rfl
theorem tw_512 : Cond.instanceMethod yn_I_dropEntry ∈ jb := jb_t (List.mem_append_right _ (List.mem_append_right _ (List.mem_append_left _ (List.mem_of_getElem? (i := 32) rfl)))) rfl
theorem tw_513 : Cond.selects "JournaledFiles$Inodes" yn_I_dropEntry yn_I_dropEntry ∈ jb := jb_t (List.mem_append_right _ (List.mem_append_right _ (List.mem_append_left _ (List.mem_of_getElem? (i := 33) rfl)))) rfl
theorem tw_514 : Cond.code yn_I_dropEntry prog_4_method_26_code 5 none ∈ jb := jb_t (List.mem_append_right _ (List.mem_append_right _ (List.mem_append_left _ (List.mem_of_getElem? (i := 34) rfl)))) rfl
theorem tw_515 : Cond.methodLink "JournaledFiles$Inodes" 79 yn_I_findEntry ∈ jb := jb_t (List.mem_append_right _ (List.mem_append_right _ (List.mem_append_left _ (List.mem_of_getElem? (i := 35) rfl)))) rfl
theorem tw_516 : Cond.methodLink "JournaledFiles$Inodes" 82 yn_I_entryName ∈ jb := jb_t (List.mem_append_right _ (List.mem_append_right _ (List.mem_append_left _ (List.mem_of_getElem? (i := 36) rfl)))) rfl
theorem tw_517 : Cond.methodLink "JournaledFiles$Inodes" 85 yn_I_entryInode ∈ jb := jb_t (List.mem_append_right _ (List.mem_append_right _ (List.mem_append_left _ (List.mem_of_getElem? (i := 37) rfl)))) rfl
theorem tw_518 : Cond.methodLink "JournaledFiles" 167 yn_I_vacate ∈ jb := jb_t (List.mem_append_right _ (List.mem_append_right _ (List.mem_append_left _ (List.mem_of_getElem? (i := 38) rfl)))) rfl
theorem tw_519 : Cond.instanceMethod yn_I_vacate ∈ jb := jb_t (List.mem_append_right _ (List.mem_append_right _ (List.mem_append_left _ (List.mem_of_getElem? (i := 39) rfl)))) rfl
theorem tw_520 : Cond.selects "JournaledFiles$Inodes" yn_I_vacate yn_I_vacate ∈ jb := jb_t (List.mem_append_right _ (List.mem_append_right _ (List.mem_append_left _ (List.mem_of_getElem? (i := 40) rfl)))) rfl
theorem tw_521 : Cond.code yn_I_vacate prog_4_method_11_code 2 none ∈ jb := jb_t (List.mem_append_right _ (List.mem_append_right _ (List.mem_append_left _ (List.mem_of_getElem? (i := 41) rfl)))) rfl
theorem tw_522 : Cond.methodLink "JournaledFilesLaw" 109 yn_L_rename ∈ jb := jb_t (List.mem_append_right _ (List.mem_append_right _ (List.mem_append_left _ (List.mem_of_getElem? (i := 42) rfl)))) rfl
theorem tw_523 : Cond.static yn_L_rename ∈ jb := jb_t (List.mem_append_right _ (List.mem_append_right _ (List.mem_append_left _ (List.mem_of_getElem? (i := 43) rfl)))) rfl
theorem tw_525 : Cond.methodLink "JournaledFilesLaw" 47 yn_J_rename ∈ jb := jb_t (List.mem_append_right _ (List.mem_append_right _ (List.mem_append_left _ (List.mem_of_getElem? (i := 45) rfl)))) rfl
theorem tw_526 : Cond.instanceMethod yn_J_rename ∈ jb := jb_t (List.mem_append_right _ (List.mem_append_right _ (List.mem_append_left _ (List.mem_of_getElem? (i := 46) rfl)))) rfl
theorem tw_527 : Cond.selects "JournaledFiles" yn_J_rename yn_J_rename ∈ jb := jb_t (List.mem_append_right _ (List.mem_append_right _ (List.mem_append_left _ (List.mem_of_getElem? (i := 47) rfl)))) rfl
theorem tw_528 : Cond.code yn_J_rename prog_1_method_10_code 7 none ∈ jb := jb_t (List.mem_append_right _ (List.mem_append_right _ (List.mem_append_left _ (List.mem_of_getElem? (i := 48) rfl)))) rfl
theorem tw_529 : Cond.methodLink "JournaledFiles" 170 yn_J_checkMove ∈ jb := jb_t (List.mem_append_right _ (List.mem_append_right _ (List.mem_append_left _ (List.mem_of_getElem? (i := 49) rfl)))) rfl
theorem tw_531 : Cond.instanceMethod yn_J_checkMove ∈ jb := jb_t (List.mem_append_right _ (List.mem_append_right _ (List.mem_append_left _ (List.mem_of_getElem? (i := 51) rfl)))) rfl
theorem tw_532 : Cond.code yn_J_checkMove prog_1_method_28_code 5 none ∈ jb := jb_t (List.mem_append_right _ (List.mem_append_right _ (List.mem_append_left _ (List.mem_of_getElem? (i := 52) rfl)))) rfl
theorem tw_533 : Cond.methodLink "JournaledFiles" 259 yn_J_isAtOrBelow ∈ jb := jb_t (List.mem_append_right _ (List.mem_append_right _ (List.mem_append_left _ (List.mem_of_getElem? (i := 53) rfl)))) rfl
theorem tw_534 : Cond.static yn_J_isAtOrBelow ∈ jb := jb_t (List.mem_append_right _ (List.mem_append_right _ (List.mem_append_left _ (List.mem_of_getElem? (i := 54) rfl)))) rfl
theorem tw_535 : Cond.code yn_J_isAtOrBelow prog_1_method_21_code 4 (some .boolean) ∈ jb := jb_t (List.mem_append_right _ (List.mem_append_right _ (List.mem_append_left _ (List.mem_of_getElem? (i := 55) rfl)))) rfl
theorem tw_538 : Cond.methodLink "JournaledFiles" 174 yn_J_hasRoomAfterLeaving ∈ jb := jb_t (List.mem_append_right _ (List.mem_append_right _ (List.mem_append_left _ (List.mem_of_getElem? (i := 58) rfl)))) rfl
theorem tw_540 : Cond.instanceMethod yn_J_hasRoomAfterLeaving ∈ jb := jb_t (List.mem_append_right _ (List.mem_append_right _ (List.mem_append_left _ (List.mem_of_getElem? (i := 60) rfl)))) rfl
theorem tw_541 : Cond.code yn_J_hasRoomAfterLeaving prog_1_method_29_code 6 (some .boolean) ∈ jb := jb_t (List.mem_append_right _ (List.mem_append_right _ (List.mem_append_left _ (List.mem_of_getElem? (i := 61) rfl)))) rfl
theorem tw_542 : Cond.methodLink "JournaledFiles" 266 yn_I_startsBlock ∈ jb := jb_t (List.mem_append_right _ (List.mem_append_right _ (List.mem_append_left _ (List.mem_of_getElem? (i := 62) rfl)))) rfl
theorem tw_544 : Cond.methodLink "JournaledFiles" 186 yn_I_redirectEntry ∈ jb := jb_t (List.mem_append_right _ (List.mem_append_right _ (List.mem_append_left _ (List.mem_of_getElem? (i := 64) rfl)))) rfl
theorem tw_545 : Cond.instanceMethod yn_I_redirectEntry ∈ jb := jb_t (List.mem_append_right _ (List.mem_append_right _ (List.mem_append_left _ (List.mem_of_getElem? (i := 65) rfl)))) rfl
theorem tw_546 : Cond.selects "JournaledFiles$Inodes" yn_I_redirectEntry yn_I_redirectEntry ∈ jb := jb_t (List.mem_append_right _ (List.mem_append_right _ (List.mem_append_left _ (List.mem_of_getElem? (i := 66) rfl)))) rfl
theorem tw_547 : Cond.code yn_I_redirectEntry prog_4_method_25_code 5 none ∈ jb := jb_t (List.mem_append_right _ (List.mem_append_right _ (List.mem_append_left _ (List.mem_of_getElem? (i := 67) rfl)))) rfl
theorem tw_548 : Cond.methodLink "JournaledFilesLaw" 112 yn_L_truncate ∈ jb := jb_t (List.mem_append_right _ (List.mem_append_right _ (List.mem_append_left _ (List.mem_of_getElem? (i := 68) rfl)))) rfl
theorem tw_549 : Cond.static yn_L_truncate ∈ jb := jb_t (List.mem_append_right _ (List.mem_append_right _ (List.mem_append_left _ (List.mem_of_getElem? (i := 69) rfl)))) rfl
theorem tw_551 : Cond.methodLink "JournaledFilesLaw" 50 yn_J_truncate ∈ jb := jb_t (List.mem_append_right _ (List.mem_append_right _ (List.mem_append_left _ (List.mem_of_getElem? (i := 71) rfl)))) rfl
theorem tw_552 : Cond.instanceMethod yn_J_truncate ∈ jb := jb_t (List.mem_append_right _ (List.mem_append_right _ (List.mem_append_left _ (List.mem_of_getElem? (i := 72) rfl)))) rfl
theorem tw_553 : Cond.selects "JournaledFiles" yn_J_truncate yn_J_truncate ∈ jb := jb_t (List.mem_append_right _ (List.mem_append_right _ (List.mem_append_left _ (List.mem_of_getElem? (i := 73) rfl)))) rfl
theorem tw_554 : Cond.code yn_J_truncate prog_1_method_11_code 4 none ∈ jb := jb_t (List.mem_append_right _ (List.mem_append_right _ (List.mem_append_left _ (List.mem_of_getElem? (i := 74) rfl)))) rfl
theorem tw_556 : Cond.methodLink "JournaledFilesLaw" 115 yn_L_stat ∈ jb := jb_t (List.mem_append_right _ (List.mem_append_right _ (List.mem_append_left _ (List.mem_of_getElem? (i := 76) rfl)))) rfl
theorem tw_557 : Cond.static yn_L_stat ∈ jb := jb_t (List.mem_append_right _ (List.mem_append_right _ (List.mem_append_left _ (List.mem_of_getElem? (i := 77) rfl)))) rfl
theorem tw_559 : Cond.methodLink "JournaledFilesLaw" 53 yn_J_stat ∈ jb := jb_t (List.mem_append_right _ (List.mem_append_right _ (List.mem_append_left _ (List.mem_of_getElem? (i := 79) rfl)))) rfl
theorem tw_560 : Cond.instanceMethod yn_J_stat ∈ jb := jb_t (List.mem_append_right _ (List.mem_append_right _ (List.mem_append_left _ (List.mem_of_getElem? (i := 80) rfl)))) rfl
theorem tw_561 : Cond.selects "JournaledFiles" yn_J_stat yn_J_stat ∈ jb := jb_t (List.mem_append_right _ (List.mem_append_right _ (List.mem_append_left _ (List.mem_of_getElem? (i := 81) rfl)))) rfl
theorem tw_562 : Cond.code yn_J_stat prog_1_method_12_code 4 (some .int) ∈ jb := jb_t (List.mem_append_right _ (List.mem_append_right _ (List.mem_append_left _ (List.mem_of_getElem? (i := 82) rfl)))) rfl
theorem tw_563 : Cond.methodLink "JournaledFilesLaw" 118 yn_L_commit ∈ jb := jb_t (List.mem_append_right _ (List.mem_append_right _ (List.mem_append_left _ (List.mem_of_getElem? (i := 83) rfl)))) rfl
theorem tw_564 : Cond.static yn_L_commit ∈ jb := jb_t (List.mem_append_right _ (List.mem_append_right _ (List.mem_append_left _ (List.mem_of_getElem? (i := 84) rfl)))) rfl
theorem tw_566 : Cond.methodLink "JournaledFilesLaw" 57 yn_J_commit ∈ jb := jb_t (List.mem_append_right _ (List.mem_append_right _ (List.mem_append_left _ (List.mem_of_getElem? (i := 86) rfl)))) rfl
theorem tw_567 : Cond.instanceMethod yn_J_commit ∈ jb := jb_t (List.mem_append_right _ (List.mem_append_right _ (List.mem_append_left _ (List.mem_of_getElem? (i := 87) rfl)))) rfl
theorem tw_568 : Cond.selects "JournaledFiles" yn_J_commit yn_J_commit ∈ jb := jb_t (List.mem_append_right _ (List.mem_append_right _ (List.mem_append_left _ (List.mem_of_getElem? (i := 88) rfl)))) rfl
theorem tw_569 : Cond.code yn_J_commit prog_1_method_13_code 5 (some .int) ∈ jb := jb_t (List.mem_append_right _ (List.mem_append_right _ (List.mem_append_left _ (List.mem_of_getElem? (i := 89) rfl)))) rfl
theorem tw_571 : Cond.methodLink "JournaledFilesLaw" 122 yn_L_cutPower ∈ jb := jb_t (List.mem_append_right _ (List.mem_append_right _ (List.mem_append_left _ (List.mem_of_getElem? (i := 91) rfl)))) rfl
theorem tw_572 : Cond.static yn_L_cutPower ∈ jb := jb_t (List.mem_append_right _ (List.mem_append_right _ (List.mem_append_left _ (List.mem_of_getElem? (i := 92) rfl)))) rfl
theorem tw_574 : Cond.methodLink "JournaledFilesLaw" 61 yn_J_cutPower ∈ jb := jb_t (List.mem_append_right _ (List.mem_append_right _ (List.mem_append_left _ (List.mem_of_getElem? (i := 94) rfl)))) rfl
theorem tw_575 : Cond.instanceMethod yn_J_cutPower ∈ jb := jb_t (List.mem_append_right _ (List.mem_append_right _ (List.mem_append_left _ (List.mem_of_getElem? (i := 95) rfl)))) rfl
theorem tw_576 : Cond.selects "JournaledFiles" yn_J_cutPower yn_J_cutPower ∈ jb := jb_t (List.mem_append_right _ (List.mem_append_right _ (List.mem_append_left _ (List.mem_of_getElem? (i := 96) rfl)))) rfl
theorem tw_577 : Cond.code yn_J_cutPower prog_1_method_14_code 2 none ∈ jb := jb_t (List.mem_append_right _ (List.mem_append_right _ (List.mem_append_left _ (List.mem_of_getElem? (i := 97) rfl)))) rfl
theorem tw_578 : Cond.methodLink "JournaledFilesLaw" 129 yn_L_block ∈ jb := jb_t (List.mem_append_right _ (List.mem_append_right _ (List.mem_append_left _ (List.mem_of_getElem? (i := 98) rfl)))) rfl
theorem tw_579 : Cond.static yn_L_block ∈ jb := jb_t (List.mem_append_right _ (List.mem_append_right _ (List.mem_append_left _ (List.mem_of_getElem? (i := 99) rfl)))) rfl
theorem tw_581 : Cond.methodLink "JournaledFilesLaw" 64 yn_J_block ∈ jb := jb_t (List.mem_append_right _ (List.mem_append_right _ (List.mem_append_left _ (List.mem_of_getElem? (i := 101) rfl)))) rfl
theorem tw_582 : Cond.instanceMethod yn_J_block ∈ jb := jb_t (List.mem_append_right _ (List.mem_append_right _ (List.mem_append_left _ (List.mem_of_getElem? (i := 102) rfl)))) rfl
theorem tw_583 : Cond.selects "JournaledFiles" yn_J_block yn_J_block ∈ jb := jb_t (List.mem_append_right _ (List.mem_append_right _ (List.mem_append_left _ (List.mem_of_getElem? (i := 103) rfl)))) rfl
theorem tw_584 : Cond.code yn_J_block prog_1_method_16_code 5 (some .int) ∈ jb := jb_t (List.mem_append_right _ (List.mem_append_right _ (List.mem_append_left _ (List.mem_of_getElem? (i := 104) rfl)))) rfl
theorem tw_585 : Cond.methodLink "JournaledFiles" 208 yn_D_getKept ∈ jb := jb_t (List.mem_append_right _ (List.mem_append_right _ (List.mem_append_left _ (List.mem_of_getElem? (i := 105) rfl)))) rfl
theorem tw_586 : Cond.methodLink "JournaledFiles" 211 yn_D_get ∈ jb := jb_t (List.mem_append_right _ (List.mem_append_right _ (List.mem_append_left _ (List.mem_of_getElem? (i := 106) rfl)))) rfl
theorem tw_587 : Cond.classLink "JournaledFilesLaw" 69 "JournaledFilesModel" ∈ jb := jb_t (List.mem_append_right _ (List.mem_append_right _ (List.mem_append_left _ (List.mem_of_getElem? (i := 107) rfl)))) rfl
theorem tw_588 : Cond.instantiable "JournaledFilesModel" 17 ∈ jb := jb_t (List.mem_append_right _ (List.mem_append_right _ (List.mem_append_left _ (List.mem_of_getElem? (i := 108) rfl)))) rfl
theorem tw_589 : Cond.methodLink "JournaledFilesLaw" 71 yn_M_init ∈ jb := jb_t (List.mem_append_right _ (List.mem_append_right _ (List.mem_append_left _ (List.mem_of_getElem? (i := 109) rfl)))) rfl
theorem tw_590 : Cond.instanceMethod yn_M_init ∈ jb := jb_t (List.mem_append_right _ (List.mem_append_right _ (List.mem_append_left _ (List.mem_of_getElem? (i := 110) rfl)))) rfl
theorem tw_591 : Cond.code yn_M_init prog_6_method_1_code 2 none ∈ jb := jb_t (List.mem_append_right _ (List.mem_append_right _ (List.mem_append_left _ (List.mem_of_getElem? (i := 111) rfl)))) rfl
theorem tw_592 : Cond.methodLink "JournaledFilesModel" 1 ⟨"java/lang/Object", "<init>", "()V"⟩ ∈ jb := jb_t (List.mem_append_right _ (List.mem_append_right _ (List.mem_append_left _ (List.mem_of_getElem? (i := 112) rfl)))) rfl
theorem tw_593 : Cond.fieldLink "JournaledFilesModel" 7 "JournaledFilesModel" "kind" "[I" ∈ jb := jb_t (List.mem_append_right _ (List.mem_append_right _ (List.mem_append_left _ (List.mem_of_getElem? (i := 113) rfl)))) rfl
theorem tw_594 : Cond.fieldLink "JournaledFilesModel" 13 "JournaledFilesModel" "size" "[I" ∈ jb := jb_t (List.mem_append_right _ (List.mem_append_right _ (List.mem_append_left _ (List.mem_of_getElem? (i := 114) rfl)))) rfl
theorem tw_595 : Cond.fieldLink "JournaledFilesModel" 16 "JournaledFilesModel" "generation" "[I" ∈ jb := jb_t (List.mem_append_right _ (List.mem_append_right _ (List.mem_append_left _ (List.mem_of_getElem? (i := 115) rfl)))) rfl
theorem tw_596 : Cond.fieldLink "JournaledFilesModel" 19 "JournaledFilesModel" "blocks" "[I" ∈ jb := jb_t (List.mem_append_right _ (List.mem_append_right _ (List.mem_append_left _ (List.mem_of_getElem? (i := 116) rfl)))) rfl
theorem tw_597 : Cond.fieldLink "JournaledFilesModel" 22 "JournaledFilesModel" "bytes" "[I" ∈ jb := jb_t (List.mem_append_right _ (List.mem_append_right _ (List.mem_append_left _ (List.mem_of_getElem? (i := 117) rfl)))) rfl
theorem tw_598 : Cond.fieldLink "JournaledFilesModel" 25 "JournaledFilesModel" "inode" "[I" ∈ jb := jb_t (List.mem_append_right _ (List.mem_append_right _ (List.mem_append_left _ (List.mem_of_getElem? (i := 118) rfl)))) rfl
theorem tw_599 : Cond.fieldLink "JournaledFilesModel" 28 "JournaledFilesModel" "born" "[I" ∈ jb := jb_t (List.mem_append_right _ (List.mem_append_right _ (List.mem_append_left _ (List.mem_of_getElem? (i := 119) rfl)))) rfl
theorem tw_600 : Cond.fieldLink "JournaledFilesModel" 31 "JournaledFilesModel" "mode" "[I" ∈ jb := jb_t (List.mem_append_right _ (List.mem_append_right _ (List.mem_append_left _ (List.mem_of_getElem? (i := 120) rfl)))) rfl
theorem tw_601 : Cond.fieldLink "JournaledFilesModel" 34 "JournaledFilesModel" "place" "[I" ∈ jb := jb_t (List.mem_append_right _ (List.mem_append_right _ (List.mem_append_left _ (List.mem_of_getElem? (i := 121) rfl)))) rfl
theorem tw_602 : Cond.fieldLink "JournaledFilesModel" 133 "JournaledFilesModel" "cut" "I" ∈ jb := jb_t (List.mem_append_right _ (List.mem_append_right _ (List.mem_append_left _ (List.mem_of_getElem? (i := 122) rfl)))) rfl
theorem tw_603 : Cond.fieldLink "JournaledFilesModel" 136 "JournaledFilesModel" "writes" "I" ∈ jb := jb_t (List.mem_append_right _ (List.mem_append_right _ (List.mem_append_left _ (List.mem_of_getElem? (i := 123) rfl)))) rfl
theorem tw_604 : Cond.fieldLink "JournaledFilesModel" 145 "JournaledFilesModel" "offs" "I" ∈ jb := jb_t (List.mem_append_right _ (List.mem_append_right _ (List.mem_append_left _ (List.mem_of_getElem? (i := 124) rfl)))) rfl
theorem tw_605 : Cond.fieldLink "JournaledFilesModel" 37 "JournaledFilesModel" "thrown" "I" ∈ jb := jb_t (List.mem_append_right _ (List.mem_append_right _ (List.mem_append_left _ (List.mem_of_getElem? (i := 125) rfl)))) rfl
theorem tw_606 : Cond.fieldLink "JournaledFilesModel" 63 "JournaledFilesModel" "parent" "I" ∈ jb := jb_t (List.mem_append_right _ (List.mem_append_right _ (List.mem_append_left _ (List.mem_of_getElem? (i := 126) rfl)))) rfl
theorem tw_607 : Cond.fieldLink "JournaledFilesModel" 66 "JournaledFilesModel" "entry" "I" ∈ jb := jb_t (List.mem_append_right _ (List.mem_append_right _ (List.mem_append_left _ (List.mem_of_getElem? (i := 127) rfl)))) rfl
theorem tw_608 : Cond.fieldLink "JournaledFilesModel" 69 "JournaledFilesModel" "found" "I" ∈ jb := jb_t (List.mem_append_right _ (List.mem_append_right _ (List.mem_append_left _ (List.mem_of_getElem? (i := 128) rfl)))) rfl
theorem tw_609 : Cond.fieldLink "JournaledFilesModel" 72 "JournaledFilesModel" "last" "I" ∈ jb := jb_t (List.mem_append_right _ (List.mem_append_right _ (List.mem_append_left _ (List.mem_of_getElem? (i := 129) rfl)))) rfl
theorem tw_610 : Cond.laysFinal "JournaledFilesModel" "JournaledFilesModel" "kind" "[I" ∈ jb := jb_t (List.mem_append_right _ (List.mem_append_right _ (List.mem_append_left _ (List.mem_of_getElem? (i := 130) rfl)))) rfl
theorem tw_612 : Cond.laysFinal "JournaledFilesModel" "JournaledFilesModel" "size" "[I" ∈ jb := jb_t (List.mem_append_right _ (List.mem_append_right _ (List.mem_append_left _ (List.mem_of_getElem? (i := 132) rfl)))) rfl
theorem tw_614 : Cond.laysFinal "JournaledFilesModel" "JournaledFilesModel" "generation" "[I" ∈ jb := jb_t (List.mem_append_right _ (List.mem_append_right _ (List.mem_append_left _ (List.mem_of_getElem? (i := 134) rfl)))) rfl
theorem tw_616 : Cond.laysFinal "JournaledFilesModel" "JournaledFilesModel" "blocks" "[I" ∈ jb := jb_t (List.mem_append_right _ (List.mem_append_right _ (List.mem_append_left _ (List.mem_of_getElem? (i := 136) rfl)))) rfl
theorem tw_618 : Cond.laysFinal "JournaledFilesModel" "JournaledFilesModel" "bytes" "[I" ∈ jb := jb_t (List.mem_append_right _ (List.mem_append_right _ (List.mem_append_left _ (List.mem_of_getElem? (i := 138) rfl)))) rfl
theorem tw_620 : Cond.laysFinal "JournaledFilesModel" "JournaledFilesModel" "inode" "[I" ∈ jb := jb_t (List.mem_append_right _ (List.mem_append_right _ (List.mem_append_left _ (List.mem_of_getElem? (i := 140) rfl)))) rfl
theorem tw_622 : Cond.laysFinal "JournaledFilesModel" "JournaledFilesModel" "born" "[I" ∈ jb := jb_t (List.mem_append_right _ (List.mem_append_right _ (List.mem_append_left _ (List.mem_of_getElem? (i := 142) rfl)))) rfl
theorem tw_624 : Cond.laysFinal "JournaledFilesModel" "JournaledFilesModel" "mode" "[I" ∈ jb := jb_t (List.mem_append_right _ (List.mem_append_right _ (List.mem_append_left _ (List.mem_of_getElem? (i := 144) rfl)))) rfl
theorem tw_626 : Cond.laysFinal "JournaledFilesModel" "JournaledFilesModel" "place" "[I" ∈ jb := jb_t (List.mem_append_right _ (List.mem_append_right _ (List.mem_append_left _ (List.mem_of_getElem? (i := 146) rfl)))) rfl
theorem tw_628 : Cond.lays "JournaledFilesModel" "JournaledFilesModel" "cut" "I" ∈ jb := jb_t (List.mem_append_right _ (List.mem_append_right _ (List.mem_append_left _ (List.mem_of_getElem? (i := 148) rfl)))) rfl
theorem tw_630 : Cond.lays "JournaledFilesModel" "JournaledFilesModel" "writes" "I" ∈ jb := jb_t (List.mem_append_right _ (List.mem_append_right _ (List.mem_append_left _ (List.mem_of_getElem? (i := 150) rfl)))) rfl
theorem tw_632 : Cond.lays "JournaledFilesModel" "JournaledFilesModel" "offs" "I" ∈ jb := jb_t (List.mem_append_right _ (List.mem_append_right _ (List.mem_append_left _ (List.mem_of_getElem? (i := 152) rfl)))) rfl
theorem tw_634 : Cond.lays "JournaledFilesModel" "JournaledFilesModel" "thrown" "I" ∈ jb := jb_t (List.mem_append_right _ (List.mem_append_right _ (List.mem_append_left _ (List.mem_of_getElem? (i := 154) rfl)))) rfl
theorem tw_636 : Cond.lays "JournaledFilesModel" "JournaledFilesModel" "parent" "I" ∈ jb := jb_t (List.mem_append_right _ (List.mem_append_right _ (List.mem_append_left _ (List.mem_of_getElem? (i := 156) rfl)))) rfl
theorem tw_638 : Cond.lays "JournaledFilesModel" "JournaledFilesModel" "entry" "I" ∈ jb := jb_t (List.mem_append_right _ (List.mem_append_right _ (List.mem_append_left _ (List.mem_of_getElem? (i := 158) rfl)))) rfl
theorem tw_640 : Cond.lays "JournaledFilesModel" "JournaledFilesModel" "found" "I" ∈ jb := jb_t (List.mem_append_right _ (List.mem_append_right _ (List.mem_append_left _ (List.mem_of_getElem? (i := 160) rfl)))) rfl
theorem tw_642 : Cond.lays "JournaledFilesModel" "JournaledFilesModel" "last" "I" ∈ jb := jb_t (List.mem_append_right _ (List.mem_append_right _ (List.mem_append_left _ (List.mem_of_getElem? (i := 162) rfl)))) rfl
theorem tw_645 : Cond.methodLink "JournaledFilesLaw" 78 yn_M_thrown ∈ jb := jb_t (List.mem_append_right _ (List.mem_append_right _ (List.mem_append_left _ (List.mem_of_getElem? (i := 165) rfl)))) rfl
theorem tw_646 : Cond.instanceMethod yn_M_thrown ∈ jb := jb_t (List.mem_append_right _ (List.mem_append_right _ (List.mem_append_left _ (List.mem_of_getElem? (i := 166) rfl)))) rfl
theorem tw_647 : Cond.selects "JournaledFilesModel" yn_M_thrown yn_M_thrown ∈ jb := jb_t (List.mem_append_right _ (List.mem_append_right _ (List.mem_append_left _ (List.mem_of_getElem? (i := 167) rfl)))) rfl
theorem tw_648 : Cond.code yn_M_thrown prog_6_method_2_code 1 (some .int) ∈ jb := jb_t (List.mem_append_right _ (List.mem_append_right _ (List.mem_append_left _ (List.mem_of_getElem? (i := 168) rfl)))) rfl
theorem tw_649 : Cond.methodLink "JournaledFilesLaw" 77 yn_M_directory ∈ jb := jb_t (List.mem_append_right _ (List.mem_append_right _ (List.mem_append_left _ (List.mem_of_getElem? (i := 169) rfl)))) rfl
theorem tw_650 : Cond.instanceMethod yn_M_directory ∈ jb := jb_t (List.mem_append_right _ (List.mem_append_right _ (List.mem_append_left _ (List.mem_of_getElem? (i := 170) rfl)))) rfl
theorem tw_651 : Cond.selects "JournaledFilesModel" yn_M_directory yn_M_directory ∈ jb := jb_t (List.mem_append_right _ (List.mem_append_right _ (List.mem_append_left _ (List.mem_of_getElem? (i := 171) rfl)))) rfl
theorem tw_652 : Cond.code yn_M_directory prog_6_method_18_code 3 (some .int) ∈ jb := jb_t (List.mem_append_right _ (List.mem_append_right _ (List.mem_append_left _ (List.mem_of_getElem? (i := 172) rfl)))) rfl
theorem tw_653 : Cond.methodLink "JournaledFilesModel" 79 yn_M_badPath ∈ jb := jb_t (List.mem_append_right _ (List.mem_append_right _ (List.mem_append_left _ (List.mem_of_getElem? (i := 173) rfl)))) rfl
theorem tw_655 : Cond.instanceMethod yn_M_badPath ∈ jb := jb_t (List.mem_append_right _ (List.mem_append_right _ (List.mem_append_left _ (List.mem_of_getElem? (i := 175) rfl)))) rfl
theorem tw_656 : Cond.code yn_M_badPath prog_6_method_15_code 5 (some .boolean) ∈ jb := jb_t (List.mem_append_right _ (List.mem_append_right _ (List.mem_append_left _ (List.mem_of_getElem? (i := 176) rfl)))) rfl
theorem tw_657 : Cond.methodLink "JournaledFilesModel" 83 yn_M_lead ∈ jb := jb_t (List.mem_append_right _ (List.mem_append_right _ (List.mem_append_left _ (List.mem_of_getElem? (i := 177) rfl)))) rfl
theorem tw_659 : Cond.instanceMethod yn_M_lead ∈ jb := jb_t (List.mem_append_right _ (List.mem_append_right _ (List.mem_append_left _ (List.mem_of_getElem? (i := 179) rfl)))) rfl
theorem tw_660 : Cond.code yn_M_lead prog_6_method_16_code 4 (some .boolean) ∈ jb := jb_t (List.mem_append_right _ (List.mem_append_right _ (List.mem_append_left _ (List.mem_of_getElem? (i := 180) rfl)))) rfl
theorem tw_661 : Cond.methodLink "JournaledFilesModel" 75 yn_M_entryOf ∈ jb := jb_t (List.mem_append_right _ (List.mem_append_right _ (List.mem_append_left _ (List.mem_of_getElem? (i := 181) rfl)))) rfl
theorem tw_663 : Cond.instanceMethod yn_M_entryOf ∈ jb := jb_t (List.mem_append_right _ (List.mem_append_right _ (List.mem_append_left _ (List.mem_of_getElem? (i := 183) rfl)))) rfl
theorem tw_664 : Cond.code yn_M_entryOf prog_6_method_12_code 4 (some .int) ∈ jb := jb_t (List.mem_append_right _ (List.mem_append_right _ (List.mem_append_left _ (List.mem_of_getElem? (i := 184) rfl)))) rfl
theorem tw_665 : Cond.methodLink "JournaledFilesModel" 60 yn_M_newInode ∈ jb := jb_t (List.mem_append_right _ (List.mem_append_right _ (List.mem_append_left _ (List.mem_of_getElem? (i := 185) rfl)))) rfl
theorem tw_667 : Cond.instanceMethod yn_M_newInode ∈ jb := jb_t (List.mem_append_right _ (List.mem_append_right _ (List.mem_append_left _ (List.mem_of_getElem? (i := 187) rfl)))) rfl
theorem tw_668 : Cond.code yn_M_newInode prog_6_method_6_code 2 (some .int) ∈ jb := jb_t (List.mem_append_right _ (List.mem_append_right _ (List.mem_append_left _ (List.mem_of_getElem? (i := 188) rfl)))) rfl
theorem tw_669 : Cond.methodLink "JournaledFilesModel" 86 yn_M_entryRoom ∈ jb := jb_t (List.mem_append_right _ (List.mem_append_right _ (List.mem_append_left _ (List.mem_of_getElem? (i := 189) rfl)))) rfl
theorem tw_671 : Cond.instanceMethod yn_M_entryRoom ∈ jb := jb_t (List.mem_append_right _ (List.mem_append_right _ (List.mem_append_left _ (List.mem_of_getElem? (i := 191) rfl)))) rfl
theorem tw_672 : Cond.code yn_M_entryRoom prog_6_method_17_code 3 (some .boolean) ∈ jb := jb_t (List.mem_append_right _ (List.mem_append_right _ (List.mem_append_left _ (List.mem_of_getElem? (i := 192) rfl)))) rfl
theorem tw_673 : Cond.methodLink "JournaledFilesModel" 45 yn_M_needed ∈ jb := jb_t (List.mem_append_right _ (List.mem_append_right _ (List.mem_append_left _ (List.mem_of_getElem? (i := 193) rfl)))) rfl
theorem tw_675 : Cond.instanceMethod yn_M_needed ∈ jb := jb_t (List.mem_append_right _ (List.mem_append_right _ (List.mem_append_left _ (List.mem_of_getElem? (i := 195) rfl)))) rfl
theorem tw_676 : Cond.code yn_M_needed prog_6_method_7_code 2 (some .int) ∈ jb := jb_t (List.mem_append_right _ (List.mem_append_right _ (List.mem_append_left _ (List.mem_of_getElem? (i := 196) rfl)))) rfl
theorem tw_677 : Cond.methodLink "JournaledFilesModel" 49 yn_M_freeBlocks ∈ jb := jb_t (List.mem_append_right _ (List.mem_append_right _ (List.mem_append_left _ (List.mem_of_getElem? (i := 197) rfl)))) rfl
theorem tw_679 : Cond.instanceMethod yn_M_freeBlocks ∈ jb := jb_t (List.mem_append_right _ (List.mem_append_right _ (List.mem_append_left _ (List.mem_of_getElem? (i := 199) rfl)))) rfl
theorem tw_680 : Cond.code yn_M_freeBlocks prog_6_method_4_code 3 (some .int) ∈ jb := jb_t (List.mem_append_right _ (List.mem_append_right _ (List.mem_append_left _ (List.mem_of_getElem? (i := 200) rfl)))) rfl
theorem tw_681 : Cond.methodLink "JournaledFilesModel" 41 yn_M_isUsed ∈ jb := jb_t (List.mem_append_right _ (List.mem_append_right _ (List.mem_append_left _ (List.mem_of_getElem? (i := 201) rfl)))) rfl
theorem tw_683 : Cond.instanceMethod yn_M_isUsed ∈ jb := jb_t (List.mem_append_right _ (List.mem_append_right _ (List.mem_append_left _ (List.mem_of_getElem? (i := 203) rfl)))) rfl
theorem tw_684 : Cond.code yn_M_isUsed prog_6_method_3_code 4 (some .boolean) ∈ jb := jb_t (List.mem_append_right _ (List.mem_append_right _ (List.mem_append_left _ (List.mem_of_getElem? (i := 204) rfl)))) rfl
theorem tw_685 : Cond.methodLink "JournaledFilesModel" 89 yn_M_create ∈ jb := jb_t (List.mem_append_right _ (List.mem_append_right _ (List.mem_append_left _ (List.mem_of_getElem? (i := 205) rfl)))) rfl
theorem tw_687 : Cond.instanceMethod yn_M_create ∈ jb := jb_t (List.mem_append_right _ (List.mem_append_right _ (List.mem_append_left _ (List.mem_of_getElem? (i := 207) rfl)))) rfl
theorem tw_688 : Cond.code yn_M_create prog_6_method_11_code 3 (some .int) ∈ jb := jb_t (List.mem_append_right _ (List.mem_append_right _ (List.mem_append_left _ (List.mem_of_getElem? (i := 208) rfl)))) rfl
theorem tw_689 : Cond.methodLink "JournaledFilesModel" 92 yn_M_addEntry ∈ jb := jb_t (List.mem_append_right _ (List.mem_append_right _ (List.mem_append_left _ (List.mem_of_getElem? (i := 209) rfl)))) rfl
theorem tw_691 : Cond.instanceMethod yn_M_addEntry ∈ jb := jb_t (List.mem_append_right _ (List.mem_append_right _ (List.mem_append_left _ (List.mem_of_getElem? (i := 211) rfl)))) rfl
theorem tw_692 : Cond.code yn_M_addEntry prog_6_method_13_code 5 none ∈ jb := jb_t (List.mem_append_right _ (List.mem_append_right _ (List.mem_append_left _ (List.mem_of_getElem? (i := 212) rfl)))) rfl
theorem tw_693 : Cond.methodLink "JournaledFilesModel" 56 yn_M_resize ∈ jb := jb_t (List.mem_append_right _ (List.mem_append_right _ (List.mem_append_left _ (List.mem_of_getElem? (i := 213) rfl)))) rfl
theorem tw_695 : Cond.instanceMethod yn_M_resize ∈ jb := jb_t (List.mem_append_right _ (List.mem_append_right _ (List.mem_append_left _ (List.mem_of_getElem? (i := 215) rfl)))) rfl
theorem tw_696 : Cond.code yn_M_resize prog_6_method_9_code 4 none ∈ jb := jb_t (List.mem_append_right _ (List.mem_append_right _ (List.mem_append_left _ (List.mem_of_getElem? (i := 216) rfl)))) rfl
theorem tw_697 : Cond.methodLink "JournaledFilesModel" 53 yn_M_newBlock ∈ jb := jb_t (List.mem_append_right _ (List.mem_append_right _ (List.mem_append_left _ (List.mem_of_getElem? (i := 217) rfl)))) rfl
theorem tw_699 : Cond.instanceMethod yn_M_newBlock ∈ jb := jb_t (List.mem_append_right _ (List.mem_append_right _ (List.mem_append_left _ (List.mem_of_getElem? (i := 219) rfl)))) rfl
theorem tw_700 : Cond.code yn_M_newBlock prog_6_method_5_code 2 (some .int) ∈ jb := jb_t (List.mem_append_right _ (List.mem_append_right _ (List.mem_append_left _ (List.mem_of_getElem? (i := 220) rfl)))) rfl
theorem tw_701 : Cond.methodLink "JournaledFilesLaw" 84 yn_M_open ∈ jb := jb_t (List.mem_append_right _ (List.mem_append_right _ (List.mem_append_left _ (List.mem_of_getElem? (i := 221) rfl)))) rfl
theorem tw_702 : Cond.instanceMethod yn_M_open ∈ jb := jb_t (List.mem_append_right _ (List.mem_append_right _ (List.mem_append_left _ (List.mem_of_getElem? (i := 222) rfl)))) rfl
theorem tw_703 : Cond.selects "JournaledFilesModel" yn_M_open yn_M_open ∈ jb := jb_t (List.mem_append_right _ (List.mem_append_right _ (List.mem_append_left _ (List.mem_of_getElem? (i := 223) rfl)))) rfl
theorem tw_704 : Cond.code yn_M_open prog_6_method_20_code 9 (some .int) ∈ jb := jb_t (List.mem_append_right _ (List.mem_append_right _ (List.mem_append_left _ (List.mem_of_getElem? (i := 224) rfl)))) rfl
theorem tw_705 : Cond.methodLink "JournaledFilesModel" 96 yn_M_closedHandle ∈ jb := jb_t (List.mem_append_right _ (List.mem_append_right _ (List.mem_append_left _ (List.mem_of_getElem? (i := 225) rfl)))) rfl
theorem tw_707 : Cond.instanceMethod yn_M_closedHandle ∈ jb := jb_t (List.mem_append_right _ (List.mem_append_right _ (List.mem_append_left _ (List.mem_of_getElem? (i := 227) rfl)))) rfl
theorem tw_708 : Cond.code yn_M_closedHandle prog_6_method_19_code 2 (some .int) ∈ jb := jb_t (List.mem_append_right _ (List.mem_append_right _ (List.mem_append_left _ (List.mem_of_getElem? (i := 228) rfl)))) rfl
theorem tw_709 : Cond.methodLink "JournaledFilesLaw" 88 yn_M_close ∈ jb := jb_t (List.mem_append_right _ (List.mem_append_right _ (List.mem_append_left _ (List.mem_of_getElem? (i := 229) rfl)))) rfl
theorem tw_710 : Cond.instanceMethod yn_M_close ∈ jb := jb_t (List.mem_append_right _ (List.mem_append_right _ (List.mem_append_left _ (List.mem_of_getElem? (i := 230) rfl)))) rfl
theorem tw_711 : Cond.selects "JournaledFilesModel" yn_M_close yn_M_close ∈ jb := jb_t (List.mem_append_right _ (List.mem_append_right _ (List.mem_append_left _ (List.mem_of_getElem? (i := 231) rfl)))) rfl
theorem tw_712 : Cond.code yn_M_close prog_6_method_21_code 2 none ∈ jb := jb_t (List.mem_append_right _ (List.mem_append_right _ (List.mem_append_left _ (List.mem_of_getElem? (i := 232) rfl)))) rfl
theorem tw_713 : Cond.methodLink "JournaledFilesLaw" 94 yn_M_write ∈ jb := jb_t (List.mem_append_right _ (List.mem_append_right _ (List.mem_append_left _ (List.mem_of_getElem? (i := 233) rfl)))) rfl
theorem tw_714 : Cond.instanceMethod yn_M_write ∈ jb := jb_t (List.mem_append_right _ (List.mem_append_right _ (List.mem_append_left _ (List.mem_of_getElem? (i := 234) rfl)))) rfl
theorem tw_715 : Cond.selects "JournaledFilesModel" yn_M_write yn_M_write ∈ jb := jb_t (List.mem_append_right _ (List.mem_append_right _ (List.mem_append_left _ (List.mem_of_getElem? (i := 235) rfl)))) rfl
theorem tw_716 : Cond.code yn_M_write prog_6_method_24_code 9 none ∈ jb := jb_t (List.mem_append_right _ (List.mem_append_right _ (List.mem_append_left _ (List.mem_of_getElem? (i := 236) rfl)))) rfl
theorem tw_717 : Cond.methodLink "JournaledFilesModel" 102 yn_M_wrong ∈ jb := jb_t (List.mem_append_right _ (List.mem_append_right _ (List.mem_append_left _ (List.mem_of_getElem? (i := 237) rfl)))) rfl
theorem tw_719 : Cond.instanceMethod yn_M_wrong ∈ jb := jb_t (List.mem_append_right _ (List.mem_append_right _ (List.mem_append_left _ (List.mem_of_getElem? (i := 239) rfl)))) rfl
theorem tw_720 : Cond.code yn_M_wrong prog_6_method_23_code 4 (some .int) ∈ jb := jb_t (List.mem_append_right _ (List.mem_append_right _ (List.mem_append_right _ (List.mem_of_getElem? (i := 0) rfl)))) rfl
theorem tw_721 : Cond.methodLink "JournaledFilesModel" 99 yn_M_stale ∈ jb := jb_t (List.mem_append_right _ (List.mem_append_right _ (List.mem_append_right _ (List.mem_of_getElem? (i := 1) rfl)))) rfl
theorem tw_723 : Cond.instanceMethod yn_M_stale ∈ jb := jb_t (List.mem_append_right _ (List.mem_append_right _ (List.mem_append_right _ (List.mem_of_getElem? (i := 3) rfl)))) rfl
theorem tw_724 : Cond.code yn_M_stale prog_6_method_22_code 3 (some .boolean) ∈ jb := jb_t (List.mem_append_right _ (List.mem_append_right _ (List.mem_append_right _ (List.mem_of_getElem? (i := 4) rfl)))) rfl
theorem tw_725 : Cond.methodLink "JournaledFilesModel" 106 yn_M_roomFor ∈ jb := jb_t (List.mem_append_right _ (List.mem_append_right _ (List.mem_append_right _ (List.mem_of_getElem? (i := 5) rfl)))) rfl
theorem tw_727 : Cond.instanceMethod yn_M_roomFor ∈ jb := jb_t (List.mem_append_right _ (List.mem_append_right _ (List.mem_append_right _ (List.mem_of_getElem? (i := 7) rfl)))) rfl
theorem tw_728 : Cond.code yn_M_roomFor prog_6_method_8_code 3 (some .boolean) ∈ jb := jb_t (List.mem_append_right _ (List.mem_append_right _ (List.mem_append_right _ (List.mem_of_getElem? (i := 8) rfl)))) rfl
theorem tw_729 : Cond.constantLong "JournaledFilesModel" 109 (255 : Int64) ∈ jb := jb_t (List.mem_append_right _ (List.mem_append_right _ (List.mem_append_right _ (List.mem_of_getElem? (i := 9) rfl)))) rfl
theorem tw_730 : Cond.methodLink "JournaledFilesLaw" 98 yn_M_read ∈ jb := jb_t (List.mem_append_right _ (List.mem_append_right _ (List.mem_append_right _ (List.mem_of_getElem? (i := 10) rfl)))) rfl
theorem tw_731 : Cond.instanceMethod yn_M_read ∈ jb := jb_t (List.mem_append_right _ (List.mem_append_right _ (List.mem_append_right _ (List.mem_of_getElem? (i := 11) rfl)))) rfl
theorem tw_732 : Cond.selects "JournaledFilesModel" yn_M_read yn_M_read ∈ jb := jb_t (List.mem_append_right _ (List.mem_append_right _ (List.mem_append_right _ (List.mem_of_getElem? (i := 12) rfl)))) rfl
theorem tw_733 : Cond.code yn_M_read prog_6_method_25_code 7 (some .long) ∈ jb := jb_t (List.mem_append_right _ (List.mem_append_right _ (List.mem_append_right _ (List.mem_of_getElem? (i := 13) rfl)))) rfl
theorem tw_734 : Cond.methodLink "JournaledFilesLaw" 102 yn_M_seek ∈ jb := jb_t (List.mem_append_right _ (List.mem_append_right _ (List.mem_append_right _ (List.mem_of_getElem? (i := 14) rfl)))) rfl
theorem tw_735 : Cond.instanceMethod yn_M_seek ∈ jb := jb_t (List.mem_append_right _ (List.mem_append_right _ (List.mem_append_right _ (List.mem_of_getElem? (i := 15) rfl)))) rfl
theorem tw_736 : Cond.selects "JournaledFilesModel" yn_M_seek yn_M_seek ∈ jb := jb_t (List.mem_append_right _ (List.mem_append_right _ (List.mem_append_right _ (List.mem_of_getElem? (i := 16) rfl)))) rfl
theorem tw_737 : Cond.code yn_M_seek prog_6_method_26_code 3 none ∈ jb := jb_t (List.mem_append_right _ (List.mem_append_right _ (List.mem_append_right _ (List.mem_of_getElem? (i := 17) rfl)))) rfl
theorem tw_738 : Cond.methodLink "JournaledFilesLaw" 105 yn_M_next ∈ jb := jb_t (List.mem_append_right _ (List.mem_append_right _ (List.mem_append_right _ (List.mem_of_getElem? (i := 18) rfl)))) rfl
theorem tw_739 : Cond.instanceMethod yn_M_next ∈ jb := jb_t (List.mem_append_right _ (List.mem_append_right _ (List.mem_append_right _ (List.mem_of_getElem? (i := 19) rfl)))) rfl
theorem tw_740 : Cond.selects "JournaledFilesModel" yn_M_next yn_M_next ∈ jb := jb_t (List.mem_append_right _ (List.mem_append_right _ (List.mem_append_right _ (List.mem_of_getElem? (i := 20) rfl)))) rfl
theorem tw_741 : Cond.code yn_M_next prog_6_method_27_code 3 (some .int) ∈ jb := jb_t (List.mem_append_right _ (List.mem_append_right _ (List.mem_append_right _ (List.mem_of_getElem? (i := 21) rfl)))) rfl
theorem tw_742 : Cond.methodLink "JournaledFilesLaw" 108 yn_M_remove ∈ jb := jb_t (List.mem_append_right _ (List.mem_append_right _ (List.mem_append_right _ (List.mem_of_getElem? (i := 22) rfl)))) rfl
theorem tw_743 : Cond.instanceMethod yn_M_remove ∈ jb := jb_t (List.mem_append_right _ (List.mem_append_right _ (List.mem_append_right _ (List.mem_of_getElem? (i := 23) rfl)))) rfl
theorem tw_744 : Cond.selects "JournaledFilesModel" yn_M_remove yn_M_remove ∈ jb := jb_t (List.mem_append_right _ (List.mem_append_right _ (List.mem_append_right _ (List.mem_of_getElem? (i := 24) rfl)))) rfl
theorem tw_745 : Cond.code yn_M_remove prog_6_method_28_code 3 none ∈ jb := jb_t (List.mem_append_right _ (List.mem_append_right _ (List.mem_append_right _ (List.mem_of_getElem? (i := 25) rfl)))) rfl
theorem tw_746 : Cond.methodLink "JournaledFilesModel" 111 yn_M_dropEntry ∈ jb := jb_t (List.mem_append_right _ (List.mem_append_right _ (List.mem_append_right _ (List.mem_of_getElem? (i := 26) rfl)))) rfl
theorem tw_748 : Cond.instanceMethod yn_M_dropEntry ∈ jb := jb_t (List.mem_append_right _ (List.mem_append_right _ (List.mem_append_right _ (List.mem_of_getElem? (i := 28) rfl)))) rfl
theorem tw_749 : Cond.code yn_M_dropEntry prog_6_method_14_code 4 none ∈ jb := jb_t (List.mem_append_right _ (List.mem_append_right _ (List.mem_append_right _ (List.mem_of_getElem? (i := 29) rfl)))) rfl
theorem tw_750 : Cond.methodLink "JournaledFilesModel" 114 yn_M_release ∈ jb := jb_t (List.mem_append_right _ (List.mem_append_right _ (List.mem_append_right _ (List.mem_of_getElem? (i := 30) rfl)))) rfl
theorem tw_752 : Cond.instanceMethod yn_M_release ∈ jb := jb_t (List.mem_append_right _ (List.mem_append_right _ (List.mem_append_right _ (List.mem_of_getElem? (i := 32) rfl)))) rfl
theorem tw_753 : Cond.code yn_M_release prog_6_method_10_code 2 none ∈ jb := jb_t (List.mem_append_right _ (List.mem_append_right _ (List.mem_append_right _ (List.mem_of_getElem? (i := 33) rfl)))) rfl
theorem tw_754 : Cond.methodLink "JournaledFilesLaw" 111 yn_M_rename ∈ jb := jb_t (List.mem_append_right _ (List.mem_append_right _ (List.mem_append_right _ (List.mem_of_getElem? (i := 34) rfl)))) rfl
theorem tw_755 : Cond.instanceMethod yn_M_rename ∈ jb := jb_t (List.mem_append_right _ (List.mem_append_right _ (List.mem_append_right _ (List.mem_of_getElem? (i := 35) rfl)))) rfl
theorem tw_756 : Cond.selects "JournaledFilesModel" yn_M_rename yn_M_rename ∈ jb := jb_t (List.mem_append_right _ (List.mem_append_right _ (List.mem_append_right _ (List.mem_of_getElem? (i := 36) rfl)))) rfl
theorem tw_757 : Cond.code yn_M_rename prog_6_method_30_code 10 none ∈ jb := jb_t (List.mem_append_right _ (List.mem_append_right _ (List.mem_append_right _ (List.mem_of_getElem? (i := 37) rfl)))) rfl
theorem tw_758 : Cond.methodLink "JournaledFilesModel" 118 yn_M_within ∈ jb := jb_t (List.mem_append_right _ (List.mem_append_right _ (List.mem_append_right _ (List.mem_of_getElem? (i := 38) rfl)))) rfl
theorem tw_760 : Cond.instanceMethod yn_M_within ∈ jb := jb_t (List.mem_append_right _ (List.mem_append_right _ (List.mem_append_right _ (List.mem_of_getElem? (i := 40) rfl)))) rfl
theorem tw_761 : Cond.code yn_M_within prog_6_method_29_code 4 (some .boolean) ∈ jb := jb_t (List.mem_append_right _ (List.mem_append_right _ (List.mem_append_right _ (List.mem_of_getElem? (i := 41) rfl)))) rfl
theorem tw_762 : Cond.methodLink "JournaledFilesLaw" 114 yn_M_truncate ∈ jb := jb_t (List.mem_append_right _ (List.mem_append_right _ (List.mem_append_right _ (List.mem_of_getElem? (i := 42) rfl)))) rfl
theorem tw_763 : Cond.instanceMethod yn_M_truncate ∈ jb := jb_t (List.mem_append_right _ (List.mem_append_right _ (List.mem_append_right _ (List.mem_of_getElem? (i := 43) rfl)))) rfl
theorem tw_764 : Cond.selects "JournaledFilesModel" yn_M_truncate yn_M_truncate ∈ jb := jb_t (List.mem_append_right _ (List.mem_append_right _ (List.mem_append_right _ (List.mem_of_getElem? (i := 44) rfl)))) rfl
theorem tw_765 : Cond.code yn_M_truncate prog_6_method_31_code 3 none ∈ jb := jb_t (List.mem_append_right _ (List.mem_append_right _ (List.mem_append_right _ (List.mem_of_getElem? (i := 45) rfl)))) rfl
theorem tw_766 : Cond.methodLink "JournaledFilesLaw" 117 yn_M_stat ∈ jb := jb_t (List.mem_append_right _ (List.mem_append_right _ (List.mem_append_right _ (List.mem_of_getElem? (i := 46) rfl)))) rfl
theorem tw_767 : Cond.instanceMethod yn_M_stat ∈ jb := jb_t (List.mem_append_right _ (List.mem_append_right _ (List.mem_append_right _ (List.mem_of_getElem? (i := 47) rfl)))) rfl
theorem tw_768 : Cond.selects "JournaledFilesModel" yn_M_stat yn_M_stat ∈ jb := jb_t (List.mem_append_right _ (List.mem_append_right _ (List.mem_append_right _ (List.mem_of_getElem? (i := 48) rfl)))) rfl
theorem tw_769 : Cond.code yn_M_stat prog_6_method_32_code 3 (some .int) ∈ jb := jb_t (List.mem_append_right _ (List.mem_append_right _ (List.mem_append_right _ (List.mem_of_getElem? (i := 49) rfl)))) rfl
theorem tw_770 : Cond.methodLink "JournaledFilesLaw" 121 yn_M_commit ∈ jb := jb_t (List.mem_append_right _ (List.mem_append_right _ (List.mem_append_right _ (List.mem_of_getElem? (i := 50) rfl)))) rfl
theorem tw_771 : Cond.instanceMethod yn_M_commit ∈ jb := jb_t (List.mem_append_right _ (List.mem_append_right _ (List.mem_append_right _ (List.mem_of_getElem? (i := 51) rfl)))) rfl
theorem tw_772 : Cond.selects "JournaledFilesModel" yn_M_commit yn_M_commit ∈ jb := jb_t (List.mem_append_right _ (List.mem_append_right _ (List.mem_append_right _ (List.mem_of_getElem? (i := 52) rfl)))) rfl
theorem tw_773 : Cond.code yn_M_commit prog_6_method_38_code 3 (some .int) ∈ jb := jb_t (List.mem_append_right _ (List.mem_append_right _ (List.mem_append_right _ (List.mem_of_getElem? (i := 53) rfl)))) rfl
theorem tw_774 : Cond.methodLink "JournaledFilesModel" 130 yn_M_differing ∈ jb := jb_t (List.mem_append_right _ (List.mem_append_right _ (List.mem_append_right _ (List.mem_of_getElem? (i := 54) rfl)))) rfl
theorem tw_776 : Cond.instanceMethod yn_M_differing ∈ jb := jb_t (List.mem_append_right _ (List.mem_append_right _ (List.mem_append_right _ (List.mem_of_getElem? (i := 56) rfl)))) rfl
theorem tw_777 : Cond.code yn_M_differing prog_6_method_36_code 5 (some .int) ∈ jb := jb_t (List.mem_append_right _ (List.mem_append_right _ (List.mem_append_right _ (List.mem_of_getElem? (i := 57) rfl)))) rfl
theorem tw_778 : Cond.methodLink "JournaledFilesModel" 127 yn_M_byteOf ∈ jb := jb_t (List.mem_append_right _ (List.mem_append_right _ (List.mem_append_right _ (List.mem_of_getElem? (i := 58) rfl)))) rfl
theorem tw_780 : Cond.instanceMethod yn_M_byteOf ∈ jb := jb_t (List.mem_append_right _ (List.mem_append_right _ (List.mem_append_right _ (List.mem_of_getElem? (i := 60) rfl)))) rfl
theorem tw_781 : Cond.code yn_M_byteOf prog_6_method_35_code 5 (some .int) ∈ jb := jb_t (List.mem_append_right _ (List.mem_append_right _ (List.mem_append_right _ (List.mem_of_getElem? (i := 61) rfl)))) rfl
theorem tw_782 : Cond.methodLink "JournaledFilesModel" 121 yn_M_mapByte ∈ jb := jb_t (List.mem_append_right _ (List.mem_append_right _ (List.mem_append_right _ (List.mem_of_getElem? (i := 62) rfl)))) rfl
theorem tw_784 : Cond.instanceMethod yn_M_mapByte ∈ jb := jb_t (List.mem_append_right _ (List.mem_append_right _ (List.mem_append_right _ (List.mem_of_getElem? (i := 64) rfl)))) rfl
theorem tw_785 : Cond.code yn_M_mapByte prog_6_method_33_code 5 (some .int) ∈ jb := jb_t (List.mem_append_right _ (List.mem_append_right _ (List.mem_append_right _ (List.mem_of_getElem? (i := 65) rfl)))) rfl
theorem tw_786 : Cond.methodLink "JournaledFilesModel" 124 yn_M_inodeByte ∈ jb := jb_t (List.mem_append_right _ (List.mem_append_right _ (List.mem_append_right _ (List.mem_of_getElem? (i := 66) rfl)))) rfl
theorem tw_788 : Cond.instanceMethod yn_M_inodeByte ∈ jb := jb_t (List.mem_append_right _ (List.mem_append_right _ (List.mem_append_right _ (List.mem_of_getElem? (i := 68) rfl)))) rfl
theorem tw_789 : Cond.code yn_M_inodeByte prog_6_method_34_code 3 (some .int) ∈ jb := jb_t (List.mem_append_right _ (List.mem_append_right _ (List.mem_append_right _ (List.mem_of_getElem? (i := 69) rfl)))) rfl
theorem tw_790 : Cond.methodLink "JournaledFilesModel" 139 yn_M_copyTables ∈ jb := jb_t (List.mem_append_right _ (List.mem_append_right _ (List.mem_append_right _ (List.mem_of_getElem? (i := 70) rfl)))) rfl
theorem tw_792 : Cond.instanceMethod yn_M_copyTables ∈ jb := jb_t (List.mem_append_right _ (List.mem_append_right _ (List.mem_append_right _ (List.mem_of_getElem? (i := 72) rfl)))) rfl
theorem tw_793 : Cond.code yn_M_copyTables prog_6_method_37_code 4 none ∈ jb := jb_t (List.mem_append_right _ (List.mem_append_right _ (List.mem_append_right _ (List.mem_of_getElem? (i := 73) rfl)))) rfl
theorem tw_794 : Cond.methodLink "JournaledFilesModel" 142 yn_M_crash ∈ jb := jb_t (List.mem_append_right _ (List.mem_append_right _ (List.mem_append_right _ (List.mem_of_getElem? (i := 74) rfl)))) rfl
theorem tw_795 : Cond.instanceMethod yn_M_crash ∈ jb := jb_t (List.mem_append_right _ (List.mem_append_right _ (List.mem_append_right _ (List.mem_of_getElem? (i := 75) rfl)))) rfl
theorem tw_796 : Cond.selects "JournaledFilesModel" yn_M_crash yn_M_crash ∈ jb := jb_t (List.mem_append_right _ (List.mem_append_right _ (List.mem_append_right _ (List.mem_of_getElem? (i := 76) rfl)))) rfl
theorem tw_797 : Cond.code yn_M_crash prog_6_method_40_code 2 none ∈ jb := jb_t (List.mem_append_right _ (List.mem_append_right _ (List.mem_append_right _ (List.mem_of_getElem? (i := 77) rfl)))) rfl
theorem tw_798 : Cond.methodLink "JournaledFilesLaw" 124 yn_M_cutPower ∈ jb := jb_t (List.mem_append_right _ (List.mem_append_right _ (List.mem_append_right _ (List.mem_of_getElem? (i := 78) rfl)))) rfl
theorem tw_799 : Cond.instanceMethod yn_M_cutPower ∈ jb := jb_t (List.mem_append_right _ (List.mem_append_right _ (List.mem_append_right _ (List.mem_of_getElem? (i := 79) rfl)))) rfl
theorem tw_800 : Cond.selects "JournaledFilesModel" yn_M_cutPower yn_M_cutPower ∈ jb := jb_t (List.mem_append_right _ (List.mem_append_right _ (List.mem_append_right _ (List.mem_of_getElem? (i := 80) rfl)))) rfl
theorem tw_801 : Cond.code yn_M_cutPower prog_6_method_39_code 2 none ∈ jb := jb_t (List.mem_append_right _ (List.mem_append_right _ (List.mem_append_right _ (List.mem_of_getElem? (i := 81) rfl)))) rfl
theorem tw_802 : Cond.methodLink "JournaledFilesLaw" 128 yn_M_crash ∈ jb := jb_t (List.mem_append_right _ (List.mem_append_right _ (List.mem_append_right _ (List.mem_of_getElem? (i := 82) rfl)))) rfl
theorem tw_803 : Cond.methodLink "JournaledFilesLaw" 132 yn_M_block ∈ jb := jb_t (List.mem_append_right _ (List.mem_append_right _ (List.mem_append_right _ (List.mem_of_getElem? (i := 83) rfl)))) rfl
theorem tw_804 : Cond.instanceMethod yn_M_block ∈ jb := jb_t (List.mem_append_right _ (List.mem_append_right _ (List.mem_append_right _ (List.mem_of_getElem? (i := 84) rfl)))) rfl
theorem tw_805 : Cond.selects "JournaledFilesModel" yn_M_block yn_M_block ∈ jb := jb_t (List.mem_append_right _ (List.mem_append_right _ (List.mem_append_right _ (List.mem_of_getElem? (i := 85) rfl)))) rfl
theorem tw_806 : Cond.code yn_M_block prog_6_method_41_code 4 (some .int) ∈ jb := jb_t (List.mem_append_right _ (List.mem_append_right _ (List.mem_append_right _ (List.mem_of_getElem? (i := 86) rfl)))) rfl
theorem tw_807 : Cond.methodLink "JournaledFilesLaw" 136 yn_M_count ∈ jb := jb_t (List.mem_append_right _ (List.mem_append_right _ (List.mem_append_right _ (List.mem_of_getElem? (i := 87) rfl)))) rfl
theorem tw_808 : Cond.instanceMethod yn_M_count ∈ jb := jb_t (List.mem_append_right _ (List.mem_append_right _ (List.mem_append_right _ (List.mem_of_getElem? (i := 88) rfl)))) rfl
theorem tw_809 : Cond.selects "JournaledFilesModel" yn_M_count yn_M_count ∈ jb := jb_t (List.mem_append_right _ (List.mem_append_right _ (List.mem_append_right _ (List.mem_of_getElem? (i := 89) rfl)))) rfl
theorem tw_810 : Cond.code yn_M_count prog_6_method_42_code 4 (some .int) ∈ jb := jb_t (List.mem_append_right _ (List.mem_append_right _ (List.mem_append_right _ (List.mem_of_getElem? (i := 90) rfl)))) rfl
theorem tw_811 : Cond.constantLong "JournaledFilesLaw" 89 (4294967295 : Int64) ∈ jb := jb_t (List.mem_append_right _ (List.mem_append_right _ (List.mem_append_right _ (List.mem_of_getElem? (i := 91) rfl)))) rfl
theorem tw_812 : Cond.arrayClass .long ∈ jb := jb_t (List.mem_append_right _ (List.mem_append_right _ (List.mem_append_right _ (List.mem_of_getElem? (i := 92) rfl)))) rfl
theorem ts_0_0 : Cond.selects "JournaledFiles$Disk" yn_D_mark yn_D_mark ∈ jb := jb_s (List.mem_of_getElem? (i := 0) rfl) rfl
theorem ts_0_1 : Cond.selects "JournaledFiles$Inodes" yn_I_putField yn_I_putField ∈ jb := jb_s (List.mem_of_getElem? (i := 1) rfl) rfl
theorem ts_0_2 : Cond.selects "JournaledFiles$Inodes" yn_I_field yn_I_field ∈ jb := jb_s (List.mem_of_getElem? (i := 2) rfl) rfl
theorem ts_0_3 : Cond.selects "JournaledFiles" yn_J_losePower yn_J_losePower ∈ jb := jb_s (List.mem_of_getElem? (i := 3) rfl) rfl
theorem ts_0_4 : Cond.selects "JournaledFiles$Disk" yn_D_isUsed yn_D_isUsed ∈ jb := jb_s (List.mem_of_getElem? (i := 4) rfl) rfl
theorem ts_0_5 : Cond.selects "JournaledFiles" yn_J_openHandles yn_J_openHandles ∈ jb := jb_s (List.mem_of_getElem? (i := 5) rfl) rfl
theorem ts_0_6 : Cond.selects "JournaledFiles$Disk" yn_D_differs yn_D_differs ∈ jb := jb_s (List.mem_of_getElem? (i := 6) rfl) rfl
theorem ts_0_7 : Cond.selects "JournaledFiles" yn_J_staleHandles yn_J_staleHandles ∈ jb := jb_s (List.mem_of_getElem? (i := 7) rfl) rfl
theorem ts_0_8 : Cond.selects "JournaledFiles" yn_J_isStale yn_J_isStale ∈ jb := jb_s (List.mem_of_getElem? (i := 8) rfl) rfl
theorem ts_0_10 : Cond.selects "JournaledFiles" yn_J_inodeAt yn_J_inodeAt ∈ jb := jb_s (List.mem_of_getElem? (i := 10) rfl) rfl
theorem ts_0_11 : Cond.selects "JournaledFiles$Inodes" yn_I_placeOf yn_I_placeOf ∈ jb := jb_s (List.mem_of_getElem? (i := 11) rfl) rfl
theorem ts_0_12 : Cond.selects "JournaledFiles" yn_J_parentNeeded yn_J_parentNeeded ∈ jb := jb_s (List.mem_of_getElem? (i := 12) rfl) rfl
theorem ts_0_13 : Cond.selects "JournaledFiles" yn_J_checkRoomForNew yn_J_checkRoomForNew ∈ jb := jb_s (List.mem_of_getElem? (i := 13) rfl) rfl
theorem ts_0_14 : Cond.selects "JournaledFiles" yn_J_makeNew yn_J_makeNew ∈ jb := jb_s (List.mem_of_getElem? (i := 14) rfl) rfl
theorem ts_0_15 : Cond.selects "JournaledFiles$Inodes" yn_I_putEntry yn_I_putEntry ∈ jb := jb_s (List.mem_of_getElem? (i := 15) rfl) rfl
theorem ts_1_0 : Cond.selects "JournaledFiles" yn_J_closedHandleNeeded yn_J_closedHandleNeeded ∈ jb := jb_s (List.mem_of_getElem? (i := 16) rfl) rfl
theorem ts_1_1 : Cond.selects "JournaledFiles" yn_J_openHandle yn_J_openHandle ∈ jb := jb_s (List.mem_of_getElem? (i := 17) rfl) rfl
theorem ts_1_2 : Cond.selects "JournaledFiles" yn_J_usableHandle yn_J_usableHandle ∈ jb := jb_s (List.mem_of_getElem? (i := 18) rfl) rfl
theorem ts_1_3 : Cond.selects "JournaledFiles" yn_J_checkRoomForSize yn_J_checkRoomForSize ∈ jb := jb_s (List.mem_of_getElem? (i := 19) rfl) rfl
theorem ts_1_4 : Cond.selects "JournaledFiles" yn_J_inodeNeeded yn_J_inodeNeeded ∈ jb := jb_s (List.mem_of_getElem? (i := 20) rfl) rfl
theorem ts_1_5 : Cond.selects "JournaledFiles" yn_J_checkMove yn_J_checkMove ∈ jb := jb_s (List.mem_of_getElem? (i := 21) rfl) rfl
theorem ts_1_6 : Cond.selects "JournaledFiles" yn_J_hasRoomAfterLeaving yn_J_hasRoomAfterLeaving ∈ jb := jb_s (List.mem_of_getElem? (i := 22) rfl) rfl
theorem ts_1_7 : Cond.selects "JournaledFilesModel" yn_M_badPath yn_M_badPath ∈ jb := jb_s (List.mem_of_getElem? (i := 23) rfl) rfl
theorem ts_1_8 : Cond.selects "JournaledFilesModel" yn_M_lead yn_M_lead ∈ jb := jb_s (List.mem_of_getElem? (i := 24) rfl) rfl
theorem ts_1_9 : Cond.selects "JournaledFilesModel" yn_M_entryOf yn_M_entryOf ∈ jb := jb_s (List.mem_of_getElem? (i := 25) rfl) rfl
theorem ts_1_10 : Cond.selects "JournaledFilesModel" yn_M_newInode yn_M_newInode ∈ jb := jb_s (List.mem_of_getElem? (i := 26) rfl) rfl
theorem ts_1_11 : Cond.selects "JournaledFilesModel" yn_M_entryRoom yn_M_entryRoom ∈ jb := jb_s (List.mem_of_getElem? (i := 27) rfl) rfl
theorem ts_1_12 : Cond.selects "JournaledFilesModel" yn_M_needed yn_M_needed ∈ jb := jb_s (List.mem_of_getElem? (i := 28) rfl) rfl
theorem ts_1_13 : Cond.selects "JournaledFilesModel" yn_M_freeBlocks yn_M_freeBlocks ∈ jb := jb_s (List.mem_of_getElem? (i := 29) rfl) rfl
theorem ts_1_14 : Cond.selects "JournaledFilesModel" yn_M_isUsed yn_M_isUsed ∈ jb := jb_s (List.mem_of_getElem? (i := 30) rfl) rfl
theorem ts_1_15 : Cond.selects "JournaledFilesModel" yn_M_create yn_M_create ∈ jb := jb_s (List.mem_of_getElem? (i := 31) rfl) rfl
theorem ts_2_0 : Cond.selects "JournaledFilesModel" yn_M_addEntry yn_M_addEntry ∈ jb := jb_s (List.mem_of_getElem? (i := 32) rfl) rfl
theorem ts_2_1 : Cond.selects "JournaledFilesModel" yn_M_resize yn_M_resize ∈ jb := jb_s (List.mem_of_getElem? (i := 33) rfl) rfl
theorem ts_2_2 : Cond.selects "JournaledFilesModel" yn_M_newBlock yn_M_newBlock ∈ jb := jb_s (List.mem_of_getElem? (i := 34) rfl) rfl
theorem ts_2_3 : Cond.selects "JournaledFilesModel" yn_M_closedHandle yn_M_closedHandle ∈ jb := jb_s (List.mem_of_getElem? (i := 35) rfl) rfl
theorem ts_2_4 : Cond.selects "JournaledFilesModel" yn_M_wrong yn_M_wrong ∈ jb := jb_s (List.mem_of_getElem? (i := 36) rfl) rfl
theorem ts_2_5 : Cond.selects "JournaledFilesModel" yn_M_stale yn_M_stale ∈ jb := jb_s (List.mem_of_getElem? (i := 37) rfl) rfl
theorem ts_2_6 : Cond.selects "JournaledFilesModel" yn_M_roomFor yn_M_roomFor ∈ jb := jb_s (List.mem_of_getElem? (i := 38) rfl) rfl
theorem ts_2_7 : Cond.selects "JournaledFilesModel" yn_M_dropEntry yn_M_dropEntry ∈ jb := jb_s (List.mem_of_getElem? (i := 39) rfl) rfl
theorem ts_2_8 : Cond.selects "JournaledFilesModel" yn_M_release yn_M_release ∈ jb := jb_s (List.mem_of_getElem? (i := 40) rfl) rfl
theorem ts_2_9 : Cond.selects "JournaledFilesModel" yn_M_within yn_M_within ∈ jb := jb_s (List.mem_of_getElem? (i := 41) rfl) rfl
theorem ts_2_10 : Cond.selects "JournaledFilesModel" yn_M_differing yn_M_differing ∈ jb := jb_s (List.mem_of_getElem? (i := 42) rfl) rfl
theorem ts_2_11 : Cond.selects "JournaledFilesModel" yn_M_byteOf yn_M_byteOf ∈ jb := jb_s (List.mem_of_getElem? (i := 43) rfl) rfl
theorem ts_2_12 : Cond.selects "JournaledFilesModel" yn_M_mapByte yn_M_mapByte ∈ jb := jb_s (List.mem_of_getElem? (i := 44) rfl) rfl
theorem ts_2_13 : Cond.selects "JournaledFilesModel" yn_M_inodeByte yn_M_inodeByte ∈ jb := jb_s (List.mem_of_getElem? (i := 45) rfl) rfl
theorem ts_2_14 : Cond.selects "JournaledFilesModel" yn_M_copyTables yn_M_copyTables ∈ jb := jb_s (List.mem_of_getElem? (i := 46) rfl) rfl
theorem uw_D : ∀ w ∈ u_ws cn_D ft_D 2, w ∈ jb := show ∀ w ∈ [Cond.laysFinal "JournaledFiles$Disk" "JournaledFiles$Disk" "state" "[I", Cond.laysFinal "JournaledFiles$Disk" "JournaledFiles$Disk" "committed" "[I"], w ∈ jb from List.forall_mem_cons.mpr ⟨tw_43, List.forall_mem_cons.mpr ⟨tw_45, fun _ h => absurd h List.not_mem_nil⟩⟩
theorem uw_H : ∀ w ∈ u_ws cn_H ft_H 5, w ∈ jb := show ∀ w ∈ [Cond.lays "JournaledFiles$Handle" "JournaledFiles$Handle" "isOpen" "Z", Cond.lays "JournaledFiles$Handle" "JournaledFiles$Handle" "inode" "I", Cond.lays "JournaledFiles$Handle" "JournaledFiles$Handle" "generation" "I", Cond.lays "JournaledFiles$Handle" "JournaledFiles$Handle" "mode" "I", Cond.lays "JournaledFiles$Handle" "JournaledFiles$Handle" "position" "I"], w ∈ jb from List.forall_mem_cons.mpr ⟨tw_71, List.forall_mem_cons.mpr ⟨tw_73, List.forall_mem_cons.mpr ⟨tw_75, List.forall_mem_cons.mpr ⟨tw_77, List.forall_mem_cons.mpr ⟨tw_79, fun _ h => absurd h List.not_mem_nil⟩⟩⟩⟩⟩
theorem uw_I : ∀ w ∈ u_ws cn_I ft_I 1, w ∈ jb := show ∀ w ∈ [Cond.laysFinal "JournaledFiles$Inodes" "JournaledFiles$Inodes" "disk" "LJournaledFiles$Disk;"], w ∈ jb from List.forall_mem_cons.mpr ⟨tw_56, fun _ h => absurd h List.not_mem_nil⟩
theorem uw_J : ∀ w ∈ u_ws cn_J ft_J 6, w ∈ jb := show ∀ w ∈ [Cond.laysFinal "JournaledFiles" "JournaledFiles" "disk" "LJournaledFiles$Disk;", Cond.laysFinal "JournaledFiles" "JournaledFiles" "inodes" "LJournaledFiles$Inodes;", Cond.laysFinal "JournaledFiles" "JournaledFiles" "handles" "[LJournaledFiles$Handle;", Cond.lays "JournaledFiles" "JournaledFiles" "writesToCut" "I", Cond.lays "JournaledFiles" "JournaledFiles" "writesDone" "I", Cond.lays "JournaledFiles" "JournaledFiles" "timesOff" "I"], w ∈ jb from List.forall_mem_cons.mpr ⟨tw_113, List.forall_mem_cons.mpr ⟨tw_115, List.forall_mem_cons.mpr ⟨tw_117, List.forall_mem_cons.mpr ⟨tw_119, List.forall_mem_cons.mpr ⟨tw_121, List.forall_mem_cons.mpr ⟨tw_123, fun _ h => absurd h List.not_mem_nil⟩⟩⟩⟩⟩⟩
theorem uw_M : ∀ w ∈ u_ws cn_M ft_M 17, w ∈ jb := show ∀ w ∈ [Cond.laysFinal "JournaledFilesModel" "JournaledFilesModel" "kind" "[I", Cond.laysFinal "JournaledFilesModel" "JournaledFilesModel" "size" "[I", Cond.laysFinal "JournaledFilesModel" "JournaledFilesModel" "generation" "[I", Cond.laysFinal "JournaledFilesModel" "JournaledFilesModel" "blocks" "[I", Cond.laysFinal "JournaledFilesModel" "JournaledFilesModel" "bytes" "[I", Cond.laysFinal "JournaledFilesModel" "JournaledFilesModel" "inode" "[I", Cond.laysFinal "JournaledFilesModel" "JournaledFilesModel" "born" "[I", Cond.laysFinal "JournaledFilesModel" "JournaledFilesModel" "mode" "[I", Cond.laysFinal "JournaledFilesModel" "JournaledFilesModel" "place" "[I", Cond.lays "JournaledFilesModel" "JournaledFilesModel" "cut" "I", Cond.lays "JournaledFilesModel" "JournaledFilesModel" "writes" "I", Cond.lays "JournaledFilesModel" "JournaledFilesModel" "offs" "I", Cond.lays "JournaledFilesModel" "JournaledFilesModel" "thrown" "I", Cond.lays "JournaledFilesModel" "JournaledFilesModel" "parent" "I", Cond.lays "JournaledFilesModel" "JournaledFilesModel" "entry" "I", Cond.lays "JournaledFilesModel" "JournaledFilesModel" "found" "I", Cond.lays "JournaledFilesModel" "JournaledFilesModel" "last" "I"], w ∈ jb from List.forall_mem_cons.mpr ⟨tw_610, List.forall_mem_cons.mpr ⟨tw_612, List.forall_mem_cons.mpr ⟨tw_614, List.forall_mem_cons.mpr ⟨tw_616, List.forall_mem_cons.mpr ⟨tw_618, List.forall_mem_cons.mpr ⟨tw_620, List.forall_mem_cons.mpr ⟨tw_622, List.forall_mem_cons.mpr ⟨tw_624, List.forall_mem_cons.mpr ⟨tw_626, List.forall_mem_cons.mpr ⟨tw_628, List.forall_mem_cons.mpr ⟨tw_630, List.forall_mem_cons.mpr ⟨tw_632, List.forall_mem_cons.mpr ⟨tw_634, List.forall_mem_cons.mpr ⟨tw_636, List.forall_mem_cons.mpr ⟨tw_638, List.forall_mem_cons.mpr ⟨tw_640, List.forall_mem_cons.mpr ⟨tw_642, fun _ h => absurd h List.not_mem_nil⟩⟩⟩⟩⟩⟩⟩⟩⟩⟩⟩⟩⟩⟩⟩⟩⟩
abbrev jc_d (y : MethodName) (n : Nat) : Prop := y.cls ≠ "java/lang/invoke/MethodHandle" ∧ y.cls ≠ "java/lang/invoke/VarHandle" ∧ (parseMethodDescriptor y.desc).map (fun d => d.parameters.length) = some n
def jc_V (own : String) (index : Nat) (y : MethodName) (bytes : ByteArray) (maxL : Nat) (ret : Option FieldType) (n : Nat) : Prop := Cond.methodLink own index y ∈ jb ∧ Cond.instanceMethod y ∈ jb ∧ Cond.selects y.cls y y ∈ jb ∧ Cond.initialized y.cls ∈ jb ∧ Cond.code y bytes maxL ret ∈ jb ∧ jc_d y n
def jc_S (own : String) (index : Nat) (y : MethodName) (bytes : ByteArray) (maxL : Nat) (ret : Option FieldType) (n : Nat) : Prop := Cond.methodLink own index y ∈ jb ∧ Cond.static y ∈ jb ∧ Cond.initialized y.cls ∈ jb ∧ Cond.code y bytes maxL ret ∈ jb ∧ jc_d y n
def jc_I (own : String) (index : Nat) (y : MethodName) (bytes : ByteArray) (maxL : Nat) (n : Nat) : Prop := Cond.methodLink own index y ∈ jb ∧ Cond.instanceMethod y ∈ jb ∧ Cond.initialized y.cls ∈ jb ∧ Cond.code y bytes maxL none ∈ jb ∧ y.name = "<init>" ∧ jc_d y n
theorem kl_L_68 : jc_I cn_L 68 yn_J_init cd_J_init 2 0 := ⟨tw_17, tw_18, tw_1, tw_19, rfl, by decide +kernel⟩
theorem kl_J_11 : jc_I cn_J 11 yn_D_init cd_D_init 2 0 := ⟨tw_25, tw_26, tw_2, tw_27, rfl, by decide +kernel⟩
theorem kl_D_18 : jc_V cn_D 18 yn_D_mark cd_D_mark 5 none 2 := ⟨tw_29, tw_31, ts_0_0, tw_2, tw_32, by decide +kernel⟩
theorem kl_D_22 : jc_V cn_D 22 yn_D_get cd_D_get 2 (some .int) 1 := ⟨tw_33, tw_34, tw_35, tw_2, tw_36, by decide +kernel⟩
theorem kl_D_26 : jc_V cn_D 26 yn_D_put cd_D_put 3 none 2 := ⟨tw_37, tw_38, tw_39, tw_2, tw_40, by decide +kernel⟩
theorem kl_J_18 : jc_I cn_J 18 yn_I_init cd_I_init 2 1 := ⟨tw_51, tw_52, tw_3, tw_53, rfl, by decide +kernel⟩
theorem kl_J_32 : jc_V cn_J 32 yn_I_occupy cd_I_occupy 3 none 2 := ⟨tw_82, tw_83, tw_84, tw_3, tw_85, by decide +kernel⟩
theorem kl_I_35 : jc_V cn_I 35 yn_I_putField cd_I_putField 4 none 3 := ⟨tw_86, tw_88, ts_0_1, tw_3, tw_89, by decide +kernel⟩
theorem kl_I_21 : jc_V cn_I 21 yn_D_put cd_D_put 3 none 2 := ⟨tw_90, tw_38, tw_39, tw_2, tw_40, by decide +kernel⟩
theorem kl_I_39 : jc_V cn_I 39 yn_I_generation cd_I_generation 2 (some .int) 1 := ⟨tw_91, tw_92, tw_93, tw_3, tw_94, by decide +kernel⟩
theorem kl_I_25 : jc_V cn_I 25 yn_I_field cd_I_field 3 (some .int) 2 := ⟨tw_95, tw_97, ts_0_2, tw_3, tw_98, by decide +kernel⟩
theorem kl_I_15 : jc_V cn_I 15 yn_D_get cd_D_get 2 (some .int) 1 := ⟨tw_99, tw_34, tw_35, tw_2, tw_36, by decide +kernel⟩
theorem kl_J_36 : jc_V cn_J 36 yn_D_keep cd_D_keep 1 none 0 := ⟨tw_100, tw_101, tw_102, tw_2, tw_103, by decide +kernel⟩
theorem kl_L_125 : jc_V cn_L 125 yn_J_crash cd_J_crash 1 none 0 := ⟨tw_126, tw_127, tw_128, tw_1, tw_129, by decide +kernel⟩
theorem kl_J_203 : jc_V cn_J 203 yn_J_losePower cd_J_losePower 2 none 0 := ⟨tw_130, tw_132, ts_0_3, tw_1, tw_133, by decide +kernel⟩
theorem kl_J_279 : jc_V cn_J 279 yn_D_goBack cd_D_goBack 1 none 0 := ⟨tw_134, tw_135, tw_136, tw_2, tw_137, by decide +kernel⟩
theorem kl_L_133 : jc_V cn_L 133 yn_J_count cd_J_count 2 (some .int) 1 := ⟨tw_138, tw_139, tw_140, tw_1, tw_141, by decide +kernel⟩
theorem kl_J_214 : jc_V cn_J 214 yn_D_freeBlocks cd_D_freeBlocks 3 (some .int) 0 := ⟨tw_142, tw_143, tw_144, tw_2, tw_145, by decide +kernel⟩
theorem kl_D_30 : jc_V cn_D 30 yn_D_isUsed cd_D_isUsed 2 (some .boolean) 1 := ⟨tw_146, tw_148, ts_0_4, tw_2, tw_149, by decide +kernel⟩
theorem kl_J_217 : jc_V cn_J 217 yn_I_freeInodes cd_I_freeInodes 3 (some .int) 0 := ⟨tw_150, tw_151, tw_152, tw_3, tw_153, by decide +kernel⟩
theorem kl_I_29 : jc_V cn_I 29 yn_I_kind cd_I_kind 2 (some .int) 1 := ⟨tw_154, tw_155, tw_156, tw_3, tw_157, by decide +kernel⟩
theorem kl_J_220 : jc_V cn_J 220 yn_J_openHandles cd_J_openHandles 3 (some .int) 0 := ⟨tw_158, tw_160, ts_0_5, tw_1, tw_161, by decide +kernel⟩
theorem kl_J_194 : jc_V cn_J 194 yn_D_differingBlocks cd_D_differingBlocks 3 (some .int) 0 := ⟨tw_162, tw_163, tw_164, tw_2, tw_165, by decide +kernel⟩
theorem kl_D_34 : jc_V cn_D 34 yn_D_differs cd_D_differs 4 (some .boolean) 1 := ⟨tw_166, tw_168, ts_0_6, tw_2, tw_169, by decide +kernel⟩
theorem kl_D_37 : jc_V cn_D 37 yn_D_getKept cd_D_getKept 2 (some .int) 1 := ⟨tw_170, tw_171, tw_172, tw_2, tw_173, by decide +kernel⟩
theorem kl_J_226 : jc_V cn_J 226 yn_J_staleHandles cd_J_staleHandles 3 (some .int) 0 := ⟨tw_174, tw_176, ts_0_7, tw_1, tw_177, by decide +kernel⟩
theorem kl_J_273 : jc_V cn_J 273 yn_J_isStale cd_J_isStale 2 (some .boolean) 1 := ⟨tw_178, tw_180, ts_0_8, tw_1, tw_181, by decide +kernel⟩
theorem kl_J_85 : jc_V cn_J 85 yn_I_kind cd_I_kind 2 (some .int) 1 := ⟨tw_182, tw_155, tw_156, tw_3, tw_157, by decide +kernel⟩
theorem kl_J_88 : jc_S cn_J 88 yn_J_kindFor cd_J_kindFor 1 (some .int) 1 := ⟨tw_183, tw_184, tw_1, tw_185, by decide +kernel⟩
theorem kl_J_191 : jc_V cn_J 191 yn_I_generation cd_I_generation 2 (some .int) 1 := ⟨tw_186, tw_92, tw_93, tw_3, tw_94, by decide +kernel⟩
theorem kl_L_7 : jc_V cn_L 7 yn_J_directory cd_J_directory 3 (some .int) 1 := ⟨tw_194, tw_195, tw_196, tw_1, tw_197, by decide +kernel⟩
theorem kl_J_39 : jc_S cn_J 39 yn_J_checkPath cd_J_checkPath 3 none 1 := ⟨tw_198, tw_199, tw_1, tw_200, by decide +kernel⟩
theorem kl_J_43 : jc_V cn_J 43 yn_J_inodeAt cd_J_inodeAt 6 (some .int) 1 := ⟨tw_270, tw_272, ts_0_10, tw_1, tw_273, by decide +kernel⟩
theorem kl_J_236 : jc_V cn_J 236 yn_I_findEntry cd_I_findEntry 5 (some .int) 2 := ⟨tw_274, tw_275, tw_276, tw_3, tw_277, by decide +kernel⟩
theorem kl_I_68 : jc_V cn_I 68 yn_I_entries cd_I_entries 2 (some .int) 1 := ⟨tw_278, tw_279, tw_280, tw_3, tw_281, by decide +kernel⟩
theorem kl_I_32 : jc_V cn_I 32 yn_I_size cd_I_size 2 (some .int) 1 := ⟨tw_282, tw_283, tw_284, tw_3, tw_285, by decide +kernel⟩
theorem kl_I_65 : jc_V cn_I 65 yn_I_byteOf cd_I_byteOf 3 (some .int) 2 := ⟨tw_286, tw_287, tw_288, tw_3, tw_289, by decide +kernel⟩
theorem kl_I_45 : jc_V cn_I 45 yn_I_placeOf cd_I_placeOf 4 (some .int) 2 := ⟨tw_290, tw_292, ts_0_11, tw_3, tw_293, by decide +kernel⟩
theorem kl_J_239 : jc_V cn_J 239 yn_I_entryInode cd_I_entryInode 3 (some .int) 2 := ⟨tw_294, tw_295, tw_296, tw_3, tw_297, by decide +kernel⟩
theorem kl_J_54 : jc_V cn_J 54 yn_J_parentNeeded cd_J_parentNeeded 3 (some .int) 1 := ⟨tw_314, tw_316, ts_0_12, tw_1, tw_317, by decide +kernel⟩
theorem kl_J_161 : jc_S cn_J 161 yn_J_parentPath cd_J_parentPath 1 (some .int) 1 := ⟨tw_318, tw_319, tw_1, tw_320, by decide +kernel⟩
theorem kl_J_57 : jc_V cn_J 57 yn_J_checkRoomForNew cd_J_checkRoomForNew 2 none 1 := ⟨tw_337, tw_339, ts_0_13, tw_1, tw_340, by decide +kernel⟩
theorem kl_J_246 : jc_V cn_J 246 yn_I_leastFree cd_I_leastFree 2 (some .int) 0 := ⟨tw_341, tw_342, tw_343, tw_3, tw_344, by decide +kernel⟩
theorem kl_J_249 : jc_V cn_J 249 yn_I_hasRoomForEntry cd_I_hasRoomForEntry 3 (some .boolean) 1 := ⟨tw_345, tw_346, tw_347, tw_3, tw_348, by decide +kernel⟩
theorem kl_I_71 : jc_S cn_I 71 yn_I_startsBlock cd_I_startsBlock 1 (some .boolean) 1 := ⟨tw_349, tw_350, tw_3, tw_351, by decide +kernel⟩
theorem kl_I_51 : jc_V cn_I 51 yn_D_freeBlocks cd_D_freeBlocks 3 (some .int) 0 := ⟨tw_352, tw_143, tw_144, tw_2, tw_145, by decide +kernel⟩
theorem kl_J_60 : jc_V cn_J 60 yn_J_makeNew cd_J_makeNew 5 (some .int) 3 := ⟨tw_369, tw_371, ts_0_14, tw_1, tw_372, by decide +kernel⟩
theorem kl_J_183 : jc_V cn_J 183 yn_I_addEntry cd_I_addEntry 5 none 3 := ⟨tw_373, tw_374, tw_375, tw_3, tw_376, by decide +kernel⟩
theorem kl_I_42 : jc_V cn_I 42 yn_I_resize cd_I_resize 5 none 2 := ⟨tw_377, tw_378, tw_379, tw_3, tw_380, by decide +kernel⟩
theorem kl_I_55 : jc_V cn_I 55 yn_I_putByte cd_I_putByte 4 none 3 := ⟨tw_381, tw_382, tw_383, tw_3, tw_384, by decide +kernel⟩
theorem kl_I_48 : jc_S cn_I 48 yn_I_blocksFor cd_I_blocksFor 1 (some .int) 1 := ⟨tw_385, tw_386, tw_3, tw_387, by decide +kernel⟩
theorem kl_I_58 : jc_V cn_I 58 yn_D_giveBack cd_D_giveBack 2 none 1 := ⟨tw_388, tw_389, tw_390, tw_2, tw_391, by decide +kernel⟩
theorem kl_I_62 : jc_V cn_I 62 yn_D_takeBlock cd_D_takeBlock 2 (some .int) 0 := ⟨tw_392, tw_393, tw_394, tw_2, tw_395, by decide +kernel⟩
theorem kl_I_75 : jc_V cn_I 75 yn_I_putEntry cd_I_putEntry 5 none 4 := ⟨tw_396, tw_398, ts_0_15, tw_3, tw_399, by decide +kernel⟩
theorem kl_L_21 : jc_V cn_L 21 yn_J_open cd_J_open 9 (some .int) 5 := ⟨tw_403, tw_404, tw_405, tw_1, tw_406, by decide +kernel⟩
theorem kl_J_64 : jc_S cn_J 64 yn_J_checkRange cd_J_checkRange 3 none 3 := ⟨tw_407, tw_408, tw_1, tw_409, by decide +kernel⟩
theorem kl_J_68 : jc_S cn_J 68 yn_J_writesBy cd_J_writesBy 1 (some .boolean) 1 := ⟨tw_411, tw_412, tw_1, tw_413, by decide +kernel⟩
theorem kl_J_77 : jc_V cn_J 77 yn_J_closedHandleNeeded cd_J_closedHandleNeeded 2 (some .int) 0 := ⟨tw_415, tw_417, ts_1_0, tw_1, tw_418, by decide +kernel⟩
theorem kl_J_81 : jc_V cn_J 81 yn_J_openHandle cd_J_openHandle 6 (some .int) 4 := ⟨tw_420, tw_422, ts_1_1, tw_1, tw_423, by decide +kernel⟩
theorem kl_J_93 : jc_V cn_J 93 yn_I_resize cd_I_resize 5 none 2 := ⟨tw_425, tw_378, tw_379, tw_3, tw_380, by decide +kernel⟩
theorem kl_J_96 : jc_V cn_J 96 yn_I_size cd_I_size 2 (some .int) 1 := ⟨tw_426, tw_283, tw_284, tw_3, tw_285, by decide +kernel⟩
theorem kl_L_25 : jc_V cn_L 25 yn_J_close cd_J_close 3 none 1 := ⟨tw_430, tw_431, tw_432, tw_1, tw_433, by decide +kernel⟩
theorem kl_L_29 : jc_V cn_L 29 yn_J_write cd_J_write 9 none 3 := ⟨tw_438, tw_439, tw_440, tw_1, tw_441, by decide +kernel⟩
theorem kl_J_105 : jc_V cn_J 105 yn_J_usableHandle cd_J_usableHandle 3 (some (.object "JournaledFiles$Handle")) 1 := ⟨tw_442, tw_444, ts_1_2, tw_1, tw_445, by decide +kernel⟩
theorem kl_J_127 : jc_V cn_J 127 yn_J_checkRoomForSize cd_J_checkRoomForSize 3 none 2 := ⟨tw_451, tw_453, ts_1_3, tw_1, tw_454, by decide +kernel⟩
theorem kl_J_254 : jc_V cn_J 254 yn_I_hasRoomForSize cd_I_hasRoomForSize 3 (some .boolean) 2 := ⟨tw_455, tw_456, tw_457, tw_3, tw_458, by decide +kernel⟩
theorem kl_J_130 : jc_V cn_J 130 yn_I_putByte cd_I_putByte 4 none 3 := ⟨tw_460, tw_382, tw_383, tw_3, tw_384, by decide +kernel⟩
theorem kl_L_33 : jc_V cn_L 33 yn_J_read cd_J_read 9 (some .long) 2 := ⟨tw_464, tw_465, tw_466, tw_1, tw_467, by decide +kernel⟩
theorem kl_J_133 : jc_S cn_J 133 yn_J_readsBy cd_J_readsBy 1 (some .boolean) 1 := ⟨tw_468, tw_469, tw_1, tw_470, by decide +kernel⟩
theorem kl_J_141 : jc_V cn_J 141 yn_I_byteOf cd_I_byteOf 3 (some .int) 2 := ⟨tw_475, tw_287, tw_288, tw_3, tw_289, by decide +kernel⟩
theorem kl_L_37 : jc_V cn_L 37 yn_J_seek cd_J_seek 4 none 2 := ⟨tw_479, tw_480, tw_481, tw_1, tw_482, by decide +kernel⟩
theorem kl_L_41 : jc_V cn_L 41 yn_J_next cd_J_next 4 (some .int) 1 := ⟨tw_487, tw_488, tw_489, tw_1, tw_490, by decide +kernel⟩
theorem kl_J_148 : jc_V cn_J 148 yn_I_entries cd_I_entries 2 (some .int) 1 := ⟨tw_492, tw_279, tw_280, tw_3, tw_281, by decide +kernel⟩
theorem kl_J_151 : jc_V cn_J 151 yn_I_entryName cd_I_entryName 3 (some .int) 2 := ⟨tw_493, tw_494, tw_495, tw_3, tw_496, by decide +kernel⟩
theorem kl_L_44 : jc_V cn_L 44 yn_J_remove cd_J_remove 3 none 1 := ⟨tw_500, tw_501, tw_502, tw_1, tw_503, by decide +kernel⟩
theorem kl_J_154 : jc_V cn_J 154 yn_J_inodeNeeded cd_J_inodeNeeded 3 (some .int) 1 := ⟨tw_504, tw_506, ts_1_4, tw_1, tw_507, by decide +kernel⟩
theorem kl_J_164 : jc_V cn_J 164 yn_I_dropEntry cd_I_dropEntry 5 none 2 := ⟨tw_511, tw_512, tw_513, tw_3, tw_514, by decide +kernel⟩
theorem kl_I_79 : jc_V cn_I 79 yn_I_findEntry cd_I_findEntry 5 (some .int) 2 := ⟨tw_515, tw_275, tw_276, tw_3, tw_277, by decide +kernel⟩
theorem kl_I_82 : jc_V cn_I 82 yn_I_entryName cd_I_entryName 3 (some .int) 2 := ⟨tw_516, tw_494, tw_495, tw_3, tw_496, by decide +kernel⟩
theorem kl_I_85 : jc_V cn_I 85 yn_I_entryInode cd_I_entryInode 3 (some .int) 2 := ⟨tw_517, tw_295, tw_296, tw_3, tw_297, by decide +kernel⟩
theorem kl_J_167 : jc_V cn_J 167 yn_I_vacate cd_I_vacate 2 none 1 := ⟨tw_518, tw_519, tw_520, tw_3, tw_521, by decide +kernel⟩
theorem kl_L_47 : jc_V cn_L 47 yn_J_rename cd_J_rename 7 none 2 := ⟨tw_525, tw_526, tw_527, tw_1, tw_528, by decide +kernel⟩
theorem kl_J_170 : jc_V cn_J 170 yn_J_checkMove cd_J_checkMove 5 none 4 := ⟨tw_529, tw_531, ts_1_5, tw_1, tw_532, by decide +kernel⟩
theorem kl_J_259 : jc_S cn_J 259 yn_J_isAtOrBelow cd_J_isAtOrBelow 4 (some .boolean) 2 := ⟨tw_533, tw_534, tw_1, tw_535, by decide +kernel⟩
theorem kl_J_174 : jc_V cn_J 174 yn_J_hasRoomAfterLeaving cd_J_hasRoomAfterLeaving 6 (some .boolean) 2 := ⟨tw_538, tw_540, ts_1_6, tw_1, tw_541, by decide +kernel⟩
theorem kl_J_266 : jc_S cn_J 266 yn_I_startsBlock cd_I_startsBlock 1 (some .boolean) 1 := ⟨tw_542, tw_350, tw_3, tw_351, by decide +kernel⟩
theorem kl_J_186 : jc_V cn_J 186 yn_I_redirectEntry cd_I_redirectEntry 5 none 3 := ⟨tw_544, tw_545, tw_546, tw_3, tw_547, by decide +kernel⟩
theorem kl_L_50 : jc_V cn_L 50 yn_J_truncate cd_J_truncate 4 none 2 := ⟨tw_551, tw_552, tw_553, tw_1, tw_554, by decide +kernel⟩
theorem kl_L_53 : jc_V cn_L 53 yn_J_stat cd_J_stat 4 (some .int) 2 := ⟨tw_559, tw_560, tw_561, tw_1, tw_562, by decide +kernel⟩
theorem kl_L_57 : jc_V cn_L 57 yn_J_commit cd_J_commit 5 (some .int) 0 := ⟨tw_566, tw_567, tw_568, tw_1, tw_569, by decide +kernel⟩
theorem kl_L_61 : jc_V cn_L 61 yn_J_cutPower cd_J_cutPower 2 none 1 := ⟨tw_574, tw_575, tw_576, tw_1, tw_577, by decide +kernel⟩
theorem kl_L_64 : jc_V cn_L 64 yn_J_block cd_J_block 5 (some .int) 3 := ⟨tw_581, tw_582, tw_583, tw_1, tw_584, by decide +kernel⟩
theorem kl_J_208 : jc_V cn_J 208 yn_D_getKept cd_D_getKept 2 (some .int) 1 := ⟨tw_585, tw_171, tw_172, tw_2, tw_173, by decide +kernel⟩
theorem kl_J_211 : jc_V cn_J 211 yn_D_get cd_D_get 2 (some .int) 1 := ⟨tw_586, tw_34, tw_35, tw_2, tw_36, by decide +kernel⟩
theorem kl_L_71 : jc_I cn_L 71 yn_M_init cd_M_init 2 0 := ⟨tw_589, tw_590, tw_6, tw_591, rfl, by decide +kernel⟩
theorem kl_L_78 : jc_V cn_L 78 yn_M_thrown cd_M_thrown 1 (some .int) 0 := ⟨tw_645, tw_646, tw_647, tw_6, tw_648, by decide +kernel⟩
theorem kl_L_77 : jc_V cn_L 77 yn_M_directory cd_M_directory 3 (some .int) 1 := ⟨tw_649, tw_650, tw_651, tw_6, tw_652, by decide +kernel⟩
theorem kl_M_79 : jc_V cn_M 79 yn_M_badPath cd_M_badPath 5 (some .boolean) 1 := ⟨tw_653, tw_655, ts_1_7, tw_6, tw_656, by decide +kernel⟩
theorem kl_M_83 : jc_V cn_M 83 yn_M_lead cd_M_lead 4 (some .boolean) 1 := ⟨tw_657, tw_659, ts_1_8, tw_6, tw_660, by decide +kernel⟩
theorem kl_M_75 : jc_V cn_M 75 yn_M_entryOf cd_M_entryOf 4 (some .int) 2 := ⟨tw_661, tw_663, ts_1_9, tw_6, tw_664, by decide +kernel⟩
theorem kl_M_60 : jc_V cn_M 60 yn_M_newInode cd_M_newInode 2 (some .int) 0 := ⟨tw_665, tw_667, ts_1_10, tw_6, tw_668, by decide +kernel⟩
theorem kl_M_86 : jc_V cn_M 86 yn_M_entryRoom cd_M_entryRoom 3 (some .boolean) 2 := ⟨tw_669, tw_671, ts_1_11, tw_6, tw_672, by decide +kernel⟩
theorem kl_M_45 : jc_V cn_M 45 yn_M_needed cd_M_needed 2 (some .int) 1 := ⟨tw_673, tw_675, ts_1_12, tw_6, tw_676, by decide +kernel⟩
theorem kl_M_49 : jc_V cn_M 49 yn_M_freeBlocks cd_M_freeBlocks 3 (some .int) 0 := ⟨tw_677, tw_679, ts_1_13, tw_6, tw_680, by decide +kernel⟩
theorem kl_M_41 : jc_V cn_M 41 yn_M_isUsed cd_M_isUsed 4 (some .boolean) 2 := ⟨tw_681, tw_683, ts_1_14, tw_6, tw_684, by decide +kernel⟩
theorem kl_M_89 : jc_V cn_M 89 yn_M_create cd_M_create 3 (some .int) 1 := ⟨tw_685, tw_687, ts_1_15, tw_6, tw_688, by decide +kernel⟩
theorem kl_M_92 : jc_V cn_M 92 yn_M_addEntry cd_M_addEntry 5 none 3 := ⟨tw_689, tw_691, ts_2_0, tw_6, tw_692, by decide +kernel⟩
theorem kl_M_56 : jc_V cn_M 56 yn_M_resize cd_M_resize 4 none 2 := ⟨tw_693, tw_695, ts_2_1, tw_6, tw_696, by decide +kernel⟩
theorem kl_M_53 : jc_V cn_M 53 yn_M_newBlock cd_M_newBlock 2 (some .int) 0 := ⟨tw_697, tw_699, ts_2_2, tw_6, tw_700, by decide +kernel⟩
theorem kl_L_84 : jc_V cn_L 84 yn_M_open cd_M_open 9 (some .int) 5 := ⟨tw_701, tw_702, tw_703, tw_6, tw_704, by decide +kernel⟩
theorem kl_M_96 : jc_V cn_M 96 yn_M_closedHandle cd_M_closedHandle 2 (some .int) 0 := ⟨tw_705, tw_707, ts_2_3, tw_6, tw_708, by decide +kernel⟩
theorem kl_L_88 : jc_V cn_L 88 yn_M_close cd_M_close 2 none 1 := ⟨tw_709, tw_710, tw_711, tw_6, tw_712, by decide +kernel⟩
theorem kl_L_94 : jc_V cn_L 94 yn_M_write cd_M_write 9 none 3 := ⟨tw_713, tw_714, tw_715, tw_6, tw_716, by decide +kernel⟩
theorem kl_M_102 : jc_V cn_M 102 yn_M_wrong cd_M_wrong 4 (some .int) 3 := ⟨tw_717, tw_719, ts_2_4, tw_6, tw_720, by decide +kernel⟩
theorem kl_M_99 : jc_V cn_M 99 yn_M_stale cd_M_stale 3 (some .boolean) 1 := ⟨tw_721, tw_723, ts_2_5, tw_6, tw_724, by decide +kernel⟩
theorem kl_M_106 : jc_V cn_M 106 yn_M_roomFor cd_M_roomFor 3 (some .boolean) 2 := ⟨tw_725, tw_727, ts_2_6, tw_6, tw_728, by decide +kernel⟩
theorem kl_L_98 : jc_V cn_L 98 yn_M_read cd_M_read 7 (some .long) 2 := ⟨tw_730, tw_731, tw_732, tw_6, tw_733, by decide +kernel⟩
theorem kl_L_102 : jc_V cn_L 102 yn_M_seek cd_M_seek 3 none 2 := ⟨tw_734, tw_735, tw_736, tw_6, tw_737, by decide +kernel⟩
theorem kl_L_105 : jc_V cn_L 105 yn_M_next cd_M_next 3 (some .int) 1 := ⟨tw_738, tw_739, tw_740, tw_6, tw_741, by decide +kernel⟩
theorem kl_L_108 : jc_V cn_L 108 yn_M_remove cd_M_remove 3 none 1 := ⟨tw_742, tw_743, tw_744, tw_6, tw_745, by decide +kernel⟩
theorem kl_M_111 : jc_V cn_M 111 yn_M_dropEntry cd_M_dropEntry 4 none 2 := ⟨tw_746, tw_748, ts_2_7, tw_6, tw_749, by decide +kernel⟩
theorem kl_M_114 : jc_V cn_M 114 yn_M_release cd_M_release 2 none 1 := ⟨tw_750, tw_752, ts_2_8, tw_6, tw_753, by decide +kernel⟩
theorem kl_L_111 : jc_V cn_L 111 yn_M_rename cd_M_rename 10 none 2 := ⟨tw_754, tw_755, tw_756, tw_6, tw_757, by decide +kernel⟩
theorem kl_M_118 : jc_V cn_M 118 yn_M_within cd_M_within 4 (some .boolean) 2 := ⟨tw_758, tw_760, ts_2_9, tw_6, tw_761, by decide +kernel⟩
theorem kl_L_114 : jc_V cn_L 114 yn_M_truncate cd_M_truncate 3 none 2 := ⟨tw_762, tw_763, tw_764, tw_6, tw_765, by decide +kernel⟩
theorem kl_L_117 : jc_V cn_L 117 yn_M_stat cd_M_stat 3 (some .int) 2 := ⟨tw_766, tw_767, tw_768, tw_6, tw_769, by decide +kernel⟩
theorem kl_L_121 : jc_V cn_L 121 yn_M_commit cd_M_commit 3 (some .int) 0 := ⟨tw_770, tw_771, tw_772, tw_6, tw_773, by decide +kernel⟩
theorem kl_M_130 : jc_V cn_M 130 yn_M_differing cd_M_differing 5 (some .int) 0 := ⟨tw_774, tw_776, ts_2_10, tw_6, tw_777, by decide +kernel⟩
theorem kl_M_127 : jc_V cn_M 127 yn_M_byteOf cd_M_byteOf 5 (some .int) 3 := ⟨tw_778, tw_780, ts_2_11, tw_6, tw_781, by decide +kernel⟩
theorem kl_M_121 : jc_V cn_M 121 yn_M_mapByte cd_M_mapByte 5 (some .int) 2 := ⟨tw_782, tw_784, ts_2_12, tw_6, tw_785, by decide +kernel⟩
theorem kl_M_124 : jc_V cn_M 124 yn_M_inodeByte cd_M_inodeByte 3 (some .int) 2 := ⟨tw_786, tw_788, ts_2_13, tw_6, tw_789, by decide +kernel⟩
theorem kl_M_139 : jc_V cn_M 139 yn_M_copyTables cd_M_copyTables 4 none 2 := ⟨tw_790, tw_792, ts_2_14, tw_6, tw_793, by decide +kernel⟩
theorem kl_M_142 : jc_V cn_M 142 yn_M_crash cd_M_crash 2 none 0 := ⟨tw_794, tw_795, tw_796, tw_6, tw_797, by decide +kernel⟩
theorem kl_L_124 : jc_V cn_L 124 yn_M_cutPower cd_M_cutPower 2 none 1 := ⟨tw_798, tw_799, tw_800, tw_6, tw_801, by decide +kernel⟩
theorem kl_L_128 : jc_V cn_L 128 yn_M_crash cd_M_crash 2 none 0 := ⟨tw_802, tw_795, tw_796, tw_6, tw_797, by decide +kernel⟩
theorem kl_L_132 : jc_V cn_L 132 yn_M_block cd_M_block 4 (some .int) 3 := ⟨tw_803, tw_804, tw_805, tw_6, tw_806, by decide +kernel⟩
theorem kl_L_136 : jc_V cn_L 136 yn_M_count cd_M_count 4 (some .int) 1 := ⟨tw_807, tw_808, tw_809, tw_6, tw_810, by decide +kernel⟩
