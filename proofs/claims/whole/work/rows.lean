section
-- ===== PART A: goes FIRST, ahead of the names: the tables' words, and 'selects' of the private methods out of them =====
/-- a private method of a class that the tables say can be made, by its rows of tables_1 -/
def lw_okq (q : MethodName × Nat) : Prop := (q.1.cls ≠ "java/lang/invoke/MethodHandle" ∧ q.1.cls ≠ "java/lang/invoke/VarHandle") ∧ Cond.instantiable q.1.cls q.2 ∈ tables_1 ∧ Cond.privateMethod q.1 ∈ tables_1 ∧ Cond.instanceMethod q.1 ∈ tables_1
theorem lw_p0 : lw_okq (⟨"JournaledFiles$Disk", "mark", "(IZ)V"⟩, 2) := ⟨⟨by decide +kernel, by decide +kernel⟩, List.mem_of_getElem? (i := 24) (by decide +kernel), List.mem_of_getElem? (i := 30) (by decide +kernel), List.mem_of_getElem? (i := 31) (by decide +kernel)⟩
theorem lw_p1 : lw_okq (⟨"JournaledFiles$Inodes", "putField", "(III)V"⟩, 1) := ⟨⟨by decide +kernel, by decide +kernel⟩, List.mem_of_getElem? (i := 50) (by decide +kernel), List.mem_of_getElem? (i := 87) (by decide +kernel), List.mem_of_getElem? (i := 88) (by decide +kernel)⟩
theorem lw_p2 : lw_okq (⟨"JournaledFiles$Inodes", "field", "(II)I"⟩, 1) := ⟨⟨by decide +kernel, by decide +kernel⟩, List.mem_of_getElem? (i := 50) (by decide +kernel), List.mem_of_getElem? (i := 96) (by decide +kernel), List.mem_of_getElem? (i := 97) (by decide +kernel)⟩
theorem lw_p3 : lw_okq (⟨"JournaledFiles", "losePower", "()V"⟩, 6) := ⟨⟨by decide +kernel, by decide +kernel⟩, List.mem_of_getElem? (i := 16) (by decide +kernel), List.mem_of_getElem? (i := 131) (by decide +kernel), List.mem_of_getElem? (i := 132) (by decide +kernel)⟩
theorem lw_p4 : lw_okq (⟨"JournaledFiles$Disk", "isUsed", "(I)Z"⟩, 2) := ⟨⟨by decide +kernel, by decide +kernel⟩, List.mem_of_getElem? (i := 24) (by decide +kernel), List.mem_of_getElem? (i := 147) (by decide +kernel), List.mem_of_getElem? (i := 148) (by decide +kernel)⟩
theorem lw_p5 : lw_okq (⟨"JournaledFiles", "openHandles", "()I"⟩, 6) := ⟨⟨by decide +kernel, by decide +kernel⟩, List.mem_of_getElem? (i := 16) (by decide +kernel), List.mem_of_getElem? (i := 159) (by decide +kernel), List.mem_of_getElem? (i := 160) (by decide +kernel)⟩
theorem lw_p6 : lw_okq (⟨"JournaledFiles$Disk", "differs", "(I)Z"⟩, 2) := ⟨⟨by decide +kernel, by decide +kernel⟩, List.mem_of_getElem? (i := 24) (by decide +kernel), List.mem_of_getElem? (i := 167) (by decide +kernel), List.mem_of_getElem? (i := 168) (by decide +kernel)⟩
theorem lw_p7 : lw_okq (⟨"JournaledFiles", "staleHandles", "()I"⟩, 6) := ⟨⟨by decide +kernel, by decide +kernel⟩, List.mem_of_getElem? (i := 16) (by decide +kernel), List.mem_of_getElem? (i := 175) (by decide +kernel), List.mem_of_getElem? (i := 176) (by decide +kernel)⟩
theorem lw_p8 : lw_okq (⟨"JournaledFiles", "isStale", "(LJournaledFiles$Handle;)Z"⟩, 6) := ⟨⟨by decide +kernel, by decide +kernel⟩, List.mem_of_getElem? (i := 16) (by decide +kernel), List.mem_of_getElem? (i := 179) (by decide +kernel), List.mem_of_getElem? (i := 180) (by decide +kernel)⟩
theorem lw_p9 : lw_okq (⟨"java/lang/Throwable", "fillInStackTrace", "(I)Ljava/lang/Throwable;"⟩, 6) := ⟨⟨by decide +kernel, by decide +kernel⟩, List.mem_of_getElem? (i := 241) (by decide +kernel), List.mem_of_getElem? (i := 239) (by decide +kernel), List.mem_of_getElem? (i := 240) (by decide +kernel)⟩
theorem lw_p10 : lw_okq (⟨"JournaledFiles", "inodeAt", "(I)I"⟩, 6) := ⟨⟨by decide +kernel, by decide +kernel⟩, List.mem_of_getElem? (i := 16) (by decide +kernel), List.mem_of_getElem? (i := 271) (by decide +kernel), List.mem_of_getElem? (i := 272) (by decide +kernel)⟩
theorem lw_p11 : lw_okq (⟨"JournaledFiles$Inodes", "placeOf", "(II)I"⟩, 1) := ⟨⟨by decide +kernel, by decide +kernel⟩, List.mem_of_getElem? (i := 50) (by decide +kernel), List.mem_of_getElem? (i := 291) (by decide +kernel), List.mem_of_getElem? (i := 292) (by decide +kernel)⟩
theorem lw_p12 : lw_okq (⟨"JournaledFiles", "parentNeeded", "(I)I"⟩, 6) := ⟨⟨by decide +kernel, by decide +kernel⟩, List.mem_of_getElem? (i := 16) (by decide +kernel), List.mem_of_getElem? (i := 315) (by decide +kernel), List.mem_of_getElem? (i := 316) (by decide +kernel)⟩
theorem lw_p13 : lw_okq (⟨"JournaledFiles", "checkRoomForNew", "(I)V"⟩, 6) := ⟨⟨by decide +kernel, by decide +kernel⟩, List.mem_of_getElem? (i := 16) (by decide +kernel), List.mem_of_getElem? (i := 338) (by decide +kernel), List.mem_of_getElem? (i := 339) (by decide +kernel)⟩
theorem lw_p14 : lw_okq (⟨"JournaledFiles", "makeNew", "(III)I"⟩, 6) := ⟨⟨by decide +kernel, by decide +kernel⟩, List.mem_of_getElem? (i := 16) (by decide +kernel), List.mem_of_getElem? (i := 370) (by decide +kernel), List.mem_of_getElem? (i := 371) (by decide +kernel)⟩
theorem lw_p15 : lw_okq (⟨"JournaledFiles$Inodes", "putEntry", "(IIII)V"⟩, 1) := ⟨⟨by decide +kernel, by decide +kernel⟩, List.mem_of_getElem? (i := 50) (by decide +kernel), List.mem_of_getElem? (i := 397) (by decide +kernel), List.mem_of_getElem? (i := 398) (by decide +kernel)⟩
def lw_privs_1 : List (MethodName × Nat) := [(⟨"JournaledFiles$Disk", "mark", "(IZ)V"⟩, 2), (⟨"JournaledFiles$Inodes", "putField", "(III)V"⟩, 1), (⟨"JournaledFiles$Inodes", "field", "(II)I"⟩, 1), (⟨"JournaledFiles", "losePower", "()V"⟩, 6), (⟨"JournaledFiles$Disk", "isUsed", "(I)Z"⟩, 2), (⟨"JournaledFiles", "openHandles", "()I"⟩, 6), (⟨"JournaledFiles$Disk", "differs", "(I)Z"⟩, 2), (⟨"JournaledFiles", "staleHandles", "()I"⟩, 6), (⟨"JournaledFiles", "isStale", "(LJournaledFiles$Handle;)Z"⟩, 6), (⟨"java/lang/Throwable", "fillInStackTrace", "(I)Ljava/lang/Throwable;"⟩, 6), (⟨"JournaledFiles", "inodeAt", "(I)I"⟩, 6), (⟨"JournaledFiles$Inodes", "placeOf", "(II)I"⟩, 1), (⟨"JournaledFiles", "parentNeeded", "(I)I"⟩, 6), (⟨"JournaledFiles", "checkRoomForNew", "(I)V"⟩, 6), (⟨"JournaledFiles", "makeNew", "(III)I"⟩, 6), (⟨"JournaledFiles$Inodes", "putEntry", "(IIII)V"⟩, 1)]
theorem lw_r1 : ∀ q ∈ lw_privs_1, lw_okq q := List.forall_mem_cons.mpr ⟨lw_p0, List.forall_mem_cons.mpr ⟨lw_p1, List.forall_mem_cons.mpr ⟨lw_p2, List.forall_mem_cons.mpr ⟨lw_p3, List.forall_mem_cons.mpr ⟨lw_p4, List.forall_mem_cons.mpr ⟨lw_p5, List.forall_mem_cons.mpr ⟨lw_p6, List.forall_mem_cons.mpr ⟨lw_p7, List.forall_mem_cons.mpr ⟨lw_p8, List.forall_mem_cons.mpr ⟨lw_p9, List.forall_mem_cons.mpr ⟨lw_p10, List.forall_mem_cons.mpr ⟨lw_p11, List.forall_mem_cons.mpr ⟨lw_p12, List.forall_mem_cons.mpr ⟨lw_p13, List.forall_mem_cons.mpr ⟨lw_p14, List.forall_mem_cons.mpr ⟨lw_p15, fun _ h => absurd h List.not_mem_nil⟩⟩⟩⟩⟩⟩⟩⟩⟩⟩⟩⟩⟩⟩⟩⟩
theorem lw_p16 : lw_okq (⟨"JournaledFiles", "closedHandleNeeded", "()I"⟩, 6) := ⟨⟨by decide +kernel, by decide +kernel⟩, List.mem_of_getElem? (i := 16) (by decide +kernel), List.mem_of_getElem? (i := 416) (by decide +kernel), List.mem_of_getElem? (i := 417) (by decide +kernel)⟩
theorem lw_p17 : lw_okq (⟨"JournaledFiles", "openHandle", "(IIII)I"⟩, 6) := ⟨⟨by decide +kernel, by decide +kernel⟩, List.mem_of_getElem? (i := 16) (by decide +kernel), List.mem_of_getElem? (i := 421) (by decide +kernel), List.mem_of_getElem? (i := 422) (by decide +kernel)⟩
theorem lw_p18 : lw_okq (⟨"JournaledFiles", "usableHandle", "(I)LJournaledFiles$Handle;"⟩, 6) := ⟨⟨by decide +kernel, by decide +kernel⟩, List.mem_of_getElem? (i := 16) (by decide +kernel), List.mem_of_getElem? (i := 443) (by decide +kernel), List.mem_of_getElem? (i := 444) (by decide +kernel)⟩
theorem lw_p19 : lw_okq (⟨"JournaledFiles", "checkRoomForSize", "(II)V"⟩, 6) := ⟨⟨by decide +kernel, by decide +kernel⟩, List.mem_of_getElem? (i := 16) (by decide +kernel), List.mem_of_getElem? (i := 452) (by decide +kernel), List.mem_of_getElem? (i := 453) (by decide +kernel)⟩
theorem lw_p20 : lw_okq (⟨"JournaledFiles", "inodeNeeded", "(I)I"⟩, 6) := ⟨⟨by decide +kernel, by decide +kernel⟩, List.mem_of_getElem? (i := 16) (by decide +kernel), List.mem_of_getElem? (i := 505) (by decide +kernel), List.mem_of_getElem? (i := 506) (by decide +kernel)⟩
theorem lw_p21 : lw_okq (⟨"JournaledFiles", "checkMove", "(IIII)V"⟩, 6) := ⟨⟨by decide +kernel, by decide +kernel⟩, List.mem_of_getElem? (i := 16) (by decide +kernel), List.mem_of_getElem? (i := 530) (by decide +kernel), List.mem_of_getElem? (i := 531) (by decide +kernel)⟩
theorem lw_p22 : lw_okq (⟨"JournaledFiles", "hasRoomAfterLeaving", "(II)Z"⟩, 6) := ⟨⟨by decide +kernel, by decide +kernel⟩, List.mem_of_getElem? (i := 16) (by decide +kernel), List.mem_of_getElem? (i := 539) (by decide +kernel), List.mem_of_getElem? (i := 540) (by decide +kernel)⟩
theorem lw_p23 : lw_okq (⟨"JournaledFilesModel", "badPath", "(I)Z"⟩, 17) := ⟨⟨by decide +kernel, by decide +kernel⟩, List.mem_of_getElem? (i := 588) (by decide +kernel), List.mem_of_getElem? (i := 654) (by decide +kernel), List.mem_of_getElem? (i := 655) (by decide +kernel)⟩
theorem lw_p24 : lw_okq (⟨"JournaledFilesModel", "lead", "(I)Z"⟩, 17) := ⟨⟨by decide +kernel, by decide +kernel⟩, List.mem_of_getElem? (i := 588) (by decide +kernel), List.mem_of_getElem? (i := 658) (by decide +kernel), List.mem_of_getElem? (i := 659) (by decide +kernel)⟩
theorem lw_p25 : lw_okq (⟨"JournaledFilesModel", "entryOf", "(II)I"⟩, 17) := ⟨⟨by decide +kernel, by decide +kernel⟩, List.mem_of_getElem? (i := 588) (by decide +kernel), List.mem_of_getElem? (i := 662) (by decide +kernel), List.mem_of_getElem? (i := 663) (by decide +kernel)⟩
theorem lw_p26 : lw_okq (⟨"JournaledFilesModel", "newInode", "()I"⟩, 17) := ⟨⟨by decide +kernel, by decide +kernel⟩, List.mem_of_getElem? (i := 588) (by decide +kernel), List.mem_of_getElem? (i := 666) (by decide +kernel), List.mem_of_getElem? (i := 667) (by decide +kernel)⟩
theorem lw_p27 : lw_okq (⟨"JournaledFilesModel", "entryRoom", "(II)Z"⟩, 17) := ⟨⟨by decide +kernel, by decide +kernel⟩, List.mem_of_getElem? (i := 588) (by decide +kernel), List.mem_of_getElem? (i := 670) (by decide +kernel), List.mem_of_getElem? (i := 671) (by decide +kernel)⟩
theorem lw_p28 : lw_okq (⟨"JournaledFilesModel", "needed", "(I)I"⟩, 17) := ⟨⟨by decide +kernel, by decide +kernel⟩, List.mem_of_getElem? (i := 588) (by decide +kernel), List.mem_of_getElem? (i := 674) (by decide +kernel), List.mem_of_getElem? (i := 675) (by decide +kernel)⟩
theorem lw_p29 : lw_okq (⟨"JournaledFilesModel", "freeBlocks", "()I"⟩, 17) := ⟨⟨by decide +kernel, by decide +kernel⟩, List.mem_of_getElem? (i := 588) (by decide +kernel), List.mem_of_getElem? (i := 678) (by decide +kernel), List.mem_of_getElem? (i := 679) (by decide +kernel)⟩
theorem lw_p30 : lw_okq (⟨"JournaledFilesModel", "isUsed", "(II)Z"⟩, 17) := ⟨⟨by decide +kernel, by decide +kernel⟩, List.mem_of_getElem? (i := 588) (by decide +kernel), List.mem_of_getElem? (i := 682) (by decide +kernel), List.mem_of_getElem? (i := 683) (by decide +kernel)⟩
theorem lw_p31 : lw_okq (⟨"JournaledFilesModel", "create", "(I)I"⟩, 17) := ⟨⟨by decide +kernel, by decide +kernel⟩, List.mem_of_getElem? (i := 588) (by decide +kernel), List.mem_of_getElem? (i := 686) (by decide +kernel), List.mem_of_getElem? (i := 687) (by decide +kernel)⟩
def lw_privs_2 : List (MethodName × Nat) := [(⟨"JournaledFiles", "closedHandleNeeded", "()I"⟩, 6), (⟨"JournaledFiles", "openHandle", "(IIII)I"⟩, 6), (⟨"JournaledFiles", "usableHandle", "(I)LJournaledFiles$Handle;"⟩, 6), (⟨"JournaledFiles", "checkRoomForSize", "(II)V"⟩, 6), (⟨"JournaledFiles", "inodeNeeded", "(I)I"⟩, 6), (⟨"JournaledFiles", "checkMove", "(IIII)V"⟩, 6), (⟨"JournaledFiles", "hasRoomAfterLeaving", "(II)Z"⟩, 6), (⟨"JournaledFilesModel", "badPath", "(I)Z"⟩, 17), (⟨"JournaledFilesModel", "lead", "(I)Z"⟩, 17), (⟨"JournaledFilesModel", "entryOf", "(II)I"⟩, 17), (⟨"JournaledFilesModel", "newInode", "()I"⟩, 17), (⟨"JournaledFilesModel", "entryRoom", "(II)Z"⟩, 17), (⟨"JournaledFilesModel", "needed", "(I)I"⟩, 17), (⟨"JournaledFilesModel", "freeBlocks", "()I"⟩, 17), (⟨"JournaledFilesModel", "isUsed", "(II)Z"⟩, 17), (⟨"JournaledFilesModel", "create", "(I)I"⟩, 17)]
theorem lw_r2 : ∀ q ∈ lw_privs_2, lw_okq q := List.forall_mem_cons.mpr ⟨lw_p16, List.forall_mem_cons.mpr ⟨lw_p17, List.forall_mem_cons.mpr ⟨lw_p18, List.forall_mem_cons.mpr ⟨lw_p19, List.forall_mem_cons.mpr ⟨lw_p20, List.forall_mem_cons.mpr ⟨lw_p21, List.forall_mem_cons.mpr ⟨lw_p22, List.forall_mem_cons.mpr ⟨lw_p23, List.forall_mem_cons.mpr ⟨lw_p24, List.forall_mem_cons.mpr ⟨lw_p25, List.forall_mem_cons.mpr ⟨lw_p26, List.forall_mem_cons.mpr ⟨lw_p27, List.forall_mem_cons.mpr ⟨lw_p28, List.forall_mem_cons.mpr ⟨lw_p29, List.forall_mem_cons.mpr ⟨lw_p30, List.forall_mem_cons.mpr ⟨lw_p31, fun _ h => absurd h List.not_mem_nil⟩⟩⟩⟩⟩⟩⟩⟩⟩⟩⟩⟩⟩⟩⟩⟩
theorem lw_p32 : lw_okq (⟨"JournaledFilesModel", "addEntry", "(III)V"⟩, 17) := ⟨⟨by decide +kernel, by decide +kernel⟩, List.mem_of_getElem? (i := 588) (by decide +kernel), List.mem_of_getElem? (i := 690) (by decide +kernel), List.mem_of_getElem? (i := 691) (by decide +kernel)⟩
theorem lw_p33 : lw_okq (⟨"JournaledFilesModel", "resize", "(II)V"⟩, 17) := ⟨⟨by decide +kernel, by decide +kernel⟩, List.mem_of_getElem? (i := 588) (by decide +kernel), List.mem_of_getElem? (i := 694) (by decide +kernel), List.mem_of_getElem? (i := 695) (by decide +kernel)⟩
theorem lw_p34 : lw_okq (⟨"JournaledFilesModel", "newBlock", "()I"⟩, 17) := ⟨⟨by decide +kernel, by decide +kernel⟩, List.mem_of_getElem? (i := 588) (by decide +kernel), List.mem_of_getElem? (i := 698) (by decide +kernel), List.mem_of_getElem? (i := 699) (by decide +kernel)⟩
theorem lw_p35 : lw_okq (⟨"JournaledFilesModel", "closedHandle", "()I"⟩, 17) := ⟨⟨by decide +kernel, by decide +kernel⟩, List.mem_of_getElem? (i := 588) (by decide +kernel), List.mem_of_getElem? (i := 706) (by decide +kernel), List.mem_of_getElem? (i := 707) (by decide +kernel)⟩
theorem lw_p36 : lw_okq (⟨"JournaledFilesModel", "wrong", "(III)I"⟩, 17) := ⟨⟨by decide +kernel, by decide +kernel⟩, List.mem_of_getElem? (i := 588) (by decide +kernel), List.mem_of_getElem? (i := 718) (by decide +kernel), List.mem_of_getElem? (i := 719) (by decide +kernel)⟩
theorem lw_p37 : lw_okq (⟨"JournaledFilesModel", "stale", "(I)Z"⟩, 17) := ⟨⟨by decide +kernel, by decide +kernel⟩, List.mem_of_getElem? (i := 588) (by decide +kernel), List.mem_of_getElem? (i := 722) (by decide +kernel), List.mem_of_getElem? (i := 723) (by decide +kernel)⟩
theorem lw_p38 : lw_okq (⟨"JournaledFilesModel", "roomFor", "(II)Z"⟩, 17) := ⟨⟨by decide +kernel, by decide +kernel⟩, List.mem_of_getElem? (i := 588) (by decide +kernel), List.mem_of_getElem? (i := 726) (by decide +kernel), List.mem_of_getElem? (i := 727) (by decide +kernel)⟩
theorem lw_p39 : lw_okq (⟨"JournaledFilesModel", "dropEntry", "(II)V"⟩, 17) := ⟨⟨by decide +kernel, by decide +kernel⟩, List.mem_of_getElem? (i := 588) (by decide +kernel), List.mem_of_getElem? (i := 747) (by decide +kernel), List.mem_of_getElem? (i := 748) (by decide +kernel)⟩
theorem lw_p40 : lw_okq (⟨"JournaledFilesModel", "release", "(I)V"⟩, 17) := ⟨⟨by decide +kernel, by decide +kernel⟩, List.mem_of_getElem? (i := 588) (by decide +kernel), List.mem_of_getElem? (i := 751) (by decide +kernel), List.mem_of_getElem? (i := 752) (by decide +kernel)⟩
theorem lw_p41 : lw_okq (⟨"JournaledFilesModel", "within", "(II)Z"⟩, 17) := ⟨⟨by decide +kernel, by decide +kernel⟩, List.mem_of_getElem? (i := 588) (by decide +kernel), List.mem_of_getElem? (i := 759) (by decide +kernel), List.mem_of_getElem? (i := 760) (by decide +kernel)⟩
theorem lw_p42 : lw_okq (⟨"JournaledFilesModel", "differing", "()I"⟩, 17) := ⟨⟨by decide +kernel, by decide +kernel⟩, List.mem_of_getElem? (i := 588) (by decide +kernel), List.mem_of_getElem? (i := 775) (by decide +kernel), List.mem_of_getElem? (i := 776) (by decide +kernel)⟩
theorem lw_p43 : lw_okq (⟨"JournaledFilesModel", "byteOf", "(III)I"⟩, 17) := ⟨⟨by decide +kernel, by decide +kernel⟩, List.mem_of_getElem? (i := 588) (by decide +kernel), List.mem_of_getElem? (i := 779) (by decide +kernel), List.mem_of_getElem? (i := 780) (by decide +kernel)⟩
theorem lw_p44 : lw_okq (⟨"JournaledFilesModel", "mapByte", "(II)I"⟩, 17) := ⟨⟨by decide +kernel, by decide +kernel⟩, List.mem_of_getElem? (i := 588) (by decide +kernel), List.mem_of_getElem? (i := 783) (by decide +kernel), List.mem_of_getElem? (i := 784) (by decide +kernel)⟩
theorem lw_p45 : lw_okq (⟨"JournaledFilesModel", "inodeByte", "(II)I"⟩, 17) := ⟨⟨by decide +kernel, by decide +kernel⟩, List.mem_of_getElem? (i := 588) (by decide +kernel), List.mem_of_getElem? (i := 787) (by decide +kernel), List.mem_of_getElem? (i := 788) (by decide +kernel)⟩
theorem lw_p46 : lw_okq (⟨"JournaledFilesModel", "copyTables", "(II)V"⟩, 17) := ⟨⟨by decide +kernel, by decide +kernel⟩, List.mem_of_getElem? (i := 588) (by decide +kernel), List.mem_of_getElem? (i := 791) (by decide +kernel), List.mem_of_getElem? (i := 792) (by decide +kernel)⟩
def lw_privs_3 : List (MethodName × Nat) := [(⟨"JournaledFilesModel", "addEntry", "(III)V"⟩, 17), (⟨"JournaledFilesModel", "resize", "(II)V"⟩, 17), (⟨"JournaledFilesModel", "newBlock", "()I"⟩, 17), (⟨"JournaledFilesModel", "closedHandle", "()I"⟩, 17), (⟨"JournaledFilesModel", "wrong", "(III)I"⟩, 17), (⟨"JournaledFilesModel", "stale", "(I)Z"⟩, 17), (⟨"JournaledFilesModel", "roomFor", "(II)Z"⟩, 17), (⟨"JournaledFilesModel", "dropEntry", "(II)V"⟩, 17), (⟨"JournaledFilesModel", "release", "(I)V"⟩, 17), (⟨"JournaledFilesModel", "within", "(II)Z"⟩, 17), (⟨"JournaledFilesModel", "differing", "()I"⟩, 17), (⟨"JournaledFilesModel", "byteOf", "(III)I"⟩, 17), (⟨"JournaledFilesModel", "mapByte", "(II)I"⟩, 17), (⟨"JournaledFilesModel", "inodeByte", "(II)I"⟩, 17), (⟨"JournaledFilesModel", "copyTables", "(II)V"⟩, 17)]
theorem lw_r3 : ∀ q ∈ lw_privs_3, lw_okq q := List.forall_mem_cons.mpr ⟨lw_p32, List.forall_mem_cons.mpr ⟨lw_p33, List.forall_mem_cons.mpr ⟨lw_p34, List.forall_mem_cons.mpr ⟨lw_p35, List.forall_mem_cons.mpr ⟨lw_p36, List.forall_mem_cons.mpr ⟨lw_p37, List.forall_mem_cons.mpr ⟨lw_p38, List.forall_mem_cons.mpr ⟨lw_p39, List.forall_mem_cons.mpr ⟨lw_p40, List.forall_mem_cons.mpr ⟨lw_p41, List.forall_mem_cons.mpr ⟨lw_p42, List.forall_mem_cons.mpr ⟨lw_p43, List.forall_mem_cons.mpr ⟨lw_p44, List.forall_mem_cons.mpr ⟨lw_p45, List.forall_mem_cons.mpr ⟨lw_p46, fun _ h => absurd h List.not_mem_nil⟩⟩⟩⟩⟩⟩⟩⟩⟩⟩⟩⟩⟩⟩⟩
def lw_privs : List (MethodName × Nat) := lw_privs_1 ++ (lw_privs_2 ++ (lw_privs_3))
def lw_tbl : List Cond := k2_sels lw_privs ++ tables_1
theorem lw_privs_ok : ∀ q ∈ lw_privs, lw_okq q := by
  show ∀ q ∈ lw_privs_1 ++ (lw_privs_2 ++ (lw_privs_3)), lw_okq q
  exact List.forall_mem_append.mpr ⟨lw_r1, List.forall_mem_append.mpr ⟨lw_r2, lw_r3⟩⟩
end
section
/-! ===== BEGIN words of one list among another's, by their places ===== -/
theorem goodIn_r {big : List Cond} (ws : List Cond) (ps : List Nat) (hp : ws = ps.filterMap (fun i => big[i]?)) (h : ws.all goodWord = true) : GoodIn big ws := by
  intro w hw
  have h1 := List.all_eq_true.mp h w hw
  rw [hp] at hw
  obtain ⟨i, -, hi⟩ := List.mem_filterMap.mp hw
  have hm : w ∈ big := by first | exact List.mem_of_getElem? hi | exact List.getElem?_mem hi
  exact ⟨hm, good_of_word h1⟩
theorem goodIn_app {big a b : List Cond} (ha : GoodIn big a) (hb : GoodIn big b) : GoodIn big (a ++ b) := fun w h => (List.mem_append.mp h).elim (ha w) (hb w)
theorem goodIn_ca {big a b : List Cond} {c : Cond} (ha : GoodIn big (c :: a)) (hb : GoodIn big b) : GoodIn big (c :: (a ++ b)) := fun w h => (List.mem_cons.mp h).elim (fun e => ha w (List.mem_cons.mpr (Or.inl e))) (fun h => (List.mem_append.mp h).elim (fun h => ha w (List.mem_cons.mpr (Or.inr h))) (hb w))
theorem goodIn_sub {big ws : List Cond} (hm : ∀ w ∈ ws, w ∈ big) (h : ws.all goodWord = true) : GoodIn big ws := fun w hw => ⟨hm w hw, good_of_word (List.all_eq_true.mp h w hw)⟩
/-! ===== END ===== -/

/-! ===== BEGIN exceptions that leave a method, and their catching by the caller (launches without stack traces) ===== -/
section VXA
/-! The laws vx_back, vx_callV, vx_callS, vx_callSW, vx_throw0, vx_throwS follow proofs of the library, with one case more: JvmDerived/Free/Laws.lean (Back.of_free), Shelf42/LK1.lean (callV, callS), Shelf/KitTraced.lean (throwNew0V, throwNewS). -/
/-- where a method has thrown q: the class by its name, the cell, what was written, the world -/
def vx_T (XC : String → State → State → Prop) (st : State) (q : Addr) (t : State) (mc ms : Nat) (free : Addr → Prop) : Prop :=
  ∃ (E : String) (ce : Cell) (L : List Loc), XC E st t ∧ t.heap[q]? = some ce ∧ ce.vm = .none ∧ st.vm.findClass E = some ce.cls ∧ st.WarmedH t.vm ∧ st.sameButNew ({ t with vm := st.vm } : State) L mc ms ∧ ∀ z ∈ L, free z.base
def vx_Q (Qc : Array Value → State → Outcome → State → Prop) (XC : String → State → State → Prop) (mc ms : Nat) (free : Addr → Prop) : Array Value → State → Outcome → State → Prop := fun a st o t =>
  (Qc a st o t ∧ ∃ L, FrameEnd st o t L mc ms ∧ ∀ q ∈ L, free q.base) ∨ ∃ q, o = .threw q ∧ vx_T XC st q t mc ms free
/-- a callee that returns or throws -/
def vx_Met (l : Launch) (y : MethodName) (ws : List Cond) (rm : Room) (Pc : Array Value → State → Prop) (Qc : Array Value → State → Outcome → State → Prop) (XC : String → State → State → Prop) (mc ms : Nat) (free : Addr → Prop) : Prop :=
  MetFree l y (headSpec ws rm) Pc (fun _ _ _ _ _ => True) (vx_Q Qc XC mc ms free)
def vx_Post (XC : String → State → State → Prop) (mc ms : Nat) (free : Addr → Prop) : Pt → Array Value → Addr → Pt → Prop := fun A a q B =>
  ∃ (g : JFrame) (mk : MethodId) (t : State) (L : List Loc) (E : String) (ce : Cell), B.U.heap = t.heap ∧ B.U.vm = t.vm ∧ XC E (A.U.calling g mk a) t ∧ t.heap[q]? = some ce ∧ ce.vm = .none ∧ A.U.vm.findClass E = some ce.cls ∧ B.locs = A.locs ++ L ∧ (∀ z ∈ L, free z.base) ∧ B.cells = A.cells + mc ∧ B.slots = A.slots + ms
def vx_Back (l : Launch) (R : Room) (p : Program) (e : Env) (below : List Frame) (s : State) (sargs : Array Value) (y : MethodName) (len W9 : Nat)
    (Pre : Pt → Array Value → Prop) (Post : Pt → Array Value → Option Value → Pt → Prop) (PostX : Pt → Array Value → Addr → Pt → Prop) : Prop :=
  ∀ (m : MethodId) (meth : Method) (c : Code) (A : Pt) (g : JFrame) (ig : Instr) (mk : MethodId) (a : Array Value),
    Stand p l e R s m sargs below meth c A.U A.locs A.cells A.slots → g.method = m → g.locals.size = c.maxLocals → decode c.code g.pc = .ok (ig, len) →
    2 * g.monitorRoom + (g.stack.map fun v => v.category).sum ≤ W9 → A.U.methodNamed? y = some mk → Pre A a →
    (∃ (v : Option Value) (B : Pt), Stand p l e R s m sargs below meth c B.U B.locs B.cells B.slots ∧ Post A a v B ∧
      Steps p.tables e below (doInvoke e (A.U.setTop g) [] mk a).1 (B.U.setTop { g with pc := g.pc + len, stack := v.toList ++ g.stack })) ∨
    (∃ (q : Addr) (B : Pt), Stand p l e R s m sargs below meth c B.U B.locs B.cells B.slots ∧ PostX A a q B ∧
      Steps p.tables e below (doInvoke e (A.U.setTop g) [] mk a).1 ((B.U.setTop g).pushFrame (.throwing q)))
section Payer
variable {l : Launch} {R : Room} {p : Program} {e : Env} {below : List Frame} {s : State} {sargs : Array Value} {y : MethodName} {len W9 : Nat}
theorem vx_back {ws : List Cond} {rm : Room} {Pc : Array Value → State → Prop} {Qc : Array Value → State → Outcome → State → Prop} {XC : String → State → State → Prop} {mc ms : Nat} {free : Addr → Prop} {bytes : ByteArray} {maxL : Nat} {ret : Option FieldType}
    (hM : vx_Met l y ws rm Pc Qc XC mc ms free) (hblind : FrameBlind Pc) (hrc : rm.cells = mc) (hrs : rm.slots = ms)
    (hframes : rm.frames + 1 ≤ R.frames) (hlocals : W9 + (maxL + 11) + rm.locals ≤ R.locals)
    (hws : ∀ w ∈ ws, ∀ a' U, s.WarmedH U.vm → w.before a' U = true) (hcode : Cond.code y bytes maxL ret ∈ ws) (hinit : ∀ a' U, s.WarmedH U.vm → (Cond.initialized y.cls).before a' U = true) :
    vx_Back l R p e below s sargs y len W9 (PreOf R mc ms Pc) (PostOf Qc mc ms free) (vx_Post XC mc ms free) := by
  intro m meth c A g ig mk a X hg hsize hdg hW hn hp
  have h1 : (headSpec ws rm).pre.before a A.U = true := atoms_intro fun w hw => hws w hw _ _ X.warmed
  have h2 : (Cond.code y bytes maxL ret).before a A.U = true := hws _ hcode _ _ X.warmed
  have h3 : (Cond.initialized y.cls).before a A.U = true := hinit _ _ X.warmed
  have h4 : A.cells + (headSpec ws rm).room.cells ≤ R.cells := by rw [show (headSpec ws rm).room.cells = mc from hrc]; exact hp.1
  have h5 : A.slots + (headSpec ws rm).room.slots ≤ R.slots := by rw [show (headSpec ws rm).room.slots = ms from hrs]; exact hp.2.1
  have hPc : Pc a (A.U.calling g mk a) := hblind _ _ _ _ hp.2.2
  obtain ⟨U, Ls, c0, s0⟩ := A
  dsimp only [Pt.U, Pt.locs, Pt.cells, Pt.slots] at h1 h2 h3 h4 h5 X hn hPc ⊢
  obtain ⟨methY, cY, hmY, hcY, -, hlY, -, -, -, -⟩ := Cond.code_spec hn h2
  obtain ⟨kY, hkY, -⟩ := className_of_methodNamed hn
  have hinitY : kY.init = .initialized := Cond.initialized_spec (findClass_of_methodNamed hn) hkY h3
  have h : At U g.method c below := by rw [hg]; exact X.here
  have hlocals9 : W9 + (maxL + 11) + (headSpec ws rm).room.locals ≤ R.locals := hlocals
  have happ : (headSpec ws rm).appliesLoose y e.platform (U.calling g mk a) = true :=
    Spec.appliesLoose_calling (g := g) h hdg hn hkY hinitY
      (X.room_calling (g := g) (R' := (headSpec ws rm).room) hsize hmY hcY hframes (by rw [hlY]; omega) h4 h5) h1
  obtain ⟨mid, hmid⟩ := h.above
  have hfr : (U.setTop g).frames = (.java g :: mid) ++ below := by rw [State.frames_setTop' g h.top, hmid]; rfl
  obtain ⟨o, s₂, hsteps, -, hend, hq⟩ := Steps.callFree hM p X.admits X.cas X.clock (acts := []) hfr happ hPc trivial
  have hq' : vx_Q Qc XC mc ms free a (U.calling g mk a) o s₂ := hq
  rw [State.frames_setTop' g h.top] at hend
  obtain ⟨g₀, hg0⟩ := Option.isSome_iff_exists.mp h.top
  obtain ⟨r, hr⟩ := State.topJava?_eq_some.mp hg0
  have hr' : (({ U with heap := s₂.heap, slotsUsed := s₂.slotsUsed } : State).setVm s₂.vm).frames = .java g₀ :: r := hr
  rcases hq' with ⟨hqc, L, hfe, hL⟩ | ⟨q, rfl, E, ce, L, hx, hce, hcv, hcl, hW₂, hsm, hL⟩
  · obtain ⟨⟨v, rfl⟩, hW₂, e2, q2, q3, q4, q5, q6⟩ := id hfe
    have e3 : s₂ = ({ (U.calling g mk a).setFrames s₂.frames with heap := s₂.heap, slotsUsed := s₂.slotsUsed } : State).setVm s₂.vm := by
      have : s₂ = ({ s₂ with vm := (U.calling g mk a).vm } : State).setVm s₂.vm := rfl
      rw [e2] at this
      exact this
    obtain ⟨c₂, i₂, len₂, hc₂, hd₂, hf₂⟩ := hend
    have hW' : U.WarmedH s₂.vm := hW₂
    have hcc : c₂ = c := by
      have h1 : s₂.code? g.method = U.code? g.method := by
        rw [State.code?_eq, State.code?_eq, hW'.alike.method?]
      exact Option.some.inj (hc₂.symm.trans (h1.trans h.code))
    subst hcc
    have hlen : len₂ = len := by rw [hdg] at hd₂; cases hd₂; rfl
    subst hlen
    have hs₂ : s₂ = (({ U with heap := s₂.heap, slotsUsed := s₂.slotsUsed } : State).setVm s₂.vm).setTop { g with pc := g.pc + len₂, stack := v.toList ++ g.stack } := by
      refine e3.trans ?_
      rw [hf₂, State.calling_eq h.top, State.setFrames_setFrames, State.setTop_of_frames _ hr', hr]
      rfl
    have hsame : U.sameButNew ({ U with heap := s₂.heap, slotsUsed := s₂.slotsUsed } : State) L mc ms := by
      refine ⟨?_, q2, q3, q4, q5, q6⟩
      obtain ⟨t, ht, -⟩ := State.frames_cons hr
      show ({ U with heap := s₂.heap, slotsUsed := s₂.slotsUsed } : State) = { U.setFrames U.frames with heap := s₂.heap, slotsUsed := s₂.slotsUsed }
      rw [State.setFrames_self ht]
    subst hg
    refine Or.inl ⟨v, ⟨(({ U with heap := s₂.heap, slotsUsed := s₂.slotsUsed } : State).setVm s₂.vm), Ls ++ L, c0 + mc, s0 + ms⟩,
      ⟨X.admits, X.cas, X.clock, X.frames, X.room, X.hears, X.method, X.code, (X.here.setHeapUsed s₂.heap s₂.slotsUsed).setVm hW'.alike, X.tail, State.WarmedH.trans X.warmed hW', X.limits, X.bytes, X.same.trans (hsame.setVm s.vm)⟩,
      ⟨g, mk, s₂, L, rfl, rfl, hqc, rfl, hL, rfl, rfl⟩, ?_⟩
    show Steps p.tables e below _ ((({ U with heap := s₂.heap, slotsUsed := s₂.slotsUsed } : State).setVm s₂.vm).setTop { g with pc := g.pc + len₂, stack := v.toList ++ g.stack })
    rw [← hs₂]
    exact hsteps
  · obtain ⟨e2, q2, q3, q4, q5, q6⟩ := id hsm
    have e3 : s₂ = ({ (U.calling g mk a).setFrames s₂.frames with heap := s₂.heap, slotsUsed := s₂.slotsUsed } : State).setVm s₂.vm := by
      have : s₂ = ({ s₂ with vm := (U.calling g mk a).vm } : State).setVm s₂.vm := rfl
      rw [e2] at this
      exact this
    have hf₂ : s₂.frames = .throwing q :: .java g :: U.frames.tail := hend
    have hW' : U.WarmedH s₂.vm := hW₂
    have hs₂ : s₂ = ((({ U with heap := s₂.heap, slotsUsed := s₂.slotsUsed } : State).setVm s₂.vm).setTop g).pushFrame (.throwing q) := by
      refine e3.trans ?_
      rw [hf₂, State.calling_eq h.top, State.setFrames_setFrames, State.pushFrame, State.frames_setTop _ hr', State.setTop_of_frames _ hr', State.setFrames_setFrames, hr]
      rfl
    have hsame : U.sameButNew ({ U with heap := s₂.heap, slotsUsed := s₂.slotsUsed } : State) L mc ms := by
      refine ⟨?_, q2, q3, q4, q5, q6⟩
      obtain ⟨t, ht, -⟩ := State.frames_cons hr
      show ({ U with heap := s₂.heap, slotsUsed := s₂.slotsUsed } : State) = { U.setFrames U.frames with heap := s₂.heap, slotsUsed := s₂.slotsUsed }
      rw [State.setFrames_self ht]
    subst hg
    refine Or.inr ⟨q, ⟨(({ U with heap := s₂.heap, slotsUsed := s₂.slotsUsed } : State).setVm s₂.vm), Ls ++ L, c0 + mc, s0 + ms⟩,
      ⟨X.admits, X.cas, X.clock, X.frames, X.room, X.hears, X.method, X.code, (X.here.setHeapUsed s₂.heap s₂.slotsUsed).setVm hW'.alike, X.tail, State.WarmedH.trans X.warmed hW', X.limits, X.bytes, X.same.trans (hsame.setVm s.vm)⟩,
      ⟨g, mk, s₂, L, E, ce, rfl, rfl, hx, hce, hcv, hcl, rfl, hL, rfl, rfl⟩, ?_⟩
    show Steps p.tables e below _ (((({ U with heap := s₂.heap, slotsUsed := s₂.slotsUsed } : State).setVm s₂.vm).setTop g).pushFrame (.throwing q))
    rw [← hs₂]
    exact hsteps
end Payer
section Calls
variable {p : Program} {l : Launch} {e : Env} {R : Room} {s : State} {m : MethodId} {args : Array Value} {below : List Frame} {meth : Method} {c : Code} {T : State} {locs : List Loc} {cells slots : Nat}
theorem vx_callV (X : Stand p l e R s m args below meth c T locs cells slots) (hexec : p.tables.exec = Jvm.exec) {own C : String} {index : Nat} {y : MethodName} {bytes : ByteArray} {maxL : Nat} {ret : Option FieldType}
    (hown : s.vm.findClass own = some m.cls) (hlink : (Cond.methodLink own index y).before args s = true) (hinst : (Cond.instanceMethod y).before args s = true) (hsel : (Cond.selects C y y).before args s = true)
    (hcode : (Cond.code y bytes maxL ret).before args s = true) (hy : y.cls ≠ "java/lang/invoke/MethodHandle" ∧ y.cls ≠ "java/lang/invoke/VarHandle")
    {W9 : Nat} {Pre : Pt → Array Value → Prop} {Post : Pt → Array Value → Option Value → Pt → Prop} {PostX : Pt → Array Value → Addr → Pt → Prop} (hK : vx_Back l R p e below s args y 3 W9 Pre Post PostX)
    {b : Addr} {cellB : Cell} (hcell : T.heap[b]? = some cellB) (hobj : cellB.vm.isStatics = false) (hcls : s.vm.findClass C = some cellB.cls)
    {g : JFrame} (hg : g.method = m) (hsize : g.locals.size = c.maxLocals) {argsL rest : List Value} (hlen : ∀ sig, parseMethodDescriptor y.desc = some sig → argsL.length = sig.parameters.length)
    (hstack : g.stack = argsL.reverse ++ .ref b :: rest) (hW : 2 * g.monitorRoom + (rest.map fun v => v.category).sum ≤ W9) (hdg : decode c.code g.pc = .ok (.invokevirtual index, 3))
    (hpre : ∀ vm₁, s.WarmedH vm₁ → Pre ⟨T.setVm vm₁, locs, cells, slots⟩ (Value.ref b :: argsL).toArray) :
    (∃ (v : Option Value) (vm₁ : Vm) (B : Pt), s.WarmedH vm₁ ∧ Stand p l e R s m args below meth c B.U B.locs B.cells B.slots ∧ Post ⟨T.setVm vm₁, locs, cells, slots⟩ (Value.ref b :: argsL).toArray v B ∧
      ∀ target, Steps p.tables e below (B.U.setTop { g with pc := g.pc + 3, stack := v.toList ++ rest }) target → Steps p.tables e below (T.setTop g) target) ∨
    (∃ (q : Addr) (vm₁ : Vm) (B : Pt), s.WarmedH vm₁ ∧ Stand p l e R s m args below meth c B.U B.locs B.cells B.slots ∧ PostX ⟨T.setVm vm₁, locs, cells, slots⟩ (Value.ref b :: argsL).toArray q B ∧
      Steps p.tables e below (T.setTop g) ((B.U.setTop { g with stack := rest }).pushFrame (.throwing q))) := by
  obtain ⟨mk, methM, hnamed, hmethM, hstM, habM⟩ := Cond.instanceMethod_spec hinst
  obtain ⟨methM', cM, hmethM', -, -, -, -, -, -, hsigM⟩ := Cond.code_spec hnamed hcode
  cases hmethM.symm.trans hmethM'
  obtain ⟨c2, r2, m2, q1, q2, q3, q4, kP, hkP, hkPi⟩ := Cond.selects_spec hsel
  cases hcls.symm.trans q1
  cases (State.methodFound?_of_named hnamed hy).symm.trans q2
  cases hnamed.symm.trans q3
  have hselP : selectMethod e.platform s.vm cellB.cls mk = .method mk := by rw [Launch.admits_selectMethod X.admits]; exact q4
  obtain ⟨vm₁, X₁, hstep₁⟩ := X.invokevirtual hexec hown hlink hnamed hmethM hstM hkP hkPi hy (a := b) (cell := cellB) hcell
    (fun z h => by rw [h] at hobj; cases hobj) hselP hmethM habM hkP hkPi (g := g) hg (argsL := argsL) (rest := rest) (hlen _ hsigM) hstack hdg
  rcases hK m meth c ⟨T.setVm vm₁, locs, cells, slots⟩ { g with stack := rest } (.invokevirtual index) mk (Value.ref b :: argsL).toArray X₁ hg hsize hdg hW (X₁.named hnamed) (hpre vm₁ X₁.warmed) with ⟨v, B, X', hpost, hsteps⟩ | ⟨q, B, X', hpost, hsteps⟩
  · exact Or.inl ⟨v, vm₁, B, X₁.warmed, X', hpost, fun target h => hstep₁ _ fun acts => by rw [doInvoke_state]; exact hsteps.trans h⟩
  · exact Or.inr ⟨q, vm₁, B, X₁.warmed, X', hpost, hstep₁ _ fun acts => by rw [doInvoke_state]; exact hsteps⟩
theorem vx_callS (X : Stand p l e R s m args below meth c T locs cells slots) (hexec : p.tables.exec = Jvm.exec) {own : String} {index : Nat} {y : MethodName} {bytes : ByteArray} {maxL : Nat} {ret : Option FieldType}
    (hown : s.vm.findClass own = some m.cls) (hlink : (Cond.methodLink own index y).before args s = true) (hstat : (Cond.static y).before args s = true) (hinit : (Cond.initialized y.cls).before args s = true)
    (hcode : (Cond.code y bytes maxL ret).before args s = true) (hy : y.cls ≠ "java/lang/invoke/MethodHandle" ∧ y.cls ≠ "java/lang/invoke/VarHandle")
    {W9 : Nat} {Pre : Pt → Array Value → Prop} {Post : Pt → Array Value → Option Value → Pt → Prop} {PostX : Pt → Array Value → Addr → Pt → Prop} (hK : vx_Back l R p e below s args y 3 W9 Pre Post PostX)
    {g : JFrame} (hg : g.method = m) (hsize : g.locals.size = c.maxLocals) {argsL rest : List Value} (hlen : ∀ sig, parseMethodDescriptor y.desc = some sig → argsL.length = sig.parameters.length)
    (hstack : g.stack = argsL.reverse ++ rest) (hW : 2 * g.monitorRoom + (rest.map fun v => v.category).sum ≤ W9) (hdg : decode c.code g.pc = .ok (.invokestatic index, 3))
    (hpre : ∀ vm₁, s.WarmedH vm₁ → Pre ⟨T.setVm vm₁, locs, cells, slots⟩ argsL.toArray) :
    (∃ (v : Option Value) (vm₁ : Vm) (B : Pt), s.WarmedH vm₁ ∧ Stand p l e R s m args below meth c B.U B.locs B.cells B.slots ∧ Post ⟨T.setVm vm₁, locs, cells, slots⟩ argsL.toArray v B ∧
      ∀ target, Steps p.tables e below (B.U.setTop { g with pc := g.pc + 3, stack := v.toList ++ rest }) target → Steps p.tables e below (T.setTop g) target) ∨
    (∃ (q : Addr) (vm₁ : Vm) (B : Pt), s.WarmedH vm₁ ∧ Stand p l e R s m args below meth c B.U B.locs B.cells B.slots ∧ PostX ⟨T.setVm vm₁, locs, cells, slots⟩ argsL.toArray q B ∧
      Steps p.tables e below (T.setTop g) ((B.U.setTop { g with stack := rest }).pushFrame (.throwing q))) := by
  obtain ⟨mk, hnamed⟩ := Cond.code_named hcode
  obtain ⟨methM, cM, hmethM, -, -, -, -, -, -, hsigM⟩ := Cond.code_spec hnamed hcode
  have hstatic : methM.isStatic = true := Cond.static_spec hnamed hmethM hstat
  obtain ⟨kP, hkP, -⟩ := className_of_methodNamed hnamed
  have hinitP : kP.init = .initialized := Cond.initialized_spec (findClass_of_methodNamed hnamed) hkP hinit
  obtain ⟨vm₁, X₁, hstep₁⟩ := X.invokestatic hexec hown hlink hnamed hmethM hstatic hkP hinitP hy (g := g) hg (argsL := argsL) (rest := rest) (hlen _ hsigM) hstack hdg
  rcases hK m meth c ⟨T.setVm vm₁, locs, cells, slots⟩ { g with stack := rest } (.invokestatic index) mk argsL.toArray X₁ hg hsize hdg hW (X₁.named hnamed) (hpre vm₁ X₁.warmed) with ⟨v, B, X', hpost, hsteps⟩ | ⟨q, B, X', hpost, hsteps⟩
  · exact Or.inl ⟨v, vm₁, B, X₁.warmed, X', hpost, fun target h => hstep₁ _ fun acts => by rw [doInvoke_state]; exact hsteps.trans h⟩
  · exact Or.inr ⟨q, vm₁, B, X₁.warmed, X', hpost, hstep₁ _ fun acts => by rw [doInvoke_state]; exact hsteps⟩
end Calls
theorem vx_cls {s : State} {T : State} {vm₁ : Vm} {E : String} {k : ClassId} (hW : s.WarmedH vm₁) (h : (T.setVm vm₁).vm.findClass E = some k) : s.vm.findClass E = some k := by
  have h1 : vm₁.findClass E = some k := h
  rw [hW.alike.findClass] at h1
  exact h1
/-- the method's frame g, with q thrown over it -/
def vx_W (p : Program) (l : Launch) (e : Env) (R : Room) (s : State) (m : MethodId) (args : Array Value) (below : List Frame) (meth : Method) (c : Code) (H : Heap) (locs : List Loc) (cells slots : Nat) (Q : State → Prop) (g : JFrame) (q : Addr) : Prop :=
  ∀ T : State, T.heap = H → Stand p l e R s m args below meth c T locs cells slots → ∃ t, Steps p.tables e below ((T.setTop g).pushFrame (.throwing q)) t ∧ Q t
def vx_Run (p : Program) (l : Launch) (e : Env) (R : Room) (s : State) (m : MethodId) (args : Array Value) (below : List Frame) (meth : Method) (c : Code) (H : Heap) (locs : List Loc) (cells slots mc ms : Nat) (g : JFrame) (rest : List Value) (Qa : State → Outcome → State → Prop) (XC : String → State → State → Prop) (free : Addr → Prop) : Prop :=
  ∀ T : State, T.heap = H → Stand p l e R s m args below meth c T locs cells slots →
    (∃ (v : Option Value) (st₀ t T' : State) (L : List Loc), st₀.heap = H ∧ Stand p l e R s m args below meth c T' (locs ++ L) (cells + mc) (slots + ms) ∧ (∀ q ∈ L, free q.base) ∧ T'.heap = t.heap ∧ T'.vm = t.vm ∧ Qa st₀ (.returned v) t ∧
      Goes p e below T g T' { g with pc := g.pc + 3, stack := v.toList ++ rest }) ∨
    (∃ (q : Addr) (st₀ t T' : State) (L : List Loc) (E : String) (ce : Cell), st₀.heap = H ∧ Stand p l e R s m args below meth c T' (locs ++ L) (cells + mc) (slots + ms) ∧ (∀ z ∈ L, free z.base) ∧ T'.heap = t.heap ∧ T'.vm = t.vm ∧ XC E st₀ t ∧ t.heap[q]? = some ce ∧ ce.vm = .none ∧ s.vm.findClass E = some ce.cls ∧
      Steps p.tables e below (T.setTop g) ((T'.setTop { g with stack := rest }).pushFrame (.throwing q)))
def vx_X {S : Type} (px : S → Prop) (B : String → S → State → Prop) (A : Nat → Prop) : String → State → State → Prop := fun E st t => ∃ u : S, px u ∧ B E u t ∧ va_F A st t
section Runs
variable {p : Program} {l : Launch} {e : Env} {R : Room} {s : State} {m : MethodId} {args : Array Value} {below : List Frame} {meth : Method} {c : Code} {H : Heap} {locs : List Loc} {cells slots : Nat}
variable {y : MethodName} {bytes cc : ByteArray} {maxL nL mc ms n index : Nat} {ret : Option FieldType} {ws : List Cond} {rm : Room} {Pc : Array Value → State → Prop} {Qc : Array Value → State → Outcome → State → Prop} {XC : String → State → State → Prop} {free : Addr → Prop} {Ts : List Cond} {own C : String} {b : Addr} {As rest : List Value} {g : JFrame}
theorem vx_callBack (cb : CallB R s args own index y bytes maxL ret ws rm mc ms n) (hM : vx_Met l y ws rm Pc Qc XC mc ms free) (hbl : FrameBlind Pc) : vx_Back l R p e below s args y 3 8 (PreOf R mc ms Pc) (PostOf Qc mc ms free) (vx_Post XC mc ms free) := by
  obtain ⟨hrc, hrs, hfr, hlo, hws, hcw, -, hini, -⟩ := cb
  exact vx_back (bytes := bytes) (maxL := maxL) (ret := ret) hM hbl hrc hrs hfr hlo hws hcw (fun a' U hW => word_at hW (Or.inl (by first | rfl | simp [Cond.onTables, Cond.keeps, Cond.steady])) hini)
theorem vx_runV (S : CallFix p m c cc nL s args Ts own) (hM : vx_Met l y ws rm Pc Qc XC mc ms free) (cw : CallW R s args own C index y bytes maxL ret ws rm mc ms n) (hp : PreV s H C b Pc As)
    (hg : g.method = m) (hn : As.length = n) (hsize : g.locals.size = nL) (hstack : g.stack = As.reverse ++ .ref b :: rest) (hW : 2 * g.monitorRoom + (rest.map fun v => v.category).sum ≤ 8) (hdg : decode cc g.pc = .ok (.invokevirtual index, 3)) (hf : cells + mc ≤ R.cells ∧ slots + ms ≤ R.slots) :
    vx_Run p l e R s m args below meth c H locs cells slots mc ms g rest (Qc (Value.ref b :: As).toArray) XC free := by
  have hK : vx_Back l R p e below s args y 3 8 (PreOf R mc ms Pc) (PostOf Qc mc ms free) (vx_Post XC mc ms free) := vx_callBack cw.1 hM hp.1
  obtain ⟨⟨-, -, -, -, -, -, hcode, -, hy, hlen, hl⟩, hin, hse⟩ := cw
  obtain ⟨hx, hb, hml, ho, -⟩ := S
  obtain ⟨-, ⟨cellB, hcB, hoB, hclB⟩, hPc⟩ := hp
  intro T hT X
  rcases vx_callV X hx (C := C) (bytes := bytes) (maxL := maxL) (ret := ret) ho hl hin hse hcode hy hK (by rw [hT]; exact hcB) hoB hclB hg (hsize.trans hml.symm) (argsL := As) (rest := rest) (fun sig h => hn.trans (hlen sig h)) hstack hW (by rw [hb]; exact hdg)
    (fun vm₁ hW₁ => ⟨hf.1, hf.2, hPc (T.setVm vm₁) hT hW₁⟩) with ⟨v, vm₁, ⟨U', l2, c2, s2⟩, hW₁, X', ⟨g', mk, t, L, e1, e2, hq, h1, hL, h2, h3⟩, st⟩ | ⟨q, vm₁, ⟨U', l2, c2, s2⟩, hW₁, X', ⟨g', mk, t, L, E, ce, e1, e2, hq, hce, hcv, hcl, h1, hL, h2, h3⟩, st⟩
  · dsimp only [Pt.U, Pt.locs, Pt.cells, Pt.slots] at X' e1 e2 h1 h2 h3 st
    subst h1; subst h2; subst h3
    exact Or.inl ⟨v, (T.setVm vm₁).calling g' mk (Value.ref b :: As).toArray, t, U', L, hT, X', hL, e1, e2, hq, st⟩
  · dsimp only [Pt.U, Pt.locs, Pt.cells, Pt.slots] at X' e1 e2 h1 h2 h3 st hcl
    subst h1; subst h2; subst h3
    exact Or.inr ⟨q, (T.setVm vm₁).calling g' mk (Value.ref b :: As).toArray, t, U', L, E, ce, hT, X', hL, e1, e2, hq, hce, hcv, vx_cls hW₁ hcl, st⟩
theorem vx_runS (S : CallFix p m c cc nL s args Ts own) (hM : vx_Met l y ws rm Pc Qc XC mc ms free) (cw : CallB R s args own index y bytes maxL ret ws rm mc ms n ∧ (Cond.static y).before args s = true) (hp : PreS s H Pc As)
    (hg : g.method = m) (hn : As.length = n) (hsize : g.locals.size = nL) (hstack : g.stack = As.reverse ++ rest) (hW : 2 * g.monitorRoom + (rest.map fun v => v.category).sum ≤ 8) (hdg : decode cc g.pc = .ok (.invokestatic index, 3)) (hf : cells + mc ≤ R.cells ∧ slots + ms ≤ R.slots) :
    vx_Run p l e R s m args below meth c H locs cells slots mc ms g rest (Qc As.toArray) XC free := by
  have hK : vx_Back l R p e below s args y 3 8 (PreOf R mc ms Pc) (PostOf Qc mc ms free) (vx_Post XC mc ms free) := vx_callBack cw.1 hM hp.1
  obtain ⟨⟨-, -, -, -, -, -, hcode, hini, hy, hlen, hl⟩, hstt⟩ := cw
  obtain ⟨hx, hb, hml, ho, -⟩ := S
  intro T hT X
  rcases vx_callS X hx (bytes := bytes) (maxL := maxL) (ret := ret) ho hl hstt hini hcode hy hK hg (hsize.trans hml.symm) (argsL := As) (rest := rest) (fun sig h => hn.trans (hlen sig h)) hstack hW (by rw [hb]; exact hdg)
    (fun vm₁ hW₁ => ⟨hf.1, hf.2, hp.2 (T.setVm vm₁) hT hW₁⟩) with ⟨v, vm₁, ⟨U', l2, c2, s2⟩, hW₁, X', ⟨g', mk, t, L, e1, e2, hq, h1, hL, h2, h3⟩, st⟩ | ⟨q, vm₁, ⟨U', l2, c2, s2⟩, hW₁, X', ⟨g', mk, t, L, E, ce, e1, e2, hq, hce, hcv, hcl, h1, hL, h2, h3⟩, st⟩
  · dsimp only [Pt.U, Pt.locs, Pt.cells, Pt.slots] at X' e1 e2 h1 h2 h3 st
    subst h1; subst h2; subst h3
    exact Or.inl ⟨v, (T.setVm vm₁).calling g' mk As.toArray, t, U', L, hT, X', hL, e1, e2, hq, st⟩
  · dsimp only [Pt.U, Pt.locs, Pt.cells, Pt.slots] at X' e1 e2 h1 h2 h3 st hcl
    subst h1; subst h2; subst h3
    exact Or.inr ⟨q, (T.setVm vm₁).calling g' mk As.toArray, t, U', L, E, ce, hT, X', hL, e1, e2, hq, hce, hcv, vx_cls hW₁ hcl, st⟩
end Runs
section Rows
variable {p : Program} {l : Launch} {e : Env} {R : Room} {s : State} {m : MethodId} {args : Array Value} {below : List Frame} {meth : Method} {c : Code} {H : Heap} {locs : List Loc} {cells slots : Nat} {Q : State → Prop}
variable {mc ms : Nat} {free : Addr → Prop} {A0 A1 : Nat → Prop} {H0 : Heap} {a : Array Value} {pc : Nat} {ls : Array Slot} {st0 rest : List Value}
theorem vx_keep {st₀ t T' : State} {L : List Loc} (h0 : st₀.heap = H) (e1 : T'.heap = t.heap) (hS : va_S A0 H0 H locs) (hA : ∀ q, q < H.size → A1 q → A0 q) (hf : ∀ q, free q → A0 q) (hL : ∀ q ∈ L, free q.base) (hF : va_F A1 st₀ t) :
    H.size ≤ T'.heap.size ∧ (∀ q : Nat, q < H.size → ¬ A1 q → T'.heap[q]? = H[q]?) ∧ va_S A0 H0 T'.heap (locs ++ L) := by
  obtain ⟨hz, hk⟩ := hF
  rw [h0] at hz hk
  exact ⟨by rw [e1]; exact hz, fun q h1 h2 => by rw [e1]; exact hk q h1 h2,
    ⟨Nat.le_trans hS.1 (by rw [e1]; exact hz), fun q h1 h2 => by rw [e1, hk q (Nat.lt_of_lt_of_le h1 hS.1) (fun z => h2 (hA q (Nat.lt_of_lt_of_le h1 hS.1) z))]; exact hS.2.1 q h1 h2, fun q hq => by
      rcases List.mem_append.mp hq with h | h
      · exact hS.2.2 q h
      · exact hf _ (hL q h)⟩⟩
theorem vx_calli {S SX : Type} {post : Int32 → S → Prop} {px : SX → Prop} {B : S → State → Prop} {BX : String → SX → State → Prop} {AX : Nat → Prop} (hr : vx_Run p l e R s m args below meth c H locs cells slots mc ms (F0 m pc ls st0) rest (va_Qi post B A1 a) (vx_X px BX AX) free) (hS : va_S A0 H0 H locs) (hA : ∀ q, q < H.size → A1 q → A0 q) (hf : ∀ q, free q → A0 q) (hAX : ∀ q, q < H.size → AX q → A0 q)
    (kx : ∀ (E : String) (ce : Cell) (q9 : Addr) (u : SX) (t : State) (H1 : Heap) (locs1 : List Loc), t.heap = H1 → s.vm.Alike t.vm → px u → BX E u t → H.size ≤ H1.size → (∀ q : Nat, q < H.size → ¬ AX q → H1[q]? = H[q]?) → va_S A0 H0 H1 locs1 → H1[q9]? = some ce → ce.vm = .none → s.vm.findClass E = some ce.cls → vx_W p l e R s m args below meth c H1 locs1 (cells + mc) (slots + ms) Q (F0 m pc ls rest) q9)
    (kk : ∀ (r : Int32) (u : S) (t : State) (H1 : Heap) (locs1 : List Loc), t.heap = H1 → s.vm.Alike t.vm → post r u → B u t → H.size ≤ H1.size → (∀ q : Nat, q < H.size → ¬ A1 q → H1[q]? = H[q]?) → va_S A0 H0 H1 locs1 → W p l e R s m args below meth c H1 locs1 (cells + mc) (slots + ms) Q (F0 m (pc + 3) ls (.int r :: rest))) : W p l e R s m args below meth c H locs cells slots Q (F0 m pc ls st0) := by
  intro T hT X
  rcases hr T hT X with ⟨v, st₀, t, T', L, h0, X', hL, e1, e2, ⟨⟨r, u, hv, hp, hb⟩, hF⟩, st⟩ | ⟨q, st₀, t, T', L, E, ce, h0, X', hL, e1, e2, ⟨u, hp, hb, hF⟩, hce, hcv, hcl, st⟩
  · cases hv
    obtain ⟨k1, k2, k3⟩ := vx_keep h0 e1 hS hA hf hL hF
    obtain ⟨t2, a1, b1⟩ := kk r u t T'.heap (locs ++ L) e1.symm (by rw [← e2]; exact X'.warmed.alike) hp hb k1 k2 k3 T' rfl X'
    exact ⟨t2, st t2 a1, b1⟩
  · obtain ⟨k1, k2, k3⟩ := vx_keep h0 e1 hS hAX hf hL hF
    obtain ⟨t2, a1, b1⟩ := kx E ce q u t T'.heap (locs ++ L) e1.symm (by rw [← e2]; exact X'.warmed.alike) hp hb k1 k2 k3 (by rw [e1]; exact hce) hcv hcl T' rfl X'
    exact ⟨t2, st.trans a1, b1⟩
theorem vx_calll {S SX : Type} {post : Int64 → S → Prop} {px : SX → Prop} {B : S → State → Prop} {BX : String → SX → State → Prop} {AX : Nat → Prop} (hr : vx_Run p l e R s m args below meth c H locs cells slots mc ms (F0 m pc ls st0) rest (va_Ql post B A1 a) (vx_X px BX AX) free) (hS : va_S A0 H0 H locs) (hA : ∀ q, q < H.size → A1 q → A0 q) (hf : ∀ q, free q → A0 q) (hAX : ∀ q, q < H.size → AX q → A0 q)
    (kx : ∀ (E : String) (ce : Cell) (q9 : Addr) (u : SX) (t : State) (H1 : Heap) (locs1 : List Loc), t.heap = H1 → s.vm.Alike t.vm → px u → BX E u t → H.size ≤ H1.size → (∀ q : Nat, q < H.size → ¬ AX q → H1[q]? = H[q]?) → va_S A0 H0 H1 locs1 → H1[q9]? = some ce → ce.vm = .none → s.vm.findClass E = some ce.cls → vx_W p l e R s m args below meth c H1 locs1 (cells + mc) (slots + ms) Q (F0 m pc ls rest) q9)
    (kk : ∀ (r : Int64) (u : S) (t : State) (H1 : Heap) (locs1 : List Loc), t.heap = H1 → s.vm.Alike t.vm → post r u → B u t → H.size ≤ H1.size → (∀ q : Nat, q < H.size → ¬ A1 q → H1[q]? = H[q]?) → va_S A0 H0 H1 locs1 → W p l e R s m args below meth c H1 locs1 (cells + mc) (slots + ms) Q (F0 m (pc + 3) ls (.long r :: rest))) : W p l e R s m args below meth c H locs cells slots Q (F0 m pc ls st0) := by
  intro T hT X
  rcases hr T hT X with ⟨v, st₀, t, T', L, h0, X', hL, e1, e2, ⟨⟨r, u, hv, hp, hb⟩, hF⟩, st⟩ | ⟨q, st₀, t, T', L, E, ce, h0, X', hL, e1, e2, ⟨u, hp, hb, hF⟩, hce, hcv, hcl, st⟩
  · cases hv
    obtain ⟨k1, k2, k3⟩ := vx_keep h0 e1 hS hA hf hL hF
    obtain ⟨t2, a1, b1⟩ := kk r u t T'.heap (locs ++ L) e1.symm (by rw [← e2]; exact X'.warmed.alike) hp hb k1 k2 k3 T' rfl X'
    exact ⟨t2, st t2 a1, b1⟩
  · obtain ⟨k1, k2, k3⟩ := vx_keep h0 e1 hS hAX hf hL hF
    obtain ⟨t2, a1, b1⟩ := kx E ce q u t T'.heap (locs ++ L) e1.symm (by rw [← e2]; exact X'.warmed.alike) hp hb k1 k2 k3 (by rw [e1]; exact hce) hcv hcl T' rfl X'
    exact ⟨t2, st.trans a1, b1⟩
theorem vx_callf {S SX : Type} {post : UInt32 → S → Prop} {px : SX → Prop} {B : S → State → Prop} {BX : String → SX → State → Prop} {AX : Nat → Prop} (hr : vx_Run p l e R s m args below meth c H locs cells slots mc ms (F0 m pc ls st0) rest (va_Qf post B A1 a) (vx_X px BX AX) free) (hS : va_S A0 H0 H locs) (hA : ∀ q, q < H.size → A1 q → A0 q) (hf : ∀ q, free q → A0 q) (hAX : ∀ q, q < H.size → AX q → A0 q)
    (kx : ∀ (E : String) (ce : Cell) (q9 : Addr) (u : SX) (t : State) (H1 : Heap) (locs1 : List Loc), t.heap = H1 → s.vm.Alike t.vm → px u → BX E u t → H.size ≤ H1.size → (∀ q : Nat, q < H.size → ¬ AX q → H1[q]? = H[q]?) → va_S A0 H0 H1 locs1 → H1[q9]? = some ce → ce.vm = .none → s.vm.findClass E = some ce.cls → vx_W p l e R s m args below meth c H1 locs1 (cells + mc) (slots + ms) Q (F0 m pc ls rest) q9)
    (kk : ∀ (r : UInt32) (u : S) (t : State) (H1 : Heap) (locs1 : List Loc), t.heap = H1 → s.vm.Alike t.vm → post r u → B u t → H.size ≤ H1.size → (∀ q : Nat, q < H.size → ¬ A1 q → H1[q]? = H[q]?) → va_S A0 H0 H1 locs1 → W p l e R s m args below meth c H1 locs1 (cells + mc) (slots + ms) Q (F0 m (pc + 3) ls (.float r :: rest))) : W p l e R s m args below meth c H locs cells slots Q (F0 m pc ls st0) := by
  intro T hT X
  rcases hr T hT X with ⟨v, st₀, t, T', L, h0, X', hL, e1, e2, ⟨⟨r, u, hv, hp, hb⟩, hF⟩, st⟩ | ⟨q, st₀, t, T', L, E, ce, h0, X', hL, e1, e2, ⟨u, hp, hb, hF⟩, hce, hcv, hcl, st⟩
  · cases hv
    obtain ⟨k1, k2, k3⟩ := vx_keep h0 e1 hS hA hf hL hF
    obtain ⟨t2, a1, b1⟩ := kk r u t T'.heap (locs ++ L) e1.symm (by rw [← e2]; exact X'.warmed.alike) hp hb k1 k2 k3 T' rfl X'
    exact ⟨t2, st t2 a1, b1⟩
  · obtain ⟨k1, k2, k3⟩ := vx_keep h0 e1 hS hAX hf hL hF
    obtain ⟨t2, a1, b1⟩ := kx E ce q u t T'.heap (locs ++ L) e1.symm (by rw [← e2]; exact X'.warmed.alike) hp hb k1 k2 k3 (by rw [e1]; exact hce) hcv hcl T' rfl X'
    exact ⟨t2, st.trans a1, b1⟩
theorem vx_calld {S SX : Type} {post : UInt64 → S → Prop} {px : SX → Prop} {B : S → State → Prop} {BX : String → SX → State → Prop} {AX : Nat → Prop} (hr : vx_Run p l e R s m args below meth c H locs cells slots mc ms (F0 m pc ls st0) rest (va_Qd post B A1 a) (vx_X px BX AX) free) (hS : va_S A0 H0 H locs) (hA : ∀ q, q < H.size → A1 q → A0 q) (hf : ∀ q, free q → A0 q) (hAX : ∀ q, q < H.size → AX q → A0 q)
    (kx : ∀ (E : String) (ce : Cell) (q9 : Addr) (u : SX) (t : State) (H1 : Heap) (locs1 : List Loc), t.heap = H1 → s.vm.Alike t.vm → px u → BX E u t → H.size ≤ H1.size → (∀ q : Nat, q < H.size → ¬ AX q → H1[q]? = H[q]?) → va_S A0 H0 H1 locs1 → H1[q9]? = some ce → ce.vm = .none → s.vm.findClass E = some ce.cls → vx_W p l e R s m args below meth c H1 locs1 (cells + mc) (slots + ms) Q (F0 m pc ls rest) q9)
    (kk : ∀ (r : UInt64) (u : S) (t : State) (H1 : Heap) (locs1 : List Loc), t.heap = H1 → s.vm.Alike t.vm → post r u → B u t → H.size ≤ H1.size → (∀ q : Nat, q < H.size → ¬ A1 q → H1[q]? = H[q]?) → va_S A0 H0 H1 locs1 → W p l e R s m args below meth c H1 locs1 (cells + mc) (slots + ms) Q (F0 m (pc + 3) ls (.double r :: rest))) : W p l e R s m args below meth c H locs cells slots Q (F0 m pc ls st0) := by
  intro T hT X
  rcases hr T hT X with ⟨v, st₀, t, T', L, h0, X', hL, e1, e2, ⟨⟨r, u, hv, hp, hb⟩, hF⟩, st⟩ | ⟨q, st₀, t, T', L, E, ce, h0, X', hL, e1, e2, ⟨u, hp, hb, hF⟩, hce, hcv, hcl, st⟩
  · cases hv
    obtain ⟨k1, k2, k3⟩ := vx_keep h0 e1 hS hA hf hL hF
    obtain ⟨t2, a1, b1⟩ := kk r u t T'.heap (locs ++ L) e1.symm (by rw [← e2]; exact X'.warmed.alike) hp hb k1 k2 k3 T' rfl X'
    exact ⟨t2, st t2 a1, b1⟩
  · obtain ⟨k1, k2, k3⟩ := vx_keep h0 e1 hS hAX hf hL hF
    obtain ⟨t2, a1, b1⟩ := kx E ce q u t T'.heap (locs ++ L) e1.symm (by rw [← e2]; exact X'.warmed.alike) hp hb k1 k2 k3 (by rw [e1]; exact hce) hcv hcl T' rfl X'
    exact ⟨t2, st.trans a1, b1⟩
theorem vx_callv {S SX : Type} {post : S → Prop} {px : SX → Prop} {B : S → State → Prop} {BX : String → SX → State → Prop} {AX : Nat → Prop} (hr : vx_Run p l e R s m args below meth c H locs cells slots mc ms (F0 m pc ls st0) rest (va_Qv post B A1 a) (vx_X px BX AX) free) (hS : va_S A0 H0 H locs) (hA : ∀ q, q < H.size → A1 q → A0 q) (hf : ∀ q, free q → A0 q) (hAX : ∀ q, q < H.size → AX q → A0 q)
    (kx : ∀ (E : String) (ce : Cell) (q9 : Addr) (u : SX) (t : State) (H1 : Heap) (locs1 : List Loc), t.heap = H1 → s.vm.Alike t.vm → px u → BX E u t → H.size ≤ H1.size → (∀ q : Nat, q < H.size → ¬ AX q → H1[q]? = H[q]?) → va_S A0 H0 H1 locs1 → H1[q9]? = some ce → ce.vm = .none → s.vm.findClass E = some ce.cls → vx_W p l e R s m args below meth c H1 locs1 (cells + mc) (slots + ms) Q (F0 m pc ls rest) q9)
    (kk : ∀ (u : S) (t : State) (H1 : Heap) (locs1 : List Loc), t.heap = H1 → s.vm.Alike t.vm → post u → B u t → H.size ≤ H1.size → (∀ q : Nat, q < H.size → ¬ A1 q → H1[q]? = H[q]?) → va_S A0 H0 H1 locs1 → W p l e R s m args below meth c H1 locs1 (cells + mc) (slots + ms) Q (F0 m (pc + 3) ls (rest))) : W p l e R s m args below meth c H locs cells slots Q (F0 m pc ls st0) := by
  intro T hT X
  rcases hr T hT X with ⟨v, st₀, t, T', L, h0, X', hL, e1, e2, ⟨⟨u, hv, hp, hb⟩, hF⟩, st⟩ | ⟨q, st₀, t, T', L, E, ce, h0, X', hL, e1, e2, ⟨u, hp, hb, hF⟩, hce, hcv, hcl, st⟩
  · cases hv
    obtain ⟨k1, k2, k3⟩ := vx_keep h0 e1 hS hA hf hL hF
    obtain ⟨t2, a1, b1⟩ := kk u t T'.heap (locs ++ L) e1.symm (by rw [← e2]; exact X'.warmed.alike) hp hb k1 k2 k3 T' rfl X'
    exact ⟨t2, st t2 a1, b1⟩
  · obtain ⟨k1, k2, k3⟩ := vx_keep h0 e1 hS hAX hf hL hF
    obtain ⟨t2, a1, b1⟩ := kx E ce q u t T'.heap (locs ++ L) e1.symm (by rw [← e2]; exact X'.warmed.alike) hp hb k1 k2 k3 (by rw [e1]; exact hce) hcv hcl T' rfl X'
    exact ⟨t2, st.trans a1, b1⟩
/-- caught by the row x of this method's table; the rows ahead don't take it -/
theorem vx_catch {own name : String} {E : String} {ce : Cell} {q : Addr} (hown : s.vm.findClass own = some m.cls) (pre : List ExceptionTableEntry) (x : ExceptionTableEntry) (suf : List ExceptionTableEntry) (hsplit : c.exceptionTable.toList = pre ++ x :: suf)
    (hpass : ∀ z ∈ pre, covers z pc = false ∨ (z.catchType ≠ 0 ∧ ∃ nm : String, (Cond.classLink own z.catchType nm).before args s = true ∧ va_Nc E nm s)) (hx : covers x pc = true) (h0 : x.catchType ≠ 0)
    (hlink : (Cond.classLink own x.catchType name).before args s = true) (hcast : (Cond.castable E name).before args s = true) (hcell : H[q]? = some ce) (hv : ce.vm = .none) (hcl : s.vm.findClass E = some ce.cls)
    (kk : W p l e R s m args below meth c H locs cells slots Q (F0 m x.handlerPc ls [.ref q])) : vx_W p l e R s m args below meth c H locs cells slots Q (F0 m pc ls rest) q := by
  intro T hT X
  have hpl : e.platform.magicAccessors = ({} : Platform).magicAccessors := by rw [X.admits.platform]
  obtain ⟨c3, c4, hc3, hc4, hasg⟩ := Cond.castable_spec hcast
  cases Option.some.inj (hc3.symm.trans hcl)
  obtain ⟨c5, hc5, hcl5⟩ := Cond.classLink_spec hown hlink e.platform hpl
  cases Option.some.inj (hc4.symm.trans hc5)
  obtain ⟨vm', X', st⟩ := X.thenCaughtThrough q (g := F0 m pc ls rest) rfl (Steps.refl _) (by rw [hT]; exact hcell) (by rw [hv]; rfl) (by obtain ⟨k9, h9, -⟩ := Vm.findClass_spec hcl; exact ⟨k9, h9⟩) pre x suf hsplit
    (fun z hz => by
      rcases hpass z hz with h | ⟨hz0, nm, hl1, hn1⟩
      · exact Or.inl h
      · obtain ⟨c6, hc6, hcl6⟩ := Cond.classLink_spec hown hl1 e.platform hpl
        obtain ⟨a8, b8, h1, h2, h3⟩ := hn1
        cases Option.some.inj (h1.symm.trans hcl)
        cases Option.some.inj (h2.symm.trans hc6)
        exact Or.inr ⟨hz0, _, hcl6, h3⟩) hx (Or.inr ⟨h0, c4, hcl5, hasg⟩)
  obtain ⟨t, a1, b1⟩ := kk (T.setVm vm') hT X'
  exact ⟨t, st.trans a1, b1⟩
end Rows
section Ends
variable {p : Program} {l : Launch} {e : Env} {R : Room} {s : State} {m : MethodId} {args : Array Value} {below : List Frame} {meth : Method} {c : Code} {H : Heap} {locs : List Loc} {cells slots : Nat} {Q : State → Prop}
variable {mc ms : Nat} {free : Addr → Prop} {A0 A1 : Nat → Prop} {H0 : Heap} {a : Array Value} {ls : Array Slot} {st0 rest : List Value}
variable {Qc : Array Value → State → Outcome → State → Prop} {XC : String → State → State → Prop}
/-- what a body that may throw owes at its end -/
def vx_MQ (below : List Frame) (Qc : Array Value → State → Outcome → State → Prop) (XC : String → State → State → Prop) (a : Array Value) (s : State) (mc ms : Nat) (free : Addr → Prop) : State → Prop := fun t =>
  ∃ o, t.status = .running ∧ Ended t below o ∧ vx_Q Qc XC mc ms free a s o t
theorem vx_ret {g : JFrame} {mc ms : Nat} (k : W p l e R s m args below meth c H locs cells slots (MQ below Qc args s mc ms free) g) : W p l e R s m args below meth c H locs cells slots (vx_MQ below Qc XC args s mc ms free) g := by
  intro T hT X
  obtain ⟨t, a1, o, b1, b2, b3, b4⟩ := k T hT X
  exact ⟨t, a1, o, b1, b2, Or.inl ⟨b3, b4⟩⟩
/-- not caught here: it goes on to the caller -/
theorem vx_widen {g : JFrame} {q : Addr} {k n : Nat} (h1 : cells ≤ k) (h2 : slots ≤ n) (kk : vx_W p l e R s m args below meth c H locs k n Q g q) : vx_W p l e R s m args below meth c H locs cells slots Q g q := fun T hT X => kk T hT (stand_widen X h1 h2)
theorem vx_out {pc : Nat} {E : String} {ce : Cell} {q : Addr} {mc ms : Nat} (hout : ∀ x ∈ c.exceptionTable.toList, covers x pc = false) (hlocks : meth.locks = false) (hcell : H[q]? = some ce) (hv : ce.vm = .none) (hcl : s.vm.findClass E = some ce.cls)
    (hx : ∀ t : State, t.heap = H → s.vm.Alike t.vm → XC E s t) (hf : ∀ z ∈ locs, free z.base) (hc : cells ≤ mc) (hs : slots ≤ ms) :
    vx_W p l e R s m args below meth c H locs cells slots (vx_MQ below Qc XC args s mc ms free) (F0 m pc ls rest) q := by
  intro T hT X
  obtain ⟨st1, hrun, hend, hW, hsm⟩ := X.leaveThrown q (g := F0 m pc ls rest) rfl rfl rfl hout hlocks
  have hcell9 : (T.setFrames (.throwing q :: below)).heap[q]? = some ce := by
    show T.heap[q]? = some ce
    rw [hT]; exact hcell
  exact ⟨_, st1, .threw q, hrun, hend, Or.inr ⟨q, rfl, E, ce, locs, hx _ hT hW.alike, hcell9, hv, hcl, hW, hsm.mono hc hs, hf⟩⟩
theorem vx_frame {U : State} {k n : Nat} (h : s.sameButNew ({ U with vm := s.vm } : State) locs k n) : s.heap.size ≤ U.heap.size ∧ ∀ q : Nat, q < s.heap.size → (∀ z ∈ locs, z.base ≠ q) → U.heap[q]? = s.heap[q]? := by
  obtain ⟨-, h2, -, -, -, h6⟩ := h
  refine ⟨h2, fun q hq hz => ?_⟩
  obtain ⟨c9, e1, e2, e3, e4⟩ := h6 q _ (Array.getElem?_eq_getElem hq)
  have hs : c9.slots = (s.heap[q]).slots := Array.ext_getElem? fun i => e4 i fun hm => hz _ hm rfl
  have h9 : c9 = s.heap[q] := by
    rw [hs] at e2
    exact e2
  have e5 : U.heap[q]? = some c9 := e1
  rw [e5, h9, Array.getElem?_eq_getElem hq]
/-- the words of a throw but the four that speak of the heap -/
def vx_no (w : Cond) : Bool := decide (w ≠ .isRef (.static Bundle.tN "UNASSIGNED_STACK" Bundle.steD)) && decide (w ≠ .isRef (.static Bundle.tN "SUPPRESSED_SENTINEL" Bundle.listD)) && decide (w ≠ .laysStatic Bundle.tN "UNASSIGNED_STACK" Bundle.steD) && decide (w ≠ .laysStatic Bundle.tN "SUPPRESSED_SENTINEL" Bundle.listD)
def vx_at0 (own : String) (ic : Nat) (X : String) (names : List String) : List Cond := (Bundle.ownAtoms0 own ic X names).filter vx_no
def vx_atS (own : String) (ic : Nat) (X : String) (names : List String) : List Cond := (Bundle.ownAtoms own ic X names).filter vx_no
/-- a word that the tables alone decide, or a good one -/
def vx_ot (w : Cond) : Bool := w.onTables || goodWord w
theorem vx_ot_at {args a' : Array Value} {s U : State} {w : Cond} (hW : s.WarmedH U.vm) (hvm : s.vm = U.vm) (hg : vx_ot w = true) (h : w.before args s = true) : w.before a' U = true := by
  simp only [vx_ot, Bool.or_eq_true] at hg
  rcases hg with hg | hg
  · exact va_tabs hg hvm h
  · exact word_at hW (good_of_word hg) h
/-- a list's words: the good ones out of the method's own list, the others by premises of their own -/
theorem vx_hat {args : Array Value} {s : State} {L B : List Cond} (h1 : ∀ w ∈ L.filter goodWord, w.before args s = true) (h2 : ∀ w ∈ L.filter (fun w => !goodWord w), w ∈ B) (h3 : ∀ w ∈ B, w.before args s = true) : ∀ w ∈ L, w.before args s = true := by
  intro w hw
  by_cases g : goodWord w = true
  · exact h1 w (List.mem_filter.mpr ⟨hw, g⟩)
  · refine h3 w (h2 w (List.mem_filter.mpr ⟨hw, ?_⟩))
    show (!goodWord w) = true
    cases hgw : goodWord w
    · rfl
    · exact absurd hgw g
theorem vx_c {args : Array Value} {s : State} {w : Cond} {B : List Cond} (h : w.before args s = true) (t : ∀ w ∈ B, w.before args s = true) : ∀ w' ∈ w :: B, w'.before args s = true := fun w' h' => (List.mem_cons.mp h').elim (fun e => by rw [e]; exact h) (t w')
theorem vx_n {args : Array Value} {s : State} : ∀ w ∈ ([] : List Cond), w.before args s = true := fun _ h => nomatch h
theorem vx_own {args : Array Value} {s : State} {L : List Cond} (h1 : ∀ w ∈ L.filter vx_no, w.before args s = true)
    (hU : (Cond.isRef (.static Bundle.tN "UNASSIGNED_STACK" Bundle.steD)).before args s = true) (hN : (Cond.isRef (.static Bundle.tN "SUPPRESSED_SENTINEL" Bundle.listD)).before args s = true)
    (lU : (Cond.laysStatic Bundle.tN "UNASSIGNED_STACK" Bundle.steD).before args s = true) (lN : (Cond.laysStatic Bundle.tN "SUPPRESSED_SENTINEL" Bundle.listD).before args s = true) : ∀ w ∈ L, w.before args s = true := by
  intro w hw
  by_cases e1 : w = .isRef (.static Bundle.tN "UNASSIGNED_STACK" Bundle.steD)
  · rw [e1]; exact hU
  · by_cases e2 : w = .isRef (.static Bundle.tN "SUPPRESSED_SENTINEL" Bundle.listD)
    · rw [e2]; exact hN
    · by_cases e3 : w = .laysStatic Bundle.tN "UNASSIGNED_STACK" Bundle.steD
      · rw [e3]; exact lU
      · by_cases e4 : w = .laysStatic Bundle.tN "SUPPRESSED_SENTINEL" Bundle.listD
        · rw [e4]; exact lN
        · exact h1 w (List.mem_filter.mpr ⟨hw, by unfold vx_no; rw [decide_eq_true e1, decide_eq_true e2, decide_eq_true e3, decide_eq_true e4]; rfl⟩)
/-- where a static field lies, its class's statics cell in H -/
def vx_L (C n d : String) (A : Nat → Prop) (U : State) (H : Heap) : Prop := ∃ (c : ClassId) (k : Class) (i : Nat) (f : Field) (a : Nat) (cell : Cell), U.vm.findClass C = some c ∧ U.fieldFound? C n d = some (c, k, i, f) ∧ f.isStatic = true ∧ k.statics = some a ∧ H[a]? = some cell ∧ cell.vm.isStatics = true ∧ cell.cls = c ∧ f.slot < cell.slots.size ∧ k.staticTypes[f.slot]? = some f.type ∧ ¬ A a
theorem vx_L.moved {C n d : String} {A : Nat → Prop} {u U : State} {H : Heap} (hvm : u.vm.Alike U.vm) (h : vx_L C n d A u H) : vx_L C n d A U H := by
  obtain ⟨c, k, i, f, a, cell, h1, h2, h3, h4, h5, h6, h7, h8, h9, h10⟩ := h
  obtain ⟨k', hi', he⟩ := State.fieldFound?_setVm hvm h2
  exact ⟨c, k', i, f, a, cell, by rw [hvm.findClass]; exact h1, hi', h3, by rw [he]; exact h4, h5, h6, h7, h8, by rw [he]; exact h9, h10⟩
theorem vx_L.kept {C n d : String} {A : Nat → Prop} {U : State} {H H1 : Heap} (h : vx_L C n d A U H) (hq : ∀ a : Nat, a < H.size → ¬ A a → H1[a]? = H[a]?) : vx_L C n d A U H1 := by
  obtain ⟨c, k, i, f, a, cell, h1, h2, h3, h4, h5, h6, h7, h8, h9, h10⟩ := h
  exact ⟨c, k, i, f, a, cell, h1, h2, h3, h4, by rw [hq a (Array.getElem?_eq_some_iff.mp h5).1 h10]; exact h5, h6, h7, h8, h9, h10⟩
theorem vx_L.narrow {C n d : String} {A B : Nat → Prop} {U : State} {H : Heap} (h : vx_L C n d A U H) (hAB : ∀ q, B q → A q) : vx_L C n d B U H := by
  obtain ⟨c, k, i, f, a, cell, h1, h2, h3, h4, h5, h6, h7, h8, h9, h10⟩ := h
  exact ⟨c, k, i, f, a, cell, h1, h2, h3, h4, h5, h6, h7, h8, h9, fun z => h10 (hAB _ z)⟩
theorem vx_L.word {C n d : String} {A : Nat → Prop} {s : State} {args : Array Value} (h : vx_L C n d A s s.heap) : (Cond.laysStatic C n d).before args s = true := by
  obtain ⟨c, k, i, f, a, cell, h1, h2, h3, h4, h5, h6, h7, h8, h9, -⟩ := h
  show (Cond.laysStatic C n d).holds args s none s [] = true
  exact Cond.laysStatic_of h1 h2 h3 h4 h5 h6 h7 h8 h9
/-- .. and what it holds: null or some reference -/
def vx_Zq (C n d : String) (A : Nat → Prop) (U : State) (H : Heap) : Prop := va_Zq C n d A U H ∧ vx_L C n d A U H
theorem vx_Zq.moved {C n d : String} {A : Nat → Prop} {u U : State} {H : Heap} (hvm : u.vm.Alike U.vm) (h : vx_Zq C n d A u H) : vx_Zq C n d A U H := ⟨va_Zq.moved hvm h.1, vx_L.moved hvm h.2⟩
theorem vx_Zq.kept {C n d : String} {A : Nat → Prop} {U : State} {H H1 : Heap} (h : vx_Zq C n d A U H) (hq : ∀ a : Nat, a < H.size → ¬ A a → H1[a]? = H[a]?) : vx_Zq C n d A U H1 := ⟨va_Zq.kept h.1 hq, vx_L.kept h.2 hq⟩
theorem vx_Zq.narrow {C n d : String} {A B : Nat → Prop} {U : State} {H : Heap} (h : vx_Zq C n d A U H) (hAB : ∀ q, B q → A q) : vx_Zq C n d B U H := ⟨va_Zq.narrow h.1 hAB, vx_L.narrow h.2 hAB⟩
theorem vx_Zqof {args : Array Value} {s : State} {C n d : String} {A : Nat → Prop} (hl : (Cond.laysStatic C n d).before args s = true) (hini : (Cond.initialized C).before args s = true) (h : (Cond.isRef (.static C n d)).before args s = true) (hA : ∀ a : Nat, a < s.heap.size → ¬ A a) : vx_Zq C n d A s s.heap := by
  refine ⟨va_Zqof hl hini h hA, ?_⟩
  obtain ⟨c, k, i, f, a, cell, h1, h2, h3, h4, h5, h6, h7, h8, h9⟩ := Cond.laysStatic_spec hl
  exact ⟨c, k, i, f, a, cell, h1, h2, h3, h4, h5, h6, h7, h8, h9, hA a (Array.getElem?_eq_some_iff.mp h5).1⟩
theorem vx_isRef {C n d : String} {v : Value} {A : Nat → Prop} {s : State} {args : Array Value} (h : va_Z C n d v A s s.heap) (hv : v.isRef = true) : (Cond.isRef (.static C n d)).before args s = true := by
  obtain ⟨cf, kf, fi, f, a, cell, h1, h2, h3, h4, h5, h6, h7, -⟩ := h
  have he : (Term.static C n d).eval args s none [] s = some v := by
    simp [Term.eval, State.fieldNamed?, h1, h2, h4, h5, h6, h7]
  simp only [Cond.before, Cond.holds, Cond.value, he]
  cases v <;> simp_all [Value.isRef]
theorem vx_isRefq {C n d : String} {A : Nat → Prop} {s : State} {args : Array Value} (h : va_Zq C n d A s s.heap) : (Cond.isRef (.static C n d)).before args s = true := by
  rcases h with h | ⟨t, h⟩
  · exact vx_isRef h rfl
  · exact vx_isRef h rfl
/-- the same frame, seen from here: as if the method were called anew in this heap -/
theorem vx_rebase {T : State} (X : Stand p l e R s m args below meth c T locs cells slots) {R' : Room} (hf : R'.frames ≤ R.frames) (hl : R'.locals ≤ R.locals) (hc : cells + R'.cells ≤ R.cells) (hs : slots + R'.slots ≤ R.slots) :
    Stand p l e R' ((T.setVm s.vm).setFrames (.invoking m args :: below)) m args below meth c T [] 0 0 := by
  have htop : (T.setVm s.vm).topJava?.isSome := X.here.top
  have hF : ((T.setVm s.vm).setFrames (.invoking m args :: below)).frames = .invoking m args :: below := State.frames_setFrames _ (State.cur_lt_of_top htop)
  obtain ⟨g₀, hg0⟩ := Option.isSome_iff_exists.mp htop
  obtain ⟨r, hr⟩ := State.topJava?_eq_some.mp hg0
  have hl9 : e.platform.stackLimits (T.setVm s.vm).me = e.platform.stackLimits s.me := X.limits
  have hb9 : (T.setVm s.vm).me.stackBytes = s.me.stackBytes := X.bytes
  refine ⟨X.admits, X.cas, X.clock, hF, ?_, X.hears, X.method, X.code, X.here, X.tail, X.warmed, ?_, ?_, ?_⟩
  · have h := X.room
    have hU : ((T.setVm s.vm).setFrames (.invoking m args :: below)).localsInUse = s.localsInUse := by
      rw [State.localsInUse_invoking hF (meth := meth) (c := c) X.method X.code, State.localsInUse_invoking X.frames X.method X.code]
    simp only [State.hasRoom, Bool.and_eq_true, decide_eq_true_eq] at h ⊢
    obtain ⟨⟨⟨⟨h1, h2, h3, h4, h5, h6⟩, h7⟩, h8⟩, h9⟩ := h
    rw [X.frames, List.length_cons] at h2 h3
    have q1 := X.heapSize
    have q2 := X.used
    simp only [hF, hU, List.length_cons, State.stackLimits_setFrames, State.stackBytes_setFrames, hl9, hb9]
    refine ⟨⟨⟨⟨by omega, by omega, by omega, by omega, by omega, h6⟩, ?_⟩, ?_⟩, X.book⟩
    · show T.heap.size + R'.cells ≤ e.platform.maxCells
      omega
    · show T.slotsUsed + R'.slots ≤ e.platform.maxSlots
      omega
  · rw [State.stackLimits_setFrames]; rfl
  · rw [State.stackBytes_setFrames]; rfl
  · refine ⟨?_, Nat.le_refl _, Nat.le_refl _, ?_, ?_, fun a c9 h9 => ⟨c9, h9, rfl, rfl, fun _ _ => rfl⟩⟩
    · obtain ⟨t, ht, -⟩ := State.frames_cons hr
      show T.setVm s.vm = { ((T.setVm s.vm).setFrames (.invoking m args :: below)).setFrames (T.setVm s.vm).frames with heap := T.heap, slotsUsed := T.slotsUsed }
      rw [State.setFrames_setFrames, State.setFrames_self ht]
      rfl
    · show T.slotsUsed = T.slotsUsed + ((T.heap.toList.drop T.heap.size).map (·.slots.size)).sum
      rw [List.drop_eq_nil_of_le (Nat.le_of_eq Array.length_toList)]
      rfl
    · show ((T.heap.toList.drop T.heap.size).map (·.slots.size)).sum ≤ 0
      rw [List.drop_eq_nil_of_le (Nat.le_of_eq Array.length_toList)]
      exact Nat.le_refl _
/-- 'throw new E()': new; dup; invokespecial; athrow -/
theorem vx_throw0 {cc : ByteArray} {pc : Nat} (hexec : p.tables.exec = Jvm.exec) (hb : c.code = cc) (hl : l.stackTraces = false) {own cls : String} {names : List String} {ik ic mc ms : Nat} {A : Nat → Prop}
    (hown : s.vm.findClass own = some m.cls) (hcls : Bundle.fit cls = true) (hnames : ∀ n ∈ names, Bundle.fit n = true)
    (hk : (Cond.classLink own ik cls).before args s = true) (hini : (Cond.initialized cls).before args s = true) (hat : ∀ w ∈ vx_at0 own ic cls names, w.before args s = true)
    (hgood : ∀ w ∈ Cond.classLink own ik cls :: Cond.initialized cls :: vx_at0 own ic cls names, vx_ot w = true)
    (hU : vx_Zq Bundle.tN "UNASSIGNED_STACK" Bundle.steD A s s.heap) (hN : vx_Zq Bundle.tN "SUPPRESSED_SENTINEL" Bundle.listD A s s.heap) (hS : va_S A s.heap H locs) (hsize : ls.size = c.maxLocals)
    (d0 : decode cc pc = .ok (.new ik, 3)) (d3 : decode cc (pc + 3) = .ok (.dup, 1)) (d4 : decode cc (pc + 4) = .ok (.invokespecial ic, 3)) (d7 : decode cc (pc + 7) = .ok (.athrow, 1))
    (hout : ∀ x ∈ c.exceptionTable.toList, covers x (pc + 7) = false)
    (hRframes : names.length + 3 < R.frames) (hRlocals : (rest.map fun v => v.category).sum + (13 * (names.length + 1) + 42) ≤ R.locals) (hRcells : cells + 1 ≤ R.cells) (hRslots : slots + 6 ≤ R.slots) (hlocks : meth.locks = false)
    (hx : ∀ t : State, s.vm.Alike t.vm → H.size ≤ t.heap.size → (∀ q : Nat, q < H.size → t.heap[q]? = H[q]?) → XC cls s t)
    (hf : ∀ z ∈ locs, free z.base) (hc : cells + 1 ≤ mc) (hs : slots + 6 ≤ ms) :
    W p l e R s m args below meth c H locs cells slots (vx_MQ below Qc XC args s mc ms free) (F0 m pc ls rest) := by
  intro T hT X
  have htr : e.platform.stackTraces = false := (show e.platform.stackTraces = l.stackTraces by rw [X.admits.platform]).trans hl
  have Y := vx_rebase X (R' := { frames := R.frames, locals := R.locals, cells := 1, slots := 6 }) (Nat.le_refl _) (Nat.le_refl _) hRcells hRslots
  obtain ⟨s', hA⟩ : ∃ z, z = (T.setVm s.vm).setFrames (.invoking m args :: below) := ⟨_, rfl⟩
  rw [← hA] at Y
  have hvm : s'.vm = s.vm := by rw [hA]; rfl
  have hhp : s'.heap = H := by rw [hA]; exact hT
  have hW0 : s.WarmedH s'.vm := by rw [hvm]; exact State.WarmedH.refl s
  have hat' : ∀ w ∈ vx_at0 own ic cls names, w.before args s' = true := fun w hw => vx_ot_at hW0 hvm.symm (hgood w (List.mem_cons_of_mem _ (List.mem_cons_of_mem _ hw))) (hat w hw)
  have hk' : (Cond.classLink own ik cls).before args s' = true := vx_ot_at hW0 hvm.symm (hgood _ List.mem_cons_self) hk
  have hini' : (Cond.initialized cls).before args s' = true := vx_ot_at hW0 hvm.symm (hgood _ (List.mem_cons_of_mem _ List.mem_cons_self)) hini
  have hU' : vx_Zq Bundle.tN "UNASSIGNED_STACK" Bundle.steD A s' s'.heap := by rw [hhp]; exact vx_Zq.moved hW0.alike (hU.kept hS.2.1)
  have hN' : vx_Zq Bundle.tN "SUPPRESSED_SENTINEL" Bundle.listD A s' s'.heap := by rw [hhp]; exact vx_Zq.moved hW0.alike (hN.kept hS.2.1)
  have h : ∀ w ∈ Bundle.ownAtoms0 own ic cls names, w.before args s' = true := vx_own hat' (vx_isRefq hU'.1) (vx_isRefq hN'.1) hU'.2.word hN'.2.word
  have hown' : s'.vm.findClass own = some m.cls := by rw [hvm]; exact hown
  have hins : (Cond.instantiable cls 6).before args s' = true := h _ (by simp [Bundle.ownAtoms0])
  obtain ⟨vm₁, cX, kX, hfX, hkX, -, -, X₁, st1⟩ := Y.newCold hexec (own := own) (C := cls) (index := ik) (n := 6) hown' hk' hins hini'
    (g := F0 m pc ls rest) rfl (by rw [hb]; exact d0) (Nat.le_refl _) (Nat.le_refl _)
  generalize hT1 : (T.setVm vm₁).pushCell { cls := cX, slots := kX.instanceTypes.map defaultValue, vm := .none } = T1 at X₁ st1
  have hcat : (Value.ref T.heap.size).category = 1 := rfl
  have hcellA : T1.heap[T.heap.size]? = some (freshCell cX kX) := by rw [← hT1]; exact State.heap_pushCell_size _ _
  have d3' : decode c.code (pc + 3) = .ok (.dup, 1) := by rw [hb]; exact d3
  obtain ⟨U, hsteps, hrun, hend, hW, hsame, ce, hce, hO⟩ := X₁.ctorThrow0 hexec htr (own := own) (cls := cls) (names := names) (ic := ic) hown' hcls hnames h (fun x hx => nomatch hx) hfX hkX hcellA (by rw [hhp, hT]; exact Nat.le_refl _)
    (g := { method := m, pc := pc + 4, locals := ls, stack := .ref T.heap.size :: .ref T.heap.size :: rest, locked := none }) rfl hsize rfl rfl (rest := rest) rfl
    (by rw [hb]; exact d4) (by rw [hb]; exact d7) hout hRframes (by simp only [List.map_cons, List.sum_cons, hcat]; omega) hlocks
  obtain ⟨f1, f2⟩ := vx_frame hsame
  rw [hhp] at f1 f2
  have hWs : s.WarmedH U.vm := State.WarmedH.trans hW0 hW
  have hcl : s.vm.findClass cls = some ce.cls := by
    have h9 := hO.cls
    rw [hvm] at h9
    exact h9
  have hall : s.sameButNew ({ U with vm := s.vm } : State) locs mc ms := by
    subst hA
    obtain ⟨e1, e2⟩ := hsame
    rw [State.setFrames_setFrames] at e1
    have h2 : (T.setVm s.vm).sameButNew ({ U with vm := s.vm } : State) [] (0 + 1) (0 + 6) := ⟨e1, e2⟩
    have h3 := X.same.trans h2
    rw [List.append_nil] at h3
    exact h3.mono hc hs
  refine ⟨U, ?_, .threw T.heap.size, hrun, hend, Or.inr ⟨T.heap.size, rfl, cls, ce, locs, hx U hWs.alike f1 (fun q hq => f2 q hq (fun z hz => nomatch hz)), hce, hO.vm, hcl, hWs, hall, hf⟩⟩
  refine st1 _ ?_
  show Steps p.tables e below (T1.setTop { method := m, pc := pc + 3, locals := ls, stack := .ref T.heap.size :: rest, locked := none }) _
  jvm_step X₁.here [X₁.here.top, hexec, d3', Value.category]
  exact hsteps
/-- 'throw new E("text")': new; dup; ldc; invokespecial; athrow -/
theorem vx_throwS {cc : ByteArray} {pc : Nat} (hexec : p.tables.exec = Jvm.exec) (hb : c.code = cc) (hl : l.stackTraces = false) {own cls text : String} {names : List String} {ik is ic mc ms sa : Nat} {A : Nat → Prop}
    (hown : s.vm.findClass own = some m.cls) (hcls : Bundle.fit cls = true) (hnames : ∀ n ∈ names, Bundle.fit n = true)
    (hk : (Cond.classLink own ik cls).before args s = true) (hini : (Cond.initialized cls).before args s = true) (hstr : vk_R own is text sa s) (hat : ∀ w ∈ vx_atS own ic cls names, w.before args s = true)
    (hgood : ∀ w ∈ Cond.classLink own ik cls :: Cond.initialized cls :: vx_atS own ic cls names, vx_ot w = true)
    (hU : vx_Zq Bundle.tN "UNASSIGNED_STACK" Bundle.steD A s s.heap) (hN : vx_Zq Bundle.tN "SUPPRESSED_SENTINEL" Bundle.listD A s s.heap) (hS : va_S A s.heap H locs) (hsize : ls.size = c.maxLocals)
    (d0 : decode cc pc = .ok (.new ik, 3)) (d3 : decode cc (pc + 3) = .ok (.dup, 1)) (d4 : decode cc (pc + 4) = .ok (.ldc is, 2)) (d6 : decode cc (pc + 6) = .ok (.invokespecial ic, 3)) (d9 : decode cc (pc + 9) = .ok (.athrow, 1))
    (hout : ∀ x ∈ c.exceptionTable.toList, covers x (pc + 9) = false)
    (hRframes : names.length + 3 < R.frames) (hRlocals : (rest.map fun v => v.category).sum + (13 * (names.length + 1) + 43) ≤ R.locals) (hRcells : cells + 1 ≤ R.cells) (hRslots : slots + 6 ≤ R.slots) (hlocks : meth.locks = false)
    (hx : ∀ t : State, s.vm.Alike t.vm → H.size ≤ t.heap.size → (∀ q : Nat, q < H.size → t.heap[q]? = H[q]?) → XC cls s t)
    (hf : ∀ z ∈ locs, free z.base) (hc : cells + 1 ≤ mc) (hs : slots + 6 ≤ ms) :
    W p l e R s m args below meth c H locs cells slots (vx_MQ below Qc XC args s mc ms free) (F0 m pc ls rest) := by
  intro T hT X
  have htr : e.platform.stackTraces = false := (show e.platform.stackTraces = l.stackTraces by rw [X.admits.platform]).trans hl
  have Y := vx_rebase X (R' := { frames := R.frames, locals := R.locals, cells := 1, slots := 6 }) (Nat.le_refl _) (Nat.le_refl _) hRcells hRslots
  obtain ⟨s', hA⟩ : ∃ z, z = (T.setVm s.vm).setFrames (.invoking m args :: below) := ⟨_, rfl⟩
  rw [← hA] at Y
  have hvm : s'.vm = s.vm := by rw [hA]; rfl
  have hhp : s'.heap = H := by rw [hA]; exact hT
  have hW0 : s.WarmedH s'.vm := by rw [hvm]; exact State.WarmedH.refl s
  have hat' : ∀ w ∈ vx_atS own ic cls names, w.before args s' = true := fun w hw => vx_ot_at hW0 hvm.symm (hgood w (List.mem_cons_of_mem _ (List.mem_cons_of_mem _ hw))) (hat w hw)
  have hk' : (Cond.classLink own ik cls).before args s' = true := vx_ot_at hW0 hvm.symm (hgood _ List.mem_cons_self) hk
  have hini' : (Cond.initialized cls).before args s' = true := vx_ot_at hW0 hvm.symm (hgood _ (List.mem_cons_of_mem _ List.mem_cons_self)) hini
  have hU' : vx_Zq Bundle.tN "UNASSIGNED_STACK" Bundle.steD A s' s'.heap := by rw [hhp]; exact vx_Zq.moved hW0.alike (hU.kept hS.2.1)
  have hN' : vx_Zq Bundle.tN "SUPPRESSED_SENTINEL" Bundle.listD A s' s'.heap := by rw [hhp]; exact vx_Zq.moved hW0.alike (hN.kept hS.2.1)
  have h : ∀ w ∈ Bundle.ownAtoms own ic cls names, w.before args s' = true := vx_own hat' (vx_isRefq hU'.1) (vx_isRefq hN'.1) hU'.2.word hN'.2.word
  have hown' : s'.vm.findClass own = some m.cls := by rw [hvm]; exact hown
  have hins : (Cond.instantiable cls 6).before args s' = true := h _ (by simp [Bundle.ownAtoms])
  obtain ⟨vm₁, cX, kX, hfX, hkX, -, -, X₁, st1⟩ := Y.newCold hexec (own := own) (C := cls) (index := ik) (n := 6) hown' hk' hins hini'
    (g := F0 m pc ls rest) rfl (by rw [hb]; exact d0) (Nat.le_refl _) (Nat.le_refl _)
  generalize hT1 : (T.setVm vm₁).pushCell { cls := cX, slots := kX.instanceTypes.map defaultValue, vm := .none } = T1 at X₁ st1
  have hcat : (Value.ref T.heap.size).category = 1 := rfl
  have hcellA : T1.heap[T.heap.size]? = some (freshCell cX kX) := by rw [← hT1]; exact State.heap_pushCell_size _ _
  have d3' : decode c.code (pc + 3) = .ok (.dup, 1) := by rw [hb]; exact d3
  have d4' : decode c.code (pc + 4) = .ok (.ldc is, 2) := by rw [hb]; exact d4
  have hstr' : vk_R own is text sa s' := vk_R.warm hW0 hstr
  obtain ⟨U, hsteps, hrun, hend, hW, hsame, ce, hce, hO⟩ := X₁.ctorThrowS hexec htr (own := own) (cls := cls) (names := names) (ic := ic) hown' hcls hnames h (fun x hx => nomatch hx) hfX hkX hcellA (by rw [hhp, hT]; exact Nat.le_refl _) (msg := .ref sa) rfl
    (g := { method := m, pc := pc + 6, locals := ls, stack := .ref sa :: .ref T.heap.size :: .ref T.heap.size :: rest, locked := none }) rfl hsize rfl rfl (rest := rest) rfl
    (by rw [hb]; exact d6) (by rw [hb]; exact d9) hout hRframes (by simp only [List.map_cons, List.sum_cons, hcat]; omega) hlocks
  obtain ⟨f1, f2⟩ := vx_frame hsame
  rw [hhp] at f1 f2
  have hWs : s.WarmedH U.vm := State.WarmedH.trans hW0 hW
  have hcl : s.vm.findClass cls = some ce.cls := by
    have h9 := hO.cls
    rw [hvm] at h9
    exact h9
  have hall : s.sameButNew ({ U with vm := s.vm } : State) locs mc ms := by
    subst hA
    obtain ⟨e1, e2⟩ := hsame
    rw [State.setFrames_setFrames] at e1
    have h2 : (T.setVm s.vm).sameButNew ({ U with vm := s.vm } : State) [] (0 + 1) (0 + 6) := ⟨e1, e2⟩
    have h3 := X.same.trans h2
    rw [List.append_nil] at h3
    exact h3.mono hc hs
  refine ⟨U, ?_, .threw T.heap.size, hrun, hend, Or.inr ⟨T.heap.size, rfl, cls, ce, locs, hx U hWs.alike f1 (fun q hq => f2 q hq (fun z hz => nomatch hz)), hce, hO.vm, hcl, hWs, hall, hf⟩⟩
  refine st1 _ ?_
  show Steps p.tables e below (T1.setTop { method := m, pc := pc + 3, locals := ls, stack := .ref T.heap.size :: rest, locked := none }) _
  jvm_step X₁.here [X₁.here.top, hexec, d3', Value.category]
  exact X₁.ldcString hexec (own := own) (text := text) (index := is) (a := sa) hown' hstr'.1 hstr'.2
    (g := { method := m, pc := pc + 4, locals := ls, stack := .ref T.heap.size :: .ref T.heap.size :: rest, locked := none }) rfl d4' _ hsteps
/-- 'throw new E("text")', the text by a wide index -/
theorem vx_throwSW {cc : ByteArray} {pc : Nat} (hexec : p.tables.exec = Jvm.exec) (hb : c.code = cc) (hl : l.stackTraces = false) {own cls text : String} {names : List String} {ik is ic mc ms sa : Nat} {A : Nat → Prop}
    (hown : s.vm.findClass own = some m.cls) (hcls : Bundle.fit cls = true) (hnames : ∀ n ∈ names, Bundle.fit n = true)
    (hk : (Cond.classLink own ik cls).before args s = true) (hini : (Cond.initialized cls).before args s = true) (hstr : vk_R own is text sa s) (hat : ∀ w ∈ vx_atS own ic cls names, w.before args s = true)
    (hgood : ∀ w ∈ Cond.classLink own ik cls :: Cond.initialized cls :: vx_atS own ic cls names, vx_ot w = true)
    (hU : vx_Zq Bundle.tN "UNASSIGNED_STACK" Bundle.steD A s s.heap) (hN : vx_Zq Bundle.tN "SUPPRESSED_SENTINEL" Bundle.listD A s s.heap) (hS : va_S A s.heap H locs) (hsize : ls.size = c.maxLocals)
    (d0 : decode cc pc = .ok (.new ik, 3)) (d3 : decode cc (pc + 3) = .ok (.dup, 1)) (d4 : decode cc (pc + 4) = .ok (.ldc_w is, 3)) (d7 : decode cc (pc + 7) = .ok (.invokespecial ic, 3)) (d10 : decode cc (pc + 10) = .ok (.athrow, 1))
    (hout : ∀ x ∈ c.exceptionTable.toList, covers x (pc + 10) = false)
    (hRframes : names.length + 3 < R.frames) (hRlocals : (rest.map fun v => v.category).sum + (13 * (names.length + 1) + 43) ≤ R.locals) (hRcells : cells + 1 ≤ R.cells) (hRslots : slots + 6 ≤ R.slots) (hlocks : meth.locks = false)
    (hx : ∀ t : State, s.vm.Alike t.vm → H.size ≤ t.heap.size → (∀ q : Nat, q < H.size → t.heap[q]? = H[q]?) → XC cls s t)
    (hf : ∀ z ∈ locs, free z.base) (hc : cells + 1 ≤ mc) (hs : slots + 6 ≤ ms) :
    W p l e R s m args below meth c H locs cells slots (vx_MQ below Qc XC args s mc ms free) (F0 m pc ls rest) := by
  intro T hT X
  have htr : e.platform.stackTraces = false := (show e.platform.stackTraces = l.stackTraces by rw [X.admits.platform]).trans hl
  have Y := vx_rebase X (R' := { frames := R.frames, locals := R.locals, cells := 1, slots := 6 }) (Nat.le_refl _) (Nat.le_refl _) hRcells hRslots
  obtain ⟨s', hA⟩ : ∃ z, z = (T.setVm s.vm).setFrames (.invoking m args :: below) := ⟨_, rfl⟩
  rw [← hA] at Y
  have hvm : s'.vm = s.vm := by rw [hA]; rfl
  have hhp : s'.heap = H := by rw [hA]; exact hT
  have hW0 : s.WarmedH s'.vm := by rw [hvm]; exact State.WarmedH.refl s
  have hat' : ∀ w ∈ vx_atS own ic cls names, w.before args s' = true := fun w hw => vx_ot_at hW0 hvm.symm (hgood w (List.mem_cons_of_mem _ (List.mem_cons_of_mem _ hw))) (hat w hw)
  have hk' : (Cond.classLink own ik cls).before args s' = true := vx_ot_at hW0 hvm.symm (hgood _ List.mem_cons_self) hk
  have hini' : (Cond.initialized cls).before args s' = true := vx_ot_at hW0 hvm.symm (hgood _ (List.mem_cons_of_mem _ List.mem_cons_self)) hini
  have hU' : vx_Zq Bundle.tN "UNASSIGNED_STACK" Bundle.steD A s' s'.heap := by rw [hhp]; exact vx_Zq.moved hW0.alike (hU.kept hS.2.1)
  have hN' : vx_Zq Bundle.tN "SUPPRESSED_SENTINEL" Bundle.listD A s' s'.heap := by rw [hhp]; exact vx_Zq.moved hW0.alike (hN.kept hS.2.1)
  have h : ∀ w ∈ Bundle.ownAtoms own ic cls names, w.before args s' = true := vx_own hat' (vx_isRefq hU'.1) (vx_isRefq hN'.1) hU'.2.word hN'.2.word
  have hown' : s'.vm.findClass own = some m.cls := by rw [hvm]; exact hown
  have hins : (Cond.instantiable cls 6).before args s' = true := h _ (by simp [Bundle.ownAtoms])
  obtain ⟨vm₁, cX, kX, hfX, hkX, -, -, X₁, st1⟩ := Y.newCold hexec (own := own) (C := cls) (index := ik) (n := 6) hown' hk' hins hini'
    (g := F0 m pc ls rest) rfl (by rw [hb]; exact d0) (Nat.le_refl _) (Nat.le_refl _)
  generalize hT1 : (T.setVm vm₁).pushCell { cls := cX, slots := kX.instanceTypes.map defaultValue, vm := .none } = T1 at X₁ st1
  have hcat : (Value.ref T.heap.size).category = 1 := rfl
  have hcellA : T1.heap[T.heap.size]? = some (freshCell cX kX) := by rw [← hT1]; exact State.heap_pushCell_size _ _
  have d3' : decode c.code (pc + 3) = .ok (.dup, 1) := by rw [hb]; exact d3
  have d4' : decode c.code (pc + 4) = .ok (.ldc_w is, 3) := by rw [hb]; exact d4
  have hstr' : vk_R own is text sa s' := vk_R.warm hW0 hstr
  obtain ⟨U, hsteps, hrun, hend, hW, hsame, ce, hce, hO⟩ := X₁.ctorThrowS hexec htr (own := own) (cls := cls) (names := names) (ic := ic) hown' hcls hnames h (fun x hx => nomatch hx) hfX hkX hcellA (by rw [hhp, hT]; exact Nat.le_refl _) (msg := .ref sa) rfl
    (g := { method := m, pc := pc + 7, locals := ls, stack := .ref sa :: .ref T.heap.size :: .ref T.heap.size :: rest, locked := none }) rfl hsize rfl rfl (rest := rest) rfl
    (by rw [hb]; exact d7) (by rw [hb]; exact d10) hout hRframes (by simp only [List.map_cons, List.sum_cons, hcat]; omega) hlocks
  obtain ⟨f1, f2⟩ := vx_frame hsame
  rw [hhp] at f1 f2
  have hWs : s.WarmedH U.vm := State.WarmedH.trans hW0 hW
  have hcl : s.vm.findClass cls = some ce.cls := by
    have h9 := hO.cls
    rw [hvm] at h9
    exact h9
  have hall : s.sameButNew ({ U with vm := s.vm } : State) locs mc ms := by
    subst hA
    obtain ⟨e1, e2⟩ := hsame
    rw [State.setFrames_setFrames] at e1
    have h2 : (T.setVm s.vm).sameButNew ({ U with vm := s.vm } : State) [] (0 + 1) (0 + 6) := ⟨e1, e2⟩
    have h3 := X.same.trans h2
    rw [List.append_nil] at h3
    exact h3.mono hc hs
  refine ⟨U, ?_, .threw T.heap.size, hrun, hend, Or.inr ⟨T.heap.size, rfl, cls, ce, locs, hx U hWs.alike f1 (fun q hq => f2 q hq (fun z hz => nomatch hz)), hce, hO.vm, hcl, hWs, hall, hf⟩⟩
  refine st1 _ ?_
  show Steps p.tables e below (T1.setTop { method := m, pc := pc + 3, locals := ls, stack := .ref T.heap.size :: rest, locked := none }) _
  jvm_step X₁.here [X₁.here.top, hexec, d3', Value.category]
  exact X₁.ldcStringW hexec (own := own) (text := text) (index := is) (a := sa) hown' hstr'.1 hstr'.2
    (g := { method := m, pc := pc + 4, locals := ls, stack := .ref T.heap.size :: .ref T.heap.size :: rest, locked := none }) rfl d4' _ hsteps
end Ends
section Bodies
variable {l : Launch}
theorem vx_ofW {y : MethodName} {ws ws' : List Cond} {rm : Room} {Pc : Array Value → State → Prop} {Qc : Array Value → State → Outcome → State → Prop} {XC : String → State → State → Prop} {mc ms : Nat} {free : Addr → Prop} {cc : ByteArray} {maxL : Nat} {ret : Option FieldType}
    (hy : plainName y.cls = true) (hw : ws = Cond.code y cc maxL ret :: ws')
    (body : ∀ p e s m args below meth c s₁, BodyLoose p l y (headSpec ws rm) cc maxL ret e s m args below meth c s₁ → c.maxLocals = maxL → (∀ x ∈ c.exceptionTable.toList, False) → Pc args s →
      W p l e (headSpec ws rm).room s m args below meth c s.heap [] 0 0 (vx_MQ below Qc XC args s mc ms free) (entryFrame m args maxL)) : vx_Met l y ws rm Pc Qc XC mc ms free := by
  refine MetFree.of_bodyS (code := cc) (maxLocals := maxL) (ret := ret) hy ?_ ?_
  · intro args s m h hn
    obtain ⟨meth, c, h1, h2, h3, h4, h5, h6, -, -⟩ := Cond.code_spec hn (atoms_spec (ws := ws) h _ (by rw [hw]; exact List.mem_cons_self))
    exact ⟨meth, c, h1, h2, h3, h4, h5, h6⟩
  · intro p e s m args below meth c s₁ B hml hP _
    have hh0 : s₁.heap = s.heap := by rw [B.state]; rfl
    have ht : ∀ x ∈ c.exceptionTable.toList, False := by
      obtain ⟨meth9, c9, h1, h2, -, -, -, -, h7, -⟩ := Cond.code_spec B.named (atoms_spec (ws := ws) B.pre _ (by rw [hw]; exact List.mem_cons_self))
      cases Option.some.inj (h1.symm.trans B.method)
      cases Option.some.inj (h2.symm.trans (Stand.of_body B).code)
      intro x hx
      rw [Array.isEmpty_iff.mp h7] at hx
      cases hx
    obtain ⟨t, a1, o, b1, b2, b3⟩ := body p e s m args below meth c s₁ B hml ht hP s₁ hh0 (Stand.of_body B)
    exact ⟨t, o, a1, b1, b2, b3⟩
/-- the table of a body with handlers -/
theorem vx_table {p : Program} {x y : MethodName} {S : Spec} {cc bytes : ByteArray} {maxL maxL' : Nat} {ret ret' : Option FieldType} {e : Env} {s s₁ : State} {m : MethodId} {args : Array Value} {below : List Frame} {meth : Method} {c : Code} {hh : List (Nat × Nat × Nat × Nat)}
    (B : BodyLoose p l y S cc maxL ret e s m args below meth c s₁) (h : (Cond.codeWith y bytes maxL' ret' hh).before args s = true) : c.exceptionTable.toList = tableOf hh := by
  obtain ⟨m9, meth9, c9, hn9, h1, h2, -, -, h6, -⟩ := Cond.codeWith_spec h
  cases Option.some.inj (hn9.symm.trans B.named)
  cases Option.some.inj (h1.symm.trans B.method)
  cases Option.some.inj (h2.symm.trans (Stand.of_body B).code)
  rw [← h6, table_eq]
end Bodies
end VXA
/-! ===== END ===== -/
/-! ===== BEGIN a static call of a method with an exception table ===== -/
section VXS
variable {p : Program} {l : Launch} {e : Env} {R : Room} {s : State} {m : MethodId} {args : Array Value} {below : List Frame} {meth : Method} {c : Code} {T : State} {H : Heap} {locs : List Loc} {cells slots : Nat}
abbrev vx_CSW (R : Room) (s : State) (args : Array Value) (own : String) (index : Nat) (y : MethodName) (bytes : ByteArray) (maxL : Nat) (ret : Option FieldType) (hh : List (Nat × Nat × Nat × Nat)) (ws : List Cond) (rm : Room) (mc ms n : Nat) : Prop :=
  (rm.cells = mc ∧ rm.slots = ms ∧ rm.frames + 1 ≤ R.frames ∧ 8 + (maxL + 11) + rm.locals ≤ R.locals ∧ (∀ w ∈ ws, ∀ (a' : Array Value) (U : State), s.WarmedH U.vm → w.before a' U = true) ∧ Cond.codeWith y bytes maxL ret hh ∈ ws) ∧
  (Cond.codeWith y bytes maxL ret hh).before args s = true ∧ (Cond.initialized y.cls).before args s = true ∧ (y.cls ≠ "java/lang/invoke/MethodHandle" ∧ y.cls ≠ "java/lang/invoke/VarHandle") ∧
  (∀ sig, parseMethodDescriptor y.desc = some sig → n = sig.parameters.length) ∧ (Cond.methodLink own index y).before args s = true ∧ (Cond.static y).before args s = true
theorem vx_cwSW {own : String} {index maxL mc ms : Nat} {y : MethodName} {bytes : ByteArray} {ret : Option FieldType} {hh : List (Nat × Nat × Nat × Nat)} {Ts ws ws' : List Cond} {rm : Room} (n : Nat) (ht : ∀ w ∈ Ts, w.before args s = true) (hT : GoodIn Ts (va_wsS own index y ws)) (hw : ws = Cond.codeWith y bytes maxL ret hh :: ws') (hrc : rm.cells = mc) (hrs : rm.slots = ms)
    (hd : y.cls ≠ "java/lang/invoke/MethodHandle" ∧ y.cls ≠ "java/lang/invoke/VarHandle" ∧ (parseMethodDescriptor y.desc).map (fun d => d.parameters.length) = some n) (hR : rm.frames + 1 ≤ R.frames ∧ 8 + (maxL + 11) + rm.locals ≤ R.locals) :
    vx_CSW R s args own index y bytes maxL ret hh ws rm mc ms n := by
  have ok : ∀ w ∈ va_wsS own index y ws, w.before args s = true := fun w h => ht w (hT w h).1
  have hG : GoodIn Ts ws := fun w h => hT w (by unfold va_wsS; exact List.mem_append_right _ h)
  have hc : Cond.codeWith y bytes maxL ret hh ∈ ws := by rw [hw]; exact List.mem_cons_self
  refine ⟨⟨hrc, hrs, hR.1, hR.2, pay_in ht hG, hc⟩, ht _ (hG _ hc).1, ok _ (by simp [va_wsS]), ⟨hd.1, hd.2.1⟩, fun sig h => ?_, ok _ (by simp [va_wsS]), ok _ (by simp [va_wsS])⟩
  have h2 := hd.2.2
  rw [h] at h2
  exact (Option.some.inj h2).symm
theorem vx_callSW (X : Stand p l e R s m args below meth c T locs cells slots) (hexec : p.tables.exec = Jvm.exec) {own : String} {index : Nat} {y : MethodName} {bytes : ByteArray} {maxL : Nat} {ret : Option FieldType} {hh : List (Nat × Nat × Nat × Nat)}
    (hown : s.vm.findClass own = some m.cls) (hlink : (Cond.methodLink own index y).before args s = true) (hstat : (Cond.static y).before args s = true) (hinit : (Cond.initialized y.cls).before args s = true)
    (hcode : (Cond.codeWith y bytes maxL ret hh).before args s = true) (hy : y.cls ≠ "java/lang/invoke/MethodHandle" ∧ y.cls ≠ "java/lang/invoke/VarHandle")
    {W9 : Nat} {Pre : Pt → Array Value → Prop} {Post : Pt → Array Value → Option Value → Pt → Prop} (hK : Back l R p e below s args y 3 W9 Pre Post)
    {g : JFrame} (hg : g.method = m) (hsize : g.locals.size = c.maxLocals) {argsL rest : List Value} (hlen : ∀ sig, parseMethodDescriptor y.desc = some sig → argsL.length = sig.parameters.length)
    (hstack : g.stack = argsL.reverse ++ rest) (hW : 2 * g.monitorRoom + (rest.map fun v => v.category).sum ≤ W9) (hdg : decode c.code g.pc = .ok (.invokestatic index, 3))
    (hpre : ∀ vm₁, s.WarmedH vm₁ → Pre ⟨T.setVm vm₁, locs, cells, slots⟩ argsL.toArray) :
    ∃ (v : Option Value) (vm₁ : Vm) (B : Pt), s.WarmedH vm₁ ∧ Stand p l e R s m args below meth c B.U B.locs B.cells B.slots ∧ Post ⟨T.setVm vm₁, locs, cells, slots⟩ argsL.toArray v B ∧
      ∀ target, Steps p.tables e below (B.U.setTop { g with pc := g.pc + 3, stack := v.toList ++ rest }) target → Steps p.tables e below (T.setTop g) target := by
  obtain ⟨mk, methM, cM, hnamed, hmethM, -, -, -, -, -, -, hsigM⟩ := Cond.codeWith_spec hcode
  have hstatic : methM.isStatic = true := Cond.static_spec hnamed hmethM hstat
  obtain ⟨kP, hkP, -⟩ := className_of_methodNamed hnamed
  have hinitP : kP.init = .initialized := Cond.initialized_spec (findClass_of_methodNamed hnamed) hkP hinit
  obtain ⟨vm₁, X₁, hstep₁⟩ := X.invokestatic hexec hown hlink hnamed hmethM hstatic hkP hinitP hy (g := g) hg (argsL := argsL) (rest := rest) (hlen _ hsigM) hstack hdg
  obtain ⟨v, B, X', hpost, hsteps⟩ := hK m meth c ⟨T.setVm vm₁, locs, cells, slots⟩ { g with stack := rest } (.invokestatic index) mk argsL.toArray X₁ hg hsize hdg hW (X₁.named hnamed) (hpre vm₁ X₁.warmed)
  exact ⟨v, vm₁, B, X₁.warmed, X', hpost, fun target h => hstep₁ _ fun acts => by rw [doInvoke_state]; exact hsteps.trans h⟩
theorem vx_runSW {y : MethodName} {bytes cc : ByteArray} {maxL nL mc ms n index : Nat} {ret : Option FieldType} {hh : List (Nat × Nat × Nat × Nat)} {ws : List Cond} {rm : Room} {Pc : Array Value → State → Prop} {Qc : Array Value → State → Outcome → State → Prop} {free : Addr → Prop} {Ts : List Cond} {own : String} {As rest : List Value} {g : JFrame}
    (S : CallFix p m c cc nL s args Ts own) (hM : Met l y ws rm Pc Qc mc ms free) (cw : vx_CSW R s args own index y bytes maxL ret hh ws rm mc ms n) (hp : PreS s H Pc As)
    (hg : g.method = m) (hn : As.length = n) (hsize : g.locals.size = nL) (hstack : g.stack = As.reverse ++ rest) (hW : 2 * g.monitorRoom + (rest.map fun v => v.category).sum ≤ 8) (hdg : decode cc g.pc = .ok (.invokestatic index, 3)) (hf : cells + mc ≤ R.cells ∧ slots + ms ≤ R.slots) :
    va_Run p l e R s m args below meth c H locs cells slots mc ms g rest (Qc As.toArray) (free) := by
  obtain ⟨⟨hrc, hrs, hfr, hlo, hws, hcw⟩, hcode, hini, hy, hlen, hl, hstt⟩ := cw
  have hK : Back l R p e below s args y 3 8 (PreOf R mc ms Pc) (PostOf Qc mc ms free) := va_backW (hh := hh) (bytes := bytes) (maxL := maxL) (ret := ret) hM hp.1 hrc hrs hfr hlo hws hcw (fun a' U hW => word_at hW (Or.inl (by first | rfl | simp [Cond.onTables, Cond.keeps, Cond.steady])) hini)
  obtain ⟨hx, hb, hml, ho, -⟩ := S
  intro T hT X
  obtain ⟨v, vm₁, ⟨U', l2, c2, s2⟩, hW₁, X', ⟨g', mk, t, L, e1, e2, hq, h1, hL, h2, h3⟩, st⟩ := vx_callSW X hx (hh := hh) (bytes := bytes) (maxL := maxL) (ret := ret) ho hl hstt hini hcode hy hK hg (hsize.trans hml.symm) (argsL := As) (rest := rest) (fun sig h => hn.trans (hlen sig h)) hstack hW (by rw [hb]; exact hdg)
    (fun vm₁ hW₁ => ⟨hf.1, hf.2, hp.2 (T.setVm vm₁) hT hW₁⟩)
  dsimp only [Pt.U, Pt.locs, Pt.cells, Pt.slots] at X' e1 e2 h1 h2 h3 st
  subst h1; subst h2; subst h3
  exact ⟨v, (T.setVm vm₁).calling g' mk As.toArray, t, U', L, hT, X', hL, e1, e2, hq, st⟩
/-- not caught here, past rows that name other classes: it goes on to the caller -/
theorem vx_outP {p : Program} {l : Launch} {e : Env} {R : Room} {s : State} {m : MethodId} {args : Array Value} {below : List Frame} {meth : Method} {c : Code} {H : Heap} {locs : List Loc} {cells slots : Nat} {free : Addr → Prop} {ls : Array Slot} {rest : List Value} {Qc : Array Value → State → Outcome → State → Prop} {XC : String → State → State → Prop}
    {pc : Nat} {own E : String} {ce : Cell} {q : Addr} {mc ms : Nat} (hown : s.vm.findClass own = some m.cls) (hlocks : meth.locks = false)
    (hpass : ∀ z ∈ c.exceptionTable.toList, covers z pc = false ∨ (z.catchType ≠ 0 ∧ ∃ nm : String, (Cond.classLink own z.catchType nm).before args s = true ∧ va_Nc E nm s)) (hcell : H[q]? = some ce) (hv : ce.vm = .none) (hcl : s.vm.findClass E = some ce.cls)
    (hx : ∀ t : State, t.heap = H → s.vm.Alike t.vm → XC E s t) (hf : ∀ z ∈ locs, free z.base) (hc : cells ≤ mc) (hs : slots ≤ ms) :
    vx_W p l e R s m args below meth c H locs cells slots (vx_MQ below Qc XC args s mc ms free) (F0 m pc ls rest) q := by
  intro T hT X
  have hpl : e.platform.magicAccessors = ({} : Platform).magicAccessors := by rw [X.admits.platform]
  obtain ⟨vm', hW', X', st⟩ := X.outThrough hlocks q (g := F0 m pc ls rest) rfl rfl rfl (cell := ce) (by rw [hT]; exact hcell) (by rw [hv]; rfl)
    (by obtain ⟨k9, h9, -⟩ := Vm.findClass_spec hcl; exact ⟨k9, h9⟩) (fun z hz => by
      rcases hpass z hz with h | ⟨hz0, nm, hl1, hn1⟩
      · exact Or.inl h
      · obtain ⟨c6, hc6, hcl6⟩ := Cond.classLink_spec hown hl1 e.platform hpl
        obtain ⟨a8, b8, h1, h2, h3⟩ := hn1
        cases Option.some.inj (h1.symm.trans hcl)
        cases Option.some.inj (h2.symm.trans hc6)
        exact Or.inr ⟨hz0, _, hcl6, h3⟩)
  obtain ⟨g₀, hfr⟩ := X'.frames_eq
  have hcell9 : ((T.setVm vm').setFrames (.throwing q :: below)).heap[q]? = some ce := by
    show T.heap[q]? = some ce
    rw [hT]; exact hcell
  have hend : Ended ((T.setVm vm').setFrames (.throwing q :: below)) below (.threw q) := State.frames_setFrames _ (State.cur_lt_of_frames hfr)
  refine ⟨(T.setVm vm').setFrames (.throwing q :: below), ?_, .threw q, X'.here.running, hend, Or.inr ⟨q, rfl, E, ce, locs, hx _ hT (X'.ends _).1.alike, hcell9, hv, hcl, (X'.ends _).1, (X'.ends _).2.mono hc hs, hf⟩⟩
  rw [X.pushThrowing_eq]
  exact st
/-- a thing of a world lies in the heap -/
theorem vx_lt {D : va_G} {cl : List vw_C} {ws : va_W} {H1 : Heap} (h : va_P D cl ws H1) {k : Nat} {q : Nat × va_E} (hk : ws[k]? = some q) : q.1 < H1.size := (h k q hk).lt
end VXS
/-! ===== END ===== -/
/-! ===== BEGIN methods with a table of their own: called by a name, returning or throwing ===== -/
section VXH
/-! vx_backW, vx_callVX, vx_callSX, vx_callVW, vx_runVW, vx_runVX, vx_runSX, vx_ofWH follow the same proofs as their sisters above (Free/Laws.lean, Shelf42/LK1.lean); vx_outP calls Shelf42/NT130.lean (outThrough). -/
section
variable {l : Launch} {R : Room} {p : Program} {e : Env} {below : List Frame} {s : State} {sargs : Array Value} {y : MethodName} {len W9 : Nat}
theorem vx_backW {ws : List Cond} {rm : Room} {Pc : Array Value → State → Prop} {Qc : Array Value → State → Outcome → State → Prop} {XC : String → State → State → Prop} {mc ms : Nat} {free : Addr → Prop} {bytes : ByteArray} {maxL : Nat} {ret : Option FieldType} {hh : List (Nat × Nat × Nat × Nat)}
    (hM : vx_Met l y ws rm Pc Qc XC mc ms free) (hblind : FrameBlind Pc) (hrc : rm.cells = mc) (hrs : rm.slots = ms)
    (hframes : rm.frames + 1 ≤ R.frames) (hlocals : W9 + (maxL + 11) + rm.locals ≤ R.locals)
    (hws : ∀ w ∈ ws, ∀ a' U, s.WarmedH U.vm → w.before a' U = true) (hcode : Cond.codeWith y bytes maxL ret hh ∈ ws) (hinit : ∀ a' U, s.WarmedH U.vm → (Cond.initialized y.cls).before a' U = true) :
    vx_Back l R p e below s sargs y len W9 (PreOf R mc ms Pc) (PostOf Qc mc ms free) (vx_Post XC mc ms free) := by
  intro m meth c A g ig mk a X hg hsize hdg hW hn hp
  have h1 : (headSpec ws rm).pre.before a A.U = true := atoms_intro fun w hw => hws w hw _ _ X.warmed
  have h2 : (Cond.codeWith y bytes maxL ret hh).before a A.U = true := hws _ hcode _ _ X.warmed
  have h3 : (Cond.initialized y.cls).before a A.U = true := hinit _ _ X.warmed
  have h4 : A.cells + (headSpec ws rm).room.cells ≤ R.cells := by rw [show (headSpec ws rm).room.cells = mc from hrc]; exact hp.1
  have h5 : A.slots + (headSpec ws rm).room.slots ≤ R.slots := by rw [show (headSpec ws rm).room.slots = ms from hrs]; exact hp.2.1
  have hPc : Pc a (A.U.calling g mk a) := hblind _ _ _ _ hp.2.2
  obtain ⟨U, Ls, c0, s0⟩ := A
  dsimp only [Pt.U, Pt.locs, Pt.cells, Pt.slots] at h1 h2 h3 h4 h5 X hn hPc ⊢
  obtain ⟨m9, methY, cY, hn9, hmY, hcY, -, hlY, -⟩ := Cond.codeWith_spec h2
  cases Option.some.inj (hn9.symm.trans hn)
  obtain ⟨kY, hkY, -⟩ := className_of_methodNamed hn
  have hinitY : kY.init = .initialized := Cond.initialized_spec (findClass_of_methodNamed hn) hkY h3
  have h : At U g.method c below := by rw [hg]; exact X.here
  have hlocals9 : W9 + (maxL + 11) + (headSpec ws rm).room.locals ≤ R.locals := hlocals
  have happ : (headSpec ws rm).appliesLoose y e.platform (U.calling g mk a) = true :=
    Spec.appliesLoose_calling (g := g) h hdg hn hkY hinitY
      (X.room_calling (g := g) (R' := (headSpec ws rm).room) hsize hmY hcY hframes (by rw [hlY]; omega) h4 h5) h1
  obtain ⟨mid, hmid⟩ := h.above
  have hfr : (U.setTop g).frames = (.java g :: mid) ++ below := by rw [State.frames_setTop' g h.top, hmid]; rfl
  obtain ⟨o, s₂, hsteps, -, hend, hq⟩ := Steps.callFree hM p X.admits X.cas X.clock (acts := []) hfr happ hPc trivial
  have hq' : vx_Q Qc XC mc ms free a (U.calling g mk a) o s₂ := hq
  rw [State.frames_setTop' g h.top] at hend
  obtain ⟨g₀, hg0⟩ := Option.isSome_iff_exists.mp h.top
  obtain ⟨r, hr⟩ := State.topJava?_eq_some.mp hg0
  have hr' : (({ U with heap := s₂.heap, slotsUsed := s₂.slotsUsed } : State).setVm s₂.vm).frames = .java g₀ :: r := hr
  rcases hq' with ⟨hqc, L, hfe, hL⟩ | ⟨q, rfl, E, ce, L, hx, hce, hcv, hcl, hW₂, hsm, hL⟩
  · obtain ⟨⟨v, rfl⟩, hW₂, e2, q2, q3, q4, q5, q6⟩ := id hfe
    have e3 : s₂ = ({ (U.calling g mk a).setFrames s₂.frames with heap := s₂.heap, slotsUsed := s₂.slotsUsed } : State).setVm s₂.vm := by
      have : s₂ = ({ s₂ with vm := (U.calling g mk a).vm } : State).setVm s₂.vm := rfl
      rw [e2] at this
      exact this
    obtain ⟨c₂, i₂, len₂, hc₂, hd₂, hf₂⟩ := hend
    have hW' : U.WarmedH s₂.vm := hW₂
    have hcc : c₂ = c := by
      have h1 : s₂.code? g.method = U.code? g.method := by
        rw [State.code?_eq, State.code?_eq, hW'.alike.method?]
      exact Option.some.inj (hc₂.symm.trans (h1.trans h.code))
    subst hcc
    have hlen : len₂ = len := by rw [hdg] at hd₂; cases hd₂; rfl
    subst hlen
    have hs₂ : s₂ = (({ U with heap := s₂.heap, slotsUsed := s₂.slotsUsed } : State).setVm s₂.vm).setTop { g with pc := g.pc + len₂, stack := v.toList ++ g.stack } := by
      refine e3.trans ?_
      rw [hf₂, State.calling_eq h.top, State.setFrames_setFrames, State.setTop_of_frames _ hr', hr]
      rfl
    have hsame : U.sameButNew ({ U with heap := s₂.heap, slotsUsed := s₂.slotsUsed } : State) L mc ms := by
      refine ⟨?_, q2, q3, q4, q5, q6⟩
      obtain ⟨t, ht, -⟩ := State.frames_cons hr
      show ({ U with heap := s₂.heap, slotsUsed := s₂.slotsUsed } : State) = { U.setFrames U.frames with heap := s₂.heap, slotsUsed := s₂.slotsUsed }
      rw [State.setFrames_self ht]
    subst hg
    refine Or.inl ⟨v, ⟨(({ U with heap := s₂.heap, slotsUsed := s₂.slotsUsed } : State).setVm s₂.vm), Ls ++ L, c0 + mc, s0 + ms⟩,
      ⟨X.admits, X.cas, X.clock, X.frames, X.room, X.hears, X.method, X.code, (X.here.setHeapUsed s₂.heap s₂.slotsUsed).setVm hW'.alike, X.tail, State.WarmedH.trans X.warmed hW', X.limits, X.bytes, X.same.trans (hsame.setVm s.vm)⟩,
      ⟨g, mk, s₂, L, rfl, rfl, hqc, rfl, hL, rfl, rfl⟩, ?_⟩
    show Steps p.tables e below _ ((({ U with heap := s₂.heap, slotsUsed := s₂.slotsUsed } : State).setVm s₂.vm).setTop { g with pc := g.pc + len₂, stack := v.toList ++ g.stack })
    rw [← hs₂]
    exact hsteps
  · obtain ⟨e2, q2, q3, q4, q5, q6⟩ := id hsm
    have e3 : s₂ = ({ (U.calling g mk a).setFrames s₂.frames with heap := s₂.heap, slotsUsed := s₂.slotsUsed } : State).setVm s₂.vm := by
      have : s₂ = ({ s₂ with vm := (U.calling g mk a).vm } : State).setVm s₂.vm := rfl
      rw [e2] at this
      exact this
    have hf₂ : s₂.frames = .throwing q :: .java g :: U.frames.tail := hend
    have hW' : U.WarmedH s₂.vm := hW₂
    have hs₂ : s₂ = ((({ U with heap := s₂.heap, slotsUsed := s₂.slotsUsed } : State).setVm s₂.vm).setTop g).pushFrame (.throwing q) := by
      refine e3.trans ?_
      rw [hf₂, State.calling_eq h.top, State.setFrames_setFrames, State.pushFrame, State.frames_setTop _ hr', State.setTop_of_frames _ hr', State.setFrames_setFrames, hr]
      rfl
    have hsame : U.sameButNew ({ U with heap := s₂.heap, slotsUsed := s₂.slotsUsed } : State) L mc ms := by
      refine ⟨?_, q2, q3, q4, q5, q6⟩
      obtain ⟨t, ht, -⟩ := State.frames_cons hr
      show ({ U with heap := s₂.heap, slotsUsed := s₂.slotsUsed } : State) = { U.setFrames U.frames with heap := s₂.heap, slotsUsed := s₂.slotsUsed }
      rw [State.setFrames_self ht]
    subst hg
    refine Or.inr ⟨q, ⟨(({ U with heap := s₂.heap, slotsUsed := s₂.slotsUsed } : State).setVm s₂.vm), Ls ++ L, c0 + mc, s0 + ms⟩,
      ⟨X.admits, X.cas, X.clock, X.frames, X.room, X.hears, X.method, X.code, (X.here.setHeapUsed s₂.heap s₂.slotsUsed).setVm hW'.alike, X.tail, State.WarmedH.trans X.warmed hW', X.limits, X.bytes, X.same.trans (hsame.setVm s.vm)⟩,
      ⟨g, mk, s₂, L, E, ce, rfl, rfl, hx, hce, hcv, hcl, rfl, hL, rfl, rfl⟩, ?_⟩
    show Steps p.tables e below _ (((({ U with heap := s₂.heap, slotsUsed := s₂.slotsUsed } : State).setVm s₂.vm).setTop g).pushFrame (.throwing q))
    rw [← hs₂]
    exact hsteps
end
variable {p : Program} {l : Launch} {e : Env} {R : Room} {s : State} {m : MethodId} {args : Array Value} {below : List Frame} {meth : Method} {c : Code} {T : State} {H : Heap} {locs : List Loc} {cells slots : Nat}
theorem vx_callVX (X : Stand p l e R s m args below meth c T locs cells slots) (hexec : p.tables.exec = Jvm.exec) {own C : String} {index : Nat} {y : MethodName} {bytes : ByteArray} {maxL : Nat} {ret : Option FieldType} {hh : List (Nat × Nat × Nat × Nat)}
    (hown : s.vm.findClass own = some m.cls) (hlink : (Cond.methodLink own index y).before args s = true) (hinst : (Cond.instanceMethod y).before args s = true) (hsel : (Cond.selects C y y).before args s = true)
    (hcode : (Cond.codeWith y bytes maxL ret hh).before args s = true) (hy : y.cls ≠ "java/lang/invoke/MethodHandle" ∧ y.cls ≠ "java/lang/invoke/VarHandle")
    {W9 : Nat} {Pre : Pt → Array Value → Prop} {Post : Pt → Array Value → Option Value → Pt → Prop} {PostX : Pt → Array Value → Addr → Pt → Prop} (hK : vx_Back l R p e below s args y 3 W9 Pre Post PostX)
    {b : Addr} {cellB : Cell} (hcell : T.heap[b]? = some cellB) (hobj : cellB.vm.isStatics = false) (hcls : s.vm.findClass C = some cellB.cls)
    {g : JFrame} (hg : g.method = m) (hsize : g.locals.size = c.maxLocals) {argsL rest : List Value} (hlen : ∀ sig, parseMethodDescriptor y.desc = some sig → argsL.length = sig.parameters.length)
    (hstack : g.stack = argsL.reverse ++ .ref b :: rest) (hW : 2 * g.monitorRoom + (rest.map fun v => v.category).sum ≤ W9) (hdg : decode c.code g.pc = .ok (.invokevirtual index, 3))
    (hpre : ∀ vm₁, s.WarmedH vm₁ → Pre ⟨T.setVm vm₁, locs, cells, slots⟩ (Value.ref b :: argsL).toArray) :
    (∃ (v : Option Value) (vm₁ : Vm) (B : Pt), s.WarmedH vm₁ ∧ Stand p l e R s m args below meth c B.U B.locs B.cells B.slots ∧ Post ⟨T.setVm vm₁, locs, cells, slots⟩ (Value.ref b :: argsL).toArray v B ∧
      ∀ target, Steps p.tables e below (B.U.setTop { g with pc := g.pc + 3, stack := v.toList ++ rest }) target → Steps p.tables e below (T.setTop g) target) ∨
    (∃ (q : Addr) (vm₁ : Vm) (B : Pt), s.WarmedH vm₁ ∧ Stand p l e R s m args below meth c B.U B.locs B.cells B.slots ∧ PostX ⟨T.setVm vm₁, locs, cells, slots⟩ (Value.ref b :: argsL).toArray q B ∧
      Steps p.tables e below (T.setTop g) ((B.U.setTop { g with stack := rest }).pushFrame (.throwing q))) := by
  obtain ⟨mk, methM, hnamed, hmethM, hstM, habM⟩ := Cond.instanceMethod_spec hinst
  obtain ⟨m8, methM', cM, hn8, hmethM', -, -, -, -, -, -, hsigM⟩ := Cond.codeWith_spec hcode
  cases Option.some.inj (hn8.symm.trans hnamed)
  cases hmethM.symm.trans hmethM'
  obtain ⟨c2, r2, m2, q1, q2, q3, q4, kP, hkP, hkPi⟩ := Cond.selects_spec hsel
  cases hcls.symm.trans q1
  cases (State.methodFound?_of_named hnamed hy).symm.trans q2
  cases hnamed.symm.trans q3
  have hselP : selectMethod e.platform s.vm cellB.cls mk = .method mk := by rw [Launch.admits_selectMethod X.admits]; exact q4
  obtain ⟨vm₁, X₁, hstep₁⟩ := X.invokevirtual hexec hown hlink hnamed hmethM hstM hkP hkPi hy (a := b) (cell := cellB) hcell
    (fun z h => by rw [h] at hobj; cases hobj) hselP hmethM habM hkP hkPi (g := g) hg (argsL := argsL) (rest := rest) (hlen _ hsigM) hstack hdg
  rcases hK m meth c ⟨T.setVm vm₁, locs, cells, slots⟩ { g with stack := rest } (.invokevirtual index) mk (Value.ref b :: argsL).toArray X₁ hg hsize hdg hW (X₁.named hnamed) (hpre vm₁ X₁.warmed) with ⟨v, B, X', hpost, hsteps⟩ | ⟨q, B, X', hpost, hsteps⟩
  · exact Or.inl ⟨v, vm₁, B, X₁.warmed, X', hpost, fun target h => hstep₁ _ fun acts => by rw [doInvoke_state]; exact hsteps.trans h⟩
  · exact Or.inr ⟨q, vm₁, B, X₁.warmed, X', hpost, hstep₁ _ fun acts => by rw [doInvoke_state]; exact hsteps⟩
theorem vx_callSX (X : Stand p l e R s m args below meth c T locs cells slots) (hexec : p.tables.exec = Jvm.exec) {own : String} {index : Nat} {y : MethodName} {bytes : ByteArray} {maxL : Nat} {ret : Option FieldType} {hh : List (Nat × Nat × Nat × Nat)}
    (hown : s.vm.findClass own = some m.cls) (hlink : (Cond.methodLink own index y).before args s = true) (hstat : (Cond.static y).before args s = true) (hinit : (Cond.initialized y.cls).before args s = true)
    (hcode : (Cond.codeWith y bytes maxL ret hh).before args s = true) (hy : y.cls ≠ "java/lang/invoke/MethodHandle" ∧ y.cls ≠ "java/lang/invoke/VarHandle")
    {W9 : Nat} {Pre : Pt → Array Value → Prop} {Post : Pt → Array Value → Option Value → Pt → Prop} {PostX : Pt → Array Value → Addr → Pt → Prop} (hK : vx_Back l R p e below s args y 3 W9 Pre Post PostX)
    {g : JFrame} (hg : g.method = m) (hsize : g.locals.size = c.maxLocals) {argsL rest : List Value} (hlen : ∀ sig, parseMethodDescriptor y.desc = some sig → argsL.length = sig.parameters.length)
    (hstack : g.stack = argsL.reverse ++ rest) (hW : 2 * g.monitorRoom + (rest.map fun v => v.category).sum ≤ W9) (hdg : decode c.code g.pc = .ok (.invokestatic index, 3))
    (hpre : ∀ vm₁, s.WarmedH vm₁ → Pre ⟨T.setVm vm₁, locs, cells, slots⟩ argsL.toArray) :
    (∃ (v : Option Value) (vm₁ : Vm) (B : Pt), s.WarmedH vm₁ ∧ Stand p l e R s m args below meth c B.U B.locs B.cells B.slots ∧ Post ⟨T.setVm vm₁, locs, cells, slots⟩ argsL.toArray v B ∧
      ∀ target, Steps p.tables e below (B.U.setTop { g with pc := g.pc + 3, stack := v.toList ++ rest }) target → Steps p.tables e below (T.setTop g) target) ∨
    (∃ (q : Addr) (vm₁ : Vm) (B : Pt), s.WarmedH vm₁ ∧ Stand p l e R s m args below meth c B.U B.locs B.cells B.slots ∧ PostX ⟨T.setVm vm₁, locs, cells, slots⟩ argsL.toArray q B ∧
      Steps p.tables e below (T.setTop g) ((B.U.setTop { g with stack := rest }).pushFrame (.throwing q))) := by
  obtain ⟨mk, methM, cM, hnamed, hmethM, -, -, -, -, -, -, hsigM⟩ := Cond.codeWith_spec hcode
  have hstatic : methM.isStatic = true := Cond.static_spec hnamed hmethM hstat
  obtain ⟨kP, hkP, -⟩ := className_of_methodNamed hnamed
  have hinitP : kP.init = .initialized := Cond.initialized_spec (findClass_of_methodNamed hnamed) hkP hinit
  obtain ⟨vm₁, X₁, hstep₁⟩ := X.invokestatic hexec hown hlink hnamed hmethM hstatic hkP hinitP hy (g := g) hg (argsL := argsL) (rest := rest) (hlen _ hsigM) hstack hdg
  rcases hK m meth c ⟨T.setVm vm₁, locs, cells, slots⟩ { g with stack := rest } (.invokestatic index) mk argsL.toArray X₁ hg hsize hdg hW (X₁.named hnamed) (hpre vm₁ X₁.warmed) with ⟨v, B, X', hpost, hsteps⟩ | ⟨q, B, X', hpost, hsteps⟩
  · exact Or.inl ⟨v, vm₁, B, X₁.warmed, X', hpost, fun target h => hstep₁ _ fun acts => by rw [doInvoke_state]; exact hsteps.trans h⟩
  · exact Or.inr ⟨q, vm₁, B, X₁.warmed, X', hpost, hstep₁ _ fun acts => by rw [doInvoke_state]; exact hsteps⟩
theorem vx_callVW (X : Stand p l e R s m args below meth c T locs cells slots) (hexec : p.tables.exec = Jvm.exec) {own C : String} {index : Nat} {y : MethodName} {bytes : ByteArray} {maxL : Nat} {ret : Option FieldType} {hh : List (Nat × Nat × Nat × Nat)}
    (hown : s.vm.findClass own = some m.cls) (hlink : (Cond.methodLink own index y).before args s = true) (hinst : (Cond.instanceMethod y).before args s = true) (hsel : (Cond.selects C y y).before args s = true)
    (hcode : (Cond.codeWith y bytes maxL ret hh).before args s = true) (hy : y.cls ≠ "java/lang/invoke/MethodHandle" ∧ y.cls ≠ "java/lang/invoke/VarHandle")
    {W9 : Nat} {Pre : Pt → Array Value → Prop} {Post : Pt → Array Value → Option Value → Pt → Prop} (hK : Back l R p e below s args y 3 W9 Pre Post)
    {b : Addr} {cellB : Cell} (hcell : T.heap[b]? = some cellB) (hobj : cellB.vm.isStatics = false) (hcls : s.vm.findClass C = some cellB.cls)
    {g : JFrame} (hg : g.method = m) (hsize : g.locals.size = c.maxLocals) {argsL rest : List Value} (hlen : ∀ sig, parseMethodDescriptor y.desc = some sig → argsL.length = sig.parameters.length)
    (hstack : g.stack = argsL.reverse ++ .ref b :: rest) (hW : 2 * g.monitorRoom + (rest.map fun v => v.category).sum ≤ W9) (hdg : decode c.code g.pc = .ok (.invokevirtual index, 3))
    (hpre : ∀ vm₁, s.WarmedH vm₁ → Pre ⟨T.setVm vm₁, locs, cells, slots⟩ (Value.ref b :: argsL).toArray) :
    ∃ (v : Option Value) (vm₁ : Vm) (B : Pt), s.WarmedH vm₁ ∧ Stand p l e R s m args below meth c B.U B.locs B.cells B.slots ∧ Post ⟨T.setVm vm₁, locs, cells, slots⟩ (Value.ref b :: argsL).toArray v B ∧
      ∀ target, Steps p.tables e below (B.U.setTop { g with pc := g.pc + 3, stack := v.toList ++ rest }) target → Steps p.tables e below (T.setTop g) target := by
  obtain ⟨mk, methM, hnamed, hmethM, hstM, habM⟩ := Cond.instanceMethod_spec hinst
  obtain ⟨m8, methM', cM, hn8, hmethM', -, -, -, -, -, -, hsigM⟩ := Cond.codeWith_spec hcode
  cases Option.some.inj (hn8.symm.trans hnamed)
  cases hmethM.symm.trans hmethM'
  obtain ⟨c2, r2, m2, q1, q2, q3, q4, kP, hkP, hkPi⟩ := Cond.selects_spec hsel
  cases hcls.symm.trans q1
  cases (State.methodFound?_of_named hnamed hy).symm.trans q2
  cases hnamed.symm.trans q3
  have hselP : selectMethod e.platform s.vm cellB.cls mk = .method mk := by rw [Launch.admits_selectMethod X.admits]; exact q4
  obtain ⟨vm₁, X₁, hstep₁⟩ := X.invokevirtual hexec hown hlink hnamed hmethM hstM hkP hkPi hy (a := b) (cell := cellB) hcell
    (fun z h => by rw [h] at hobj; cases hobj) hselP hmethM habM hkP hkPi (g := g) hg (argsL := argsL) (rest := rest) (hlen _ hsigM) hstack hdg
  obtain ⟨v, B, X', hpost, hsteps⟩ := hK m meth c ⟨T.setVm vm₁, locs, cells, slots⟩ { g with stack := rest } (.invokevirtual index) mk (Value.ref b :: argsL).toArray X₁ hg hsize hdg hW (X₁.named hnamed) (hpre vm₁ X₁.warmed)
  exact ⟨v, vm₁, B, X₁.warmed, X', hpost, fun target h => hstep₁ _ fun acts => by rw [doInvoke_state]; exact hsteps.trans h⟩
abbrev vx_CVW (R : Room) (s : State) (args : Array Value) (own C : String) (index : Nat) (y : MethodName) (bytes : ByteArray) (maxL : Nat) (ret : Option FieldType) (hh : List (Nat × Nat × Nat × Nat)) (ws : List Cond) (rm : Room) (mc ms n : Nat) : Prop :=
  (rm.cells = mc ∧ rm.slots = ms ∧ rm.frames + 1 ≤ R.frames ∧ 8 + (maxL + 11) + rm.locals ≤ R.locals ∧ (∀ w ∈ ws, ∀ (a' : Array Value) (U : State), s.WarmedH U.vm → w.before a' U = true) ∧ Cond.codeWith y bytes maxL ret hh ∈ ws) ∧
  (Cond.codeWith y bytes maxL ret hh).before args s = true ∧ (Cond.initialized y.cls).before args s = true ∧ (y.cls ≠ "java/lang/invoke/MethodHandle" ∧ y.cls ≠ "java/lang/invoke/VarHandle") ∧
  (∀ sig, parseMethodDescriptor y.desc = some sig → n = sig.parameters.length) ∧ (Cond.methodLink own index y).before args s = true ∧ (Cond.instanceMethod y).before args s = true ∧ (Cond.selects C y y).before args s = true
theorem vx_cwVW {own C : String} {index maxL mc ms : Nat} {y : MethodName} {bytes : ByteArray} {ret : Option FieldType} {hh : List (Nat × Nat × Nat × Nat)} {Ts ws ws' : List Cond} {rm : Room} (n : Nat) (ht : ∀ w ∈ Ts, w.before args s = true) (hT : GoodIn Ts (wsV own index C y ws)) (hw : ws = Cond.codeWith y bytes maxL ret hh :: ws') (hrc : rm.cells = mc) (hrs : rm.slots = ms)
    (hd : y.cls = C ∧ y.cls ≠ "java/lang/invoke/MethodHandle" ∧ y.cls ≠ "java/lang/invoke/VarHandle" ∧ (parseMethodDescriptor y.desc).map (fun d => d.parameters.length) = some n) (hR : rm.frames + 1 ≤ R.frames ∧ 8 + (maxL + 11) + rm.locals ≤ R.locals) :
    vx_CVW R s args own C index y bytes maxL ret hh ws rm mc ms n := by
  obtain ⟨hC, hd⟩ := hd
  subst hC
  have ok : ∀ w ∈ wsV own index y.cls y ws, w.before args s = true := fun w h => ht w (hT w h).1
  have hG : GoodIn Ts ws := fun w h => hT w (by unfold wsV; exact List.mem_append_right _ h)
  have hc : Cond.codeWith y bytes maxL ret hh ∈ ws := by rw [hw]; exact List.mem_cons_self
  refine ⟨⟨hrc, hrs, hR.1, hR.2, pay_in ht hG, hc⟩, ht _ (hG _ hc).1, ok _ (by simp [wsV]), ⟨hd.1, hd.2.1⟩, fun sig h => ?_, ok _ (by simp [wsV]), ok _ (by simp [wsV]), ok _ (by simp [wsV])⟩
  have h2 := hd.2.2
  rw [h] at h2
  exact (Option.some.inj h2).symm
theorem vx_runVW {y : MethodName} {bytes cc : ByteArray} {maxL nL mc ms n index : Nat} {ret : Option FieldType} {hh : List (Nat × Nat × Nat × Nat)} {ws : List Cond} {rm : Room} {Pc : Array Value → State → Prop} {Qc : Array Value → State → Outcome → State → Prop} {free : Addr → Prop} {Ts : List Cond} {own C : String} {b : Addr} {As rest : List Value} {g : JFrame}
    (S : CallFix p m c cc nL s args Ts own) (hM : Met l y ws rm Pc Qc mc ms free) (cw : vx_CVW R s args own C index y bytes maxL ret hh ws rm mc ms n) (hp : PreV s H C b Pc As)
    (hg : g.method = m) (hn : As.length = n) (hsize : g.locals.size = nL) (hstack : g.stack = As.reverse ++ .ref b :: rest) (hW : 2 * g.monitorRoom + (rest.map fun v => v.category).sum ≤ 8) (hdg : decode cc g.pc = .ok (.invokevirtual index, 3)) (hf : cells + mc ≤ R.cells ∧ slots + ms ≤ R.slots) :
    va_Run p l e R s m args below meth c H locs cells slots mc ms g rest (Qc (Value.ref b :: As).toArray) free := by
  obtain ⟨⟨hrc, hrs, hfr, hlo, hws, hcw⟩, hcode, hini, hy, hlen, hl, hin, hse⟩ := cw
  have hK : Back l R p e below s args y 3 8 (PreOf R mc ms Pc) (PostOf Qc mc ms free) := va_backW (hh := hh) (bytes := bytes) (maxL := maxL) (ret := ret) hM hp.1 hrc hrs hfr hlo hws hcw (fun a' U hW => word_at hW (Or.inl (by first | rfl | simp [Cond.onTables, Cond.keeps, Cond.steady])) hini)
  obtain ⟨hx, hb, hml, ho, -⟩ := S
  obtain ⟨-, ⟨cellB, hcB, hoB, hclB⟩, hPc⟩ := hp
  intro T hT X
  obtain ⟨v, vm₁, ⟨U', l2, c2, s2⟩, hW₁, X', ⟨g', mk, t, L, e1, e2, hq, h1, hL, h2, h3⟩, st⟩ := vx_callVW X hx (C := C) (hh := hh) (bytes := bytes) (maxL := maxL) (ret := ret) ho hl hin hse hcode hy hK (by rw [hT]; exact hcB) hoB hclB hg (hsize.trans hml.symm) (argsL := As) (rest := rest) (fun sig h => hn.trans (hlen sig h)) hstack hW (by rw [hb]; exact hdg)
    (fun vm₁ hW₁ => ⟨hf.1, hf.2, hPc (T.setVm vm₁) hT hW₁⟩)
  dsimp only [Pt.U, Pt.locs, Pt.cells, Pt.slots] at X' e1 e2 h1 h2 h3 st
  subst h1; subst h2; subst h3
  exact ⟨v, (T.setVm vm₁).calling g' mk (Value.ref b :: As).toArray, t, U', L, hT, X', hL, e1, e2, hq, st⟩
section
variable {y : MethodName} {bytes cc : ByteArray} {maxL nL mc ms n index : Nat} {ret : Option FieldType} {ws : List Cond} {rm : Room} {Pc : Array Value → State → Prop} {Qc : Array Value → State → Outcome → State → Prop} {XC : String → State → State → Prop} {free : Addr → Prop} {Ts : List Cond} {own C : String} {b : Addr} {As rest : List Value} {g : JFrame}
theorem vx_runVX {hh : List (Nat × Nat × Nat × Nat)} (S : CallFix p m c cc nL s args Ts own) (hM : vx_Met l y ws rm Pc Qc XC mc ms free) (cw : vx_CVW R s args own C index y bytes maxL ret hh ws rm mc ms n) (hp : PreV s H C b Pc As)
    (hg : g.method = m) (hn : As.length = n) (hsize : g.locals.size = nL) (hstack : g.stack = As.reverse ++ .ref b :: rest) (hW : 2 * g.monitorRoom + (rest.map fun v => v.category).sum ≤ 8) (hdg : decode cc g.pc = .ok (.invokevirtual index, 3)) (hf : cells + mc ≤ R.cells ∧ slots + ms ≤ R.slots) :
    vx_Run p l e R s m args below meth c H locs cells slots mc ms g rest (Qc (Value.ref b :: As).toArray) XC free := by
  obtain ⟨⟨hrc, hrs, hfr, hlo, hws, hcw⟩, hcode, hini, hy, hlen, hl, hin, hse⟩ := cw
  have hK : vx_Back l R p e below s args y 3 8 (PreOf R mc ms Pc) (PostOf Qc mc ms free) (vx_Post XC mc ms free) := vx_backW (hh := hh) (bytes := bytes) (maxL := maxL) (ret := ret) hM hp.1 hrc hrs hfr hlo hws hcw (fun a' U hW => word_at hW (Or.inl (by first | rfl | simp [Cond.onTables, Cond.keeps, Cond.steady])) hini)
  obtain ⟨hx, hb, hml, ho, -⟩ := S
  obtain ⟨-, ⟨cellB, hcB, hoB, hclB⟩, hPc⟩ := hp
  intro T hT X
  rcases vx_callVX X hx (C := C) (hh := hh) (bytes := bytes) (maxL := maxL) (ret := ret) ho hl hin hse hcode hy hK (by rw [hT]; exact hcB) hoB hclB hg (hsize.trans hml.symm) (argsL := As) (rest := rest) (fun sig h => hn.trans (hlen sig h)) hstack hW (by rw [hb]; exact hdg)
    (fun vm₁ hW₁ => ⟨hf.1, hf.2, hPc (T.setVm vm₁) hT hW₁⟩) with ⟨v, vm₁, ⟨U', l2, c2, s2⟩, hW₁, X', ⟨g', mk, t, L, e1, e2, hq, h1, hL, h2, h3⟩, st⟩ | ⟨q, vm₁, ⟨U', l2, c2, s2⟩, hW₁, X', ⟨g', mk, t, L, E, ce, e1, e2, hq, hce, hcv, hcl, h1, hL, h2, h3⟩, st⟩
  · dsimp only [Pt.U, Pt.locs, Pt.cells, Pt.slots] at X' e1 e2 h1 h2 h3 st
    subst h1; subst h2; subst h3
    exact Or.inl ⟨v, (T.setVm vm₁).calling g' mk (Value.ref b :: As).toArray, t, U', L, hT, X', hL, e1, e2, hq, st⟩
  · dsimp only [Pt.U, Pt.locs, Pt.cells, Pt.slots] at X' e1 e2 h1 h2 h3 st hcl
    subst h1; subst h2; subst h3
    exact Or.inr ⟨q, (T.setVm vm₁).calling g' mk (Value.ref b :: As).toArray, t, U', L, E, ce, hT, X', hL, e1, e2, hq, hce, hcv, vx_cls hW₁ hcl, st⟩
theorem vx_runSX {hh : List (Nat × Nat × Nat × Nat)} (S : CallFix p m c cc nL s args Ts own) (hM : vx_Met l y ws rm Pc Qc XC mc ms free) (cw : vx_CSW R s args own index y bytes maxL ret hh ws rm mc ms n) (hp : PreS s H Pc As)
    (hg : g.method = m) (hn : As.length = n) (hsize : g.locals.size = nL) (hstack : g.stack = As.reverse ++ rest) (hW : 2 * g.monitorRoom + (rest.map fun v => v.category).sum ≤ 8) (hdg : decode cc g.pc = .ok (.invokestatic index, 3)) (hf : cells + mc ≤ R.cells ∧ slots + ms ≤ R.slots) :
    vx_Run p l e R s m args below meth c H locs cells slots mc ms g rest (Qc As.toArray) XC free := by
  obtain ⟨⟨hrc, hrs, hfr, hlo, hws, hcw⟩, hcode, hini, hy, hlen, hl, hstt⟩ := cw
  have hK : vx_Back l R p e below s args y 3 8 (PreOf R mc ms Pc) (PostOf Qc mc ms free) (vx_Post XC mc ms free) := vx_backW (hh := hh) (bytes := bytes) (maxL := maxL) (ret := ret) hM hp.1 hrc hrs hfr hlo hws hcw (fun a' U hW => word_at hW (Or.inl (by first | rfl | simp [Cond.onTables, Cond.keeps, Cond.steady])) hini)
  obtain ⟨hx, hb, hml, ho, -⟩ := S
  intro T hT X
  rcases vx_callSX X hx (hh := hh) (bytes := bytes) (maxL := maxL) (ret := ret) ho hl hstt hini hcode hy hK hg (hsize.trans hml.symm) (argsL := As) (rest := rest) (fun sig h => hn.trans (hlen sig h)) hstack hW (by rw [hb]; exact hdg)
    (fun vm₁ hW₁ => ⟨hf.1, hf.2, hp.2 (T.setVm vm₁) hT hW₁⟩) with ⟨v, vm₁, ⟨U', l2, c2, s2⟩, hW₁, X', ⟨g', mk, t, L, e1, e2, hq, h1, hL, h2, h3⟩, st⟩ | ⟨q, vm₁, ⟨U', l2, c2, s2⟩, hW₁, X', ⟨g', mk, t, L, E, ce, e1, e2, hq, hce, hcv, hcl, h1, hL, h2, h3⟩, st⟩
  · dsimp only [Pt.U, Pt.locs, Pt.cells, Pt.slots] at X' e1 e2 h1 h2 h3 st
    subst h1; subst h2; subst h3
    exact Or.inl ⟨v, (T.setVm vm₁).calling g' mk As.toArray, t, U', L, hT, X', hL, e1, e2, hq, st⟩
  · dsimp only [Pt.U, Pt.locs, Pt.cells, Pt.slots] at X' e1 e2 h1 h2 h3 st hcl
    subst h1; subst h2; subst h3
    exact Or.inr ⟨q, (T.setVm vm₁).calling g' mk As.toArray, t, U', L, E, ce, hT, X', hL, e1, e2, hq, hce, hcv, vx_cls hW₁ hcl, st⟩
end
end VXH
theorem vx_ofWH {l : Launch} {y : MethodName} {ws ws' : List Cond} {rm : Room} {Pc : Array Value → State → Prop} {Qc : Array Value → State → Outcome → State → Prop} {XC : String → State → State → Prop} {mc ms : Nat} {free : Addr → Prop} {cc : ByteArray} {maxL : Nat} {ret : Option FieldType} {hh : List (Nat × Nat × Nat × Nat)}
    (hy : plainName y.cls = true) (hw : ws = Cond.codeWith y cc maxL ret hh :: ws')
    (body : ∀ p e s m args below meth c s₁, BodyLoose p l y (headSpec ws rm) cc maxL ret e s m args below meth c s₁ → c.maxLocals = maxL → Pc args s →
      W p l e (headSpec ws rm).room s m args below meth c s.heap [] 0 0 (vx_MQ below Qc XC args s mc ms free) (entryFrame m args maxL)) : vx_Met l y ws rm Pc Qc XC mc ms free := by
  refine MetFree.of_bodyS (code := cc) (maxLocals := maxL) (ret := ret) hy ?_ ?_
  · intro args s m h hn
    obtain ⟨m9, meth, c, hn9, h1, h2, h3, h4, -, h5, h6, -⟩ := Cond.codeWith_spec (atoms_spec (ws := ws) h _ (by rw [hw]; exact List.mem_cons_self))
    cases hn.symm.trans hn9
    exact ⟨meth, c, h1, h2, h3, h4, h5, h6⟩
  · intro p e s m args below meth c s₁ B hml hP _
    have hh0 : s₁.heap = s.heap := by rw [B.state]; rfl
    obtain ⟨t, a1, o, b1, b2, b3⟩ := body p e s m args below meth c s₁ B hml hP s₁ hh0 (Stand.of_body B)
    exact ⟨t, o, a1, b1, b2, b3⟩
/-! ===== END ===== -/
end
section
/-! names, fields, words: by a program of mine out of the printed claim -/
def cn_D : String := "JournaledFiles$Disk"
def ft_D : u_T := fun k => match k with
  | 0 => ("JournaledFiles$Disk", "state", "[I", true)
  | _ => ("JournaledFiles$Disk", "committed", "[I", true)
def fy_D : Nat → FieldType := fun k => match k with
  | 0 => .array .int
  | _ => .array .int
theorem fn_D : ∀ a, a < 2 → ∀ b, b < 2 → a ≠ b → (ft_D a).2.1 ≠ (ft_D b).2.1 := by decide +kernel
theorem fo_D : ∀ k, k < 2 → parseFieldDescriptor (ft_D k).2.2.1 = some (fy_D k) := by decide +kernel
def cn_H : String := "JournaledFiles$Handle"
def ft_H : u_T := fun k => match k with
  | 0 => ("JournaledFiles$Handle", "isOpen", "Z", false)
  | 1 => ("JournaledFiles$Handle", "inode", "I", false)
  | 2 => ("JournaledFiles$Handle", "generation", "I", false)
  | 3 => ("JournaledFiles$Handle", "mode", "I", false)
  | _ => ("JournaledFiles$Handle", "position", "I", false)
def fy_H : Nat → FieldType := fun k => match k with
  | 0 => .boolean
  | 1 => .int
  | 2 => .int
  | 3 => .int
  | _ => .int
theorem fn_H : ∀ a, a < 5 → ∀ b, b < 5 → a ≠ b → (ft_H a).2.1 ≠ (ft_H b).2.1 := by decide +kernel
theorem fo_H : ∀ k, k < 5 → parseFieldDescriptor (ft_H k).2.2.1 = some (fy_H k) := by decide +kernel
def cn_I : String := "JournaledFiles$Inodes"
def ft_I : u_T := fun k => match k with
  | _ => ("JournaledFiles$Inodes", "disk", "LJournaledFiles$Disk;", true)
def fy_I : Nat → FieldType := fun k => match k with
  | _ => .object "JournaledFiles$Disk"
theorem fn_I : ∀ a, a < 1 → ∀ b, b < 1 → a ≠ b → (ft_I a).2.1 ≠ (ft_I b).2.1 := by decide +kernel
theorem fo_I : ∀ k, k < 1 → parseFieldDescriptor (ft_I k).2.2.1 = some (fy_I k) := by decide +kernel
def cn_J : String := "JournaledFiles"
def ft_J : u_T := fun k => match k with
  | 0 => ("JournaledFiles", "disk", "LJournaledFiles$Disk;", true)
  | 1 => ("JournaledFiles", "inodes", "LJournaledFiles$Inodes;", true)
  | 2 => ("JournaledFiles", "handles", "[LJournaledFiles$Handle;", true)
  | 3 => ("JournaledFiles", "writesToCut", "I", false)
  | 4 => ("JournaledFiles", "writesDone", "I", false)
  | _ => ("JournaledFiles", "timesOff", "I", false)
def fy_J : Nat → FieldType := fun k => match k with
  | 0 => .object "JournaledFiles$Disk"
  | 1 => .object "JournaledFiles$Inodes"
  | 2 => .array (.object "JournaledFiles$Handle")
  | 3 => .int
  | 4 => .int
  | _ => .int
theorem fn_J : ∀ a, a < 6 → ∀ b, b < 6 → a ≠ b → (ft_J a).2.1 ≠ (ft_J b).2.1 := by decide +kernel
theorem fo_J : ∀ k, k < 6 → parseFieldDescriptor (ft_J k).2.2.1 = some (fy_J k) := by decide +kernel
def cn_M : String := "JournaledFilesModel"
def ft_M : u_T := fun k => match k with
  | 0 => ("JournaledFilesModel", "kind", "[I", true)
  | 1 => ("JournaledFilesModel", "size", "[I", true)
  | 2 => ("JournaledFilesModel", "generation", "[I", true)
  | 3 => ("JournaledFilesModel", "blocks", "[I", true)
  | 4 => ("JournaledFilesModel", "bytes", "[I", true)
  | 5 => ("JournaledFilesModel", "inode", "[I", true)
  | 6 => ("JournaledFilesModel", "born", "[I", true)
  | 7 => ("JournaledFilesModel", "mode", "[I", true)
  | 8 => ("JournaledFilesModel", "place", "[I", true)
  | 9 => ("JournaledFilesModel", "cut", "I", false)
  | 10 => ("JournaledFilesModel", "writes", "I", false)
  | 11 => ("JournaledFilesModel", "offs", "I", false)
  | 12 => ("JournaledFilesModel", "thrown", "I", false)
  | 13 => ("JournaledFilesModel", "parent", "I", false)
  | 14 => ("JournaledFilesModel", "entry", "I", false)
  | 15 => ("JournaledFilesModel", "found", "I", false)
  | _ => ("JournaledFilesModel", "last", "I", false)
def fy_M : Nat → FieldType := fun k => match k with
  | 0 => .array .int
  | 1 => .array .int
  | 2 => .array .int
  | 3 => .array .int
  | 4 => .array .int
  | 5 => .array .int
  | 6 => .array .int
  | 7 => .array .int
  | 8 => .array .int
  | 9 => .int
  | 10 => .int
  | 11 => .int
  | 12 => .int
  | 13 => .int
  | 14 => .int
  | 15 => .int
  | _ => .int
theorem fn_M : ∀ a, a < 17 → ∀ b, b < 17 → a ≠ b → (ft_M a).2.1 ≠ (ft_M b).2.1 := by decide +kernel
theorem fo_M : ∀ k, k < 17 → parseFieldDescriptor (ft_M k).2.2.1 = some (fy_M k) := by decide +kernel
def cn_L : String := "JournaledFilesLaw"
def yn_J_init : MethodName := ⟨cn_J, "<init>", "()V"⟩
abbrev cd_J_init : ByteArray := prog_1_method_1_code
def yn_D_init : MethodName := ⟨cn_D, "<init>", "()V"⟩
abbrev cd_D_init : ByteArray := prog_2_method_1_code
def yn_D_mark : MethodName := ⟨cn_D, "mark", "(IZ)V"⟩
abbrev cd_D_mark : ByteArray := prog_2_method_6_code
def yn_D_get : MethodName := ⟨cn_D, "get", "(I)I"⟩
abbrev cd_D_get : ByteArray := prog_2_method_2_code
def yn_D_put : MethodName := ⟨cn_D, "put", "(II)V"⟩
abbrev cd_D_put : ByteArray := prog_2_method_4_code
def yn_I_init : MethodName := ⟨cn_I, "<init>", "(LJournaledFiles$Disk;)V"⟩
abbrev cd_I_init : ByteArray := prog_4_method_1_code
def yn_H_init : MethodName := ⟨cn_H, "<init>", "()V"⟩
abbrev cd_H_init : ByteArray := prog_3_method_1_code
def yn_I_occupy : MethodName := ⟨cn_I, "occupy", "(II)V"⟩
abbrev cd_I_occupy : ByteArray := prog_4_method_10_code
def yn_I_putField : MethodName := ⟨cn_I, "putField", "(III)V"⟩
abbrev cd_I_putField : ByteArray := prog_4_method_3_code
def yn_I_generation : MethodName := ⟨cn_I, "generation", "(I)I"⟩
abbrev cd_I_generation : ByteArray := prog_4_method_6_code
def yn_I_field : MethodName := ⟨cn_I, "field", "(II)I"⟩
abbrev cd_I_field : ByteArray := prog_4_method_2_code
def yn_D_keep : MethodName := ⟨cn_D, "keep", "()V"⟩
abbrev cd_D_keep : ByteArray := prog_2_method_12_code
def yn_J_crash : MethodName := ⟨cn_J, "crash", "()V"⟩
abbrev cd_J_crash : ByteArray := prog_1_method_15_code
def yn_J_losePower : MethodName := ⟨cn_J, "losePower", "()V"⟩
abbrev cd_J_losePower : ByteArray := prog_1_method_39_code
def yn_D_goBack : MethodName := ⟨cn_D, "goBack", "()V"⟩
abbrev cd_D_goBack : ByteArray := prog_2_method_13_code
def yn_J_count : MethodName := ⟨cn_J, "count", "(I)I"⟩
abbrev cd_J_count : ByteArray := prog_1_method_17_code
def yn_D_freeBlocks : MethodName := ⟨cn_D, "freeBlocks", "()I"⟩
abbrev cd_D_freeBlocks : ByteArray := prog_2_method_7_code
def yn_D_isUsed : MethodName := ⟨cn_D, "isUsed", "(I)Z"⟩
abbrev cd_D_isUsed : ByteArray := prog_2_method_5_code
def yn_I_freeInodes : MethodName := ⟨cn_I, "freeInodes", "()I"⟩
abbrev cd_I_freeInodes : ByteArray := prog_4_method_8_code
def yn_I_kind : MethodName := ⟨cn_I, "kind", "(I)I"⟩
abbrev cd_I_kind : ByteArray := prog_4_method_4_code
def yn_J_openHandles : MethodName := ⟨cn_J, "openHandles", "()I"⟩
abbrev cd_J_openHandles : ByteArray := prog_1_method_37_code
def yn_D_differingBlocks : MethodName := ⟨cn_D, "differingBlocks", "()I"⟩
abbrev cd_D_differingBlocks : ByteArray := prog_2_method_10_code
def yn_D_differs : MethodName := ⟨cn_D, "differs", "(I)Z"⟩
abbrev cd_D_differs : ByteArray := prog_2_method_11_code
def yn_D_getKept : MethodName := ⟨cn_D, "getKept", "(I)I"⟩
abbrev cd_D_getKept : ByteArray := prog_2_method_3_code
def yn_J_staleHandles : MethodName := ⟨cn_J, "staleHandles", "()I"⟩
abbrev cd_J_staleHandles : ByteArray := prog_1_method_38_code
def yn_J_isStale : MethodName := ⟨cn_J, "isStale", "(LJournaledFiles$Handle;)Z"⟩
abbrev cd_J_isStale : ByteArray := prog_1_method_36_code
def yn_J_kindFor : MethodName := ⟨cn_J, "kindFor", "(I)I"⟩
abbrev cd_J_kindFor : ByteArray := prog_1_method_32_code
def yn_L_directory : MethodName := ⟨cn_L, "directory", "(LJournaledFiles;I[J)I"⟩
abbrev cd_L_directory : ByteArray := method_3_code
def yn_J_directory : MethodName := ⟨cn_J, "directory", "(I)I"⟩
abbrev cd_J_directory : ByteArray := prog_1_method_2_code
def yn_J_checkPath : MethodName := ⟨cn_J, "checkPath", "(I)V"⟩
abbrev cd_J_checkPath : ByteArray := prog_1_method_19_code
def yn_J_inodeAt : MethodName := ⟨cn_J, "inodeAt", "(I)I"⟩
abbrev cd_J_inodeAt : ByteArray := prog_1_method_22_code
def yn_I_findEntry : MethodName := ⟨cn_I, "findEntry", "(II)I"⟩
abbrev cd_I_findEntry : ByteArray := prog_4_method_21_code
def yn_I_entries : MethodName := ⟨cn_I, "entries", "(I)I"⟩
abbrev cd_I_entries : ByteArray := prog_4_method_7_code
def yn_I_size : MethodName := ⟨cn_I, "size", "(I)I"⟩
abbrev cd_I_size : ByteArray := prog_4_method_5_code
def yn_I_byteOf : MethodName := ⟨cn_I, "byteOf", "(II)I"⟩
abbrev cd_I_byteOf : ByteArray := prog_4_method_13_code
def yn_I_placeOf : MethodName := ⟨cn_I, "placeOf", "(II)I"⟩
abbrev cd_I_placeOf : ByteArray := prog_4_method_12_code
def yn_I_entryInode : MethodName := ⟨cn_I, "entryInode", "(II)I"⟩
abbrev cd_I_entryInode : ByteArray := prog_4_method_19_code
def yn_J_parentNeeded : MethodName := ⟨cn_J, "parentNeeded", "(I)I"⟩
abbrev cd_J_parentNeeded : ByteArray := prog_1_method_24_code
def yn_J_parentPath : MethodName := ⟨cn_J, "parentPath", "(I)I"⟩
abbrev cd_J_parentPath : ByteArray := prog_1_method_20_code
def yn_J_checkRoomForNew : MethodName := ⟨cn_J, "checkRoomForNew", "(I)V"⟩
abbrev cd_J_checkRoomForNew : ByteArray := prog_1_method_25_code
def yn_I_leastFree : MethodName := ⟨cn_I, "leastFree", "()I"⟩
abbrev cd_I_leastFree : ByteArray := prog_4_method_9_code
def yn_I_hasRoomForEntry : MethodName := ⟨cn_I, "hasRoomForEntry", "(I)Z"⟩
abbrev cd_I_hasRoomForEntry : ByteArray := prog_4_method_23_code
def yn_I_startsBlock : MethodName := ⟨cn_I, "startsBlock", "(I)Z"⟩
abbrev cd_I_startsBlock : ByteArray := prog_4_method_22_code
def yn_J_makeNew : MethodName := ⟨cn_J, "makeNew", "(III)I"⟩
abbrev cd_J_makeNew : ByteArray := prog_1_method_27_code
def yn_I_addEntry : MethodName := ⟨cn_I, "addEntry", "(III)V"⟩
abbrev cd_I_addEntry : ByteArray := prog_4_method_24_code
def yn_I_resize : MethodName := ⟨cn_I, "resize", "(II)V"⟩
abbrev cd_I_resize : ByteArray := prog_4_method_17_code
def yn_I_putByte : MethodName := ⟨cn_I, "putByte", "(III)V"⟩
abbrev cd_I_putByte : ByteArray := prog_4_method_14_code
def yn_I_blocksFor : MethodName := ⟨cn_I, "blocksFor", "(I)I"⟩
abbrev cd_I_blocksFor : ByteArray := prog_4_method_15_code
def yn_D_giveBack : MethodName := ⟨cn_D, "giveBack", "(I)V"⟩
abbrev cd_D_giveBack : ByteArray := prog_2_method_9_code
def yn_D_takeBlock : MethodName := ⟨cn_D, "takeBlock", "()I"⟩
abbrev cd_D_takeBlock : ByteArray := prog_2_method_8_code
def yn_I_putEntry : MethodName := ⟨cn_I, "putEntry", "(IIII)V"⟩
abbrev cd_I_putEntry : ByteArray := prog_4_method_20_code
def yn_L_open : MethodName := ⟨cn_L, "open", "(LJournaledFiles;IIZZZ[J)I"⟩
abbrev cd_L_open : ByteArray := method_4_code
def yn_J_open : MethodName := ⟨cn_J, "open", "(IIZZZ)I"⟩
abbrev cd_J_open : ByteArray := prog_1_method_3_code
def yn_J_checkRange : MethodName := ⟨cn_J, "checkRange", "(III)V"⟩
abbrev cd_J_checkRange : ByteArray := prog_1_method_18_code
def yn_J_writesBy : MethodName := ⟨cn_J, "writesBy", "(I)Z"⟩
abbrev cd_J_writesBy : ByteArray := prog_1_method_30_code
def yn_J_closedHandleNeeded : MethodName := ⟨cn_J, "closedHandleNeeded", "()I"⟩
abbrev cd_J_closedHandleNeeded : ByteArray := prog_1_method_33_code
def yn_J_openHandle : MethodName := ⟨cn_J, "openHandle", "(IIII)I"⟩
abbrev cd_J_openHandle : ByteArray := prog_1_method_34_code
def yn_L_close : MethodName := ⟨cn_L, "close", "(LJournaledFiles;I)I"⟩
abbrev cd_L_close : ByteArray := method_5_code
def yn_J_close : MethodName := ⟨cn_J, "close", "(I)V"⟩
abbrev cd_J_close : ByteArray := prog_1_method_4_code
def yn_L_write : MethodName := ⟨cn_L, "write", "(LJournaledFiles;IJI)I"⟩
abbrev cd_L_write : ByteArray := method_6_code
def yn_J_write : MethodName := ⟨cn_J, "write", "(IJI)V"⟩
abbrev cd_J_write : ByteArray := prog_1_method_5_code
def yn_J_usableHandle : MethodName := ⟨cn_J, "usableHandle", "(I)LJournaledFiles$Handle;"⟩
abbrev cd_J_usableHandle : ByteArray := prog_1_method_35_code
def yn_J_checkRoomForSize : MethodName := ⟨cn_J, "checkRoomForSize", "(II)V"⟩
abbrev cd_J_checkRoomForSize : ByteArray := prog_1_method_26_code
def yn_I_hasRoomForSize : MethodName := ⟨cn_I, "hasRoomForSize", "(II)Z"⟩
abbrev cd_I_hasRoomForSize : ByteArray := prog_4_method_16_code
def yn_L_read : MethodName := ⟨cn_L, "read", "(LJournaledFiles;II[J)I"⟩
abbrev cd_L_read : ByteArray := method_7_code
def yn_J_read : MethodName := ⟨cn_J, "read", "(II)J"⟩
abbrev cd_J_read : ByteArray := prog_1_method_6_code
def yn_J_readsBy : MethodName := ⟨cn_J, "readsBy", "(I)Z"⟩
abbrev cd_J_readsBy : ByteArray := prog_1_method_31_code
def yn_L_seek : MethodName := ⟨cn_L, "seek", "(LJournaledFiles;II)I"⟩
abbrev cd_L_seek : ByteArray := method_8_code
def yn_J_seek : MethodName := ⟨cn_J, "seek", "(II)V"⟩
abbrev cd_J_seek : ByteArray := prog_1_method_7_code
def yn_L_next : MethodName := ⟨cn_L, "next", "(LJournaledFiles;I[J)I"⟩
abbrev cd_L_next : ByteArray := method_9_code
def yn_J_next : MethodName := ⟨cn_J, "next", "(I)I"⟩
abbrev cd_J_next : ByteArray := prog_1_method_8_code
def yn_I_entryName : MethodName := ⟨cn_I, "entryName", "(II)I"⟩
abbrev cd_I_entryName : ByteArray := prog_4_method_18_code
def yn_L_remove : MethodName := ⟨cn_L, "remove", "(LJournaledFiles;I)I"⟩
abbrev cd_L_remove : ByteArray := method_10_code
def yn_J_remove : MethodName := ⟨cn_J, "remove", "(I)V"⟩
abbrev cd_J_remove : ByteArray := prog_1_method_9_code
def yn_J_inodeNeeded : MethodName := ⟨cn_J, "inodeNeeded", "(I)I"⟩
abbrev cd_J_inodeNeeded : ByteArray := prog_1_method_23_code
def yn_I_dropEntry : MethodName := ⟨cn_I, "dropEntry", "(II)V"⟩
abbrev cd_I_dropEntry : ByteArray := prog_4_method_26_code
def yn_I_vacate : MethodName := ⟨cn_I, "vacate", "(I)V"⟩
abbrev cd_I_vacate : ByteArray := prog_4_method_11_code
def yn_L_rename : MethodName := ⟨cn_L, "rename", "(LJournaledFiles;II)I"⟩
abbrev cd_L_rename : ByteArray := method_11_code
def yn_J_rename : MethodName := ⟨cn_J, "rename", "(II)V"⟩
abbrev cd_J_rename : ByteArray := prog_1_method_10_code
def yn_J_checkMove : MethodName := ⟨cn_J, "checkMove", "(IIII)V"⟩
abbrev cd_J_checkMove : ByteArray := prog_1_method_28_code
def yn_J_isAtOrBelow : MethodName := ⟨cn_J, "isAtOrBelow", "(II)Z"⟩
abbrev cd_J_isAtOrBelow : ByteArray := prog_1_method_21_code
def yn_J_hasRoomAfterLeaving : MethodName := ⟨cn_J, "hasRoomAfterLeaving", "(II)Z"⟩
abbrev cd_J_hasRoomAfterLeaving : ByteArray := prog_1_method_29_code
def yn_I_redirectEntry : MethodName := ⟨cn_I, "redirectEntry", "(III)V"⟩
abbrev cd_I_redirectEntry : ByteArray := prog_4_method_25_code
def yn_L_truncate : MethodName := ⟨cn_L, "truncate", "(LJournaledFiles;II)I"⟩
abbrev cd_L_truncate : ByteArray := method_12_code
def yn_J_truncate : MethodName := ⟨cn_J, "truncate", "(II)V"⟩
abbrev cd_J_truncate : ByteArray := prog_1_method_11_code
def yn_L_stat : MethodName := ⟨cn_L, "stat", "(LJournaledFiles;II[J)I"⟩
abbrev cd_L_stat : ByteArray := method_13_code
def yn_J_stat : MethodName := ⟨cn_J, "stat", "(II)I"⟩
abbrev cd_J_stat : ByteArray := prog_1_method_12_code
def yn_L_commit : MethodName := ⟨cn_L, "commit", "(LJournaledFiles;[J)I"⟩
abbrev cd_L_commit : ByteArray := method_14_code
def yn_J_commit : MethodName := ⟨cn_J, "commit", "()I"⟩
abbrev cd_J_commit : ByteArray := prog_1_method_13_code
def yn_L_cutPower : MethodName := ⟨cn_L, "cutPower", "(LJournaledFiles;I)I"⟩
abbrev cd_L_cutPower : ByteArray := method_15_code
def yn_J_cutPower : MethodName := ⟨cn_J, "cutPower", "(I)V"⟩
abbrev cd_J_cutPower : ByteArray := prog_1_method_14_code
def yn_L_block : MethodName := ⟨cn_L, "block", "(LJournaledFiles;IIZ[J)I"⟩
abbrev cd_L_block : ByteArray := method_16_code
def yn_J_block : MethodName := ⟨cn_J, "block", "(IIZ)I"⟩
abbrev cd_J_block : ByteArray := prog_1_method_16_code
def yn_M_init : MethodName := ⟨cn_M, "<init>", "()V"⟩
abbrev cd_M_init : ByteArray := prog_6_method_1_code
def yn_M_thrown : MethodName := ⟨cn_M, "thrown", "()I"⟩
abbrev cd_M_thrown : ByteArray := prog_6_method_2_code
def yn_M_directory : MethodName := ⟨cn_M, "directory", "(I)I"⟩
abbrev cd_M_directory : ByteArray := prog_6_method_18_code
def yn_M_badPath : MethodName := ⟨cn_M, "badPath", "(I)Z"⟩
abbrev cd_M_badPath : ByteArray := prog_6_method_15_code
def yn_M_lead : MethodName := ⟨cn_M, "lead", "(I)Z"⟩
abbrev cd_M_lead : ByteArray := prog_6_method_16_code
def yn_M_entryOf : MethodName := ⟨cn_M, "entryOf", "(II)I"⟩
abbrev cd_M_entryOf : ByteArray := prog_6_method_12_code
def yn_M_newInode : MethodName := ⟨cn_M, "newInode", "()I"⟩
abbrev cd_M_newInode : ByteArray := prog_6_method_6_code
def yn_M_entryRoom : MethodName := ⟨cn_M, "entryRoom", "(II)Z"⟩
abbrev cd_M_entryRoom : ByteArray := prog_6_method_17_code
def yn_M_needed : MethodName := ⟨cn_M, "needed", "(I)I"⟩
abbrev cd_M_needed : ByteArray := prog_6_method_7_code
def yn_M_freeBlocks : MethodName := ⟨cn_M, "freeBlocks", "()I"⟩
abbrev cd_M_freeBlocks : ByteArray := prog_6_method_4_code
def yn_M_isUsed : MethodName := ⟨cn_M, "isUsed", "(II)Z"⟩
abbrev cd_M_isUsed : ByteArray := prog_6_method_3_code
def yn_M_create : MethodName := ⟨cn_M, "create", "(I)I"⟩
abbrev cd_M_create : ByteArray := prog_6_method_11_code
def yn_M_addEntry : MethodName := ⟨cn_M, "addEntry", "(III)V"⟩
abbrev cd_M_addEntry : ByteArray := prog_6_method_13_code
def yn_M_resize : MethodName := ⟨cn_M, "resize", "(II)V"⟩
abbrev cd_M_resize : ByteArray := prog_6_method_9_code
def yn_M_newBlock : MethodName := ⟨cn_M, "newBlock", "()I"⟩
abbrev cd_M_newBlock : ByteArray := prog_6_method_5_code
def yn_M_open : MethodName := ⟨cn_M, "open", "(IIZZZ)I"⟩
abbrev cd_M_open : ByteArray := prog_6_method_20_code
def yn_M_closedHandle : MethodName := ⟨cn_M, "closedHandle", "()I"⟩
abbrev cd_M_closedHandle : ByteArray := prog_6_method_19_code
def yn_M_close : MethodName := ⟨cn_M, "close", "(I)V"⟩
abbrev cd_M_close : ByteArray := prog_6_method_21_code
def yn_M_write : MethodName := ⟨cn_M, "write", "(IJI)V"⟩
abbrev cd_M_write : ByteArray := prog_6_method_24_code
def yn_M_wrong : MethodName := ⟨cn_M, "wrong", "(III)I"⟩
abbrev cd_M_wrong : ByteArray := prog_6_method_23_code
def yn_M_stale : MethodName := ⟨cn_M, "stale", "(I)Z"⟩
abbrev cd_M_stale : ByteArray := prog_6_method_22_code
def yn_M_roomFor : MethodName := ⟨cn_M, "roomFor", "(II)Z"⟩
abbrev cd_M_roomFor : ByteArray := prog_6_method_8_code
def yn_M_read : MethodName := ⟨cn_M, "read", "(II)J"⟩
abbrev cd_M_read : ByteArray := prog_6_method_25_code
def yn_M_seek : MethodName := ⟨cn_M, "seek", "(II)V"⟩
abbrev cd_M_seek : ByteArray := prog_6_method_26_code
def yn_M_next : MethodName := ⟨cn_M, "next", "(I)I"⟩
abbrev cd_M_next : ByteArray := prog_6_method_27_code
def yn_M_remove : MethodName := ⟨cn_M, "remove", "(I)V"⟩
abbrev cd_M_remove : ByteArray := prog_6_method_28_code
def yn_M_dropEntry : MethodName := ⟨cn_M, "dropEntry", "(II)V"⟩
abbrev cd_M_dropEntry : ByteArray := prog_6_method_14_code
def yn_M_release : MethodName := ⟨cn_M, "release", "(I)V"⟩
abbrev cd_M_release : ByteArray := prog_6_method_10_code
def yn_M_rename : MethodName := ⟨cn_M, "rename", "(II)V"⟩
abbrev cd_M_rename : ByteArray := prog_6_method_30_code
def yn_M_within : MethodName := ⟨cn_M, "within", "(II)Z"⟩
abbrev cd_M_within : ByteArray := prog_6_method_29_code
def yn_M_truncate : MethodName := ⟨cn_M, "truncate", "(II)V"⟩
abbrev cd_M_truncate : ByteArray := prog_6_method_31_code
def yn_M_stat : MethodName := ⟨cn_M, "stat", "(II)I"⟩
abbrev cd_M_stat : ByteArray := prog_6_method_32_code
def yn_M_commit : MethodName := ⟨cn_M, "commit", "()I"⟩
abbrev cd_M_commit : ByteArray := prog_6_method_38_code
def yn_M_differing : MethodName := ⟨cn_M, "differing", "()I"⟩
abbrev cd_M_differing : ByteArray := prog_6_method_36_code
def yn_M_byteOf : MethodName := ⟨cn_M, "byteOf", "(III)I"⟩
abbrev cd_M_byteOf : ByteArray := prog_6_method_35_code
def yn_M_mapByte : MethodName := ⟨cn_M, "mapByte", "(II)I"⟩
abbrev cd_M_mapByte : ByteArray := prog_6_method_33_code
def yn_M_inodeByte : MethodName := ⟨cn_M, "inodeByte", "(II)I"⟩
abbrev cd_M_inodeByte : ByteArray := prog_6_method_34_code
def yn_M_copyTables : MethodName := ⟨cn_M, "copyTables", "(II)V"⟩
abbrev cd_M_copyTables : ByteArray := prog_6_method_37_code
def yn_M_crash : MethodName := ⟨cn_M, "crash", "()V"⟩
abbrev cd_M_crash : ByteArray := prog_6_method_40_code
def yn_M_cutPower : MethodName := ⟨cn_M, "cutPower", "(I)V"⟩
abbrev cd_M_cutPower : ByteArray := prog_6_method_39_code
def yn_M_block : MethodName := ⟨cn_M, "block", "(IIZ)I"⟩
abbrev cd_M_block : ByteArray := prog_6_method_41_code
def yn_M_count : MethodName := ⟨cn_M, "count", "(I)I"⟩
abbrev cd_M_count : ByteArray := prog_6_method_42_code
abbrev jcl : List vw_C := [(cn_D, ft_D, 2), (cn_H, ft_H, 5), (cn_I, ft_I, 1), (cn_J, ft_J, 6), (cn_M, ft_M, 17)]
/-- the words that hold in every frame -/
def jb : List Cond := lw_tbl.filter goodWord
theorem jb_t {w : Cond} (h : w ∈ tables_1) (g : goodWord w = true) : w ∈ jb := List.mem_filter.mpr ⟨List.mem_append_right _ h, g⟩
theorem jb_s {w : Cond} (h : w ∈ k2_sels lw_privs) (g : goodWord w = true) : w ∈ jb := List.mem_filter.mpr ⟨List.mem_append_left _ h, g⟩
theorem jb_g {w : Cond} (h : w ∈ jb) : goodWord w = true := (List.mem_filter.mp h).2
theorem jb_good {c : Cond} {L : List Cond} (h : ∀ w ∈ L, w ∈ jb) : GoodIn (c :: jb) L := fun w hw => ⟨List.mem_cons_of_mem _ (h w hw), good_of_word (jb_g (h w hw))⟩
theorem jb_law {L : List Cond} (h : ∀ w ∈ L, w ∈ jb) : GoodIn lw_tbl L := fun w hw => ⟨(List.mem_filter.mp (h w hw)).1, good_of_word (jb_g (h w hw))⟩
theorem tw_0 : Cond.initialized "JournaledFilesLaw" ∈ jb := jb_t (List.mem_append_left _ (List.mem_of_getElem? (i := 0) rfl)) rfl
theorem tw_1 : Cond.initialized "JournaledFiles" ∈ jb := jb_t (List.mem_append_left _ (List.mem_of_getElem? (i := 1) rfl)) rfl
theorem tw_2 : Cond.initialized "JournaledFiles$Disk" ∈ jb := jb_t (List.mem_append_left _ (List.mem_of_getElem? (i := 2) rfl)) rfl
theorem tw_3 : Cond.initialized "JournaledFiles$Inodes" ∈ jb := jb_t (List.mem_append_left _ (List.mem_of_getElem? (i := 3) rfl)) rfl
theorem tw_4 : Cond.initialized "JournaledFiles$Handle" ∈ jb := jb_t (List.mem_append_left _ (List.mem_of_getElem? (i := 4) rfl)) rfl
theorem tw_5 : Cond.initialized "java/lang/System" ∈ jb := jb_t (List.mem_append_left _ (List.mem_of_getElem? (i := 5) rfl)) rfl
theorem tw_6 : Cond.initialized "JournaledFilesModel" ∈ jb := jb_t (List.mem_append_left _ (List.mem_of_getElem? (i := 6) rfl)) rfl
theorem tw_14 : Cond.initialized "java/lang/Math" ∈ jb := jb_t (List.mem_append_left _ (List.mem_of_getElem? (i := 14) rfl)) rfl
theorem tw_15 : Cond.classLink "JournaledFilesLaw" 8 "JournaledFiles" ∈ jb := jb_t (List.mem_append_left _ (List.mem_of_getElem? (i := 15) rfl)) rfl
theorem tw_16 : Cond.instantiable "JournaledFiles" 6 ∈ jb := jb_t (List.mem_append_left _ (List.mem_of_getElem? (i := 16) rfl)) rfl
theorem tw_17 : Cond.methodLink "JournaledFilesLaw" 68 yn_J_init ∈ jb := jb_t (List.mem_append_left _ (List.mem_of_getElem? (i := 17) rfl)) rfl
theorem tw_18 : Cond.instanceMethod yn_J_init ∈ jb := jb_t (List.mem_append_left _ (List.mem_of_getElem? (i := 18) rfl)) rfl
theorem tw_19 : Cond.code yn_J_init prog_1_method_1_code 2 none ∈ jb := jb_t (List.mem_append_left _ (List.mem_of_getElem? (i := 19) rfl)) rfl
theorem tw_20 : Cond.methodLink "JournaledFiles" 3 ⟨"java/lang/Object", "<init>", "()V"⟩ ∈ jb := jb_t (List.mem_append_left _ (List.mem_of_getElem? (i := 20) rfl)) rfl
theorem tw_21 : Cond.instanceMethod ⟨"java/lang/Object", "<init>", "()V"⟩ ∈ jb := jb_t (List.mem_append_left _ (List.mem_of_getElem? (i := 21) rfl)) rfl
theorem tw_22 : Cond.code ⟨"java/lang/Object", "<init>", "()V"⟩ object_method_1_code 1 none ∈ jb := jb_t (List.mem_append_left _ (List.mem_of_getElem? (i := 22) rfl)) rfl
theorem tw_23 : Cond.classLink "JournaledFiles" 9 "JournaledFiles$Disk" ∈ jb := jb_t (List.mem_append_left _ (List.mem_of_getElem? (i := 23) rfl)) rfl
theorem tw_24 : Cond.instantiable "JournaledFiles$Disk" 2 ∈ jb := jb_t (List.mem_append_left _ (List.mem_of_getElem? (i := 24) rfl)) rfl
theorem tw_25 : Cond.methodLink "JournaledFiles" 11 yn_D_init ∈ jb := jb_t (List.mem_append_left _ (List.mem_of_getElem? (i := 25) rfl)) rfl
theorem tw_26 : Cond.instanceMethod yn_D_init ∈ jb := jb_t (List.mem_append_left _ (List.mem_of_getElem? (i := 26) rfl)) rfl
theorem tw_27 : Cond.code yn_D_init prog_2_method_1_code 2 none ∈ jb := jb_t (List.mem_append_left _ (List.mem_of_getElem? (i := 27) rfl)) rfl
theorem tw_28 : Cond.methodLink "JournaledFiles$Disk" 3 ⟨"java/lang/Object", "<init>", "()V"⟩ ∈ jb := jb_t (List.mem_append_left _ (List.mem_of_getElem? (i := 28) rfl)) rfl
theorem tw_29 : Cond.methodLink "JournaledFiles$Disk" 18 yn_D_mark ∈ jb := jb_t (List.mem_append_left _ (List.mem_of_getElem? (i := 29) rfl)) rfl
theorem tw_31 : Cond.instanceMethod yn_D_mark ∈ jb := jb_t (List.mem_append_left _ (List.mem_of_getElem? (i := 31) rfl)) rfl
theorem tw_32 : Cond.code yn_D_mark prog_2_method_6_code 5 none ∈ jb := jb_t (List.mem_append_left _ (List.mem_of_getElem? (i := 32) rfl)) rfl
theorem tw_33 : Cond.methodLink "JournaledFiles$Disk" 22 yn_D_get ∈ jb := jb_t (List.mem_append_left _ (List.mem_of_getElem? (i := 33) rfl)) rfl
theorem tw_34 : Cond.instanceMethod yn_D_get ∈ jb := jb_t (List.mem_append_left _ (List.mem_of_getElem? (i := 34) rfl)) rfl
theorem tw_35 : Cond.selects "JournaledFiles$Disk" yn_D_get yn_D_get ∈ jb := jb_t (List.mem_append_left _ (List.mem_of_getElem? (i := 35) rfl)) rfl
theorem tw_36 : Cond.code yn_D_get prog_2_method_2_code 2 (some .int) ∈ jb := jb_t (List.mem_append_left _ (List.mem_of_getElem? (i := 36) rfl)) rfl
theorem tw_37 : Cond.methodLink "JournaledFiles$Disk" 26 yn_D_put ∈ jb := jb_t (List.mem_append_left _ (List.mem_of_getElem? (i := 37) rfl)) rfl
theorem tw_38 : Cond.instanceMethod yn_D_put ∈ jb := jb_t (List.mem_append_left _ (List.mem_of_getElem? (i := 38) rfl)) rfl
theorem tw_39 : Cond.selects "JournaledFiles$Disk" yn_D_put yn_D_put ∈ jb := jb_t (List.mem_append_left _ (List.mem_of_getElem? (i := 39) rfl)) rfl
theorem tw_40 : Cond.code yn_D_put prog_2_method_4_code 3 none ∈ jb := jb_t (List.mem_append_left _ (List.mem_of_getElem? (i := 40) rfl)) rfl
theorem tw_41 : Cond.fieldLink "JournaledFiles$Disk" 9 "JournaledFiles$Disk" "state" "[I" ∈ jb := jb_t (List.mem_append_left _ (List.mem_of_getElem? (i := 41) rfl)) rfl
theorem tw_42 : Cond.fieldLink "JournaledFiles$Disk" 15 "JournaledFiles$Disk" "committed" "[I" ∈ jb := jb_t (List.mem_append_left _ (List.mem_of_getElem? (i := 42) rfl)) rfl
theorem tw_43 : Cond.laysFinal "JournaledFiles$Disk" "JournaledFiles$Disk" "state" "[I" ∈ jb := jb_t (List.mem_append_left _ (List.mem_of_getElem? (i := 43) rfl)) rfl
theorem tw_45 : Cond.laysFinal "JournaledFiles$Disk" "JournaledFiles$Disk" "committed" "[I" ∈ jb := jb_t (List.mem_append_left _ (List.mem_of_getElem? (i := 45) rfl)) rfl
theorem tw_48 : Cond.arrayClass .int ∈ jb := jb_t (List.mem_append_left _ (List.mem_of_getElem? (i := 48) rfl)) rfl
theorem tw_49 : Cond.classLink "JournaledFiles" 16 "JournaledFiles$Inodes" ∈ jb := jb_t (List.mem_append_left _ (List.mem_of_getElem? (i := 49) rfl)) rfl
theorem tw_50 : Cond.instantiable "JournaledFiles$Inodes" 1 ∈ jb := jb_t (List.mem_append_left _ (List.mem_of_getElem? (i := 50) rfl)) rfl
theorem tw_51 : Cond.methodLink "JournaledFiles" 18 yn_I_init ∈ jb := jb_t (List.mem_append_left _ (List.mem_of_getElem? (i := 51) rfl)) rfl
theorem tw_52 : Cond.instanceMethod yn_I_init ∈ jb := jb_t (List.mem_append_left _ (List.mem_of_getElem? (i := 52) rfl)) rfl
theorem tw_53 : Cond.code yn_I_init prog_4_method_1_code 2 none ∈ jb := jb_t (List.mem_append_left _ (List.mem_of_getElem? (i := 53) rfl)) rfl
theorem tw_54 : Cond.methodLink "JournaledFiles$Inodes" 3 ⟨"java/lang/Object", "<init>", "()V"⟩ ∈ jb := jb_t (List.mem_append_left _ (List.mem_of_getElem? (i := 54) rfl)) rfl
theorem tw_55 : Cond.fieldLink "JournaledFiles$Inodes" 9 "JournaledFiles$Inodes" "disk" "LJournaledFiles$Disk;" ∈ jb := jb_t (List.mem_append_left _ (List.mem_of_getElem? (i := 55) rfl)) rfl
theorem tw_56 : Cond.laysFinal "JournaledFiles$Inodes" "JournaledFiles$Inodes" "disk" "LJournaledFiles$Disk;" ∈ jb := jb_t (List.mem_append_left _ (List.mem_of_getElem? (i := 56) rfl)) rfl
theorem tw_59 : Cond.classLink "JournaledFiles" 25 "JournaledFiles$Handle" ∈ jb := jb_t (List.mem_append_left _ (List.mem_of_getElem? (i := 59) rfl)) rfl
theorem tw_61 : Cond.instantiable "JournaledFiles$Handle" 5 ∈ jb := jb_t (List.mem_append_left _ (List.mem_of_getElem? (i := 61) rfl)) rfl
theorem tw_63 : Cond.instanceMethod yn_H_init ∈ jb := jb_t (List.mem_append_left _ (List.mem_of_getElem? (i := 63) rfl)) rfl
theorem tw_64 : Cond.code yn_H_init prog_3_method_1_code 1 none ∈ jb := jb_t (List.mem_append_left _ (List.mem_of_getElem? (i := 64) rfl)) rfl
theorem tw_65 : Cond.methodLink "JournaledFiles$Handle" 1 ⟨"java/lang/Object", "<init>", "()V"⟩ ∈ jb := jb_t (List.mem_append_left _ (List.mem_of_getElem? (i := 65) rfl)) rfl
theorem tw_66 : Cond.fieldLink "JournaledFiles" 99 "JournaledFiles$Handle" "isOpen" "Z" ∈ jb := jb_t (List.mem_append_left _ (List.mem_of_getElem? (i := 66) rfl)) rfl
theorem tw_67 : Cond.fieldLink "JournaledFiles" 118 "JournaledFiles$Handle" "inode" "I" ∈ jb := jb_t (List.mem_append_left _ (List.mem_of_getElem? (i := 67) rfl)) rfl
theorem tw_68 : Cond.fieldLink "JournaledFiles" 271 "JournaledFiles$Handle" "generation" "I" ∈ jb := jb_t (List.mem_append_left _ (List.mem_of_getElem? (i := 68) rfl)) rfl
theorem tw_69 : Cond.fieldLink "JournaledFiles" 109 "JournaledFiles$Handle" "mode" "I" ∈ jb := jb_t (List.mem_append_left _ (List.mem_of_getElem? (i := 69) rfl)) rfl
theorem tw_70 : Cond.fieldLink "JournaledFiles" 115 "JournaledFiles$Handle" "position" "I" ∈ jb := jb_t (List.mem_append_left _ (List.mem_of_getElem? (i := 70) rfl)) rfl
theorem tw_71 : Cond.lays "JournaledFiles$Handle" "JournaledFiles$Handle" "isOpen" "Z" ∈ jb := jb_t (List.mem_append_left _ (List.mem_of_getElem? (i := 71) rfl)) rfl
theorem tw_73 : Cond.lays "JournaledFiles$Handle" "JournaledFiles$Handle" "inode" "I" ∈ jb := jb_t (List.mem_append_left _ (List.mem_of_getElem? (i := 73) rfl)) rfl
theorem tw_75 : Cond.lays "JournaledFiles$Handle" "JournaledFiles$Handle" "generation" "I" ∈ jb := jb_t (List.mem_append_left _ (List.mem_of_getElem? (i := 75) rfl)) rfl
theorem tw_77 : Cond.lays "JournaledFiles$Handle" "JournaledFiles$Handle" "mode" "I" ∈ jb := jb_t (List.mem_append_left _ (List.mem_of_getElem? (i := 77) rfl)) rfl
theorem tw_79 : Cond.lays "JournaledFiles$Handle" "JournaledFiles$Handle" "position" "I" ∈ jb := jb_t (List.mem_append_left _ (List.mem_of_getElem? (i := 79) rfl)) rfl
theorem tw_82 : Cond.methodLink "JournaledFiles" 32 yn_I_occupy ∈ jb := jb_t (List.mem_append_left _ (List.mem_of_getElem? (i := 82) rfl)) rfl
theorem tw_83 : Cond.instanceMethod yn_I_occupy ∈ jb := jb_t (List.mem_append_left _ (List.mem_of_getElem? (i := 83) rfl)) rfl
theorem tw_84 : Cond.selects "JournaledFiles$Inodes" yn_I_occupy yn_I_occupy ∈ jb := jb_t (List.mem_append_left _ (List.mem_of_getElem? (i := 84) rfl)) rfl
theorem tw_85 : Cond.code yn_I_occupy prog_4_method_10_code 3 none ∈ jb := jb_t (List.mem_append_left _ (List.mem_of_getElem? (i := 85) rfl)) rfl
theorem tw_86 : Cond.methodLink "JournaledFiles$Inodes" 35 yn_I_putField ∈ jb := jb_t (List.mem_append_left _ (List.mem_of_getElem? (i := 86) rfl)) rfl
theorem tw_88 : Cond.instanceMethod yn_I_putField ∈ jb := jb_t (List.mem_append_left _ (List.mem_of_getElem? (i := 88) rfl)) rfl
theorem tw_89 : Cond.code yn_I_putField prog_4_method_3_code 4 none ∈ jb := jb_t (List.mem_append_left _ (List.mem_of_getElem? (i := 89) rfl)) rfl
theorem tw_90 : Cond.methodLink "JournaledFiles$Inodes" 21 yn_D_put ∈ jb := jb_t (List.mem_append_left _ (List.mem_of_getElem? (i := 90) rfl)) rfl
theorem tw_91 : Cond.methodLink "JournaledFiles$Inodes" 39 yn_I_generation ∈ jb := jb_t (List.mem_append_left _ (List.mem_of_getElem? (i := 91) rfl)) rfl
theorem tw_92 : Cond.instanceMethod yn_I_generation ∈ jb := jb_t (List.mem_append_left _ (List.mem_of_getElem? (i := 92) rfl)) rfl
theorem tw_93 : Cond.selects "JournaledFiles$Inodes" yn_I_generation yn_I_generation ∈ jb := jb_t (List.mem_append_left _ (List.mem_of_getElem? (i := 93) rfl)) rfl
theorem tw_94 : Cond.code yn_I_generation prog_4_method_6_code 2 (some .int) ∈ jb := jb_t (List.mem_append_left _ (List.mem_of_getElem? (i := 94) rfl)) rfl
theorem tw_95 : Cond.methodLink "JournaledFiles$Inodes" 25 yn_I_field ∈ jb := jb_t (List.mem_append_left _ (List.mem_of_getElem? (i := 95) rfl)) rfl
theorem tw_97 : Cond.instanceMethod yn_I_field ∈ jb := jb_t (List.mem_append_left _ (List.mem_of_getElem? (i := 97) rfl)) rfl
theorem tw_98 : Cond.code yn_I_field prog_4_method_2_code 3 (some .int) ∈ jb := jb_t (List.mem_append_left _ (List.mem_of_getElem? (i := 98) rfl)) rfl
theorem tw_99 : Cond.methodLink "JournaledFiles$Inodes" 15 yn_D_get ∈ jb := jb_t (List.mem_append_left _ (List.mem_of_getElem? (i := 99) rfl)) rfl
theorem tw_100 : Cond.methodLink "JournaledFiles" 36 yn_D_keep ∈ jb := jb_t (List.mem_append_left _ (List.mem_of_getElem? (i := 100) rfl)) rfl
theorem tw_101 : Cond.instanceMethod yn_D_keep ∈ jb := jb_t (List.mem_append_left _ (List.mem_of_getElem? (i := 101) rfl)) rfl
theorem tw_102 : Cond.selects "JournaledFiles$Disk" yn_D_keep yn_D_keep ∈ jb := jb_t (List.mem_append_left _ (List.mem_of_getElem? (i := 102) rfl)) rfl
theorem tw_103 : Cond.code yn_D_keep prog_2_method_12_code 1 none ∈ jb := jb_t (List.mem_append_left _ (List.mem_of_getElem? (i := 103) rfl)) rfl
theorem tw_104 : Cond.methodLink "JournaledFiles$Disk" 40 ⟨"java/lang/System", "arraycopy", "(Ljava/lang/Object;ILjava/lang/Object;II)V"⟩ ∈ jb := jb_t (List.mem_append_left _ (List.mem_of_getElem? (i := 104) rfl)) rfl
theorem tw_105 : Cond.static ⟨"java/lang/System", "arraycopy", "(Ljava/lang/Object;ILjava/lang/Object;II)V"⟩ ∈ jb := jb_t (List.mem_append_left _ (List.mem_of_getElem? (i := 105) rfl)) rfl
theorem tw_106 : Cond.native ⟨"java/lang/System", "arraycopy", "(Ljava/lang/Object;ILjava/lang/Object;II)V"⟩ ∈ jb := jb_t (List.mem_append_left _ (List.mem_of_getElem? (i := 106) rfl)) rfl
theorem tw_107 : Cond.fieldLink "JournaledFiles" 12 "JournaledFiles" "disk" "LJournaledFiles$Disk;" ∈ jb := jb_t (List.mem_append_left _ (List.mem_of_getElem? (i := 107) rfl)) rfl
theorem tw_108 : Cond.fieldLink "JournaledFiles" 21 "JournaledFiles" "inodes" "LJournaledFiles$Inodes;" ∈ jb := jb_t (List.mem_append_left _ (List.mem_of_getElem? (i := 108) rfl)) rfl
theorem tw_109 : Cond.fieldLink "JournaledFiles" 27 "JournaledFiles" "handles" "[LJournaledFiles$Handle;" ∈ jb := jb_t (List.mem_append_left _ (List.mem_of_getElem? (i := 109) rfl)) rfl
theorem tw_110 : Cond.fieldLink "JournaledFiles" 197 "JournaledFiles" "writesToCut" "I" ∈ jb := jb_t (List.mem_append_left _ (List.mem_of_getElem? (i := 110) rfl)) rfl
theorem tw_111 : Cond.fieldLink "JournaledFiles" 200 "JournaledFiles" "writesDone" "I" ∈ jb := jb_t (List.mem_append_left _ (List.mem_of_getElem? (i := 111) rfl)) rfl
theorem tw_112 : Cond.fieldLink "JournaledFiles" 223 "JournaledFiles" "timesOff" "I" ∈ jb := jb_t (List.mem_append_left _ (List.mem_of_getElem? (i := 112) rfl)) rfl
theorem tw_113 : Cond.laysFinal "JournaledFiles" "JournaledFiles" "disk" "LJournaledFiles$Disk;" ∈ jb := jb_t (List.mem_append_left _ (List.mem_of_getElem? (i := 113) rfl)) rfl
theorem tw_115 : Cond.laysFinal "JournaledFiles" "JournaledFiles" "inodes" "LJournaledFiles$Inodes;" ∈ jb := jb_t (List.mem_append_left _ (List.mem_of_getElem? (i := 115) rfl)) rfl
theorem tw_117 : Cond.laysFinal "JournaledFiles" "JournaledFiles" "handles" "[LJournaledFiles$Handle;" ∈ jb := jb_t (List.mem_append_left _ (List.mem_of_getElem? (i := 117) rfl)) rfl
theorem tw_119 : Cond.lays "JournaledFiles" "JournaledFiles" "writesToCut" "I" ∈ jb := jb_t (List.mem_append_left _ (List.mem_of_getElem? (i := 119) rfl)) rfl
theorem tw_121 : Cond.lays "JournaledFiles" "JournaledFiles" "writesDone" "I" ∈ jb := jb_t (List.mem_append_left _ (List.mem_of_getElem? (i := 121) rfl)) rfl
theorem tw_123 : Cond.lays "JournaledFiles" "JournaledFiles" "timesOff" "I" ∈ jb := jb_t (List.mem_append_left _ (List.mem_of_getElem? (i := 123) rfl)) rfl
theorem tw_126 : Cond.methodLink "JournaledFilesLaw" 125 yn_J_crash ∈ jb := jb_t (List.mem_append_left _ (List.mem_of_getElem? (i := 126) rfl)) rfl
theorem tw_127 : Cond.instanceMethod yn_J_crash ∈ jb := jb_t (List.mem_append_left _ (List.mem_of_getElem? (i := 127) rfl)) rfl
theorem tw_128 : Cond.selects "JournaledFiles" yn_J_crash yn_J_crash ∈ jb := jb_t (List.mem_append_left _ (List.mem_of_getElem? (i := 128) rfl)) rfl
theorem tw_129 : Cond.code yn_J_crash prog_1_method_15_code 1 none ∈ jb := jb_t (List.mem_append_left _ (List.mem_of_getElem? (i := 129) rfl)) rfl
theorem tw_130 : Cond.methodLink "JournaledFiles" 203 yn_J_losePower ∈ jb := jb_t (List.mem_append_left _ (List.mem_of_getElem? (i := 130) rfl)) rfl
theorem tw_132 : Cond.instanceMethod yn_J_losePower ∈ jb := jb_t (List.mem_append_left _ (List.mem_of_getElem? (i := 132) rfl)) rfl
theorem tw_133 : Cond.code yn_J_losePower prog_1_method_39_code 2 none ∈ jb := jb_t (List.mem_append_left _ (List.mem_of_getElem? (i := 133) rfl)) rfl
theorem tw_134 : Cond.methodLink "JournaledFiles" 279 yn_D_goBack ∈ jb := jb_t (List.mem_append_left _ (List.mem_of_getElem? (i := 134) rfl)) rfl
theorem tw_135 : Cond.instanceMethod yn_D_goBack ∈ jb := jb_t (List.mem_append_left _ (List.mem_of_getElem? (i := 135) rfl)) rfl
theorem tw_136 : Cond.selects "JournaledFiles$Disk" yn_D_goBack yn_D_goBack ∈ jb := jb_t (List.mem_append_left _ (List.mem_of_getElem? (i := 136) rfl)) rfl
theorem tw_137 : Cond.code yn_D_goBack prog_2_method_13_code 1 none ∈ jb := jb_t (List.mem_append_left _ (List.mem_of_getElem? (i := 137) rfl)) rfl
theorem tw_138 : Cond.methodLink "JournaledFilesLaw" 133 yn_J_count ∈ jb := jb_t (List.mem_append_left _ (List.mem_of_getElem? (i := 138) rfl)) rfl
theorem tw_139 : Cond.instanceMethod yn_J_count ∈ jb := jb_t (List.mem_append_left _ (List.mem_of_getElem? (i := 139) rfl)) rfl
theorem tw_140 : Cond.selects "JournaledFiles" yn_J_count yn_J_count ∈ jb := jb_t (List.mem_append_left _ (List.mem_of_getElem? (i := 140) rfl)) rfl
theorem tw_141 : Cond.code yn_J_count prog_1_method_17_code 2 (some .int) ∈ jb := jb_t (List.mem_append_left _ (List.mem_of_getElem? (i := 141) rfl)) rfl
theorem tw_142 : Cond.methodLink "JournaledFiles" 214 yn_D_freeBlocks ∈ jb := jb_t (List.mem_append_left _ (List.mem_of_getElem? (i := 142) rfl)) rfl
theorem tw_143 : Cond.instanceMethod yn_D_freeBlocks ∈ jb := jb_t (List.mem_append_left _ (List.mem_of_getElem? (i := 143) rfl)) rfl
theorem tw_144 : Cond.selects "JournaledFiles$Disk" yn_D_freeBlocks yn_D_freeBlocks ∈ jb := jb_t (List.mem_append_left _ (List.mem_of_getElem? (i := 144) rfl)) rfl
theorem tw_145 : Cond.code yn_D_freeBlocks prog_2_method_7_code 3 (some .int) ∈ jb := jb_t (List.mem_append_left _ (List.mem_of_getElem? (i := 145) rfl)) rfl
theorem tw_146 : Cond.methodLink "JournaledFiles$Disk" 30 yn_D_isUsed ∈ jb := jb_t (List.mem_append_left _ (List.mem_of_getElem? (i := 146) rfl)) rfl
theorem tw_148 : Cond.instanceMethod yn_D_isUsed ∈ jb := jb_t (List.mem_append_left _ (List.mem_of_getElem? (i := 148) rfl)) rfl
theorem tw_149 : Cond.code yn_D_isUsed prog_2_method_5_code 2 (some .boolean) ∈ jb := jb_t (List.mem_append_left _ (List.mem_of_getElem? (i := 149) rfl)) rfl
theorem tw_150 : Cond.methodLink "JournaledFiles" 217 yn_I_freeInodes ∈ jb := jb_t (List.mem_append_left _ (List.mem_of_getElem? (i := 150) rfl)) rfl
theorem tw_151 : Cond.instanceMethod yn_I_freeInodes ∈ jb := jb_t (List.mem_append_left _ (List.mem_of_getElem? (i := 151) rfl)) rfl
theorem tw_152 : Cond.selects "JournaledFiles$Inodes" yn_I_freeInodes yn_I_freeInodes ∈ jb := jb_t (List.mem_append_left _ (List.mem_of_getElem? (i := 152) rfl)) rfl
theorem tw_153 : Cond.code yn_I_freeInodes prog_4_method_8_code 3 (some .int) ∈ jb := jb_t (List.mem_append_left _ (List.mem_of_getElem? (i := 153) rfl)) rfl
theorem tw_154 : Cond.methodLink "JournaledFiles$Inodes" 29 yn_I_kind ∈ jb := jb_t (List.mem_append_left _ (List.mem_of_getElem? (i := 154) rfl)) rfl
theorem tw_155 : Cond.instanceMethod yn_I_kind ∈ jb := jb_t (List.mem_append_left _ (List.mem_of_getElem? (i := 155) rfl)) rfl
theorem tw_156 : Cond.selects "JournaledFiles$Inodes" yn_I_kind yn_I_kind ∈ jb := jb_t (List.mem_append_left _ (List.mem_of_getElem? (i := 156) rfl)) rfl
theorem tw_157 : Cond.code yn_I_kind prog_4_method_4_code 2 (some .int) ∈ jb := jb_t (List.mem_append_left _ (List.mem_of_getElem? (i := 157) rfl)) rfl
theorem tw_158 : Cond.methodLink "JournaledFiles" 220 yn_J_openHandles ∈ jb := jb_t (List.mem_append_left _ (List.mem_of_getElem? (i := 158) rfl)) rfl
theorem tw_160 : Cond.instanceMethod yn_J_openHandles ∈ jb := jb_t (List.mem_append_left _ (List.mem_of_getElem? (i := 160) rfl)) rfl
theorem tw_161 : Cond.code yn_J_openHandles prog_1_method_37_code 3 (some .int) ∈ jb := jb_t (List.mem_append_left _ (List.mem_of_getElem? (i := 161) rfl)) rfl
theorem tw_162 : Cond.methodLink "JournaledFiles" 194 yn_D_differingBlocks ∈ jb := jb_t (List.mem_append_left _ (List.mem_of_getElem? (i := 162) rfl)) rfl
theorem tw_163 : Cond.instanceMethod yn_D_differingBlocks ∈ jb := jb_t (List.mem_append_left _ (List.mem_of_getElem? (i := 163) rfl)) rfl
theorem tw_164 : Cond.selects "JournaledFiles$Disk" yn_D_differingBlocks yn_D_differingBlocks ∈ jb := jb_t (List.mem_append_left _ (List.mem_of_getElem? (i := 164) rfl)) rfl
theorem tw_165 : Cond.code yn_D_differingBlocks prog_2_method_10_code 3 (some .int) ∈ jb := jb_t (List.mem_append_left _ (List.mem_of_getElem? (i := 165) rfl)) rfl
theorem tw_166 : Cond.methodLink "JournaledFiles$Disk" 34 yn_D_differs ∈ jb := jb_t (List.mem_append_left _ (List.mem_of_getElem? (i := 166) rfl)) rfl
theorem tw_168 : Cond.instanceMethod yn_D_differs ∈ jb := jb_t (List.mem_append_left _ (List.mem_of_getElem? (i := 168) rfl)) rfl
theorem tw_169 : Cond.code yn_D_differs prog_2_method_11_code 4 (some .boolean) ∈ jb := jb_t (List.mem_append_left _ (List.mem_of_getElem? (i := 169) rfl)) rfl
theorem tw_170 : Cond.methodLink "JournaledFiles$Disk" 37 yn_D_getKept ∈ jb := jb_t (List.mem_append_left _ (List.mem_of_getElem? (i := 170) rfl)) rfl
theorem tw_171 : Cond.instanceMethod yn_D_getKept ∈ jb := jb_t (List.mem_append_left _ (List.mem_of_getElem? (i := 171) rfl)) rfl
theorem tw_172 : Cond.selects "JournaledFiles$Disk" yn_D_getKept yn_D_getKept ∈ jb := jb_t (List.mem_append_left _ (List.mem_of_getElem? (i := 172) rfl)) rfl
theorem tw_173 : Cond.code yn_D_getKept prog_2_method_3_code 2 (some .int) ∈ jb := jb_t (List.mem_append_left _ (List.mem_of_getElem? (i := 173) rfl)) rfl
theorem tw_174 : Cond.methodLink "JournaledFiles" 226 yn_J_staleHandles ∈ jb := jb_t (List.mem_append_left _ (List.mem_of_getElem? (i := 174) rfl)) rfl
theorem tw_176 : Cond.instanceMethod yn_J_staleHandles ∈ jb := jb_t (List.mem_append_left _ (List.mem_of_getElem? (i := 176) rfl)) rfl
theorem tw_177 : Cond.code yn_J_staleHandles prog_1_method_38_code 3 (some .int) ∈ jb := jb_t (List.mem_append_left _ (List.mem_of_getElem? (i := 177) rfl)) rfl
theorem tw_178 : Cond.methodLink "JournaledFiles" 273 yn_J_isStale ∈ jb := jb_t (List.mem_append_left _ (List.mem_of_getElem? (i := 178) rfl)) rfl
theorem tw_180 : Cond.instanceMethod yn_J_isStale ∈ jb := jb_t (List.mem_append_left _ (List.mem_of_getElem? (i := 180) rfl)) rfl
theorem tw_181 : Cond.code yn_J_isStale prog_1_method_36_code 2 (some .boolean) ∈ jb := jb_t (List.mem_append_left _ (List.mem_of_getElem? (i := 181) rfl)) rfl
theorem tw_182 : Cond.methodLink "JournaledFiles" 85 yn_I_kind ∈ jb := jb_t (List.mem_append_left _ (List.mem_of_getElem? (i := 182) rfl)) rfl
theorem tw_183 : Cond.methodLink "JournaledFiles" 88 yn_J_kindFor ∈ jb := jb_t (List.mem_append_left _ (List.mem_of_getElem? (i := 183) rfl)) rfl
theorem tw_184 : Cond.static yn_J_kindFor ∈ jb := jb_t (List.mem_append_left _ (List.mem_of_getElem? (i := 184) rfl)) rfl
theorem tw_185 : Cond.code yn_J_kindFor prog_1_method_32_code 1 (some .int) ∈ jb := jb_t (List.mem_append_left _ (List.mem_of_getElem? (i := 185) rfl)) rfl
theorem tw_186 : Cond.methodLink "JournaledFiles" 191 yn_I_generation ∈ jb := jb_t (List.mem_append_left _ (List.mem_of_getElem? (i := 186) rfl)) rfl
theorem tw_187 : Cond.methodLink "JournaledFilesLaw" 72 yn_L_directory ∈ jb := jb_t (List.mem_append_left _ (List.mem_of_getElem? (i := 187) rfl)) rfl
theorem tw_188 : Cond.static yn_L_directory ∈ jb := jb_t (List.mem_append_left _ (List.mem_of_getElem? (i := 188) rfl)) rfl
theorem tw_194 : Cond.methodLink "JournaledFilesLaw" 7 yn_J_directory ∈ jb := jb_t (List.mem_append_left _ (List.mem_of_getElem? (i := 194) rfl)) rfl
theorem tw_195 : Cond.instanceMethod yn_J_directory ∈ jb := jb_t (List.mem_append_left _ (List.mem_of_getElem? (i := 195) rfl)) rfl
theorem tw_196 : Cond.selects "JournaledFiles" yn_J_directory yn_J_directory ∈ jb := jb_t (List.mem_append_left _ (List.mem_of_getElem? (i := 196) rfl)) rfl
theorem tw_197 : Cond.code yn_J_directory prog_1_method_2_code 3 (some .int) ∈ jb := jb_t (List.mem_append_left _ (List.mem_of_getElem? (i := 197) rfl)) rfl
theorem tw_198 : Cond.methodLink "JournaledFiles" 39 yn_J_checkPath ∈ jb := jb_t (List.mem_append_left _ (List.mem_of_getElem? (i := 198) rfl)) rfl
theorem tw_199 : Cond.static yn_J_checkPath ∈ jb := jb_t (List.mem_append_left _ (List.mem_of_getElem? (i := 199) rfl)) rfl
theorem tw_200 : Cond.code yn_J_checkPath prog_1_method_19_code 3 none ∈ jb := jb_t (List.mem_append_left _ (List.mem_of_getElem? (i := 200) rfl)) rfl
theorem tw_269 : Cond.arrayClass .byte ∈ jb := jb_t (List.mem_append_right _ (List.mem_append_left _ (List.mem_of_getElem? (i := 29) rfl))) rfl
theorem tw_270 : Cond.methodLink "JournaledFiles" 43 yn_J_inodeAt ∈ jb := jb_t (List.mem_append_right _ (List.mem_append_left _ (List.mem_of_getElem? (i := 30) rfl))) rfl
theorem tw_272 : Cond.instanceMethod yn_J_inodeAt ∈ jb := jb_t (List.mem_append_right _ (List.mem_append_left _ (List.mem_of_getElem? (i := 32) rfl))) rfl
theorem tw_273 : Cond.code yn_J_inodeAt prog_1_method_22_code 6 (some .int) ∈ jb := jb_t (List.mem_append_right _ (List.mem_append_left _ (List.mem_of_getElem? (i := 33) rfl))) rfl
theorem tw_274 : Cond.methodLink "JournaledFiles" 236 yn_I_findEntry ∈ jb := jb_t (List.mem_append_right _ (List.mem_append_left _ (List.mem_of_getElem? (i := 34) rfl))) rfl
theorem tw_275 : Cond.instanceMethod yn_I_findEntry ∈ jb := jb_t (List.mem_append_right _ (List.mem_append_left _ (List.mem_of_getElem? (i := 35) rfl))) rfl
theorem tw_276 : Cond.selects "JournaledFiles$Inodes" yn_I_findEntry yn_I_findEntry ∈ jb := jb_t (List.mem_append_right _ (List.mem_append_left _ (List.mem_of_getElem? (i := 36) rfl))) rfl
theorem tw_277 : Cond.code yn_I_findEntry prog_4_method_21_code 5 (some .int) ∈ jb := jb_t (List.mem_append_right _ (List.mem_append_left _ (List.mem_of_getElem? (i := 37) rfl))) rfl
theorem tw_278 : Cond.methodLink "JournaledFiles$Inodes" 68 yn_I_entries ∈ jb := jb_t (List.mem_append_right _ (List.mem_append_left _ (List.mem_of_getElem? (i := 38) rfl))) rfl
theorem tw_279 : Cond.instanceMethod yn_I_entries ∈ jb := jb_t (List.mem_append_right _ (List.mem_append_left _ (List.mem_of_getElem? (i := 39) rfl))) rfl
theorem tw_280 : Cond.selects "JournaledFiles$Inodes" yn_I_entries yn_I_entries ∈ jb := jb_t (List.mem_append_right _ (List.mem_append_left _ (List.mem_of_getElem? (i := 40) rfl))) rfl
theorem tw_281 : Cond.code yn_I_entries prog_4_method_7_code 2 (some .int) ∈ jb := jb_t (List.mem_append_right _ (List.mem_append_left _ (List.mem_of_getElem? (i := 41) rfl))) rfl
theorem tw_282 : Cond.methodLink "JournaledFiles$Inodes" 32 yn_I_size ∈ jb := jb_t (List.mem_append_right _ (List.mem_append_left _ (List.mem_of_getElem? (i := 42) rfl))) rfl
theorem tw_283 : Cond.instanceMethod yn_I_size ∈ jb := jb_t (List.mem_append_right _ (List.mem_append_left _ (List.mem_of_getElem? (i := 43) rfl))) rfl
theorem tw_284 : Cond.selects "JournaledFiles$Inodes" yn_I_size yn_I_size ∈ jb := jb_t (List.mem_append_right _ (List.mem_append_left _ (List.mem_of_getElem? (i := 44) rfl))) rfl
theorem tw_285 : Cond.code yn_I_size prog_4_method_5_code 2 (some .int) ∈ jb := jb_t (List.mem_append_right _ (List.mem_append_left _ (List.mem_of_getElem? (i := 45) rfl))) rfl
theorem tw_286 : Cond.methodLink "JournaledFiles$Inodes" 65 yn_I_byteOf ∈ jb := jb_t (List.mem_append_right _ (List.mem_append_left _ (List.mem_of_getElem? (i := 46) rfl))) rfl
theorem tw_287 : Cond.instanceMethod yn_I_byteOf ∈ jb := jb_t (List.mem_append_right _ (List.mem_append_left _ (List.mem_of_getElem? (i := 47) rfl))) rfl
theorem tw_288 : Cond.selects "JournaledFiles$Inodes" yn_I_byteOf yn_I_byteOf ∈ jb := jb_t (List.mem_append_right _ (List.mem_append_left _ (List.mem_of_getElem? (i := 48) rfl))) rfl
theorem tw_289 : Cond.code yn_I_byteOf prog_4_method_13_code 3 (some .int) ∈ jb := jb_t (List.mem_append_right _ (List.mem_append_left _ (List.mem_of_getElem? (i := 49) rfl))) rfl
theorem tw_290 : Cond.methodLink "JournaledFiles$Inodes" 45 yn_I_placeOf ∈ jb := jb_t (List.mem_append_right _ (List.mem_append_left _ (List.mem_of_getElem? (i := 50) rfl))) rfl
theorem tw_292 : Cond.instanceMethod yn_I_placeOf ∈ jb := jb_t (List.mem_append_right _ (List.mem_append_left _ (List.mem_of_getElem? (i := 52) rfl))) rfl
theorem tw_293 : Cond.code yn_I_placeOf prog_4_method_12_code 4 (some .int) ∈ jb := jb_t (List.mem_append_right _ (List.mem_append_left _ (List.mem_of_getElem? (i := 53) rfl))) rfl
theorem tw_294 : Cond.methodLink "JournaledFiles" 239 yn_I_entryInode ∈ jb := jb_t (List.mem_append_right _ (List.mem_append_left _ (List.mem_of_getElem? (i := 54) rfl))) rfl
theorem tw_295 : Cond.instanceMethod yn_I_entryInode ∈ jb := jb_t (List.mem_append_right _ (List.mem_append_left _ (List.mem_of_getElem? (i := 55) rfl))) rfl
theorem tw_296 : Cond.selects "JournaledFiles$Inodes" yn_I_entryInode yn_I_entryInode ∈ jb := jb_t (List.mem_append_right _ (List.mem_append_left _ (List.mem_of_getElem? (i := 56) rfl))) rfl
theorem tw_297 : Cond.code yn_I_entryInode prog_4_method_19_code 3 (some .int) ∈ jb := jb_t (List.mem_append_right _ (List.mem_append_left _ (List.mem_of_getElem? (i := 57) rfl))) rfl
theorem tw_314 : Cond.methodLink "JournaledFiles" 54 yn_J_parentNeeded ∈ jb := jb_t (List.mem_append_right _ (List.mem_append_left _ (List.mem_of_getElem? (i := 74) rfl))) rfl
theorem tw_316 : Cond.instanceMethod yn_J_parentNeeded ∈ jb := jb_t (List.mem_append_right _ (List.mem_append_left _ (List.mem_of_getElem? (i := 76) rfl))) rfl
theorem tw_317 : Cond.code yn_J_parentNeeded prog_1_method_24_code 3 (some .int) ∈ jb := jb_t (List.mem_append_right _ (List.mem_append_left _ (List.mem_of_getElem? (i := 77) rfl))) rfl
theorem tw_318 : Cond.methodLink "JournaledFiles" 161 yn_J_parentPath ∈ jb := jb_t (List.mem_append_right _ (List.mem_append_left _ (List.mem_of_getElem? (i := 78) rfl))) rfl
theorem tw_319 : Cond.static yn_J_parentPath ∈ jb := jb_t (List.mem_append_right _ (List.mem_append_left _ (List.mem_of_getElem? (i := 79) rfl))) rfl
theorem tw_320 : Cond.code yn_J_parentPath prog_1_method_20_code 1 (some .int) ∈ jb := jb_t (List.mem_append_right _ (List.mem_append_left _ (List.mem_of_getElem? (i := 80) rfl))) rfl
theorem tw_337 : Cond.methodLink "JournaledFiles" 57 yn_J_checkRoomForNew ∈ jb := jb_t (List.mem_append_right _ (List.mem_append_left _ (List.mem_of_getElem? (i := 97) rfl))) rfl
theorem tw_339 : Cond.instanceMethod yn_J_checkRoomForNew ∈ jb := jb_t (List.mem_append_right _ (List.mem_append_left _ (List.mem_of_getElem? (i := 99) rfl))) rfl
theorem tw_340 : Cond.code yn_J_checkRoomForNew prog_1_method_25_code 2 none ∈ jb := jb_t (List.mem_append_right _ (List.mem_append_left _ (List.mem_of_getElem? (i := 100) rfl))) rfl
theorem tw_341 : Cond.methodLink "JournaledFiles" 246 yn_I_leastFree ∈ jb := jb_t (List.mem_append_right _ (List.mem_append_left _ (List.mem_of_getElem? (i := 101) rfl))) rfl
theorem tw_342 : Cond.instanceMethod yn_I_leastFree ∈ jb := jb_t (List.mem_append_right _ (List.mem_append_left _ (List.mem_of_getElem? (i := 102) rfl))) rfl
theorem tw_343 : Cond.selects "JournaledFiles$Inodes" yn_I_leastFree yn_I_leastFree ∈ jb := jb_t (List.mem_append_right _ (List.mem_append_left _ (List.mem_of_getElem? (i := 103) rfl))) rfl
theorem tw_344 : Cond.code yn_I_leastFree prog_4_method_9_code 2 (some .int) ∈ jb := jb_t (List.mem_append_right _ (List.mem_append_left _ (List.mem_of_getElem? (i := 104) rfl))) rfl
theorem tw_345 : Cond.methodLink "JournaledFiles" 249 yn_I_hasRoomForEntry ∈ jb := jb_t (List.mem_append_right _ (List.mem_append_left _ (List.mem_of_getElem? (i := 105) rfl))) rfl
theorem tw_346 : Cond.instanceMethod yn_I_hasRoomForEntry ∈ jb := jb_t (List.mem_append_right _ (List.mem_append_left _ (List.mem_of_getElem? (i := 106) rfl))) rfl
theorem tw_347 : Cond.selects "JournaledFiles$Inodes" yn_I_hasRoomForEntry yn_I_hasRoomForEntry ∈ jb := jb_t (List.mem_append_right _ (List.mem_append_left _ (List.mem_of_getElem? (i := 107) rfl))) rfl
theorem tw_348 : Cond.code yn_I_hasRoomForEntry prog_4_method_23_code 3 (some .boolean) ∈ jb := jb_t (List.mem_append_right _ (List.mem_append_left _ (List.mem_of_getElem? (i := 108) rfl))) rfl
theorem tw_349 : Cond.methodLink "JournaledFiles$Inodes" 71 yn_I_startsBlock ∈ jb := jb_t (List.mem_append_right _ (List.mem_append_left _ (List.mem_of_getElem? (i := 109) rfl))) rfl
theorem tw_350 : Cond.static yn_I_startsBlock ∈ jb := jb_t (List.mem_append_right _ (List.mem_append_left _ (List.mem_of_getElem? (i := 110) rfl))) rfl
theorem tw_351 : Cond.code yn_I_startsBlock prog_4_method_22_code 1 (some .boolean) ∈ jb := jb_t (List.mem_append_right _ (List.mem_append_left _ (List.mem_of_getElem? (i := 111) rfl))) rfl
theorem tw_352 : Cond.methodLink "JournaledFiles$Inodes" 51 yn_D_freeBlocks ∈ jb := jb_t (List.mem_append_right _ (List.mem_append_left _ (List.mem_of_getElem? (i := 112) rfl))) rfl
theorem tw_369 : Cond.methodLink "JournaledFiles" 60 yn_J_makeNew ∈ jb := jb_t (List.mem_append_right _ (List.mem_append_left _ (List.mem_of_getElem? (i := 129) rfl))) rfl
theorem tw_371 : Cond.instanceMethod yn_J_makeNew ∈ jb := jb_t (List.mem_append_right _ (List.mem_append_left _ (List.mem_of_getElem? (i := 131) rfl))) rfl
theorem tw_372 : Cond.code yn_J_makeNew prog_1_method_27_code 5 (some .int) ∈ jb := jb_t (List.mem_append_right _ (List.mem_append_left _ (List.mem_of_getElem? (i := 132) rfl))) rfl
theorem tw_373 : Cond.methodLink "JournaledFiles" 183 yn_I_addEntry ∈ jb := jb_t (List.mem_append_right _ (List.mem_append_left _ (List.mem_of_getElem? (i := 133) rfl))) rfl
theorem tw_374 : Cond.instanceMethod yn_I_addEntry ∈ jb := jb_t (List.mem_append_right _ (List.mem_append_left _ (List.mem_of_getElem? (i := 134) rfl))) rfl
theorem tw_375 : Cond.selects "JournaledFiles$Inodes" yn_I_addEntry yn_I_addEntry ∈ jb := jb_t (List.mem_append_right _ (List.mem_append_left _ (List.mem_of_getElem? (i := 135) rfl))) rfl
theorem tw_376 : Cond.code yn_I_addEntry prog_4_method_24_code 5 none ∈ jb := jb_t (List.mem_append_right _ (List.mem_append_left _ (List.mem_of_getElem? (i := 136) rfl))) rfl
theorem tw_377 : Cond.methodLink "JournaledFiles$Inodes" 42 yn_I_resize ∈ jb := jb_t (List.mem_append_right _ (List.mem_append_left _ (List.mem_of_getElem? (i := 137) rfl))) rfl
theorem tw_378 : Cond.instanceMethod yn_I_resize ∈ jb := jb_t (List.mem_append_right _ (List.mem_append_left _ (List.mem_of_getElem? (i := 138) rfl))) rfl
theorem tw_379 : Cond.selects "JournaledFiles$Inodes" yn_I_resize yn_I_resize ∈ jb := jb_t (List.mem_append_right _ (List.mem_append_left _ (List.mem_of_getElem? (i := 139) rfl))) rfl
theorem tw_380 : Cond.code yn_I_resize prog_4_method_17_code 5 none ∈ jb := jb_t (List.mem_append_right _ (List.mem_append_left _ (List.mem_of_getElem? (i := 140) rfl))) rfl
theorem tw_381 : Cond.methodLink "JournaledFiles$Inodes" 55 yn_I_putByte ∈ jb := jb_t (List.mem_append_right _ (List.mem_append_left _ (List.mem_of_getElem? (i := 141) rfl))) rfl
theorem tw_382 : Cond.instanceMethod yn_I_putByte ∈ jb := jb_t (List.mem_append_right _ (List.mem_append_left _ (List.mem_of_getElem? (i := 142) rfl))) rfl
theorem tw_383 : Cond.selects "JournaledFiles$Inodes" yn_I_putByte yn_I_putByte ∈ jb := jb_t (List.mem_append_right _ (List.mem_append_left _ (List.mem_of_getElem? (i := 143) rfl))) rfl
theorem tw_384 : Cond.code yn_I_putByte prog_4_method_14_code 4 none ∈ jb := jb_t (List.mem_append_right _ (List.mem_append_left _ (List.mem_of_getElem? (i := 144) rfl))) rfl
theorem tw_385 : Cond.methodLink "JournaledFiles$Inodes" 48 yn_I_blocksFor ∈ jb := jb_t (List.mem_append_right _ (List.mem_append_left _ (List.mem_of_getElem? (i := 145) rfl))) rfl
theorem tw_386 : Cond.static yn_I_blocksFor ∈ jb := jb_t (List.mem_append_right _ (List.mem_append_left _ (List.mem_of_getElem? (i := 146) rfl))) rfl
theorem tw_387 : Cond.code yn_I_blocksFor prog_4_method_15_code 1 (some .int) ∈ jb := jb_t (List.mem_append_right _ (List.mem_append_left _ (List.mem_of_getElem? (i := 147) rfl))) rfl
theorem tw_388 : Cond.methodLink "JournaledFiles$Inodes" 58 yn_D_giveBack ∈ jb := jb_t (List.mem_append_right _ (List.mem_append_left _ (List.mem_of_getElem? (i := 148) rfl))) rfl
theorem tw_389 : Cond.instanceMethod yn_D_giveBack ∈ jb := jb_t (List.mem_append_right _ (List.mem_append_left _ (List.mem_of_getElem? (i := 149) rfl))) rfl
theorem tw_390 : Cond.selects "JournaledFiles$Disk" yn_D_giveBack yn_D_giveBack ∈ jb := jb_t (List.mem_append_right _ (List.mem_append_left _ (List.mem_of_getElem? (i := 150) rfl))) rfl
theorem tw_391 : Cond.code yn_D_giveBack prog_2_method_9_code 2 none ∈ jb := jb_t (List.mem_append_right _ (List.mem_append_left _ (List.mem_of_getElem? (i := 151) rfl))) rfl
theorem tw_392 : Cond.methodLink "JournaledFiles$Inodes" 62 yn_D_takeBlock ∈ jb := jb_t (List.mem_append_right _ (List.mem_append_left _ (List.mem_of_getElem? (i := 152) rfl))) rfl
theorem tw_393 : Cond.instanceMethod yn_D_takeBlock ∈ jb := jb_t (List.mem_append_right _ (List.mem_append_left _ (List.mem_of_getElem? (i := 153) rfl))) rfl
theorem tw_394 : Cond.selects "JournaledFiles$Disk" yn_D_takeBlock yn_D_takeBlock ∈ jb := jb_t (List.mem_append_right _ (List.mem_append_left _ (List.mem_of_getElem? (i := 154) rfl))) rfl
theorem tw_395 : Cond.code yn_D_takeBlock prog_2_method_8_code 2 (some .int) ∈ jb := jb_t (List.mem_append_right _ (List.mem_append_left _ (List.mem_of_getElem? (i := 155) rfl))) rfl
theorem tw_396 : Cond.methodLink "JournaledFiles$Inodes" 75 yn_I_putEntry ∈ jb := jb_t (List.mem_append_right _ (List.mem_append_left _ (List.mem_of_getElem? (i := 156) rfl))) rfl
theorem tw_398 : Cond.instanceMethod yn_I_putEntry ∈ jb := jb_t (List.mem_append_right _ (List.mem_append_left _ (List.mem_of_getElem? (i := 158) rfl))) rfl
theorem tw_399 : Cond.code yn_I_putEntry prog_4_method_20_code 5 none ∈ jb := jb_t (List.mem_append_right _ (List.mem_append_left _ (List.mem_of_getElem? (i := 159) rfl))) rfl
theorem tw_400 : Cond.methodLink "JournaledFilesLaw" 81 yn_L_open ∈ jb := jb_t (List.mem_append_right _ (List.mem_append_left _ (List.mem_of_getElem? (i := 160) rfl))) rfl
theorem tw_401 : Cond.static yn_L_open ∈ jb := jb_t (List.mem_append_right _ (List.mem_append_left _ (List.mem_of_getElem? (i := 161) rfl))) rfl
theorem tw_403 : Cond.methodLink "JournaledFilesLaw" 21 yn_J_open ∈ jb := jb_t (List.mem_append_right _ (List.mem_append_left _ (List.mem_of_getElem? (i := 163) rfl))) rfl
theorem tw_404 : Cond.instanceMethod yn_J_open ∈ jb := jb_t (List.mem_append_right _ (List.mem_append_left _ (List.mem_of_getElem? (i := 164) rfl))) rfl
theorem tw_405 : Cond.selects "JournaledFiles" yn_J_open yn_J_open ∈ jb := jb_t (List.mem_append_right _ (List.mem_append_left _ (List.mem_of_getElem? (i := 165) rfl))) rfl
theorem tw_406 : Cond.code yn_J_open prog_1_method_3_code 9 (some .int) ∈ jb := jb_t (List.mem_append_right _ (List.mem_append_left _ (List.mem_of_getElem? (i := 166) rfl))) rfl
theorem tw_407 : Cond.methodLink "JournaledFiles" 64 yn_J_checkRange ∈ jb := jb_t (List.mem_append_right _ (List.mem_append_left _ (List.mem_of_getElem? (i := 167) rfl))) rfl
theorem tw_408 : Cond.static yn_J_checkRange ∈ jb := jb_t (List.mem_append_right _ (List.mem_append_left _ (List.mem_of_getElem? (i := 168) rfl))) rfl
theorem tw_409 : Cond.code yn_J_checkRange prog_1_method_18_code 3 none ∈ jb := jb_t (List.mem_append_right _ (List.mem_append_left _ (List.mem_of_getElem? (i := 169) rfl))) rfl
theorem tw_411 : Cond.methodLink "JournaledFiles" 68 yn_J_writesBy ∈ jb := jb_t (List.mem_append_right _ (List.mem_append_left _ (List.mem_of_getElem? (i := 171) rfl))) rfl
theorem tw_412 : Cond.static yn_J_writesBy ∈ jb := jb_t (List.mem_append_right _ (List.mem_append_left _ (List.mem_of_getElem? (i := 172) rfl))) rfl
theorem tw_413 : Cond.code yn_J_writesBy prog_1_method_30_code 1 (some .boolean) ∈ jb := jb_t (List.mem_append_right _ (List.mem_append_left _ (List.mem_of_getElem? (i := 173) rfl))) rfl
theorem tw_415 : Cond.methodLink "JournaledFiles" 77 yn_J_closedHandleNeeded ∈ jb := jb_t (List.mem_append_right _ (List.mem_append_left _ (List.mem_of_getElem? (i := 175) rfl))) rfl
theorem tw_417 : Cond.instanceMethod yn_J_closedHandleNeeded ∈ jb := jb_t (List.mem_append_right _ (List.mem_append_left _ (List.mem_of_getElem? (i := 177) rfl))) rfl
theorem tw_418 : Cond.code yn_J_closedHandleNeeded prog_1_method_33_code 2 (some .int) ∈ jb := jb_t (List.mem_append_right _ (List.mem_append_left _ (List.mem_of_getElem? (i := 178) rfl))) rfl
theorem tw_420 : Cond.methodLink "JournaledFiles" 81 yn_J_openHandle ∈ jb := jb_t (List.mem_append_right _ (List.mem_append_left _ (List.mem_of_getElem? (i := 180) rfl))) rfl
theorem tw_422 : Cond.instanceMethod yn_J_openHandle ∈ jb := jb_t (List.mem_append_right _ (List.mem_append_left _ (List.mem_of_getElem? (i := 182) rfl))) rfl
theorem tw_423 : Cond.code yn_J_openHandle prog_1_method_34_code 6 (some .int) ∈ jb := jb_t (List.mem_append_right _ (List.mem_append_left _ (List.mem_of_getElem? (i := 183) rfl))) rfl
theorem tw_425 : Cond.methodLink "JournaledFiles" 93 yn_I_resize ∈ jb := jb_t (List.mem_append_right _ (List.mem_append_left _ (List.mem_of_getElem? (i := 185) rfl))) rfl
theorem tw_426 : Cond.methodLink "JournaledFiles" 96 yn_I_size ∈ jb := jb_t (List.mem_append_right _ (List.mem_append_left _ (List.mem_of_getElem? (i := 186) rfl))) rfl
theorem tw_427 : Cond.methodLink "JournaledFilesLaw" 85 yn_L_close ∈ jb := jb_t (List.mem_append_right _ (List.mem_append_left _ (List.mem_of_getElem? (i := 187) rfl))) rfl
theorem tw_428 : Cond.static yn_L_close ∈ jb := jb_t (List.mem_append_right _ (List.mem_append_left _ (List.mem_of_getElem? (i := 188) rfl))) rfl
theorem tw_430 : Cond.methodLink "JournaledFilesLaw" 25 yn_J_close ∈ jb := jb_t (List.mem_append_right _ (List.mem_append_left _ (List.mem_of_getElem? (i := 190) rfl))) rfl
theorem tw_431 : Cond.instanceMethod yn_J_close ∈ jb := jb_t (List.mem_append_right _ (List.mem_append_left _ (List.mem_of_getElem? (i := 191) rfl))) rfl
theorem tw_432 : Cond.selects "JournaledFiles" yn_J_close yn_J_close ∈ jb := jb_t (List.mem_append_right _ (List.mem_append_left _ (List.mem_of_getElem? (i := 192) rfl))) rfl
theorem tw_433 : Cond.code yn_J_close prog_1_method_4_code 3 none ∈ jb := jb_t (List.mem_append_right _ (List.mem_append_left _ (List.mem_of_getElem? (i := 193) rfl))) rfl
theorem tw_435 : Cond.methodLink "JournaledFilesLaw" 91 yn_L_write ∈ jb := jb_t (List.mem_append_right _ (List.mem_append_left _ (List.mem_of_getElem? (i := 195) rfl))) rfl
theorem tw_436 : Cond.static yn_L_write ∈ jb := jb_t (List.mem_append_right _ (List.mem_append_left _ (List.mem_of_getElem? (i := 196) rfl))) rfl
theorem tw_438 : Cond.methodLink "JournaledFilesLaw" 29 yn_J_write ∈ jb := jb_t (List.mem_append_right _ (List.mem_append_left _ (List.mem_of_getElem? (i := 198) rfl))) rfl
theorem tw_439 : Cond.instanceMethod yn_J_write ∈ jb := jb_t (List.mem_append_right _ (List.mem_append_left _ (List.mem_of_getElem? (i := 199) rfl))) rfl
theorem tw_440 : Cond.selects "JournaledFiles" yn_J_write yn_J_write ∈ jb := jb_t (List.mem_append_right _ (List.mem_append_left _ (List.mem_of_getElem? (i := 200) rfl))) rfl
theorem tw_441 : Cond.code yn_J_write prog_1_method_5_code 9 none ∈ jb := jb_t (List.mem_append_right _ (List.mem_append_left _ (List.mem_of_getElem? (i := 201) rfl))) rfl
theorem tw_442 : Cond.methodLink "JournaledFiles" 105 yn_J_usableHandle ∈ jb := jb_t (List.mem_append_right _ (List.mem_append_left _ (List.mem_of_getElem? (i := 202) rfl))) rfl
theorem tw_444 : Cond.instanceMethod yn_J_usableHandle ∈ jb := jb_t (List.mem_append_right _ (List.mem_append_left _ (List.mem_of_getElem? (i := 204) rfl))) rfl
theorem tw_445 : Cond.code yn_J_usableHandle prog_1_method_35_code 3 (some (.object "JournaledFiles$Handle")) ∈ jb := jb_t (List.mem_append_right _ (List.mem_append_left _ (List.mem_of_getElem? (i := 205) rfl))) rfl
theorem tw_448 : Cond.methodLink "JournaledFiles" 121 ⟨"java/lang/Math", "max", "(II)I"⟩ ∈ jb := jb_t (List.mem_append_right _ (List.mem_append_left _ (List.mem_of_getElem? (i := 208) rfl))) rfl
theorem tw_449 : Cond.static ⟨"java/lang/Math", "max", "(II)I"⟩ ∈ jb := jb_t (List.mem_append_right _ (List.mem_append_left _ (List.mem_of_getElem? (i := 209) rfl))) rfl
theorem tw_450 : Cond.code ⟨"java/lang/Math", "max", "(II)I"⟩ prog_10_method_65_code 2 (some .int) ∈ jb := jb_t (List.mem_append_right _ (List.mem_append_left _ (List.mem_of_getElem? (i := 210) rfl))) rfl
theorem tw_451 : Cond.methodLink "JournaledFiles" 127 yn_J_checkRoomForSize ∈ jb := jb_t (List.mem_append_right _ (List.mem_append_left _ (List.mem_of_getElem? (i := 211) rfl))) rfl
theorem tw_453 : Cond.instanceMethod yn_J_checkRoomForSize ∈ jb := jb_t (List.mem_append_right _ (List.mem_append_left _ (List.mem_of_getElem? (i := 213) rfl))) rfl
theorem tw_454 : Cond.code yn_J_checkRoomForSize prog_1_method_26_code 3 none ∈ jb := jb_t (List.mem_append_right _ (List.mem_append_left _ (List.mem_of_getElem? (i := 214) rfl))) rfl
theorem tw_455 : Cond.methodLink "JournaledFiles" 254 yn_I_hasRoomForSize ∈ jb := jb_t (List.mem_append_right _ (List.mem_append_left _ (List.mem_of_getElem? (i := 215) rfl))) rfl
theorem tw_456 : Cond.instanceMethod yn_I_hasRoomForSize ∈ jb := jb_t (List.mem_append_right _ (List.mem_append_left _ (List.mem_of_getElem? (i := 216) rfl))) rfl
theorem tw_457 : Cond.selects "JournaledFiles$Inodes" yn_I_hasRoomForSize yn_I_hasRoomForSize ∈ jb := jb_t (List.mem_append_right _ (List.mem_append_left _ (List.mem_of_getElem? (i := 217) rfl))) rfl
theorem tw_458 : Cond.code yn_I_hasRoomForSize prog_4_method_16_code 3 (some .boolean) ∈ jb := jb_t (List.mem_append_right _ (List.mem_append_left _ (List.mem_of_getElem? (i := 218) rfl))) rfl
theorem tw_460 : Cond.methodLink "JournaledFiles" 130 yn_I_putByte ∈ jb := jb_t (List.mem_append_right _ (List.mem_append_left _ (List.mem_of_getElem? (i := 220) rfl))) rfl
theorem tw_461 : Cond.methodLink "JournaledFilesLaw" 95 yn_L_read ∈ jb := jb_t (List.mem_append_right _ (List.mem_append_left _ (List.mem_of_getElem? (i := 221) rfl))) rfl
theorem tw_462 : Cond.static yn_L_read ∈ jb := jb_t (List.mem_append_right _ (List.mem_append_left _ (List.mem_of_getElem? (i := 222) rfl))) rfl
theorem tw_464 : Cond.methodLink "JournaledFilesLaw" 33 yn_J_read ∈ jb := jb_t (List.mem_append_right _ (List.mem_append_left _ (List.mem_of_getElem? (i := 224) rfl))) rfl
theorem tw_465 : Cond.instanceMethod yn_J_read ∈ jb := jb_t (List.mem_append_right _ (List.mem_append_left _ (List.mem_of_getElem? (i := 225) rfl))) rfl
theorem tw_466 : Cond.selects "JournaledFiles" yn_J_read yn_J_read ∈ jb := jb_t (List.mem_append_right _ (List.mem_append_left _ (List.mem_of_getElem? (i := 226) rfl))) rfl
theorem tw_467 : Cond.code yn_J_read prog_1_method_6_code 9 (some .long) ∈ jb := jb_t (List.mem_append_right _ (List.mem_append_left _ (List.mem_of_getElem? (i := 227) rfl))) rfl
theorem tw_468 : Cond.methodLink "JournaledFiles" 133 yn_J_readsBy ∈ jb := jb_t (List.mem_append_right _ (List.mem_append_left _ (List.mem_of_getElem? (i := 228) rfl))) rfl
theorem tw_469 : Cond.static yn_J_readsBy ∈ jb := jb_t (List.mem_append_right _ (List.mem_append_left _ (List.mem_of_getElem? (i := 229) rfl))) rfl
theorem tw_470 : Cond.code yn_J_readsBy prog_1_method_31_code 1 (some .boolean) ∈ jb := jb_t (List.mem_append_right _ (List.mem_append_left _ (List.mem_of_getElem? (i := 230) rfl))) rfl
theorem tw_472 : Cond.methodLink "JournaledFiles" 138 ⟨"java/lang/Math", "min", "(II)I"⟩ ∈ jb := jb_t (List.mem_append_right _ (List.mem_append_left _ (List.mem_of_getElem? (i := 232) rfl))) rfl
theorem tw_473 : Cond.static ⟨"java/lang/Math", "min", "(II)I"⟩ ∈ jb := jb_t (List.mem_append_right _ (List.mem_append_left _ (List.mem_of_getElem? (i := 233) rfl))) rfl
theorem tw_474 : Cond.code ⟨"java/lang/Math", "min", "(II)I"⟩ prog_10_method_69_code 2 (some .int) ∈ jb := jb_t (List.mem_append_right _ (List.mem_append_left _ (List.mem_of_getElem? (i := 234) rfl))) rfl
theorem tw_475 : Cond.methodLink "JournaledFiles" 141 yn_I_byteOf ∈ jb := jb_t (List.mem_append_right _ (List.mem_append_left _ (List.mem_of_getElem? (i := 235) rfl))) rfl
theorem tw_476 : Cond.methodLink "JournaledFilesLaw" 99 yn_L_seek ∈ jb := jb_t (List.mem_append_right _ (List.mem_append_left _ (List.mem_of_getElem? (i := 236) rfl))) rfl
theorem tw_477 : Cond.static yn_L_seek ∈ jb := jb_t (List.mem_append_right _ (List.mem_append_left _ (List.mem_of_getElem? (i := 237) rfl))) rfl
theorem tw_479 : Cond.methodLink "JournaledFilesLaw" 37 yn_J_seek ∈ jb := jb_t (List.mem_append_right _ (List.mem_append_left _ (List.mem_of_getElem? (i := 239) rfl))) rfl
theorem tw_480 : Cond.instanceMethod yn_J_seek ∈ jb := jb_t (List.mem_append_right _ (List.mem_append_right _ (List.mem_append_left _ (List.mem_of_getElem? (i := 0) rfl)))) rfl
theorem tw_481 : Cond.selects "JournaledFiles" yn_J_seek yn_J_seek ∈ jb := jb_t (List.mem_append_right _ (List.mem_append_right _ (List.mem_append_left _ (List.mem_of_getElem? (i := 1) rfl)))) rfl
theorem tw_482 : Cond.code yn_J_seek prog_1_method_7_code 4 none ∈ jb := jb_t (List.mem_append_right _ (List.mem_append_right _ (List.mem_append_left _ (List.mem_of_getElem? (i := 2) rfl)))) rfl
theorem tw_484 : Cond.methodLink "JournaledFilesLaw" 103 yn_L_next ∈ jb := jb_t (List.mem_append_right _ (List.mem_append_right _ (List.mem_append_left _ (List.mem_of_getElem? (i := 4) rfl)))) rfl
theorem tw_485 : Cond.static yn_L_next ∈ jb := jb_t (List.mem_append_right _ (List.mem_append_right _ (List.mem_append_left _ (List.mem_of_getElem? (i := 5) rfl)))) rfl
theorem tw_487 : Cond.methodLink "JournaledFilesLaw" 41 yn_J_next ∈ jb := jb_t (List.mem_append_right _ (List.mem_append_right _ (List.mem_append_left _ (List.mem_of_getElem? (i := 7) rfl)))) rfl
theorem tw_488 : Cond.instanceMethod yn_J_next ∈ jb := jb_t (List.mem_append_right _ (List.mem_append_right _ (List.mem_append_left _ (List.mem_of_getElem? (i := 8) rfl)))) rfl
theorem tw_489 : Cond.selects "JournaledFiles" yn_J_next yn_J_next ∈ jb := jb_t (List.mem_append_right _ (List.mem_append_right _ (List.mem_append_left _ (List.mem_of_getElem? (i := 9) rfl)))) rfl
theorem tw_490 : Cond.code yn_J_next prog_1_method_8_code 4 (some .int) ∈ jb := jb_t (List.mem_append_right _ (List.mem_append_right _ (List.mem_append_left _ (List.mem_of_getElem? (i := 10) rfl)))) rfl
theorem tw_492 : Cond.methodLink "JournaledFiles" 148 yn_I_entries ∈ jb := jb_t (List.mem_append_right _ (List.mem_append_right _ (List.mem_append_left _ (List.mem_of_getElem? (i := 12) rfl)))) rfl
theorem tw_493 : Cond.methodLink "JournaledFiles" 151 yn_I_entryName ∈ jb := jb_t (List.mem_append_right _ (List.mem_append_right _ (List.mem_append_left _ (List.mem_of_getElem? (i := 13) rfl)))) rfl
theorem tw_494 : Cond.instanceMethod yn_I_entryName ∈ jb := jb_t (List.mem_append_right _ (List.mem_append_right _ (List.mem_append_left _ (List.mem_of_getElem? (i := 14) rfl)))) rfl
theorem tw_495 : Cond.selects "JournaledFiles$Inodes" yn_I_entryName yn_I_entryName ∈ jb := jb_t (List.mem_append_right _ (List.mem_append_right _ (List.mem_append_left _ (List.mem_of_getElem? (i := 15) rfl)))) rfl
theorem tw_496 : Cond.code yn_I_entryName prog_4_method_18_code 3 (some .int) ∈ jb := jb_t (List.mem_append_right _ (List.mem_append_right _ (List.mem_append_left _ (List.mem_of_getElem? (i := 16) rfl)))) rfl
theorem tw_497 : Cond.methodLink "JournaledFilesLaw" 106 yn_L_remove ∈ jb := jb_t (List.mem_append_right _ (List.mem_append_right _ (List.mem_append_left _ (List.mem_of_getElem? (i := 17) rfl)))) rfl
theorem tw_498 : Cond.static yn_L_remove ∈ jb := jb_t (List.mem_append_right _ (List.mem_append_right _ (List.mem_append_left _ (List.mem_of_getElem? (i := 18) rfl)))) rfl
theorem tw_500 : Cond.methodLink "JournaledFilesLaw" 44 yn_J_remove ∈ jb := jb_t (List.mem_append_right _ (List.mem_append_right _ (List.mem_append_left _ (List.mem_of_getElem? (i := 20) rfl)))) rfl
theorem tw_501 : Cond.instanceMethod yn_J_remove ∈ jb := jb_t (List.mem_append_right _ (List.mem_append_right _ (List.mem_append_left _ (List.mem_of_getElem? (i := 21) rfl)))) rfl
theorem tw_502 : Cond.selects "JournaledFiles" yn_J_remove yn_J_remove ∈ jb := jb_t (List.mem_append_right _ (List.mem_append_right _ (List.mem_append_left _ (List.mem_of_getElem? (i := 22) rfl)))) rfl
theorem tw_503 : Cond.code yn_J_remove prog_1_method_9_code 3 none ∈ jb := jb_t (List.mem_append_right _ (List.mem_append_right _ (List.mem_append_left _ (List.mem_of_getElem? (i := 23) rfl)))) rfl
theorem tw_504 : Cond.methodLink "JournaledFiles" 154 yn_J_inodeNeeded ∈ jb := jb_t (List.mem_append_right _ (List.mem_append_right _ (List.mem_append_left _ (List.mem_of_getElem? (i := 24) rfl)))) rfl
theorem tw_506 : Cond.instanceMethod yn_J_inodeNeeded ∈ jb := jb_t (List.mem_append_right _ (List.mem_append_right _ (List.mem_append_left _ (List.mem_of_getElem? (i := 26) rfl)))) rfl
theorem tw_507 : Cond.code yn_J_inodeNeeded prog_1_method_23_code 3 (some .int) ∈ jb := jb_t (List.mem_append_right _ (List.mem_append_right _ (List.mem_append_left _ (List.mem_of_getElem? (i := 27) rfl)))) rfl
theorem tw_511 : Cond.methodLink "JournaledFiles" 164 yn_I_dropEntry ∈ jb := jb_t (List.mem_append_right _ (List.mem_append_right _ (List.mem_append_left _ (List.mem_of_getElem? (i := 31) rfl)))) rfl
theorem tw_512 : Cond.instanceMethod yn_I_dropEntry ∈ jb := jb_t (List.mem_append_right _ (List.mem_append_right _ (List.mem_append_left _ (List.mem_of_getElem? (i := 32) rfl)))) rfl
theorem tw_513 : Cond.selects "JournaledFiles$Inodes" yn_I_dropEntry yn_I_dropEntry ∈ jb := jb_t (List.mem_append_right _ (List.mem_append_right _ (List.mem_append_left _ (List.mem_of_getElem? (i := 33) rfl)))) rfl
theorem tw_514 : Cond.code yn_I_dropEntry prog_4_method_26_code 5 none ∈ jb := jb_t (List.mem_append_right _ (List.mem_append_right _ (List.mem_append_left _ (List.mem_of_getElem? (i := 34) rfl)))) rfl
theorem tw_515 : Cond.methodLink "JournaledFiles$Inodes" 79 yn_I_findEntry ∈ jb := jb_t (List.mem_append_right _ (List.mem_append_right _ (List.mem_append_left _ (List.mem_of_getElem? (i := 35) rfl)))) rfl
theorem tw_516 : Cond.methodLink "JournaledFiles$Inodes" 82 yn_I_entryName ∈ jb := jb_t (List.mem_append_right _ (List.mem_append_right _ (List.mem_append_left _ (List.mem_of_getElem? (i := 36) rfl)))) rfl
theorem tw_517 : Cond.methodLink "JournaledFiles$Inodes" 85 yn_I_entryInode ∈ jb := jb_t (List.mem_append_right _ (List.mem_append_right _ (List.mem_append_left _ (List.mem_of_getElem? (i := 37) rfl)))) rfl
theorem tw_518 : Cond.methodLink "JournaledFiles" 167 yn_I_vacate ∈ jb := jb_t (List.mem_append_right _ (List.mem_append_right _ (List.mem_append_left _ (List.mem_of_getElem? (i := 38) rfl)))) rfl
theorem tw_519 : Cond.instanceMethod yn_I_vacate ∈ jb := jb_t (List.mem_append_right _ (List.mem_append_right _ (List.mem_append_left _ (List.mem_of_getElem? (i := 39) rfl)))) rfl
theorem tw_520 : Cond.selects "JournaledFiles$Inodes" yn_I_vacate yn_I_vacate ∈ jb := jb_t (List.mem_append_right _ (List.mem_append_right _ (List.mem_append_left _ (List.mem_of_getElem? (i := 40) rfl)))) rfl
theorem tw_521 : Cond.code yn_I_vacate prog_4_method_11_code 2 none ∈ jb := jb_t (List.mem_append_right _ (List.mem_append_right _ (List.mem_append_left _ (List.mem_of_getElem? (i := 41) rfl)))) rfl
theorem tw_522 : Cond.methodLink "JournaledFilesLaw" 109 yn_L_rename ∈ jb := jb_t (List.mem_append_right _ (List.mem_append_right _ (List.mem_append_left _ (List.mem_of_getElem? (i := 42) rfl)))) rfl
theorem tw_523 : Cond.static yn_L_rename ∈ jb := jb_t (List.mem_append_right _ (List.mem_append_right _ (List.mem_append_left _ (List.mem_of_getElem? (i := 43) rfl)))) rfl
theorem tw_525 : Cond.methodLink "JournaledFilesLaw" 47 yn_J_rename ∈ jb := jb_t (List.mem_append_right _ (List.mem_append_right _ (List.mem_append_left _ (List.mem_of_getElem? (i := 45) rfl)))) rfl
theorem tw_526 : Cond.instanceMethod yn_J_rename ∈ jb := jb_t (List.mem_append_right _ (List.mem_append_right _ (List.mem_append_left _ (List.mem_of_getElem? (i := 46) rfl)))) rfl
theorem tw_527 : Cond.selects "JournaledFiles" yn_J_rename yn_J_rename ∈ jb := jb_t (List.mem_append_right _ (List.mem_append_right _ (List.mem_append_left _ (List.mem_of_getElem? (i := 47) rfl)))) rfl
theorem tw_528 : Cond.code yn_J_rename prog_1_method_10_code 7 none ∈ jb := jb_t (List.mem_append_right _ (List.mem_append_right _ (List.mem_append_left _ (List.mem_of_getElem? (i := 48) rfl)))) rfl
theorem tw_529 : Cond.methodLink "JournaledFiles" 170 yn_J_checkMove ∈ jb := jb_t (List.mem_append_right _ (List.mem_append_right _ (List.mem_append_left _ (List.mem_of_getElem? (i := 49) rfl)))) rfl
theorem tw_531 : Cond.instanceMethod yn_J_checkMove ∈ jb := jb_t (List.mem_append_right _ (List.mem_append_right _ (List.mem_append_left _ (List.mem_of_getElem? (i := 51) rfl)))) rfl
theorem tw_532 : Cond.code yn_J_checkMove prog_1_method_28_code 5 none ∈ jb := jb_t (List.mem_append_right _ (List.mem_append_right _ (List.mem_append_left _ (List.mem_of_getElem? (i := 52) rfl)))) rfl
theorem tw_533 : Cond.methodLink "JournaledFiles" 259 yn_J_isAtOrBelow ∈ jb := jb_t (List.mem_append_right _ (List.mem_append_right _ (List.mem_append_left _ (List.mem_of_getElem? (i := 53) rfl)))) rfl
theorem tw_534 : Cond.static yn_J_isAtOrBelow ∈ jb := jb_t (List.mem_append_right _ (List.mem_append_right _ (List.mem_append_left _ (List.mem_of_getElem? (i := 54) rfl)))) rfl
theorem tw_535 : Cond.code yn_J_isAtOrBelow prog_1_method_21_code 4 (some .boolean) ∈ jb := jb_t (List.mem_append_right _ (List.mem_append_right _ (List.mem_append_left _ (List.mem_of_getElem? (i := 55) rfl)))) rfl
theorem tw_538 : Cond.methodLink "JournaledFiles" 174 yn_J_hasRoomAfterLeaving ∈ jb := jb_t (List.mem_append_right _ (List.mem_append_right _ (List.mem_append_left _ (List.mem_of_getElem? (i := 58) rfl)))) rfl
theorem tw_540 : Cond.instanceMethod yn_J_hasRoomAfterLeaving ∈ jb := jb_t (List.mem_append_right _ (List.mem_append_right _ (List.mem_append_left _ (List.mem_of_getElem? (i := 60) rfl)))) rfl
theorem tw_541 : Cond.code yn_J_hasRoomAfterLeaving prog_1_method_29_code 6 (some .boolean) ∈ jb := jb_t (List.mem_append_right _ (List.mem_append_right _ (List.mem_append_left _ (List.mem_of_getElem? (i := 61) rfl)))) rfl
theorem tw_542 : Cond.methodLink "JournaledFiles" 266 yn_I_startsBlock ∈ jb := jb_t (List.mem_append_right _ (List.mem_append_right _ (List.mem_append_left _ (List.mem_of_getElem? (i := 62) rfl)))) rfl
theorem tw_544 : Cond.methodLink "JournaledFiles" 186 yn_I_redirectEntry ∈ jb := jb_t (List.mem_append_right _ (List.mem_append_right _ (List.mem_append_left _ (List.mem_of_getElem? (i := 64) rfl)))) rfl
theorem tw_545 : Cond.instanceMethod yn_I_redirectEntry ∈ jb := jb_t (List.mem_append_right _ (List.mem_append_right _ (List.mem_append_left _ (List.mem_of_getElem? (i := 65) rfl)))) rfl
theorem tw_546 : Cond.selects "JournaledFiles$Inodes" yn_I_redirectEntry yn_I_redirectEntry ∈ jb := jb_t (List.mem_append_right _ (List.mem_append_right _ (List.mem_append_left _ (List.mem_of_getElem? (i := 66) rfl)))) rfl
theorem tw_547 : Cond.code yn_I_redirectEntry prog_4_method_25_code 5 none ∈ jb := jb_t (List.mem_append_right _ (List.mem_append_right _ (List.mem_append_left _ (List.mem_of_getElem? (i := 67) rfl)))) rfl
theorem tw_548 : Cond.methodLink "JournaledFilesLaw" 112 yn_L_truncate ∈ jb := jb_t (List.mem_append_right _ (List.mem_append_right _ (List.mem_append_left _ (List.mem_of_getElem? (i := 68) rfl)))) rfl
theorem tw_549 : Cond.static yn_L_truncate ∈ jb := jb_t (List.mem_append_right _ (List.mem_append_right _ (List.mem_append_left _ (List.mem_of_getElem? (i := 69) rfl)))) rfl
theorem tw_551 : Cond.methodLink "JournaledFilesLaw" 50 yn_J_truncate ∈ jb := jb_t (List.mem_append_right _ (List.mem_append_right _ (List.mem_append_left _ (List.mem_of_getElem? (i := 71) rfl)))) rfl
theorem tw_552 : Cond.instanceMethod yn_J_truncate ∈ jb := jb_t (List.mem_append_right _ (List.mem_append_right _ (List.mem_append_left _ (List.mem_of_getElem? (i := 72) rfl)))) rfl
theorem tw_553 : Cond.selects "JournaledFiles" yn_J_truncate yn_J_truncate ∈ jb := jb_t (List.mem_append_right _ (List.mem_append_right _ (List.mem_append_left _ (List.mem_of_getElem? (i := 73) rfl)))) rfl
theorem tw_554 : Cond.code yn_J_truncate prog_1_method_11_code 4 none ∈ jb := jb_t (List.mem_append_right _ (List.mem_append_right _ (List.mem_append_left _ (List.mem_of_getElem? (i := 74) rfl)))) rfl
theorem tw_556 : Cond.methodLink "JournaledFilesLaw" 115 yn_L_stat ∈ jb := jb_t (List.mem_append_right _ (List.mem_append_right _ (List.mem_append_left _ (List.mem_of_getElem? (i := 76) rfl)))) rfl
theorem tw_557 : Cond.static yn_L_stat ∈ jb := jb_t (List.mem_append_right _ (List.mem_append_right _ (List.mem_append_left _ (List.mem_of_getElem? (i := 77) rfl)))) rfl
theorem tw_559 : Cond.methodLink "JournaledFilesLaw" 53 yn_J_stat ∈ jb := jb_t (List.mem_append_right _ (List.mem_append_right _ (List.mem_append_left _ (List.mem_of_getElem? (i := 79) rfl)))) rfl
theorem tw_560 : Cond.instanceMethod yn_J_stat ∈ jb := jb_t (List.mem_append_right _ (List.mem_append_right _ (List.mem_append_left _ (List.mem_of_getElem? (i := 80) rfl)))) rfl
theorem tw_561 : Cond.selects "JournaledFiles" yn_J_stat yn_J_stat ∈ jb := jb_t (List.mem_append_right _ (List.mem_append_right _ (List.mem_append_left _ (List.mem_of_getElem? (i := 81) rfl)))) rfl
theorem tw_562 : Cond.code yn_J_stat prog_1_method_12_code 4 (some .int) ∈ jb := jb_t (List.mem_append_right _ (List.mem_append_right _ (List.mem_append_left _ (List.mem_of_getElem? (i := 82) rfl)))) rfl
theorem tw_563 : Cond.methodLink "JournaledFilesLaw" 118 yn_L_commit ∈ jb := jb_t (List.mem_append_right _ (List.mem_append_right _ (List.mem_append_left _ (List.mem_of_getElem? (i := 83) rfl)))) rfl
theorem tw_564 : Cond.static yn_L_commit ∈ jb := jb_t (List.mem_append_right _ (List.mem_append_right _ (List.mem_append_left _ (List.mem_of_getElem? (i := 84) rfl)))) rfl
theorem tw_566 : Cond.methodLink "JournaledFilesLaw" 57 yn_J_commit ∈ jb := jb_t (List.mem_append_right _ (List.mem_append_right _ (List.mem_append_left _ (List.mem_of_getElem? (i := 86) rfl)))) rfl
theorem tw_567 : Cond.instanceMethod yn_J_commit ∈ jb := jb_t (List.mem_append_right _ (List.mem_append_right _ (List.mem_append_left _ (List.mem_of_getElem? (i := 87) rfl)))) rfl
theorem tw_568 : Cond.selects "JournaledFiles" yn_J_commit yn_J_commit ∈ jb := jb_t (List.mem_append_right _ (List.mem_append_right _ (List.mem_append_left _ (List.mem_of_getElem? (i := 88) rfl)))) rfl
theorem tw_569 : Cond.code yn_J_commit prog_1_method_13_code 5 (some .int) ∈ jb := jb_t (List.mem_append_right _ (List.mem_append_right _ (List.mem_append_left _ (List.mem_of_getElem? (i := 89) rfl)))) rfl
theorem tw_571 : Cond.methodLink "JournaledFilesLaw" 122 yn_L_cutPower ∈ jb := jb_t (List.mem_append_right _ (List.mem_append_right _ (List.mem_append_left _ (List.mem_of_getElem? (i := 91) rfl)))) rfl
theorem tw_572 : Cond.static yn_L_cutPower ∈ jb := jb_t (List.mem_append_right _ (List.mem_append_right _ (List.mem_append_left _ (List.mem_of_getElem? (i := 92) rfl)))) rfl
theorem tw_574 : Cond.methodLink "JournaledFilesLaw" 61 yn_J_cutPower ∈ jb := jb_t (List.mem_append_right _ (List.mem_append_right _ (List.mem_append_left _ (List.mem_of_getElem? (i := 94) rfl)))) rfl
theorem tw_575 : Cond.instanceMethod yn_J_cutPower ∈ jb := jb_t (List.mem_append_right _ (List.mem_append_right _ (List.mem_append_left _ (List.mem_of_getElem? (i := 95) rfl)))) rfl
theorem tw_576 : Cond.selects "JournaledFiles" yn_J_cutPower yn_J_cutPower ∈ jb := jb_t (List.mem_append_right _ (List.mem_append_right _ (List.mem_append_left _ (List.mem_of_getElem? (i := 96) rfl)))) rfl
theorem tw_577 : Cond.code yn_J_cutPower prog_1_method_14_code 2 none ∈ jb := jb_t (List.mem_append_right _ (List.mem_append_right _ (List.mem_append_left _ (List.mem_of_getElem? (i := 97) rfl)))) rfl
theorem tw_578 : Cond.methodLink "JournaledFilesLaw" 129 yn_L_block ∈ jb := jb_t (List.mem_append_right _ (List.mem_append_right _ (List.mem_append_left _ (List.mem_of_getElem? (i := 98) rfl)))) rfl
theorem tw_579 : Cond.static yn_L_block ∈ jb := jb_t (List.mem_append_right _ (List.mem_append_right _ (List.mem_append_left _ (List.mem_of_getElem? (i := 99) rfl)))) rfl
theorem tw_581 : Cond.methodLink "JournaledFilesLaw" 64 yn_J_block ∈ jb := jb_t (List.mem_append_right _ (List.mem_append_right _ (List.mem_append_left _ (List.mem_of_getElem? (i := 101) rfl)))) rfl
theorem tw_582 : Cond.instanceMethod yn_J_block ∈ jb := jb_t (List.mem_append_right _ (List.mem_append_right _ (List.mem_append_left _ (List.mem_of_getElem? (i := 102) rfl)))) rfl
theorem tw_583 : Cond.selects "JournaledFiles" yn_J_block yn_J_block ∈ jb := jb_t (List.mem_append_right _ (List.mem_append_right _ (List.mem_append_left _ (List.mem_of_getElem? (i := 103) rfl)))) rfl
theorem tw_584 : Cond.code yn_J_block prog_1_method_16_code 5 (some .int) ∈ jb := jb_t (List.mem_append_right _ (List.mem_append_right _ (List.mem_append_left _ (List.mem_of_getElem? (i := 104) rfl)))) rfl
theorem tw_585 : Cond.methodLink "JournaledFiles" 208 yn_D_getKept ∈ jb := jb_t (List.mem_append_right _ (List.mem_append_right _ (List.mem_append_left _ (List.mem_of_getElem? (i := 105) rfl)))) rfl
theorem tw_586 : Cond.methodLink "JournaledFiles" 211 yn_D_get ∈ jb := jb_t (List.mem_append_right _ (List.mem_append_right _ (List.mem_append_left _ (List.mem_of_getElem? (i := 106) rfl)))) rfl
theorem tw_587 : Cond.classLink "JournaledFilesLaw" 69 "JournaledFilesModel" ∈ jb := jb_t (List.mem_append_right _ (List.mem_append_right _ (List.mem_append_left _ (List.mem_of_getElem? (i := 107) rfl)))) rfl
theorem tw_588 : Cond.instantiable "JournaledFilesModel" 17 ∈ jb := jb_t (List.mem_append_right _ (List.mem_append_right _ (List.mem_append_left _ (List.mem_of_getElem? (i := 108) rfl)))) rfl
theorem tw_589 : Cond.methodLink "JournaledFilesLaw" 71 yn_M_init ∈ jb := jb_t (List.mem_append_right _ (List.mem_append_right _ (List.mem_append_left _ (List.mem_of_getElem? (i := 109) rfl)))) rfl
theorem tw_590 : Cond.instanceMethod yn_M_init ∈ jb := jb_t (List.mem_append_right _ (List.mem_append_right _ (List.mem_append_left _ (List.mem_of_getElem? (i := 110) rfl)))) rfl
theorem tw_591 : Cond.code yn_M_init prog_6_method_1_code 2 none ∈ jb := jb_t (List.mem_append_right _ (List.mem_append_right _ (List.mem_append_left _ (List.mem_of_getElem? (i := 111) rfl)))) rfl
theorem tw_592 : Cond.methodLink "JournaledFilesModel" 1 ⟨"java/lang/Object", "<init>", "()V"⟩ ∈ jb := jb_t (List.mem_append_right _ (List.mem_append_right _ (List.mem_append_left _ (List.mem_of_getElem? (i := 112) rfl)))) rfl
theorem tw_593 : Cond.fieldLink "JournaledFilesModel" 7 "JournaledFilesModel" "kind" "[I" ∈ jb := jb_t (List.mem_append_right _ (List.mem_append_right _ (List.mem_append_left _ (List.mem_of_getElem? (i := 113) rfl)))) rfl
theorem tw_594 : Cond.fieldLink "JournaledFilesModel" 13 "JournaledFilesModel" "size" "[I" ∈ jb := jb_t (List.mem_append_right _ (List.mem_append_right _ (List.mem_append_left _ (List.mem_of_getElem? (i := 114) rfl)))) rfl
theorem tw_595 : Cond.fieldLink "JournaledFilesModel" 16 "JournaledFilesModel" "generation" "[I" ∈ jb := jb_t (List.mem_append_right _ (List.mem_append_right _ (List.mem_append_left _ (List.mem_of_getElem? (i := 115) rfl)))) rfl
theorem tw_596 : Cond.fieldLink "JournaledFilesModel" 19 "JournaledFilesModel" "blocks" "[I" ∈ jb := jb_t (List.mem_append_right _ (List.mem_append_right _ (List.mem_append_left _ (List.mem_of_getElem? (i := 116) rfl)))) rfl
theorem tw_597 : Cond.fieldLink "JournaledFilesModel" 22 "JournaledFilesModel" "bytes" "[I" ∈ jb := jb_t (List.mem_append_right _ (List.mem_append_right _ (List.mem_append_left _ (List.mem_of_getElem? (i := 117) rfl)))) rfl
theorem tw_598 : Cond.fieldLink "JournaledFilesModel" 25 "JournaledFilesModel" "inode" "[I" ∈ jb := jb_t (List.mem_append_right _ (List.mem_append_right _ (List.mem_append_left _ (List.mem_of_getElem? (i := 118) rfl)))) rfl
theorem tw_599 : Cond.fieldLink "JournaledFilesModel" 28 "JournaledFilesModel" "born" "[I" ∈ jb := jb_t (List.mem_append_right _ (List.mem_append_right _ (List.mem_append_left _ (List.mem_of_getElem? (i := 119) rfl)))) rfl
theorem tw_600 : Cond.fieldLink "JournaledFilesModel" 31 "JournaledFilesModel" "mode" "[I" ∈ jb := jb_t (List.mem_append_right _ (List.mem_append_right _ (List.mem_append_left _ (List.mem_of_getElem? (i := 120) rfl)))) rfl
theorem tw_601 : Cond.fieldLink "JournaledFilesModel" 34 "JournaledFilesModel" "place" "[I" ∈ jb := jb_t (List.mem_append_right _ (List.mem_append_right _ (List.mem_append_left _ (List.mem_of_getElem? (i := 121) rfl)))) rfl
theorem tw_602 : Cond.fieldLink "JournaledFilesModel" 133 "JournaledFilesModel" "cut" "I" ∈ jb := jb_t (List.mem_append_right _ (List.mem_append_right _ (List.mem_append_left _ (List.mem_of_getElem? (i := 122) rfl)))) rfl
theorem tw_603 : Cond.fieldLink "JournaledFilesModel" 136 "JournaledFilesModel" "writes" "I" ∈ jb := jb_t (List.mem_append_right _ (List.mem_append_right _ (List.mem_append_left _ (List.mem_of_getElem? (i := 123) rfl)))) rfl
theorem tw_604 : Cond.fieldLink "JournaledFilesModel" 145 "JournaledFilesModel" "offs" "I" ∈ jb := jb_t (List.mem_append_right _ (List.mem_append_right _ (List.mem_append_left _ (List.mem_of_getElem? (i := 124) rfl)))) rfl
theorem tw_605 : Cond.fieldLink "JournaledFilesModel" 37 "JournaledFilesModel" "thrown" "I" ∈ jb := jb_t (List.mem_append_right _ (List.mem_append_right _ (List.mem_append_left _ (List.mem_of_getElem? (i := 125) rfl)))) rfl
theorem tw_606 : Cond.fieldLink "JournaledFilesModel" 63 "JournaledFilesModel" "parent" "I" ∈ jb := jb_t (List.mem_append_right _ (List.mem_append_right _ (List.mem_append_left _ (List.mem_of_getElem? (i := 126) rfl)))) rfl
theorem tw_607 : Cond.fieldLink "JournaledFilesModel" 66 "JournaledFilesModel" "entry" "I" ∈ jb := jb_t (List.mem_append_right _ (List.mem_append_right _ (List.mem_append_left _ (List.mem_of_getElem? (i := 127) rfl)))) rfl
theorem tw_608 : Cond.fieldLink "JournaledFilesModel" 69 "JournaledFilesModel" "found" "I" ∈ jb := jb_t (List.mem_append_right _ (List.mem_append_right _ (List.mem_append_left _ (List.mem_of_getElem? (i := 128) rfl)))) rfl
theorem tw_609 : Cond.fieldLink "JournaledFilesModel" 72 "JournaledFilesModel" "last" "I" ∈ jb := jb_t (List.mem_append_right _ (List.mem_append_right _ (List.mem_append_left _ (List.mem_of_getElem? (i := 129) rfl)))) rfl
theorem tw_610 : Cond.laysFinal "JournaledFilesModel" "JournaledFilesModel" "kind" "[I" ∈ jb := jb_t (List.mem_append_right _ (List.mem_append_right _ (List.mem_append_left _ (List.mem_of_getElem? (i := 130) rfl)))) rfl
theorem tw_612 : Cond.laysFinal "JournaledFilesModel" "JournaledFilesModel" "size" "[I" ∈ jb := jb_t (List.mem_append_right _ (List.mem_append_right _ (List.mem_append_left _ (List.mem_of_getElem? (i := 132) rfl)))) rfl
theorem tw_614 : Cond.laysFinal "JournaledFilesModel" "JournaledFilesModel" "generation" "[I" ∈ jb := jb_t (List.mem_append_right _ (List.mem_append_right _ (List.mem_append_left _ (List.mem_of_getElem? (i := 134) rfl)))) rfl
theorem tw_616 : Cond.laysFinal "JournaledFilesModel" "JournaledFilesModel" "blocks" "[I" ∈ jb := jb_t (List.mem_append_right _ (List.mem_append_right _ (List.mem_append_left _ (List.mem_of_getElem? (i := 136) rfl)))) rfl
theorem tw_618 : Cond.laysFinal "JournaledFilesModel" "JournaledFilesModel" "bytes" "[I" ∈ jb := jb_t (List.mem_append_right _ (List.mem_append_right _ (List.mem_append_left _ (List.mem_of_getElem? (i := 138) rfl)))) rfl
theorem tw_620 : Cond.laysFinal "JournaledFilesModel" "JournaledFilesModel" "inode" "[I" ∈ jb := jb_t (List.mem_append_right _ (List.mem_append_right _ (List.mem_append_left _ (List.mem_of_getElem? (i := 140) rfl)))) rfl
theorem tw_622 : Cond.laysFinal "JournaledFilesModel" "JournaledFilesModel" "born" "[I" ∈ jb := jb_t (List.mem_append_right _ (List.mem_append_right _ (List.mem_append_left _ (List.mem_of_getElem? (i := 142) rfl)))) rfl
theorem tw_624 : Cond.laysFinal "JournaledFilesModel" "JournaledFilesModel" "mode" "[I" ∈ jb := jb_t (List.mem_append_right _ (List.mem_append_right _ (List.mem_append_left _ (List.mem_of_getElem? (i := 144) rfl)))) rfl
theorem tw_626 : Cond.laysFinal "JournaledFilesModel" "JournaledFilesModel" "place" "[I" ∈ jb := jb_t (List.mem_append_right _ (List.mem_append_right _ (List.mem_append_left _ (List.mem_of_getElem? (i := 146) rfl)))) rfl
theorem tw_628 : Cond.lays "JournaledFilesModel" "JournaledFilesModel" "cut" "I" ∈ jb := jb_t (List.mem_append_right _ (List.mem_append_right _ (List.mem_append_left _ (List.mem_of_getElem? (i := 148) rfl)))) rfl
theorem tw_630 : Cond.lays "JournaledFilesModel" "JournaledFilesModel" "writes" "I" ∈ jb := jb_t (List.mem_append_right _ (List.mem_append_right _ (List.mem_append_left _ (List.mem_of_getElem? (i := 150) rfl)))) rfl
theorem tw_632 : Cond.lays "JournaledFilesModel" "JournaledFilesModel" "offs" "I" ∈ jb := jb_t (List.mem_append_right _ (List.mem_append_right _ (List.mem_append_left _ (List.mem_of_getElem? (i := 152) rfl)))) rfl
theorem tw_634 : Cond.lays "JournaledFilesModel" "JournaledFilesModel" "thrown" "I" ∈ jb := jb_t (List.mem_append_right _ (List.mem_append_right _ (List.mem_append_left _ (List.mem_of_getElem? (i := 154) rfl)))) rfl
theorem tw_636 : Cond.lays "JournaledFilesModel" "JournaledFilesModel" "parent" "I" ∈ jb := jb_t (List.mem_append_right _ (List.mem_append_right _ (List.mem_append_left _ (List.mem_of_getElem? (i := 156) rfl)))) rfl
theorem tw_638 : Cond.lays "JournaledFilesModel" "JournaledFilesModel" "entry" "I" ∈ jb := jb_t (List.mem_append_right _ (List.mem_append_right _ (List.mem_append_left _ (List.mem_of_getElem? (i := 158) rfl)))) rfl
theorem tw_640 : Cond.lays "JournaledFilesModel" "JournaledFilesModel" "found" "I" ∈ jb := jb_t (List.mem_append_right _ (List.mem_append_right _ (List.mem_append_left _ (List.mem_of_getElem? (i := 160) rfl)))) rfl
theorem tw_642 : Cond.lays "JournaledFilesModel" "JournaledFilesModel" "last" "I" ∈ jb := jb_t (List.mem_append_right _ (List.mem_append_right _ (List.mem_append_left _ (List.mem_of_getElem? (i := 162) rfl)))) rfl
theorem tw_645 : Cond.methodLink "JournaledFilesLaw" 78 yn_M_thrown ∈ jb := jb_t (List.mem_append_right _ (List.mem_append_right _ (List.mem_append_left _ (List.mem_of_getElem? (i := 165) rfl)))) rfl
theorem tw_646 : Cond.instanceMethod yn_M_thrown ∈ jb := jb_t (List.mem_append_right _ (List.mem_append_right _ (List.mem_append_left _ (List.mem_of_getElem? (i := 166) rfl)))) rfl
theorem tw_647 : Cond.selects "JournaledFilesModel" yn_M_thrown yn_M_thrown ∈ jb := jb_t (List.mem_append_right _ (List.mem_append_right _ (List.mem_append_left _ (List.mem_of_getElem? (i := 167) rfl)))) rfl
theorem tw_648 : Cond.code yn_M_thrown prog_6_method_2_code 1 (some .int) ∈ jb := jb_t (List.mem_append_right _ (List.mem_append_right _ (List.mem_append_left _ (List.mem_of_getElem? (i := 168) rfl)))) rfl
theorem tw_649 : Cond.methodLink "JournaledFilesLaw" 77 yn_M_directory ∈ jb := jb_t (List.mem_append_right _ (List.mem_append_right _ (List.mem_append_left _ (List.mem_of_getElem? (i := 169) rfl)))) rfl
theorem tw_650 : Cond.instanceMethod yn_M_directory ∈ jb := jb_t (List.mem_append_right _ (List.mem_append_right _ (List.mem_append_left _ (List.mem_of_getElem? (i := 170) rfl)))) rfl
theorem tw_651 : Cond.selects "JournaledFilesModel" yn_M_directory yn_M_directory ∈ jb := jb_t (List.mem_append_right _ (List.mem_append_right _ (List.mem_append_left _ (List.mem_of_getElem? (i := 171) rfl)))) rfl
theorem tw_652 : Cond.code yn_M_directory prog_6_method_18_code 3 (some .int) ∈ jb := jb_t (List.mem_append_right _ (List.mem_append_right _ (List.mem_append_left _ (List.mem_of_getElem? (i := 172) rfl)))) rfl
theorem tw_653 : Cond.methodLink "JournaledFilesModel" 79 yn_M_badPath ∈ jb := jb_t (List.mem_append_right _ (List.mem_append_right _ (List.mem_append_left _ (List.mem_of_getElem? (i := 173) rfl)))) rfl
theorem tw_655 : Cond.instanceMethod yn_M_badPath ∈ jb := jb_t (List.mem_append_right _ (List.mem_append_right _ (List.mem_append_left _ (List.mem_of_getElem? (i := 175) rfl)))) rfl
theorem tw_656 : Cond.code yn_M_badPath prog_6_method_15_code 5 (some .boolean) ∈ jb := jb_t (List.mem_append_right _ (List.mem_append_right _ (List.mem_append_left _ (List.mem_of_getElem? (i := 176) rfl)))) rfl
theorem tw_657 : Cond.methodLink "JournaledFilesModel" 83 yn_M_lead ∈ jb := jb_t (List.mem_append_right _ (List.mem_append_right _ (List.mem_append_left _ (List.mem_of_getElem? (i := 177) rfl)))) rfl
theorem tw_659 : Cond.instanceMethod yn_M_lead ∈ jb := jb_t (List.mem_append_right _ (List.mem_append_right _ (List.mem_append_left _ (List.mem_of_getElem? (i := 179) rfl)))) rfl
theorem tw_660 : Cond.code yn_M_lead prog_6_method_16_code 4 (some .boolean) ∈ jb := jb_t (List.mem_append_right _ (List.mem_append_right _ (List.mem_append_left _ (List.mem_of_getElem? (i := 180) rfl)))) rfl
theorem tw_661 : Cond.methodLink "JournaledFilesModel" 75 yn_M_entryOf ∈ jb := jb_t (List.mem_append_right _ (List.mem_append_right _ (List.mem_append_left _ (List.mem_of_getElem? (i := 181) rfl)))) rfl
theorem tw_663 : Cond.instanceMethod yn_M_entryOf ∈ jb := jb_t (List.mem_append_right _ (List.mem_append_right _ (List.mem_append_left _ (List.mem_of_getElem? (i := 183) rfl)))) rfl
theorem tw_664 : Cond.code yn_M_entryOf prog_6_method_12_code 4 (some .int) ∈ jb := jb_t (List.mem_append_right _ (List.mem_append_right _ (List.mem_append_left _ (List.mem_of_getElem? (i := 184) rfl)))) rfl
theorem tw_665 : Cond.methodLink "JournaledFilesModel" 60 yn_M_newInode ∈ jb := jb_t (List.mem_append_right _ (List.mem_append_right _ (List.mem_append_left _ (List.mem_of_getElem? (i := 185) rfl)))) rfl
theorem tw_667 : Cond.instanceMethod yn_M_newInode ∈ jb := jb_t (List.mem_append_right _ (List.mem_append_right _ (List.mem_append_left _ (List.mem_of_getElem? (i := 187) rfl)))) rfl
theorem tw_668 : Cond.code yn_M_newInode prog_6_method_6_code 2 (some .int) ∈ jb := jb_t (List.mem_append_right _ (List.mem_append_right _ (List.mem_append_left _ (List.mem_of_getElem? (i := 188) rfl)))) rfl
theorem tw_669 : Cond.methodLink "JournaledFilesModel" 86 yn_M_entryRoom ∈ jb := jb_t (List.mem_append_right _ (List.mem_append_right _ (List.mem_append_left _ (List.mem_of_getElem? (i := 189) rfl)))) rfl
theorem tw_671 : Cond.instanceMethod yn_M_entryRoom ∈ jb := jb_t (List.mem_append_right _ (List.mem_append_right _ (List.mem_append_left _ (List.mem_of_getElem? (i := 191) rfl)))) rfl
theorem tw_672 : Cond.code yn_M_entryRoom prog_6_method_17_code 3 (some .boolean) ∈ jb := jb_t (List.mem_append_right _ (List.mem_append_right _ (List.mem_append_left _ (List.mem_of_getElem? (i := 192) rfl)))) rfl
theorem tw_673 : Cond.methodLink "JournaledFilesModel" 45 yn_M_needed ∈ jb := jb_t (List.mem_append_right _ (List.mem_append_right _ (List.mem_append_left _ (List.mem_of_getElem? (i := 193) rfl)))) rfl
theorem tw_675 : Cond.instanceMethod yn_M_needed ∈ jb := jb_t (List.mem_append_right _ (List.mem_append_right _ (List.mem_append_left _ (List.mem_of_getElem? (i := 195) rfl)))) rfl
theorem tw_676 : Cond.code yn_M_needed prog_6_method_7_code 2 (some .int) ∈ jb := jb_t (List.mem_append_right _ (List.mem_append_right _ (List.mem_append_left _ (List.mem_of_getElem? (i := 196) rfl)))) rfl
theorem tw_677 : Cond.methodLink "JournaledFilesModel" 49 yn_M_freeBlocks ∈ jb := jb_t (List.mem_append_right _ (List.mem_append_right _ (List.mem_append_left _ (List.mem_of_getElem? (i := 197) rfl)))) rfl
theorem tw_679 : Cond.instanceMethod yn_M_freeBlocks ∈ jb := jb_t (List.mem_append_right _ (List.mem_append_right _ (List.mem_append_left _ (List.mem_of_getElem? (i := 199) rfl)))) rfl
theorem tw_680 : Cond.code yn_M_freeBlocks prog_6_method_4_code 3 (some .int) ∈ jb := jb_t (List.mem_append_right _ (List.mem_append_right _ (List.mem_append_left _ (List.mem_of_getElem? (i := 200) rfl)))) rfl
theorem tw_681 : Cond.methodLink "JournaledFilesModel" 41 yn_M_isUsed ∈ jb := jb_t (List.mem_append_right _ (List.mem_append_right _ (List.mem_append_left _ (List.mem_of_getElem? (i := 201) rfl)))) rfl
theorem tw_683 : Cond.instanceMethod yn_M_isUsed ∈ jb := jb_t (List.mem_append_right _ (List.mem_append_right _ (List.mem_append_left _ (List.mem_of_getElem? (i := 203) rfl)))) rfl
theorem tw_684 : Cond.code yn_M_isUsed prog_6_method_3_code 4 (some .boolean) ∈ jb := jb_t (List.mem_append_right _ (List.mem_append_right _ (List.mem_append_left _ (List.mem_of_getElem? (i := 204) rfl)))) rfl
theorem tw_685 : Cond.methodLink "JournaledFilesModel" 89 yn_M_create ∈ jb := jb_t (List.mem_append_right _ (List.mem_append_right _ (List.mem_append_left _ (List.mem_of_getElem? (i := 205) rfl)))) rfl
theorem tw_687 : Cond.instanceMethod yn_M_create ∈ jb := jb_t (List.mem_append_right _ (List.mem_append_right _ (List.mem_append_left _ (List.mem_of_getElem? (i := 207) rfl)))) rfl
theorem tw_688 : Cond.code yn_M_create prog_6_method_11_code 3 (some .int) ∈ jb := jb_t (List.mem_append_right _ (List.mem_append_right _ (List.mem_append_left _ (List.mem_of_getElem? (i := 208) rfl)))) rfl
theorem tw_689 : Cond.methodLink "JournaledFilesModel" 92 yn_M_addEntry ∈ jb := jb_t (List.mem_append_right _ (List.mem_append_right _ (List.mem_append_left _ (List.mem_of_getElem? (i := 209) rfl)))) rfl
theorem tw_691 : Cond.instanceMethod yn_M_addEntry ∈ jb := jb_t (List.mem_append_right _ (List.mem_append_right _ (List.mem_append_left _ (List.mem_of_getElem? (i := 211) rfl)))) rfl
theorem tw_692 : Cond.code yn_M_addEntry prog_6_method_13_code 5 none ∈ jb := jb_t (List.mem_append_right _ (List.mem_append_right _ (List.mem_append_left _ (List.mem_of_getElem? (i := 212) rfl)))) rfl
theorem tw_693 : Cond.methodLink "JournaledFilesModel" 56 yn_M_resize ∈ jb := jb_t (List.mem_append_right _ (List.mem_append_right _ (List.mem_append_left _ (List.mem_of_getElem? (i := 213) rfl)))) rfl
theorem tw_695 : Cond.instanceMethod yn_M_resize ∈ jb := jb_t (List.mem_append_right _ (List.mem_append_right _ (List.mem_append_left _ (List.mem_of_getElem? (i := 215) rfl)))) rfl
theorem tw_696 : Cond.code yn_M_resize prog_6_method_9_code 4 none ∈ jb := jb_t (List.mem_append_right _ (List.mem_append_right _ (List.mem_append_left _ (List.mem_of_getElem? (i := 216) rfl)))) rfl
theorem tw_697 : Cond.methodLink "JournaledFilesModel" 53 yn_M_newBlock ∈ jb := jb_t (List.mem_append_right _ (List.mem_append_right _ (List.mem_append_left _ (List.mem_of_getElem? (i := 217) rfl)))) rfl
theorem tw_699 : Cond.instanceMethod yn_M_newBlock ∈ jb := jb_t (List.mem_append_right _ (List.mem_append_right _ (List.mem_append_left _ (List.mem_of_getElem? (i := 219) rfl)))) rfl
theorem tw_700 : Cond.code yn_M_newBlock prog_6_method_5_code 2 (some .int) ∈ jb := jb_t (List.mem_append_right _ (List.mem_append_right _ (List.mem_append_left _ (List.mem_of_getElem? (i := 220) rfl)))) rfl
theorem tw_701 : Cond.methodLink "JournaledFilesLaw" 84 yn_M_open ∈ jb := jb_t (List.mem_append_right _ (List.mem_append_right _ (List.mem_append_left _ (List.mem_of_getElem? (i := 221) rfl)))) rfl
theorem tw_702 : Cond.instanceMethod yn_M_open ∈ jb := jb_t (List.mem_append_right _ (List.mem_append_right _ (List.mem_append_left _ (List.mem_of_getElem? (i := 222) rfl)))) rfl
theorem tw_703 : Cond.selects "JournaledFilesModel" yn_M_open yn_M_open ∈ jb := jb_t (List.mem_append_right _ (List.mem_append_right _ (List.mem_append_left _ (List.mem_of_getElem? (i := 223) rfl)))) rfl
theorem tw_704 : Cond.code yn_M_open prog_6_method_20_code 9 (some .int) ∈ jb := jb_t (List.mem_append_right _ (List.mem_append_right _ (List.mem_append_left _ (List.mem_of_getElem? (i := 224) rfl)))) rfl
theorem tw_705 : Cond.methodLink "JournaledFilesModel" 96 yn_M_closedHandle ∈ jb := jb_t (List.mem_append_right _ (List.mem_append_right _ (List.mem_append_left _ (List.mem_of_getElem? (i := 225) rfl)))) rfl
theorem tw_707 : Cond.instanceMethod yn_M_closedHandle ∈ jb := jb_t (List.mem_append_right _ (List.mem_append_right _ (List.mem_append_left _ (List.mem_of_getElem? (i := 227) rfl)))) rfl
theorem tw_708 : Cond.code yn_M_closedHandle prog_6_method_19_code 2 (some .int) ∈ jb := jb_t (List.mem_append_right _ (List.mem_append_right _ (List.mem_append_left _ (List.mem_of_getElem? (i := 228) rfl)))) rfl
theorem tw_709 : Cond.methodLink "JournaledFilesLaw" 88 yn_M_close ∈ jb := jb_t (List.mem_append_right _ (List.mem_append_right _ (List.mem_append_left _ (List.mem_of_getElem? (i := 229) rfl)))) rfl
theorem tw_710 : Cond.instanceMethod yn_M_close ∈ jb := jb_t (List.mem_append_right _ (List.mem_append_right _ (List.mem_append_left _ (List.mem_of_getElem? (i := 230) rfl)))) rfl
theorem tw_711 : Cond.selects "JournaledFilesModel" yn_M_close yn_M_close ∈ jb := jb_t (List.mem_append_right _ (List.mem_append_right _ (List.mem_append_left _ (List.mem_of_getElem? (i := 231) rfl)))) rfl
theorem tw_712 : Cond.code yn_M_close prog_6_method_21_code 2 none ∈ jb := jb_t (List.mem_append_right _ (List.mem_append_right _ (List.mem_append_left _ (List.mem_of_getElem? (i := 232) rfl)))) rfl
theorem tw_713 : Cond.methodLink "JournaledFilesLaw" 94 yn_M_write ∈ jb := jb_t (List.mem_append_right _ (List.mem_append_right _ (List.mem_append_left _ (List.mem_of_getElem? (i := 233) rfl)))) rfl
theorem tw_714 : Cond.instanceMethod yn_M_write ∈ jb := jb_t (List.mem_append_right _ (List.mem_append_right _ (List.mem_append_left _ (List.mem_of_getElem? (i := 234) rfl)))) rfl
theorem tw_715 : Cond.selects "JournaledFilesModel" yn_M_write yn_M_write ∈ jb := jb_t (List.mem_append_right _ (List.mem_append_right _ (List.mem_append_left _ (List.mem_of_getElem? (i := 235) rfl)))) rfl
theorem tw_716 : Cond.code yn_M_write prog_6_method_24_code 9 none ∈ jb := jb_t (List.mem_append_right _ (List.mem_append_right _ (List.mem_append_left _ (List.mem_of_getElem? (i := 236) rfl)))) rfl
theorem tw_717 : Cond.methodLink "JournaledFilesModel" 102 yn_M_wrong ∈ jb := jb_t (List.mem_append_right _ (List.mem_append_right _ (List.mem_append_left _ (List.mem_of_getElem? (i := 237) rfl)))) rfl
theorem tw_719 : Cond.instanceMethod yn_M_wrong ∈ jb := jb_t (List.mem_append_right _ (List.mem_append_right _ (List.mem_append_left _ (List.mem_of_getElem? (i := 239) rfl)))) rfl
theorem tw_720 : Cond.code yn_M_wrong prog_6_method_23_code 4 (some .int) ∈ jb := jb_t (List.mem_append_right _ (List.mem_append_right _ (List.mem_append_right _ (List.mem_of_getElem? (i := 0) rfl)))) rfl
theorem tw_721 : Cond.methodLink "JournaledFilesModel" 99 yn_M_stale ∈ jb := jb_t (List.mem_append_right _ (List.mem_append_right _ (List.mem_append_right _ (List.mem_of_getElem? (i := 1) rfl)))) rfl
theorem tw_723 : Cond.instanceMethod yn_M_stale ∈ jb := jb_t (List.mem_append_right _ (List.mem_append_right _ (List.mem_append_right _ (List.mem_of_getElem? (i := 3) rfl)))) rfl
theorem tw_724 : Cond.code yn_M_stale prog_6_method_22_code 3 (some .boolean) ∈ jb := jb_t (List.mem_append_right _ (List.mem_append_right _ (List.mem_append_right _ (List.mem_of_getElem? (i := 4) rfl)))) rfl
theorem tw_725 : Cond.methodLink "JournaledFilesModel" 106 yn_M_roomFor ∈ jb := jb_t (List.mem_append_right _ (List.mem_append_right _ (List.mem_append_right _ (List.mem_of_getElem? (i := 5) rfl)))) rfl
theorem tw_727 : Cond.instanceMethod yn_M_roomFor ∈ jb := jb_t (List.mem_append_right _ (List.mem_append_right _ (List.mem_append_right _ (List.mem_of_getElem? (i := 7) rfl)))) rfl
theorem tw_728 : Cond.code yn_M_roomFor prog_6_method_8_code 3 (some .boolean) ∈ jb := jb_t (List.mem_append_right _ (List.mem_append_right _ (List.mem_append_right _ (List.mem_of_getElem? (i := 8) rfl)))) rfl
theorem tw_729 : Cond.constantLong "JournaledFilesModel" 109 (255 : Int64) ∈ jb := jb_t (List.mem_append_right _ (List.mem_append_right _ (List.mem_append_right _ (List.mem_of_getElem? (i := 9) rfl)))) rfl
theorem tw_730 : Cond.methodLink "JournaledFilesLaw" 98 yn_M_read ∈ jb := jb_t (List.mem_append_right _ (List.mem_append_right _ (List.mem_append_right _ (List.mem_of_getElem? (i := 10) rfl)))) rfl
theorem tw_731 : Cond.instanceMethod yn_M_read ∈ jb := jb_t (List.mem_append_right _ (List.mem_append_right _ (List.mem_append_right _ (List.mem_of_getElem? (i := 11) rfl)))) rfl
theorem tw_732 : Cond.selects "JournaledFilesModel" yn_M_read yn_M_read ∈ jb := jb_t (List.mem_append_right _ (List.mem_append_right _ (List.mem_append_right _ (List.mem_of_getElem? (i := 12) rfl)))) rfl
theorem tw_733 : Cond.code yn_M_read prog_6_method_25_code 7 (some .long) ∈ jb := jb_t (List.mem_append_right _ (List.mem_append_right _ (List.mem_append_right _ (List.mem_of_getElem? (i := 13) rfl)))) rfl
theorem tw_734 : Cond.methodLink "JournaledFilesLaw" 102 yn_M_seek ∈ jb := jb_t (List.mem_append_right _ (List.mem_append_right _ (List.mem_append_right _ (List.mem_of_getElem? (i := 14) rfl)))) rfl
theorem tw_735 : Cond.instanceMethod yn_M_seek ∈ jb := jb_t (List.mem_append_right _ (List.mem_append_right _ (List.mem_append_right _ (List.mem_of_getElem? (i := 15) rfl)))) rfl
theorem tw_736 : Cond.selects "JournaledFilesModel" yn_M_seek yn_M_seek ∈ jb := jb_t (List.mem_append_right _ (List.mem_append_right _ (List.mem_append_right _ (List.mem_of_getElem? (i := 16) rfl)))) rfl
theorem tw_737 : Cond.code yn_M_seek prog_6_method_26_code 3 none ∈ jb := jb_t (List.mem_append_right _ (List.mem_append_right _ (List.mem_append_right _ (List.mem_of_getElem? (i := 17) rfl)))) rfl
theorem tw_738 : Cond.methodLink "JournaledFilesLaw" 105 yn_M_next ∈ jb := jb_t (List.mem_append_right _ (List.mem_append_right _ (List.mem_append_right _ (List.mem_of_getElem? (i := 18) rfl)))) rfl
theorem tw_739 : Cond.instanceMethod yn_M_next ∈ jb := jb_t (List.mem_append_right _ (List.mem_append_right _ (List.mem_append_right _ (List.mem_of_getElem? (i := 19) rfl)))) rfl
theorem tw_740 : Cond.selects "JournaledFilesModel" yn_M_next yn_M_next ∈ jb := jb_t (List.mem_append_right _ (List.mem_append_right _ (List.mem_append_right _ (List.mem_of_getElem? (i := 20) rfl)))) rfl
theorem tw_741 : Cond.code yn_M_next prog_6_method_27_code 3 (some .int) ∈ jb := jb_t (List.mem_append_right _ (List.mem_append_right _ (List.mem_append_right _ (List.mem_of_getElem? (i := 21) rfl)))) rfl
theorem tw_742 : Cond.methodLink "JournaledFilesLaw" 108 yn_M_remove ∈ jb := jb_t (List.mem_append_right _ (List.mem_append_right _ (List.mem_append_right _ (List.mem_of_getElem? (i := 22) rfl)))) rfl
theorem tw_743 : Cond.instanceMethod yn_M_remove ∈ jb := jb_t (List.mem_append_right _ (List.mem_append_right _ (List.mem_append_right _ (List.mem_of_getElem? (i := 23) rfl)))) rfl
theorem tw_744 : Cond.selects "JournaledFilesModel" yn_M_remove yn_M_remove ∈ jb := jb_t (List.mem_append_right _ (List.mem_append_right _ (List.mem_append_right _ (List.mem_of_getElem? (i := 24) rfl)))) rfl
theorem tw_745 : Cond.code yn_M_remove prog_6_method_28_code 3 none ∈ jb := jb_t (List.mem_append_right _ (List.mem_append_right _ (List.mem_append_right _ (List.mem_of_getElem? (i := 25) rfl)))) rfl
theorem tw_746 : Cond.methodLink "JournaledFilesModel" 111 yn_M_dropEntry ∈ jb := jb_t (List.mem_append_right _ (List.mem_append_right _ (List.mem_append_right _ (List.mem_of_getElem? (i := 26) rfl)))) rfl
theorem tw_748 : Cond.instanceMethod yn_M_dropEntry ∈ jb := jb_t (List.mem_append_right _ (List.mem_append_right _ (List.mem_append_right _ (List.mem_of_getElem? (i := 28) rfl)))) rfl
theorem tw_749 : Cond.code yn_M_dropEntry prog_6_method_14_code 4 none ∈ jb := jb_t (List.mem_append_right _ (List.mem_append_right _ (List.mem_append_right _ (List.mem_of_getElem? (i := 29) rfl)))) rfl
theorem tw_750 : Cond.methodLink "JournaledFilesModel" 114 yn_M_release ∈ jb := jb_t (List.mem_append_right _ (List.mem_append_right _ (List.mem_append_right _ (List.mem_of_getElem? (i := 30) rfl)))) rfl
theorem tw_752 : Cond.instanceMethod yn_M_release ∈ jb := jb_t (List.mem_append_right _ (List.mem_append_right _ (List.mem_append_right _ (List.mem_of_getElem? (i := 32) rfl)))) rfl
theorem tw_753 : Cond.code yn_M_release prog_6_method_10_code 2 none ∈ jb := jb_t (List.mem_append_right _ (List.mem_append_right _ (List.mem_append_right _ (List.mem_of_getElem? (i := 33) rfl)))) rfl
theorem tw_754 : Cond.methodLink "JournaledFilesLaw" 111 yn_M_rename ∈ jb := jb_t (List.mem_append_right _ (List.mem_append_right _ (List.mem_append_right _ (List.mem_of_getElem? (i := 34) rfl)))) rfl
theorem tw_755 : Cond.instanceMethod yn_M_rename ∈ jb := jb_t (List.mem_append_right _ (List.mem_append_right _ (List.mem_append_right _ (List.mem_of_getElem? (i := 35) rfl)))) rfl
theorem tw_756 : Cond.selects "JournaledFilesModel" yn_M_rename yn_M_rename ∈ jb := jb_t (List.mem_append_right _ (List.mem_append_right _ (List.mem_append_right _ (List.mem_of_getElem? (i := 36) rfl)))) rfl
theorem tw_757 : Cond.code yn_M_rename prog_6_method_30_code 10 none ∈ jb := jb_t (List.mem_append_right _ (List.mem_append_right _ (List.mem_append_right _ (List.mem_of_getElem? (i := 37) rfl)))) rfl
theorem tw_758 : Cond.methodLink "JournaledFilesModel" 118 yn_M_within ∈ jb := jb_t (List.mem_append_right _ (List.mem_append_right _ (List.mem_append_right _ (List.mem_of_getElem? (i := 38) rfl)))) rfl
theorem tw_760 : Cond.instanceMethod yn_M_within ∈ jb := jb_t (List.mem_append_right _ (List.mem_append_right _ (List.mem_append_right _ (List.mem_of_getElem? (i := 40) rfl)))) rfl
theorem tw_761 : Cond.code yn_M_within prog_6_method_29_code 4 (some .boolean) ∈ jb := jb_t (List.mem_append_right _ (List.mem_append_right _ (List.mem_append_right _ (List.mem_of_getElem? (i := 41) rfl)))) rfl
theorem tw_762 : Cond.methodLink "JournaledFilesLaw" 114 yn_M_truncate ∈ jb := jb_t (List.mem_append_right _ (List.mem_append_right _ (List.mem_append_right _ (List.mem_of_getElem? (i := 42) rfl)))) rfl
theorem tw_763 : Cond.instanceMethod yn_M_truncate ∈ jb := jb_t (List.mem_append_right _ (List.mem_append_right _ (List.mem_append_right _ (List.mem_of_getElem? (i := 43) rfl)))) rfl
theorem tw_764 : Cond.selects "JournaledFilesModel" yn_M_truncate yn_M_truncate ∈ jb := jb_t (List.mem_append_right _ (List.mem_append_right _ (List.mem_append_right _ (List.mem_of_getElem? (i := 44) rfl)))) rfl
theorem tw_765 : Cond.code yn_M_truncate prog_6_method_31_code 3 none ∈ jb := jb_t (List.mem_append_right _ (List.mem_append_right _ (List.mem_append_right _ (List.mem_of_getElem? (i := 45) rfl)))) rfl
theorem tw_766 : Cond.methodLink "JournaledFilesLaw" 117 yn_M_stat ∈ jb := jb_t (List.mem_append_right _ (List.mem_append_right _ (List.mem_append_right _ (List.mem_of_getElem? (i := 46) rfl)))) rfl
theorem tw_767 : Cond.instanceMethod yn_M_stat ∈ jb := jb_t (List.mem_append_right _ (List.mem_append_right _ (List.mem_append_right _ (List.mem_of_getElem? (i := 47) rfl)))) rfl
theorem tw_768 : Cond.selects "JournaledFilesModel" yn_M_stat yn_M_stat ∈ jb := jb_t (List.mem_append_right _ (List.mem_append_right _ (List.mem_append_right _ (List.mem_of_getElem? (i := 48) rfl)))) rfl
theorem tw_769 : Cond.code yn_M_stat prog_6_method_32_code 3 (some .int) ∈ jb := jb_t (List.mem_append_right _ (List.mem_append_right _ (List.mem_append_right _ (List.mem_of_getElem? (i := 49) rfl)))) rfl
theorem tw_770 : Cond.methodLink "JournaledFilesLaw" 121 yn_M_commit ∈ jb := jb_t (List.mem_append_right _ (List.mem_append_right _ (List.mem_append_right _ (List.mem_of_getElem? (i := 50) rfl)))) rfl
theorem tw_771 : Cond.instanceMethod yn_M_commit ∈ jb := jb_t (List.mem_append_right _ (List.mem_append_right _ (List.mem_append_right _ (List.mem_of_getElem? (i := 51) rfl)))) rfl
theorem tw_772 : Cond.selects "JournaledFilesModel" yn_M_commit yn_M_commit ∈ jb := jb_t (List.mem_append_right _ (List.mem_append_right _ (List.mem_append_right _ (List.mem_of_getElem? (i := 52) rfl)))) rfl
theorem tw_773 : Cond.code yn_M_commit prog_6_method_38_code 3 (some .int) ∈ jb := jb_t (List.mem_append_right _ (List.mem_append_right _ (List.mem_append_right _ (List.mem_of_getElem? (i := 53) rfl)))) rfl
theorem tw_774 : Cond.methodLink "JournaledFilesModel" 130 yn_M_differing ∈ jb := jb_t (List.mem_append_right _ (List.mem_append_right _ (List.mem_append_right _ (List.mem_of_getElem? (i := 54) rfl)))) rfl
theorem tw_776 : Cond.instanceMethod yn_M_differing ∈ jb := jb_t (List.mem_append_right _ (List.mem_append_right _ (List.mem_append_right _ (List.mem_of_getElem? (i := 56) rfl)))) rfl
theorem tw_777 : Cond.code yn_M_differing prog_6_method_36_code 5 (some .int) ∈ jb := jb_t (List.mem_append_right _ (List.mem_append_right _ (List.mem_append_right _ (List.mem_of_getElem? (i := 57) rfl)))) rfl
theorem tw_778 : Cond.methodLink "JournaledFilesModel" 127 yn_M_byteOf ∈ jb := jb_t (List.mem_append_right _ (List.mem_append_right _ (List.mem_append_right _ (List.mem_of_getElem? (i := 58) rfl)))) rfl
theorem tw_780 : Cond.instanceMethod yn_M_byteOf ∈ jb := jb_t (List.mem_append_right _ (List.mem_append_right _ (List.mem_append_right _ (List.mem_of_getElem? (i := 60) rfl)))) rfl
theorem tw_781 : Cond.code yn_M_byteOf prog_6_method_35_code 5 (some .int) ∈ jb := jb_t (List.mem_append_right _ (List.mem_append_right _ (List.mem_append_right _ (List.mem_of_getElem? (i := 61) rfl)))) rfl
theorem tw_782 : Cond.methodLink "JournaledFilesModel" 121 yn_M_mapByte ∈ jb := jb_t (List.mem_append_right _ (List.mem_append_right _ (List.mem_append_right _ (List.mem_of_getElem? (i := 62) rfl)))) rfl
theorem tw_784 : Cond.instanceMethod yn_M_mapByte ∈ jb := jb_t (List.mem_append_right _ (List.mem_append_right _ (List.mem_append_right _ (List.mem_of_getElem? (i := 64) rfl)))) rfl
theorem tw_785 : Cond.code yn_M_mapByte prog_6_method_33_code 5 (some .int) ∈ jb := jb_t (List.mem_append_right _ (List.mem_append_right _ (List.mem_append_right _ (List.mem_of_getElem? (i := 65) rfl)))) rfl
theorem tw_786 : Cond.methodLink "JournaledFilesModel" 124 yn_M_inodeByte ∈ jb := jb_t (List.mem_append_right _ (List.mem_append_right _ (List.mem_append_right _ (List.mem_of_getElem? (i := 66) rfl)))) rfl
theorem tw_788 : Cond.instanceMethod yn_M_inodeByte ∈ jb := jb_t (List.mem_append_right _ (List.mem_append_right _ (List.mem_append_right _ (List.mem_of_getElem? (i := 68) rfl)))) rfl
theorem tw_789 : Cond.code yn_M_inodeByte prog_6_method_34_code 3 (some .int) ∈ jb := jb_t (List.mem_append_right _ (List.mem_append_right _ (List.mem_append_right _ (List.mem_of_getElem? (i := 69) rfl)))) rfl
theorem tw_790 : Cond.methodLink "JournaledFilesModel" 139 yn_M_copyTables ∈ jb := jb_t (List.mem_append_right _ (List.mem_append_right _ (List.mem_append_right _ (List.mem_of_getElem? (i := 70) rfl)))) rfl
theorem tw_792 : Cond.instanceMethod yn_M_copyTables ∈ jb := jb_t (List.mem_append_right _ (List.mem_append_right _ (List.mem_append_right _ (List.mem_of_getElem? (i := 72) rfl)))) rfl
theorem tw_793 : Cond.code yn_M_copyTables prog_6_method_37_code 4 none ∈ jb := jb_t (List.mem_append_right _ (List.mem_append_right _ (List.mem_append_right _ (List.mem_of_getElem? (i := 73) rfl)))) rfl
theorem tw_794 : Cond.methodLink "JournaledFilesModel" 142 yn_M_crash ∈ jb := jb_t (List.mem_append_right _ (List.mem_append_right _ (List.mem_append_right _ (List.mem_of_getElem? (i := 74) rfl)))) rfl
theorem tw_795 : Cond.instanceMethod yn_M_crash ∈ jb := jb_t (List.mem_append_right _ (List.mem_append_right _ (List.mem_append_right _ (List.mem_of_getElem? (i := 75) rfl)))) rfl
theorem tw_796 : Cond.selects "JournaledFilesModel" yn_M_crash yn_M_crash ∈ jb := jb_t (List.mem_append_right _ (List.mem_append_right _ (List.mem_append_right _ (List.mem_of_getElem? (i := 76) rfl)))) rfl
theorem tw_797 : Cond.code yn_M_crash prog_6_method_40_code 2 none ∈ jb := jb_t (List.mem_append_right _ (List.mem_append_right _ (List.mem_append_right _ (List.mem_of_getElem? (i := 77) rfl)))) rfl
theorem tw_798 : Cond.methodLink "JournaledFilesLaw" 124 yn_M_cutPower ∈ jb := jb_t (List.mem_append_right _ (List.mem_append_right _ (List.mem_append_right _ (List.mem_of_getElem? (i := 78) rfl)))) rfl
theorem tw_799 : Cond.instanceMethod yn_M_cutPower ∈ jb := jb_t (List.mem_append_right _ (List.mem_append_right _ (List.mem_append_right _ (List.mem_of_getElem? (i := 79) rfl)))) rfl
theorem tw_800 : Cond.selects "JournaledFilesModel" yn_M_cutPower yn_M_cutPower ∈ jb := jb_t (List.mem_append_right _ (List.mem_append_right _ (List.mem_append_right _ (List.mem_of_getElem? (i := 80) rfl)))) rfl
theorem tw_801 : Cond.code yn_M_cutPower prog_6_method_39_code 2 none ∈ jb := jb_t (List.mem_append_right _ (List.mem_append_right _ (List.mem_append_right _ (List.mem_of_getElem? (i := 81) rfl)))) rfl
theorem tw_802 : Cond.methodLink "JournaledFilesLaw" 128 yn_M_crash ∈ jb := jb_t (List.mem_append_right _ (List.mem_append_right _ (List.mem_append_right _ (List.mem_of_getElem? (i := 82) rfl)))) rfl
theorem tw_803 : Cond.methodLink "JournaledFilesLaw" 132 yn_M_block ∈ jb := jb_t (List.mem_append_right _ (List.mem_append_right _ (List.mem_append_right _ (List.mem_of_getElem? (i := 83) rfl)))) rfl
theorem tw_804 : Cond.instanceMethod yn_M_block ∈ jb := jb_t (List.mem_append_right _ (List.mem_append_right _ (List.mem_append_right _ (List.mem_of_getElem? (i := 84) rfl)))) rfl
theorem tw_805 : Cond.selects "JournaledFilesModel" yn_M_block yn_M_block ∈ jb := jb_t (List.mem_append_right _ (List.mem_append_right _ (List.mem_append_right _ (List.mem_of_getElem? (i := 85) rfl)))) rfl
theorem tw_806 : Cond.code yn_M_block prog_6_method_41_code 4 (some .int) ∈ jb := jb_t (List.mem_append_right _ (List.mem_append_right _ (List.mem_append_right _ (List.mem_of_getElem? (i := 86) rfl)))) rfl
theorem tw_807 : Cond.methodLink "JournaledFilesLaw" 136 yn_M_count ∈ jb := jb_t (List.mem_append_right _ (List.mem_append_right _ (List.mem_append_right _ (List.mem_of_getElem? (i := 87) rfl)))) rfl
theorem tw_808 : Cond.instanceMethod yn_M_count ∈ jb := jb_t (List.mem_append_right _ (List.mem_append_right _ (List.mem_append_right _ (List.mem_of_getElem? (i := 88) rfl)))) rfl
theorem tw_809 : Cond.selects "JournaledFilesModel" yn_M_count yn_M_count ∈ jb := jb_t (List.mem_append_right _ (List.mem_append_right _ (List.mem_append_right _ (List.mem_of_getElem? (i := 89) rfl)))) rfl
theorem tw_810 : Cond.code yn_M_count prog_6_method_42_code 4 (some .int) ∈ jb := jb_t (List.mem_append_right _ (List.mem_append_right _ (List.mem_append_right _ (List.mem_of_getElem? (i := 90) rfl)))) rfl
theorem tw_811 : Cond.constantLong "JournaledFilesLaw" 89 (4294967295 : Int64) ∈ jb := jb_t (List.mem_append_right _ (List.mem_append_right _ (List.mem_append_right _ (List.mem_of_getElem? (i := 91) rfl)))) rfl
theorem tw_812 : Cond.arrayClass .long ∈ jb := jb_t (List.mem_append_right _ (List.mem_append_right _ (List.mem_append_right _ (List.mem_of_getElem? (i := 92) rfl)))) rfl
theorem ts_0_0 : Cond.selects "JournaledFiles$Disk" yn_D_mark yn_D_mark ∈ jb := jb_s (List.mem_of_getElem? (i := 0) rfl) rfl
theorem ts_0_1 : Cond.selects "JournaledFiles$Inodes" yn_I_putField yn_I_putField ∈ jb := jb_s (List.mem_of_getElem? (i := 1) rfl) rfl
theorem ts_0_2 : Cond.selects "JournaledFiles$Inodes" yn_I_field yn_I_field ∈ jb := jb_s (List.mem_of_getElem? (i := 2) rfl) rfl
theorem ts_0_3 : Cond.selects "JournaledFiles" yn_J_losePower yn_J_losePower ∈ jb := jb_s (List.mem_of_getElem? (i := 3) rfl) rfl
theorem ts_0_4 : Cond.selects "JournaledFiles$Disk" yn_D_isUsed yn_D_isUsed ∈ jb := jb_s (List.mem_of_getElem? (i := 4) rfl) rfl
theorem ts_0_5 : Cond.selects "JournaledFiles" yn_J_openHandles yn_J_openHandles ∈ jb := jb_s (List.mem_of_getElem? (i := 5) rfl) rfl
theorem ts_0_6 : Cond.selects "JournaledFiles$Disk" yn_D_differs yn_D_differs ∈ jb := jb_s (List.mem_of_getElem? (i := 6) rfl) rfl
theorem ts_0_7 : Cond.selects "JournaledFiles" yn_J_staleHandles yn_J_staleHandles ∈ jb := jb_s (List.mem_of_getElem? (i := 7) rfl) rfl
theorem ts_0_8 : Cond.selects "JournaledFiles" yn_J_isStale yn_J_isStale ∈ jb := jb_s (List.mem_of_getElem? (i := 8) rfl) rfl
theorem ts_0_10 : Cond.selects "JournaledFiles" yn_J_inodeAt yn_J_inodeAt ∈ jb := jb_s (List.mem_of_getElem? (i := 10) rfl) rfl
theorem ts_0_11 : Cond.selects "JournaledFiles$Inodes" yn_I_placeOf yn_I_placeOf ∈ jb := jb_s (List.mem_of_getElem? (i := 11) rfl) rfl
theorem ts_0_12 : Cond.selects "JournaledFiles" yn_J_parentNeeded yn_J_parentNeeded ∈ jb := jb_s (List.mem_of_getElem? (i := 12) rfl) rfl
theorem ts_0_13 : Cond.selects "JournaledFiles" yn_J_checkRoomForNew yn_J_checkRoomForNew ∈ jb := jb_s (List.mem_of_getElem? (i := 13) rfl) rfl
theorem ts_0_14 : Cond.selects "JournaledFiles" yn_J_makeNew yn_J_makeNew ∈ jb := jb_s (List.mem_of_getElem? (i := 14) rfl) rfl
theorem ts_0_15 : Cond.selects "JournaledFiles$Inodes" yn_I_putEntry yn_I_putEntry ∈ jb := jb_s (List.mem_of_getElem? (i := 15) rfl) rfl
theorem ts_1_0 : Cond.selects "JournaledFiles" yn_J_closedHandleNeeded yn_J_closedHandleNeeded ∈ jb := jb_s (List.mem_of_getElem? (i := 16) rfl) rfl
theorem ts_1_1 : Cond.selects "JournaledFiles" yn_J_openHandle yn_J_openHandle ∈ jb := jb_s (List.mem_of_getElem? (i := 17) rfl) rfl
theorem ts_1_2 : Cond.selects "JournaledFiles" yn_J_usableHandle yn_J_usableHandle ∈ jb := jb_s (List.mem_of_getElem? (i := 18) rfl) rfl
theorem ts_1_3 : Cond.selects "JournaledFiles" yn_J_checkRoomForSize yn_J_checkRoomForSize ∈ jb := jb_s (List.mem_of_getElem? (i := 19) rfl) rfl
theorem ts_1_4 : Cond.selects "JournaledFiles" yn_J_inodeNeeded yn_J_inodeNeeded ∈ jb := jb_s (List.mem_of_getElem? (i := 20) rfl) rfl
theorem ts_1_5 : Cond.selects "JournaledFiles" yn_J_checkMove yn_J_checkMove ∈ jb := jb_s (List.mem_of_getElem? (i := 21) rfl) rfl
theorem ts_1_6 : Cond.selects "JournaledFiles" yn_J_hasRoomAfterLeaving yn_J_hasRoomAfterLeaving ∈ jb := jb_s (List.mem_of_getElem? (i := 22) rfl) rfl
theorem ts_1_7 : Cond.selects "JournaledFilesModel" yn_M_badPath yn_M_badPath ∈ jb := jb_s (List.mem_of_getElem? (i := 23) rfl) rfl
theorem ts_1_8 : Cond.selects "JournaledFilesModel" yn_M_lead yn_M_lead ∈ jb := jb_s (List.mem_of_getElem? (i := 24) rfl) rfl
theorem ts_1_9 : Cond.selects "JournaledFilesModel" yn_M_entryOf yn_M_entryOf ∈ jb := jb_s (List.mem_of_getElem? (i := 25) rfl) rfl
theorem ts_1_10 : Cond.selects "JournaledFilesModel" yn_M_newInode yn_M_newInode ∈ jb := jb_s (List.mem_of_getElem? (i := 26) rfl) rfl
theorem ts_1_11 : Cond.selects "JournaledFilesModel" yn_M_entryRoom yn_M_entryRoom ∈ jb := jb_s (List.mem_of_getElem? (i := 27) rfl) rfl
theorem ts_1_12 : Cond.selects "JournaledFilesModel" yn_M_needed yn_M_needed ∈ jb := jb_s (List.mem_of_getElem? (i := 28) rfl) rfl
theorem ts_1_13 : Cond.selects "JournaledFilesModel" yn_M_freeBlocks yn_M_freeBlocks ∈ jb := jb_s (List.mem_of_getElem? (i := 29) rfl) rfl
theorem ts_1_14 : Cond.selects "JournaledFilesModel" yn_M_isUsed yn_M_isUsed ∈ jb := jb_s (List.mem_of_getElem? (i := 30) rfl) rfl
theorem ts_1_15 : Cond.selects "JournaledFilesModel" yn_M_create yn_M_create ∈ jb := jb_s (List.mem_of_getElem? (i := 31) rfl) rfl
theorem ts_2_0 : Cond.selects "JournaledFilesModel" yn_M_addEntry yn_M_addEntry ∈ jb := jb_s (List.mem_of_getElem? (i := 32) rfl) rfl
theorem ts_2_1 : Cond.selects "JournaledFilesModel" yn_M_resize yn_M_resize ∈ jb := jb_s (List.mem_of_getElem? (i := 33) rfl) rfl
theorem ts_2_2 : Cond.selects "JournaledFilesModel" yn_M_newBlock yn_M_newBlock ∈ jb := jb_s (List.mem_of_getElem? (i := 34) rfl) rfl
theorem ts_2_3 : Cond.selects "JournaledFilesModel" yn_M_closedHandle yn_M_closedHandle ∈ jb := jb_s (List.mem_of_getElem? (i := 35) rfl) rfl
theorem ts_2_4 : Cond.selects "JournaledFilesModel" yn_M_wrong yn_M_wrong ∈ jb := jb_s (List.mem_of_getElem? (i := 36) rfl) rfl
theorem ts_2_5 : Cond.selects "JournaledFilesModel" yn_M_stale yn_M_stale ∈ jb := jb_s (List.mem_of_getElem? (i := 37) rfl) rfl
theorem ts_2_6 : Cond.selects "JournaledFilesModel" yn_M_roomFor yn_M_roomFor ∈ jb := jb_s (List.mem_of_getElem? (i := 38) rfl) rfl
theorem ts_2_7 : Cond.selects "JournaledFilesModel" yn_M_dropEntry yn_M_dropEntry ∈ jb := jb_s (List.mem_of_getElem? (i := 39) rfl) rfl
theorem ts_2_8 : Cond.selects "JournaledFilesModel" yn_M_release yn_M_release ∈ jb := jb_s (List.mem_of_getElem? (i := 40) rfl) rfl
theorem ts_2_9 : Cond.selects "JournaledFilesModel" yn_M_within yn_M_within ∈ jb := jb_s (List.mem_of_getElem? (i := 41) rfl) rfl
theorem ts_2_10 : Cond.selects "JournaledFilesModel" yn_M_differing yn_M_differing ∈ jb := jb_s (List.mem_of_getElem? (i := 42) rfl) rfl
theorem ts_2_11 : Cond.selects "JournaledFilesModel" yn_M_byteOf yn_M_byteOf ∈ jb := jb_s (List.mem_of_getElem? (i := 43) rfl) rfl
theorem ts_2_12 : Cond.selects "JournaledFilesModel" yn_M_mapByte yn_M_mapByte ∈ jb := jb_s (List.mem_of_getElem? (i := 44) rfl) rfl
theorem ts_2_13 : Cond.selects "JournaledFilesModel" yn_M_inodeByte yn_M_inodeByte ∈ jb := jb_s (List.mem_of_getElem? (i := 45) rfl) rfl
theorem ts_2_14 : Cond.selects "JournaledFilesModel" yn_M_copyTables yn_M_copyTables ∈ jb := jb_s (List.mem_of_getElem? (i := 46) rfl) rfl
theorem uw_D : ∀ w ∈ u_ws cn_D ft_D 2, w ∈ jb := show ∀ w ∈ [Cond.laysFinal "JournaledFiles$Disk" "JournaledFiles$Disk" "state" "[I", Cond.laysFinal "JournaledFiles$Disk" "JournaledFiles$Disk" "committed" "[I"], w ∈ jb from List.forall_mem_cons.mpr ⟨tw_43, List.forall_mem_cons.mpr ⟨tw_45, fun _ h => absurd h List.not_mem_nil⟩⟩
theorem uw_H : ∀ w ∈ u_ws cn_H ft_H 5, w ∈ jb := show ∀ w ∈ [Cond.lays "JournaledFiles$Handle" "JournaledFiles$Handle" "isOpen" "Z", Cond.lays "JournaledFiles$Handle" "JournaledFiles$Handle" "inode" "I", Cond.lays "JournaledFiles$Handle" "JournaledFiles$Handle" "generation" "I", Cond.lays "JournaledFiles$Handle" "JournaledFiles$Handle" "mode" "I", Cond.lays "JournaledFiles$Handle" "JournaledFiles$Handle" "position" "I"], w ∈ jb from List.forall_mem_cons.mpr ⟨tw_71, List.forall_mem_cons.mpr ⟨tw_73, List.forall_mem_cons.mpr ⟨tw_75, List.forall_mem_cons.mpr ⟨tw_77, List.forall_mem_cons.mpr ⟨tw_79, fun _ h => absurd h List.not_mem_nil⟩⟩⟩⟩⟩
theorem uw_I : ∀ w ∈ u_ws cn_I ft_I 1, w ∈ jb := show ∀ w ∈ [Cond.laysFinal "JournaledFiles$Inodes" "JournaledFiles$Inodes" "disk" "LJournaledFiles$Disk;"], w ∈ jb from List.forall_mem_cons.mpr ⟨tw_56, fun _ h => absurd h List.not_mem_nil⟩
theorem uw_J : ∀ w ∈ u_ws cn_J ft_J 6, w ∈ jb := show ∀ w ∈ [Cond.laysFinal "JournaledFiles" "JournaledFiles" "disk" "LJournaledFiles$Disk;", Cond.laysFinal "JournaledFiles" "JournaledFiles" "inodes" "LJournaledFiles$Inodes;", Cond.laysFinal "JournaledFiles" "JournaledFiles" "handles" "[LJournaledFiles$Handle;", Cond.lays "JournaledFiles" "JournaledFiles" "writesToCut" "I", Cond.lays "JournaledFiles" "JournaledFiles" "writesDone" "I", Cond.lays "JournaledFiles" "JournaledFiles" "timesOff" "I"], w ∈ jb from List.forall_mem_cons.mpr ⟨tw_113, List.forall_mem_cons.mpr ⟨tw_115, List.forall_mem_cons.mpr ⟨tw_117, List.forall_mem_cons.mpr ⟨tw_119, List.forall_mem_cons.mpr ⟨tw_121, List.forall_mem_cons.mpr ⟨tw_123, fun _ h => absurd h List.not_mem_nil⟩⟩⟩⟩⟩⟩
theorem uw_M : ∀ w ∈ u_ws cn_M ft_M 17, w ∈ jb := show ∀ w ∈ [Cond.laysFinal "JournaledFilesModel" "JournaledFilesModel" "kind" "[I", Cond.laysFinal "JournaledFilesModel" "JournaledFilesModel" "size" "[I", Cond.laysFinal "JournaledFilesModel" "JournaledFilesModel" "generation" "[I", Cond.laysFinal "JournaledFilesModel" "JournaledFilesModel" "blocks" "[I", Cond.laysFinal "JournaledFilesModel" "JournaledFilesModel" "bytes" "[I", Cond.laysFinal "JournaledFilesModel" "JournaledFilesModel" "inode" "[I", Cond.laysFinal "JournaledFilesModel" "JournaledFilesModel" "born" "[I", Cond.laysFinal "JournaledFilesModel" "JournaledFilesModel" "mode" "[I", Cond.laysFinal "JournaledFilesModel" "JournaledFilesModel" "place" "[I", Cond.lays "JournaledFilesModel" "JournaledFilesModel" "cut" "I", Cond.lays "JournaledFilesModel" "JournaledFilesModel" "writes" "I", Cond.lays "JournaledFilesModel" "JournaledFilesModel" "offs" "I", Cond.lays "JournaledFilesModel" "JournaledFilesModel" "thrown" "I", Cond.lays "JournaledFilesModel" "JournaledFilesModel" "parent" "I", Cond.lays "JournaledFilesModel" "JournaledFilesModel" "entry" "I", Cond.lays "JournaledFilesModel" "JournaledFilesModel" "found" "I", Cond.lays "JournaledFilesModel" "JournaledFilesModel" "last" "I"], w ∈ jb from List.forall_mem_cons.mpr ⟨tw_610, List.forall_mem_cons.mpr ⟨tw_612, List.forall_mem_cons.mpr ⟨tw_614, List.forall_mem_cons.mpr ⟨tw_616, List.forall_mem_cons.mpr ⟨tw_618, List.forall_mem_cons.mpr ⟨tw_620, List.forall_mem_cons.mpr ⟨tw_622, List.forall_mem_cons.mpr ⟨tw_624, List.forall_mem_cons.mpr ⟨tw_626, List.forall_mem_cons.mpr ⟨tw_628, List.forall_mem_cons.mpr ⟨tw_630, List.forall_mem_cons.mpr ⟨tw_632, List.forall_mem_cons.mpr ⟨tw_634, List.forall_mem_cons.mpr ⟨tw_636, List.forall_mem_cons.mpr ⟨tw_638, List.forall_mem_cons.mpr ⟨tw_640, List.forall_mem_cons.mpr ⟨tw_642, fun _ h => absurd h List.not_mem_nil⟩⟩⟩⟩⟩⟩⟩⟩⟩⟩⟩⟩⟩⟩⟩⟩⟩
abbrev jc_d (y : MethodName) (n : Nat) : Prop := y.cls ≠ "java/lang/invoke/MethodHandle" ∧ y.cls ≠ "java/lang/invoke/VarHandle" ∧ (parseMethodDescriptor y.desc).map (fun d => d.parameters.length) = some n
def jc_V (own : String) (index : Nat) (y : MethodName) (bytes : ByteArray) (maxL : Nat) (ret : Option FieldType) (n : Nat) : Prop := Cond.methodLink own index y ∈ jb ∧ Cond.instanceMethod y ∈ jb ∧ Cond.selects y.cls y y ∈ jb ∧ Cond.initialized y.cls ∈ jb ∧ Cond.code y bytes maxL ret ∈ jb ∧ jc_d y n
def jc_S (own : String) (index : Nat) (y : MethodName) (bytes : ByteArray) (maxL : Nat) (ret : Option FieldType) (n : Nat) : Prop := Cond.methodLink own index y ∈ jb ∧ Cond.static y ∈ jb ∧ Cond.initialized y.cls ∈ jb ∧ Cond.code y bytes maxL ret ∈ jb ∧ jc_d y n
def jc_I (own : String) (index : Nat) (y : MethodName) (bytes : ByteArray) (maxL : Nat) (n : Nat) : Prop := Cond.methodLink own index y ∈ jb ∧ Cond.instanceMethod y ∈ jb ∧ Cond.initialized y.cls ∈ jb ∧ Cond.code y bytes maxL none ∈ jb ∧ y.name = "<init>" ∧ jc_d y n
theorem kl_L_68 : jc_I cn_L 68 yn_J_init cd_J_init 2 0 := ⟨tw_17, tw_18, tw_1, tw_19, rfl, by decide +kernel⟩
theorem kl_J_11 : jc_I cn_J 11 yn_D_init cd_D_init 2 0 := ⟨tw_25, tw_26, tw_2, tw_27, rfl, by decide +kernel⟩
theorem kl_D_18 : jc_V cn_D 18 yn_D_mark cd_D_mark 5 none 2 := ⟨tw_29, tw_31, ts_0_0, tw_2, tw_32, by decide +kernel⟩
theorem kl_D_22 : jc_V cn_D 22 yn_D_get cd_D_get 2 (some .int) 1 := ⟨tw_33, tw_34, tw_35, tw_2, tw_36, by decide +kernel⟩
theorem kl_D_26 : jc_V cn_D 26 yn_D_put cd_D_put 3 none 2 := ⟨tw_37, tw_38, tw_39, tw_2, tw_40, by decide +kernel⟩
theorem kl_J_18 : jc_I cn_J 18 yn_I_init cd_I_init 2 1 := ⟨tw_51, tw_52, tw_3, tw_53, rfl, by decide +kernel⟩
theorem kl_J_32 : jc_V cn_J 32 yn_I_occupy cd_I_occupy 3 none 2 := ⟨tw_82, tw_83, tw_84, tw_3, tw_85, by decide +kernel⟩
theorem kl_I_35 : jc_V cn_I 35 yn_I_putField cd_I_putField 4 none 3 := ⟨tw_86, tw_88, ts_0_1, tw_3, tw_89, by decide +kernel⟩
theorem kl_I_21 : jc_V cn_I 21 yn_D_put cd_D_put 3 none 2 := ⟨tw_90, tw_38, tw_39, tw_2, tw_40, by decide +kernel⟩
theorem kl_I_39 : jc_V cn_I 39 yn_I_generation cd_I_generation 2 (some .int) 1 := ⟨tw_91, tw_92, tw_93, tw_3, tw_94, by decide +kernel⟩
theorem kl_I_25 : jc_V cn_I 25 yn_I_field cd_I_field 3 (some .int) 2 := ⟨tw_95, tw_97, ts_0_2, tw_3, tw_98, by decide +kernel⟩
theorem kl_I_15 : jc_V cn_I 15 yn_D_get cd_D_get 2 (some .int) 1 := ⟨tw_99, tw_34, tw_35, tw_2, tw_36, by decide +kernel⟩
theorem kl_J_36 : jc_V cn_J 36 yn_D_keep cd_D_keep 1 none 0 := ⟨tw_100, tw_101, tw_102, tw_2, tw_103, by decide +kernel⟩
theorem kl_L_125 : jc_V cn_L 125 yn_J_crash cd_J_crash 1 none 0 := ⟨tw_126, tw_127, tw_128, tw_1, tw_129, by decide +kernel⟩
theorem kl_J_203 : jc_V cn_J 203 yn_J_losePower cd_J_losePower 2 none 0 := ⟨tw_130, tw_132, ts_0_3, tw_1, tw_133, by decide +kernel⟩
theorem kl_J_279 : jc_V cn_J 279 yn_D_goBack cd_D_goBack 1 none 0 := ⟨tw_134, tw_135, tw_136, tw_2, tw_137, by decide +kernel⟩
theorem kl_L_133 : jc_V cn_L 133 yn_J_count cd_J_count 2 (some .int) 1 := ⟨tw_138, tw_139, tw_140, tw_1, tw_141, by decide +kernel⟩
theorem kl_J_214 : jc_V cn_J 214 yn_D_freeBlocks cd_D_freeBlocks 3 (some .int) 0 := ⟨tw_142, tw_143, tw_144, tw_2, tw_145, by decide +kernel⟩
theorem kl_D_30 : jc_V cn_D 30 yn_D_isUsed cd_D_isUsed 2 (some .boolean) 1 := ⟨tw_146, tw_148, ts_0_4, tw_2, tw_149, by decide +kernel⟩
theorem kl_J_217 : jc_V cn_J 217 yn_I_freeInodes cd_I_freeInodes 3 (some .int) 0 := ⟨tw_150, tw_151, tw_152, tw_3, tw_153, by decide +kernel⟩
theorem kl_I_29 : jc_V cn_I 29 yn_I_kind cd_I_kind 2 (some .int) 1 := ⟨tw_154, tw_155, tw_156, tw_3, tw_157, by decide +kernel⟩
theorem kl_J_220 : jc_V cn_J 220 yn_J_openHandles cd_J_openHandles 3 (some .int) 0 := ⟨tw_158, tw_160, ts_0_5, tw_1, tw_161, by decide +kernel⟩
theorem kl_J_194 : jc_V cn_J 194 yn_D_differingBlocks cd_D_differingBlocks 3 (some .int) 0 := ⟨tw_162, tw_163, tw_164, tw_2, tw_165, by decide +kernel⟩
theorem kl_D_34 : jc_V cn_D 34 yn_D_differs cd_D_differs 4 (some .boolean) 1 := ⟨tw_166, tw_168, ts_0_6, tw_2, tw_169, by decide +kernel⟩
theorem kl_D_37 : jc_V cn_D 37 yn_D_getKept cd_D_getKept 2 (some .int) 1 := ⟨tw_170, tw_171, tw_172, tw_2, tw_173, by decide +kernel⟩
theorem kl_J_226 : jc_V cn_J 226 yn_J_staleHandles cd_J_staleHandles 3 (some .int) 0 := ⟨tw_174, tw_176, ts_0_7, tw_1, tw_177, by decide +kernel⟩
theorem kl_J_273 : jc_V cn_J 273 yn_J_isStale cd_J_isStale 2 (some .boolean) 1 := ⟨tw_178, tw_180, ts_0_8, tw_1, tw_181, by decide +kernel⟩
theorem kl_J_85 : jc_V cn_J 85 yn_I_kind cd_I_kind 2 (some .int) 1 := ⟨tw_182, tw_155, tw_156, tw_3, tw_157, by decide +kernel⟩
theorem kl_J_88 : jc_S cn_J 88 yn_J_kindFor cd_J_kindFor 1 (some .int) 1 := ⟨tw_183, tw_184, tw_1, tw_185, by decide +kernel⟩
theorem kl_J_191 : jc_V cn_J 191 yn_I_generation cd_I_generation 2 (some .int) 1 := ⟨tw_186, tw_92, tw_93, tw_3, tw_94, by decide +kernel⟩
theorem kl_L_7 : jc_V cn_L 7 yn_J_directory cd_J_directory 3 (some .int) 1 := ⟨tw_194, tw_195, tw_196, tw_1, tw_197, by decide +kernel⟩
theorem kl_J_39 : jc_S cn_J 39 yn_J_checkPath cd_J_checkPath 3 none 1 := ⟨tw_198, tw_199, tw_1, tw_200, by decide +kernel⟩
theorem kl_J_43 : jc_V cn_J 43 yn_J_inodeAt cd_J_inodeAt 6 (some .int) 1 := ⟨tw_270, tw_272, ts_0_10, tw_1, tw_273, by decide +kernel⟩
theorem kl_J_236 : jc_V cn_J 236 yn_I_findEntry cd_I_findEntry 5 (some .int) 2 := ⟨tw_274, tw_275, tw_276, tw_3, tw_277, by decide +kernel⟩
theorem kl_I_68 : jc_V cn_I 68 yn_I_entries cd_I_entries 2 (some .int) 1 := ⟨tw_278, tw_279, tw_280, tw_3, tw_281, by decide +kernel⟩
theorem kl_I_32 : jc_V cn_I 32 yn_I_size cd_I_size 2 (some .int) 1 := ⟨tw_282, tw_283, tw_284, tw_3, tw_285, by decide +kernel⟩
theorem kl_I_65 : jc_V cn_I 65 yn_I_byteOf cd_I_byteOf 3 (some .int) 2 := ⟨tw_286, tw_287, tw_288, tw_3, tw_289, by decide +kernel⟩
theorem kl_I_45 : jc_V cn_I 45 yn_I_placeOf cd_I_placeOf 4 (some .int) 2 := ⟨tw_290, tw_292, ts_0_11, tw_3, tw_293, by decide +kernel⟩
theorem kl_J_239 : jc_V cn_J 239 yn_I_entryInode cd_I_entryInode 3 (some .int) 2 := ⟨tw_294, tw_295, tw_296, tw_3, tw_297, by decide +kernel⟩
theorem kl_J_54 : jc_V cn_J 54 yn_J_parentNeeded cd_J_parentNeeded 3 (some .int) 1 := ⟨tw_314, tw_316, ts_0_12, tw_1, tw_317, by decide +kernel⟩
theorem kl_J_161 : jc_S cn_J 161 yn_J_parentPath cd_J_parentPath 1 (some .int) 1 := ⟨tw_318, tw_319, tw_1, tw_320, by decide +kernel⟩
theorem kl_J_57 : jc_V cn_J 57 yn_J_checkRoomForNew cd_J_checkRoomForNew 2 none 1 := ⟨tw_337, tw_339, ts_0_13, tw_1, tw_340, by decide +kernel⟩
theorem kl_J_246 : jc_V cn_J 246 yn_I_leastFree cd_I_leastFree 2 (some .int) 0 := ⟨tw_341, tw_342, tw_343, tw_3, tw_344, by decide +kernel⟩
theorem kl_J_249 : jc_V cn_J 249 yn_I_hasRoomForEntry cd_I_hasRoomForEntry 3 (some .boolean) 1 := ⟨tw_345, tw_346, tw_347, tw_3, tw_348, by decide +kernel⟩
theorem kl_I_71 : jc_S cn_I 71 yn_I_startsBlock cd_I_startsBlock 1 (some .boolean) 1 := ⟨tw_349, tw_350, tw_3, tw_351, by decide +kernel⟩
theorem kl_I_51 : jc_V cn_I 51 yn_D_freeBlocks cd_D_freeBlocks 3 (some .int) 0 := ⟨tw_352, tw_143, tw_144, tw_2, tw_145, by decide +kernel⟩
theorem kl_J_60 : jc_V cn_J 60 yn_J_makeNew cd_J_makeNew 5 (some .int) 3 := ⟨tw_369, tw_371, ts_0_14, tw_1, tw_372, by decide +kernel⟩
theorem kl_J_183 : jc_V cn_J 183 yn_I_addEntry cd_I_addEntry 5 none 3 := ⟨tw_373, tw_374, tw_375, tw_3, tw_376, by decide +kernel⟩
theorem kl_I_42 : jc_V cn_I 42 yn_I_resize cd_I_resize 5 none 2 := ⟨tw_377, tw_378, tw_379, tw_3, tw_380, by decide +kernel⟩
theorem kl_I_55 : jc_V cn_I 55 yn_I_putByte cd_I_putByte 4 none 3 := ⟨tw_381, tw_382, tw_383, tw_3, tw_384, by decide +kernel⟩
theorem kl_I_48 : jc_S cn_I 48 yn_I_blocksFor cd_I_blocksFor 1 (some .int) 1 := ⟨tw_385, tw_386, tw_3, tw_387, by decide +kernel⟩
theorem kl_I_58 : jc_V cn_I 58 yn_D_giveBack cd_D_giveBack 2 none 1 := ⟨tw_388, tw_389, tw_390, tw_2, tw_391, by decide +kernel⟩
theorem kl_I_62 : jc_V cn_I 62 yn_D_takeBlock cd_D_takeBlock 2 (some .int) 0 := ⟨tw_392, tw_393, tw_394, tw_2, tw_395, by decide +kernel⟩
theorem kl_I_75 : jc_V cn_I 75 yn_I_putEntry cd_I_putEntry 5 none 4 := ⟨tw_396, tw_398, ts_0_15, tw_3, tw_399, by decide +kernel⟩
theorem kl_L_21 : jc_V cn_L 21 yn_J_open cd_J_open 9 (some .int) 5 := ⟨tw_403, tw_404, tw_405, tw_1, tw_406, by decide +kernel⟩
theorem kl_J_64 : jc_S cn_J 64 yn_J_checkRange cd_J_checkRange 3 none 3 := ⟨tw_407, tw_408, tw_1, tw_409, by decide +kernel⟩
theorem kl_J_68 : jc_S cn_J 68 yn_J_writesBy cd_J_writesBy 1 (some .boolean) 1 := ⟨tw_411, tw_412, tw_1, tw_413, by decide +kernel⟩
theorem kl_J_77 : jc_V cn_J 77 yn_J_closedHandleNeeded cd_J_closedHandleNeeded 2 (some .int) 0 := ⟨tw_415, tw_417, ts_1_0, tw_1, tw_418, by decide +kernel⟩
theorem kl_J_81 : jc_V cn_J 81 yn_J_openHandle cd_J_openHandle 6 (some .int) 4 := ⟨tw_420, tw_422, ts_1_1, tw_1, tw_423, by decide +kernel⟩
theorem kl_J_93 : jc_V cn_J 93 yn_I_resize cd_I_resize 5 none 2 := ⟨tw_425, tw_378, tw_379, tw_3, tw_380, by decide +kernel⟩
theorem kl_J_96 : jc_V cn_J 96 yn_I_size cd_I_size 2 (some .int) 1 := ⟨tw_426, tw_283, tw_284, tw_3, tw_285, by decide +kernel⟩
theorem kl_L_25 : jc_V cn_L 25 yn_J_close cd_J_close 3 none 1 := ⟨tw_430, tw_431, tw_432, tw_1, tw_433, by decide +kernel⟩
theorem kl_L_29 : jc_V cn_L 29 yn_J_write cd_J_write 9 none 3 := ⟨tw_438, tw_439, tw_440, tw_1, tw_441, by decide +kernel⟩
theorem kl_J_105 : jc_V cn_J 105 yn_J_usableHandle cd_J_usableHandle 3 (some (.object "JournaledFiles$Handle")) 1 := ⟨tw_442, tw_444, ts_1_2, tw_1, tw_445, by decide +kernel⟩
theorem kl_J_127 : jc_V cn_J 127 yn_J_checkRoomForSize cd_J_checkRoomForSize 3 none 2 := ⟨tw_451, tw_453, ts_1_3, tw_1, tw_454, by decide +kernel⟩
theorem kl_J_254 : jc_V cn_J 254 yn_I_hasRoomForSize cd_I_hasRoomForSize 3 (some .boolean) 2 := ⟨tw_455, tw_456, tw_457, tw_3, tw_458, by decide +kernel⟩
theorem kl_J_130 : jc_V cn_J 130 yn_I_putByte cd_I_putByte 4 none 3 := ⟨tw_460, tw_382, tw_383, tw_3, tw_384, by decide +kernel⟩
theorem kl_L_33 : jc_V cn_L 33 yn_J_read cd_J_read 9 (some .long) 2 := ⟨tw_464, tw_465, tw_466, tw_1, tw_467, by decide +kernel⟩
theorem kl_J_133 : jc_S cn_J 133 yn_J_readsBy cd_J_readsBy 1 (some .boolean) 1 := ⟨tw_468, tw_469, tw_1, tw_470, by decide +kernel⟩
theorem kl_J_141 : jc_V cn_J 141 yn_I_byteOf cd_I_byteOf 3 (some .int) 2 := ⟨tw_475, tw_287, tw_288, tw_3, tw_289, by decide +kernel⟩
theorem kl_L_37 : jc_V cn_L 37 yn_J_seek cd_J_seek 4 none 2 := ⟨tw_479, tw_480, tw_481, tw_1, tw_482, by decide +kernel⟩
theorem kl_L_41 : jc_V cn_L 41 yn_J_next cd_J_next 4 (some .int) 1 := ⟨tw_487, tw_488, tw_489, tw_1, tw_490, by decide +kernel⟩
theorem kl_J_148 : jc_V cn_J 148 yn_I_entries cd_I_entries 2 (some .int) 1 := ⟨tw_492, tw_279, tw_280, tw_3, tw_281, by decide +kernel⟩
theorem kl_J_151 : jc_V cn_J 151 yn_I_entryName cd_I_entryName 3 (some .int) 2 := ⟨tw_493, tw_494, tw_495, tw_3, tw_496, by decide +kernel⟩
theorem kl_L_44 : jc_V cn_L 44 yn_J_remove cd_J_remove 3 none 1 := ⟨tw_500, tw_501, tw_502, tw_1, tw_503, by decide +kernel⟩
theorem kl_J_154 : jc_V cn_J 154 yn_J_inodeNeeded cd_J_inodeNeeded 3 (some .int) 1 := ⟨tw_504, tw_506, ts_1_4, tw_1, tw_507, by decide +kernel⟩
theorem kl_J_164 : jc_V cn_J 164 yn_I_dropEntry cd_I_dropEntry 5 none 2 := ⟨tw_511, tw_512, tw_513, tw_3, tw_514, by decide +kernel⟩
theorem kl_I_79 : jc_V cn_I 79 yn_I_findEntry cd_I_findEntry 5 (some .int) 2 := ⟨tw_515, tw_275, tw_276, tw_3, tw_277, by decide +kernel⟩
theorem kl_I_82 : jc_V cn_I 82 yn_I_entryName cd_I_entryName 3 (some .int) 2 := ⟨tw_516, tw_494, tw_495, tw_3, tw_496, by decide +kernel⟩
theorem kl_I_85 : jc_V cn_I 85 yn_I_entryInode cd_I_entryInode 3 (some .int) 2 := ⟨tw_517, tw_295, tw_296, tw_3, tw_297, by decide +kernel⟩
theorem kl_J_167 : jc_V cn_J 167 yn_I_vacate cd_I_vacate 2 none 1 := ⟨tw_518, tw_519, tw_520, tw_3, tw_521, by decide +kernel⟩
theorem kl_L_47 : jc_V cn_L 47 yn_J_rename cd_J_rename 7 none 2 := ⟨tw_525, tw_526, tw_527, tw_1, tw_528, by decide +kernel⟩
theorem kl_J_170 : jc_V cn_J 170 yn_J_checkMove cd_J_checkMove 5 none 4 := ⟨tw_529, tw_531, ts_1_5, tw_1, tw_532, by decide +kernel⟩
theorem kl_J_259 : jc_S cn_J 259 yn_J_isAtOrBelow cd_J_isAtOrBelow 4 (some .boolean) 2 := ⟨tw_533, tw_534, tw_1, tw_535, by decide +kernel⟩
theorem kl_J_174 : jc_V cn_J 174 yn_J_hasRoomAfterLeaving cd_J_hasRoomAfterLeaving 6 (some .boolean) 2 := ⟨tw_538, tw_540, ts_1_6, tw_1, tw_541, by decide +kernel⟩
theorem kl_J_266 : jc_S cn_J 266 yn_I_startsBlock cd_I_startsBlock 1 (some .boolean) 1 := ⟨tw_542, tw_350, tw_3, tw_351, by decide +kernel⟩
theorem kl_J_186 : jc_V cn_J 186 yn_I_redirectEntry cd_I_redirectEntry 5 none 3 := ⟨tw_544, tw_545, tw_546, tw_3, tw_547, by decide +kernel⟩
theorem kl_L_50 : jc_V cn_L 50 yn_J_truncate cd_J_truncate 4 none 2 := ⟨tw_551, tw_552, tw_553, tw_1, tw_554, by decide +kernel⟩
theorem kl_L_53 : jc_V cn_L 53 yn_J_stat cd_J_stat 4 (some .int) 2 := ⟨tw_559, tw_560, tw_561, tw_1, tw_562, by decide +kernel⟩
theorem kl_L_57 : jc_V cn_L 57 yn_J_commit cd_J_commit 5 (some .int) 0 := ⟨tw_566, tw_567, tw_568, tw_1, tw_569, by decide +kernel⟩
theorem kl_L_61 : jc_V cn_L 61 yn_J_cutPower cd_J_cutPower 2 none 1 := ⟨tw_574, tw_575, tw_576, tw_1, tw_577, by decide +kernel⟩
theorem kl_L_64 : jc_V cn_L 64 yn_J_block cd_J_block 5 (some .int) 3 := ⟨tw_581, tw_582, tw_583, tw_1, tw_584, by decide +kernel⟩
theorem kl_J_208 : jc_V cn_J 208 yn_D_getKept cd_D_getKept 2 (some .int) 1 := ⟨tw_585, tw_171, tw_172, tw_2, tw_173, by decide +kernel⟩
theorem kl_J_211 : jc_V cn_J 211 yn_D_get cd_D_get 2 (some .int) 1 := ⟨tw_586, tw_34, tw_35, tw_2, tw_36, by decide +kernel⟩
theorem kl_L_71 : jc_I cn_L 71 yn_M_init cd_M_init 2 0 := ⟨tw_589, tw_590, tw_6, tw_591, rfl, by decide +kernel⟩
theorem kl_L_78 : jc_V cn_L 78 yn_M_thrown cd_M_thrown 1 (some .int) 0 := ⟨tw_645, tw_646, tw_647, tw_6, tw_648, by decide +kernel⟩
theorem kl_L_77 : jc_V cn_L 77 yn_M_directory cd_M_directory 3 (some .int) 1 := ⟨tw_649, tw_650, tw_651, tw_6, tw_652, by decide +kernel⟩
theorem kl_M_79 : jc_V cn_M 79 yn_M_badPath cd_M_badPath 5 (some .boolean) 1 := ⟨tw_653, tw_655, ts_1_7, tw_6, tw_656, by decide +kernel⟩
theorem kl_M_83 : jc_V cn_M 83 yn_M_lead cd_M_lead 4 (some .boolean) 1 := ⟨tw_657, tw_659, ts_1_8, tw_6, tw_660, by decide +kernel⟩
theorem kl_M_75 : jc_V cn_M 75 yn_M_entryOf cd_M_entryOf 4 (some .int) 2 := ⟨tw_661, tw_663, ts_1_9, tw_6, tw_664, by decide +kernel⟩
theorem kl_M_60 : jc_V cn_M 60 yn_M_newInode cd_M_newInode 2 (some .int) 0 := ⟨tw_665, tw_667, ts_1_10, tw_6, tw_668, by decide +kernel⟩
theorem kl_M_86 : jc_V cn_M 86 yn_M_entryRoom cd_M_entryRoom 3 (some .boolean) 2 := ⟨tw_669, tw_671, ts_1_11, tw_6, tw_672, by decide +kernel⟩
theorem kl_M_45 : jc_V cn_M 45 yn_M_needed cd_M_needed 2 (some .int) 1 := ⟨tw_673, tw_675, ts_1_12, tw_6, tw_676, by decide +kernel⟩
theorem kl_M_49 : jc_V cn_M 49 yn_M_freeBlocks cd_M_freeBlocks 3 (some .int) 0 := ⟨tw_677, tw_679, ts_1_13, tw_6, tw_680, by decide +kernel⟩
theorem kl_M_41 : jc_V cn_M 41 yn_M_isUsed cd_M_isUsed 4 (some .boolean) 2 := ⟨tw_681, tw_683, ts_1_14, tw_6, tw_684, by decide +kernel⟩
theorem kl_M_89 : jc_V cn_M 89 yn_M_create cd_M_create 3 (some .int) 1 := ⟨tw_685, tw_687, ts_1_15, tw_6, tw_688, by decide +kernel⟩
theorem kl_M_92 : jc_V cn_M 92 yn_M_addEntry cd_M_addEntry 5 none 3 := ⟨tw_689, tw_691, ts_2_0, tw_6, tw_692, by decide +kernel⟩
theorem kl_M_56 : jc_V cn_M 56 yn_M_resize cd_M_resize 4 none 2 := ⟨tw_693, tw_695, ts_2_1, tw_6, tw_696, by decide +kernel⟩
theorem kl_M_53 : jc_V cn_M 53 yn_M_newBlock cd_M_newBlock 2 (some .int) 0 := ⟨tw_697, tw_699, ts_2_2, tw_6, tw_700, by decide +kernel⟩
theorem kl_L_84 : jc_V cn_L 84 yn_M_open cd_M_open 9 (some .int) 5 := ⟨tw_701, tw_702, tw_703, tw_6, tw_704, by decide +kernel⟩
theorem kl_M_96 : jc_V cn_M 96 yn_M_closedHandle cd_M_closedHandle 2 (some .int) 0 := ⟨tw_705, tw_707, ts_2_3, tw_6, tw_708, by decide +kernel⟩
theorem kl_L_88 : jc_V cn_L 88 yn_M_close cd_M_close 2 none 1 := ⟨tw_709, tw_710, tw_711, tw_6, tw_712, by decide +kernel⟩
theorem kl_L_94 : jc_V cn_L 94 yn_M_write cd_M_write 9 none 3 := ⟨tw_713, tw_714, tw_715, tw_6, tw_716, by decide +kernel⟩
theorem kl_M_102 : jc_V cn_M 102 yn_M_wrong cd_M_wrong 4 (some .int) 3 := ⟨tw_717, tw_719, ts_2_4, tw_6, tw_720, by decide +kernel⟩
theorem kl_M_99 : jc_V cn_M 99 yn_M_stale cd_M_stale 3 (some .boolean) 1 := ⟨tw_721, tw_723, ts_2_5, tw_6, tw_724, by decide +kernel⟩
theorem kl_M_106 : jc_V cn_M 106 yn_M_roomFor cd_M_roomFor 3 (some .boolean) 2 := ⟨tw_725, tw_727, ts_2_6, tw_6, tw_728, by decide +kernel⟩
theorem kl_L_98 : jc_V cn_L 98 yn_M_read cd_M_read 7 (some .long) 2 := ⟨tw_730, tw_731, tw_732, tw_6, tw_733, by decide +kernel⟩
theorem kl_L_102 : jc_V cn_L 102 yn_M_seek cd_M_seek 3 none 2 := ⟨tw_734, tw_735, tw_736, tw_6, tw_737, by decide +kernel⟩
theorem kl_L_105 : jc_V cn_L 105 yn_M_next cd_M_next 3 (some .int) 1 := ⟨tw_738, tw_739, tw_740, tw_6, tw_741, by decide +kernel⟩
theorem kl_L_108 : jc_V cn_L 108 yn_M_remove cd_M_remove 3 none 1 := ⟨tw_742, tw_743, tw_744, tw_6, tw_745, by decide +kernel⟩
theorem kl_M_111 : jc_V cn_M 111 yn_M_dropEntry cd_M_dropEntry 4 none 2 := ⟨tw_746, tw_748, ts_2_7, tw_6, tw_749, by decide +kernel⟩
theorem kl_M_114 : jc_V cn_M 114 yn_M_release cd_M_release 2 none 1 := ⟨tw_750, tw_752, ts_2_8, tw_6, tw_753, by decide +kernel⟩
theorem kl_L_111 : jc_V cn_L 111 yn_M_rename cd_M_rename 10 none 2 := ⟨tw_754, tw_755, tw_756, tw_6, tw_757, by decide +kernel⟩
theorem kl_M_118 : jc_V cn_M 118 yn_M_within cd_M_within 4 (some .boolean) 2 := ⟨tw_758, tw_760, ts_2_9, tw_6, tw_761, by decide +kernel⟩
theorem kl_L_114 : jc_V cn_L 114 yn_M_truncate cd_M_truncate 3 none 2 := ⟨tw_762, tw_763, tw_764, tw_6, tw_765, by decide +kernel⟩
theorem kl_L_117 : jc_V cn_L 117 yn_M_stat cd_M_stat 3 (some .int) 2 := ⟨tw_766, tw_767, tw_768, tw_6, tw_769, by decide +kernel⟩
theorem kl_L_121 : jc_V cn_L 121 yn_M_commit cd_M_commit 3 (some .int) 0 := ⟨tw_770, tw_771, tw_772, tw_6, tw_773, by decide +kernel⟩
theorem kl_M_130 : jc_V cn_M 130 yn_M_differing cd_M_differing 5 (some .int) 0 := ⟨tw_774, tw_776, ts_2_10, tw_6, tw_777, by decide +kernel⟩
theorem kl_M_127 : jc_V cn_M 127 yn_M_byteOf cd_M_byteOf 5 (some .int) 3 := ⟨tw_778, tw_780, ts_2_11, tw_6, tw_781, by decide +kernel⟩
theorem kl_M_121 : jc_V cn_M 121 yn_M_mapByte cd_M_mapByte 5 (some .int) 2 := ⟨tw_782, tw_784, ts_2_12, tw_6, tw_785, by decide +kernel⟩
theorem kl_M_124 : jc_V cn_M 124 yn_M_inodeByte cd_M_inodeByte 3 (some .int) 2 := ⟨tw_786, tw_788, ts_2_13, tw_6, tw_789, by decide +kernel⟩
theorem kl_M_139 : jc_V cn_M 139 yn_M_copyTables cd_M_copyTables 4 none 2 := ⟨tw_790, tw_792, ts_2_14, tw_6, tw_793, by decide +kernel⟩
theorem kl_M_142 : jc_V cn_M 142 yn_M_crash cd_M_crash 2 none 0 := ⟨tw_794, tw_795, tw_796, tw_6, tw_797, by decide +kernel⟩
theorem kl_L_124 : jc_V cn_L 124 yn_M_cutPower cd_M_cutPower 2 none 1 := ⟨tw_798, tw_799, tw_800, tw_6, tw_801, by decide +kernel⟩
theorem kl_L_128 : jc_V cn_L 128 yn_M_crash cd_M_crash 2 none 0 := ⟨tw_802, tw_795, tw_796, tw_6, tw_797, by decide +kernel⟩
theorem kl_L_132 : jc_V cn_L 132 yn_M_block cd_M_block 4 (some .int) 3 := ⟨tw_803, tw_804, tw_805, tw_6, tw_806, by decide +kernel⟩
theorem kl_L_136 : jc_V cn_L 136 yn_M_count cd_M_count 4 (some .int) 1 := ⟨tw_807, tw_808, tw_809, tw_6, tw_810, by decide +kernel⟩
end
section
theorem dd_D_init_0 : decode cd_D_init 0 = .ok (.aload_n 0, 1) := by decide +kernel
theorem dd_D_init_1 : decode cd_D_init 1 = .ok (.invokespecial 3, 3) := by decide +kernel
theorem dd_D_init_4 : decode cd_D_init 4 = .ok (.aload_n 0, 1) := by decide +kernel
theorem dd_D_init_5 : decode cd_D_init 5 = .ok (.sipush 640, 3) := by decide +kernel
theorem dd_D_init_8 : decode cd_D_init 8 = .ok (.newarray .int, 2) := by decide +kernel
theorem dd_D_init_10 : decode cd_D_init 10 = .ok (.putfield 9, 3) := by decide +kernel
theorem dd_D_init_13 : decode cd_D_init 13 = .ok (.aload_n 0, 1) := by decide +kernel
theorem dd_D_init_14 : decode cd_D_init 14 = .ok (.sipush 640, 3) := by decide +kernel
theorem dd_D_init_17 : decode cd_D_init 17 = .ok (.newarray .int, 2) := by decide +kernel
theorem dd_D_init_19 : decode cd_D_init 19 = .ok (.putfield 15, 3) := by decide +kernel
theorem dd_D_init_22 : decode cd_D_init 22 = .ok (.iconst 0, 1) := by decide +kernel
theorem dd_D_init_23 : decode cd_D_init 23 = .ok (.istore_n 1, 1) := by decide +kernel
theorem dd_D_init_24 : decode cd_D_init 24 = .ok (.iload_n 1, 1) := by decide +kernel
theorem dd_D_init_25 : decode cd_D_init 25 = .ok (.bipush 9, 2) := by decide +kernel
theorem dd_D_init_27 : decode cd_D_init 27 = .ok (.if_icmp .ge 15, 3) := by decide +kernel
theorem dd_D_init_30 : decode cd_D_init 30 = .ok (.aload_n 0, 1) := by decide +kernel
theorem dd_D_init_31 : decode cd_D_init 31 = .ok (.iload_n 1, 1) := by decide +kernel
theorem dd_D_init_32 : decode cd_D_init 32 = .ok (.iconst 1, 1) := by decide +kernel
theorem dd_D_init_33 : decode cd_D_init 33 = .ok (.invokevirtual 18, 3) := by decide +kernel
theorem dd_D_init_36 : decode cd_D_init 36 = .ok (.iinc 1 1, 3) := by decide +kernel
theorem dd_D_init_39 : decode cd_D_init 39 = .ok (.goto (-15), 3) := by decide +kernel
theorem dd_D_init_42 : decode cd_D_init 42 = .ok (.return_, 1) := by decide +kernel
theorem dd_D_mark_0 : decode cd_D_mark 0 = .ok (.iconst 1, 1) := by decide +kernel
theorem dd_D_mark_1 : decode cd_D_mark 1 = .ok (.iload_n 1, 1) := by decide +kernel
theorem dd_D_mark_2 : decode cd_D_mark 2 = .ok (.bipush 8, 2) := by decide +kernel
theorem dd_D_mark_4 : decode cd_D_mark 4 = .ok (.irem, 1) := by decide +kernel
theorem dd_D_mark_5 : decode cd_D_mark 5 = .ok (.ishl, 1) := by decide +kernel
theorem dd_D_mark_6 : decode cd_D_mark 6 = .ok (.istore_n 3, 1) := by decide +kernel
theorem dd_D_mark_7 : decode cd_D_mark 7 = .ok (.aload_n 0, 1) := by decide +kernel
theorem dd_D_mark_8 : decode cd_D_mark 8 = .ok (.iload_n 1, 1) := by decide +kernel
theorem dd_D_mark_9 : decode cd_D_mark 9 = .ok (.bipush 8, 2) := by decide +kernel
theorem dd_D_mark_11 : decode cd_D_mark 11 = .ok (.idiv, 1) := by decide +kernel
theorem dd_D_mark_12 : decode cd_D_mark 12 = .ok (.invokevirtual 22, 3) := by decide +kernel
theorem dd_D_mark_15 : decode cd_D_mark 15 = .ok (.iload_n 3, 1) := by decide +kernel
theorem dd_D_mark_16 : decode cd_D_mark 16 = .ok (.iconst (-1), 1) := by decide +kernel
theorem dd_D_mark_17 : decode cd_D_mark 17 = .ok (.ixor, 1) := by decide +kernel
theorem dd_D_mark_18 : decode cd_D_mark 18 = .ok (.iand, 1) := by decide +kernel
theorem dd_D_mark_19 : decode cd_D_mark 19 = .ok (.istore 4, 2) := by decide +kernel
theorem dd_D_mark_21 : decode cd_D_mark 21 = .ok (.aload_n 0, 1) := by decide +kernel
theorem dd_D_mark_22 : decode cd_D_mark 22 = .ok (.iload_n 1, 1) := by decide +kernel
theorem dd_D_mark_23 : decode cd_D_mark 23 = .ok (.bipush 8, 2) := by decide +kernel
theorem dd_D_mark_25 : decode cd_D_mark 25 = .ok (.idiv, 1) := by decide +kernel
theorem dd_D_mark_26 : decode cd_D_mark 26 = .ok (.iload_n 2, 1) := by decide +kernel
theorem dd_D_mark_27 : decode cd_D_mark 27 = .ok (.ifCond .eq 10, 3) := by decide +kernel
theorem dd_D_mark_30 : decode cd_D_mark 30 = .ok (.iload 4, 2) := by decide +kernel
theorem dd_D_mark_32 : decode cd_D_mark 32 = .ok (.iload_n 3, 1) := by decide +kernel
theorem dd_D_mark_33 : decode cd_D_mark 33 = .ok (.ior, 1) := by decide +kernel
theorem dd_D_mark_34 : decode cd_D_mark 34 = .ok (.goto 5, 3) := by decide +kernel
theorem dd_D_mark_37 : decode cd_D_mark 37 = .ok (.iload 4, 2) := by decide +kernel
theorem dd_D_mark_39 : decode cd_D_mark 39 = .ok (.invokevirtual 26, 3) := by decide +kernel
theorem dd_D_mark_42 : decode cd_D_mark 42 = .ok (.return_, 1) := by decide +kernel
theorem dd_D_get_0 : decode cd_D_get 0 = .ok (.iload_n 1, 1) := by decide +kernel
theorem dd_D_get_1 : decode cd_D_get 1 = .ok (.ifCond .lt 19, 3) := by decide +kernel
theorem dd_D_get_4 : decode cd_D_get 4 = .ok (.iload_n 1, 1) := by decide +kernel
theorem dd_D_get_5 : decode cd_D_get 5 = .ok (.sipush 640, 3) := by decide +kernel
theorem dd_D_get_8 : decode cd_D_get 8 = .ok (.if_icmp .ge 12, 3) := by decide +kernel
theorem dd_D_get_11 : decode cd_D_get 11 = .ok (.aload_n 0, 1) := by decide +kernel
theorem dd_D_get_12 : decode cd_D_get 12 = .ok (.getfield 9, 3) := by decide +kernel
theorem dd_D_get_15 : decode cd_D_get 15 = .ok (.iload_n 1, 1) := by decide +kernel
theorem dd_D_get_16 : decode cd_D_get 16 = .ok (.iaload, 1) := by decide +kernel
theorem dd_D_get_17 : decode cd_D_get 17 = .ok (.goto 4, 3) := by decide +kernel
theorem dd_D_get_20 : decode cd_D_get 20 = .ok (.iconst 0, 1) := by decide +kernel
theorem dd_D_get_21 : decode cd_D_get 21 = .ok (.ireturn, 1) := by decide +kernel
theorem dd_D_put_0 : decode cd_D_put 0 = .ok (.iload_n 1, 1) := by decide +kernel
theorem dd_D_put_1 : decode cd_D_put 1 = .ok (.ifCond .lt 17, 3) := by decide +kernel
theorem dd_D_put_4 : decode cd_D_put 4 = .ok (.iload_n 1, 1) := by decide +kernel
theorem dd_D_put_5 : decode cd_D_put 5 = .ok (.sipush 640, 3) := by decide +kernel
theorem dd_D_put_8 : decode cd_D_put 8 = .ok (.if_icmp .ge 10, 3) := by decide +kernel
theorem dd_D_put_11 : decode cd_D_put 11 = .ok (.aload_n 0, 1) := by decide +kernel
theorem dd_D_put_12 : decode cd_D_put 12 = .ok (.getfield 9, 3) := by decide +kernel
theorem dd_D_put_15 : decode cd_D_put 15 = .ok (.iload_n 1, 1) := by decide +kernel
theorem dd_D_put_16 : decode cd_D_put 16 = .ok (.iload_n 2, 1) := by decide +kernel
theorem dd_D_put_17 : decode cd_D_put 17 = .ok (.iastore, 1) := by decide +kernel
theorem dd_D_put_18 : decode cd_D_put 18 = .ok (.return_, 1) := by decide +kernel
theorem dd_I_init_0 : decode cd_I_init 0 = .ok (.aload_n 0, 1) := by decide +kernel
theorem dd_I_init_1 : decode cd_I_init 1 = .ok (.invokespecial 3, 3) := by decide +kernel
theorem dd_I_init_4 : decode cd_I_init 4 = .ok (.aload_n 0, 1) := by decide +kernel
theorem dd_I_init_5 : decode cd_I_init 5 = .ok (.aload_n 1, 1) := by decide +kernel
theorem dd_I_init_6 : decode cd_I_init 6 = .ok (.putfield 9, 3) := by decide +kernel
theorem dd_I_init_9 : decode cd_I_init 9 = .ok (.return_, 1) := by decide +kernel
theorem dd_H_init_0 : decode cd_H_init 0 = .ok (.aload_n 0, 1) := by decide +kernel
theorem dd_H_init_1 : decode cd_H_init 1 = .ok (.invokespecial 1, 3) := by decide +kernel
theorem dd_H_init_4 : decode cd_H_init 4 = .ok (.return_, 1) := by decide +kernel
theorem dd_I_occupy_0 : decode cd_I_occupy 0 = .ok (.aload_n 0, 1) := by decide +kernel
theorem dd_I_occupy_1 : decode cd_I_occupy 1 = .ok (.iload_n 1, 1) := by decide +kernel
theorem dd_I_occupy_2 : decode cd_I_occupy 2 = .ok (.iconst 0, 1) := by decide +kernel
theorem dd_I_occupy_3 : decode cd_I_occupy 3 = .ok (.iload_n 2, 1) := by decide +kernel
theorem dd_I_occupy_4 : decode cd_I_occupy 4 = .ok (.invokevirtual 35, 3) := by decide +kernel
theorem dd_I_occupy_7 : decode cd_I_occupy 7 = .ok (.aload_n 0, 1) := by decide +kernel
theorem dd_I_occupy_8 : decode cd_I_occupy 8 = .ok (.iload_n 1, 1) := by decide +kernel
theorem dd_I_occupy_9 : decode cd_I_occupy 9 = .ok (.iconst 2, 1) := by decide +kernel
theorem dd_I_occupy_10 : decode cd_I_occupy 10 = .ok (.iconst 1, 1) := by decide +kernel
theorem dd_I_occupy_11 : decode cd_I_occupy 11 = .ok (.invokevirtual 35, 3) := by decide +kernel
theorem dd_I_occupy_14 : decode cd_I_occupy 14 = .ok (.aload_n 0, 1) := by decide +kernel
theorem dd_I_occupy_15 : decode cd_I_occupy 15 = .ok (.iload_n 1, 1) := by decide +kernel
theorem dd_I_occupy_16 : decode cd_I_occupy 16 = .ok (.iconst 3, 1) := by decide +kernel
theorem dd_I_occupy_17 : decode cd_I_occupy 17 = .ok (.aload_n 0, 1) := by decide +kernel
theorem dd_I_occupy_18 : decode cd_I_occupy 18 = .ok (.iload_n 1, 1) := by decide +kernel
theorem dd_I_occupy_19 : decode cd_I_occupy 19 = .ok (.invokevirtual 39, 3) := by decide +kernel
theorem dd_I_occupy_22 : decode cd_I_occupy 22 = .ok (.iconst 1, 1) := by decide +kernel
theorem dd_I_occupy_23 : decode cd_I_occupy 23 = .ok (.iadd, 1) := by decide +kernel
theorem dd_I_occupy_24 : decode cd_I_occupy 24 = .ok (.sipush 256, 3) := by decide +kernel
theorem dd_I_occupy_27 : decode cd_I_occupy 27 = .ok (.irem, 1) := by decide +kernel
theorem dd_I_occupy_28 : decode cd_I_occupy 28 = .ok (.invokevirtual 35, 3) := by decide +kernel
theorem dd_I_occupy_31 : decode cd_I_occupy 31 = .ok (.return_, 1) := by decide +kernel
theorem dd_I_putField_0 : decode cd_I_putField 0 = .ok (.aload_n 0, 1) := by decide +kernel
theorem dd_I_putField_1 : decode cd_I_putField 1 = .ok (.getfield 9, 3) := by decide +kernel
theorem dd_I_putField_4 : decode cd_I_putField 4 = .ok (.bipush 16, 2) := by decide +kernel
theorem dd_I_putField_6 : decode cd_I_putField 6 = .ok (.iload_n 1, 1) := by decide +kernel
theorem dd_I_putField_7 : decode cd_I_putField 7 = .ok (.bipush 8, 2) := by decide +kernel
theorem dd_I_putField_9 : decode cd_I_putField 9 = .ok (.imul, 1) := by decide +kernel
theorem dd_I_putField_10 : decode cd_I_putField 10 = .ok (.iadd, 1) := by decide +kernel
theorem dd_I_putField_11 : decode cd_I_putField 11 = .ok (.iload_n 2, 1) := by decide +kernel
theorem dd_I_putField_12 : decode cd_I_putField 12 = .ok (.iadd, 1) := by decide +kernel
theorem dd_I_putField_13 : decode cd_I_putField 13 = .ok (.iload_n 3, 1) := by decide +kernel
theorem dd_I_putField_14 : decode cd_I_putField 14 = .ok (.invokevirtual 21, 3) := by decide +kernel
theorem dd_I_putField_17 : decode cd_I_putField 17 = .ok (.return_, 1) := by decide +kernel
theorem dd_I_generation_0 : decode cd_I_generation 0 = .ok (.aload_n 0, 1) := by decide +kernel
theorem dd_I_generation_1 : decode cd_I_generation 1 = .ok (.iload_n 1, 1) := by decide +kernel
theorem dd_I_generation_2 : decode cd_I_generation 2 = .ok (.iconst 3, 1) := by decide +kernel
theorem dd_I_generation_3 : decode cd_I_generation 3 = .ok (.invokevirtual 25, 3) := by decide +kernel
theorem dd_I_generation_6 : decode cd_I_generation 6 = .ok (.ireturn, 1) := by decide +kernel
theorem dd_I_field_0 : decode cd_I_field 0 = .ok (.aload_n 0, 1) := by decide +kernel
theorem dd_I_field_1 : decode cd_I_field 1 = .ok (.getfield 9, 3) := by decide +kernel
theorem dd_I_field_4 : decode cd_I_field 4 = .ok (.bipush 16, 2) := by decide +kernel
theorem dd_I_field_6 : decode cd_I_field 6 = .ok (.iload_n 1, 1) := by decide +kernel
theorem dd_I_field_7 : decode cd_I_field 7 = .ok (.bipush 8, 2) := by decide +kernel
theorem dd_I_field_9 : decode cd_I_field 9 = .ok (.imul, 1) := by decide +kernel
theorem dd_I_field_10 : decode cd_I_field 10 = .ok (.iadd, 1) := by decide +kernel
theorem dd_I_field_11 : decode cd_I_field 11 = .ok (.iload_n 2, 1) := by decide +kernel
theorem dd_I_field_12 : decode cd_I_field 12 = .ok (.iadd, 1) := by decide +kernel
theorem dd_I_field_13 : decode cd_I_field 13 = .ok (.invokevirtual 15, 3) := by decide +kernel
theorem dd_I_field_16 : decode cd_I_field 16 = .ok (.ireturn, 1) := by decide +kernel
theorem dd_D_keep_0 : decode cd_D_keep 0 = .ok (.aload_n 0, 1) := by decide +kernel
theorem dd_D_keep_1 : decode cd_D_keep 1 = .ok (.getfield 9, 3) := by decide +kernel
theorem dd_D_keep_4 : decode cd_D_keep 4 = .ok (.iconst 0, 1) := by decide +kernel
theorem dd_D_keep_5 : decode cd_D_keep 5 = .ok (.aload_n 0, 1) := by decide +kernel
theorem dd_D_keep_6 : decode cd_D_keep 6 = .ok (.getfield 15, 3) := by decide +kernel
theorem dd_D_keep_9 : decode cd_D_keep 9 = .ok (.iconst 0, 1) := by decide +kernel
theorem dd_D_keep_10 : decode cd_D_keep 10 = .ok (.sipush 640, 3) := by decide +kernel
theorem dd_D_keep_13 : decode cd_D_keep 13 = .ok (.invokestatic 40, 3) := by decide +kernel
theorem dd_D_keep_16 : decode cd_D_keep 16 = .ok (.return_, 1) := by decide +kernel
theorem dd_D_goBack_0 : decode cd_D_goBack 0 = .ok (.aload_n 0, 1) := by decide +kernel
theorem dd_D_goBack_1 : decode cd_D_goBack 1 = .ok (.getfield 15, 3) := by decide +kernel
theorem dd_D_goBack_4 : decode cd_D_goBack 4 = .ok (.iconst 0, 1) := by decide +kernel
theorem dd_D_goBack_5 : decode cd_D_goBack 5 = .ok (.aload_n 0, 1) := by decide +kernel
theorem dd_D_goBack_6 : decode cd_D_goBack 6 = .ok (.getfield 9, 3) := by decide +kernel
theorem dd_D_goBack_9 : decode cd_D_goBack 9 = .ok (.iconst 0, 1) := by decide +kernel
theorem dd_D_goBack_10 : decode cd_D_goBack 10 = .ok (.sipush 640, 3) := by decide +kernel
theorem dd_D_goBack_13 : decode cd_D_goBack 13 = .ok (.invokestatic 40, 3) := by decide +kernel
theorem dd_D_goBack_16 : decode cd_D_goBack 16 = .ok (.return_, 1) := by decide +kernel
theorem dd_D_freeBlocks_0 : decode cd_D_freeBlocks 0 = .ok (.iconst 0, 1) := by decide +kernel
theorem dd_D_freeBlocks_1 : decode cd_D_freeBlocks 1 = .ok (.istore_n 1, 1) := by decide +kernel
theorem dd_D_freeBlocks_2 : decode cd_D_freeBlocks 2 = .ok (.bipush 9, 2) := by decide +kernel
theorem dd_D_freeBlocks_4 : decode cd_D_freeBlocks 4 = .ok (.istore_n 2, 1) := by decide +kernel
theorem dd_D_freeBlocks_5 : decode cd_D_freeBlocks 5 = .ok (.iload_n 2, 1) := by decide +kernel
theorem dd_D_freeBlocks_6 : decode cd_D_freeBlocks 6 = .ok (.bipush 40, 2) := by decide +kernel
theorem dd_D_freeBlocks_8 : decode cd_D_freeBlocks 8 = .ok (.if_icmp .ge 20, 3) := by decide +kernel
theorem dd_D_freeBlocks_11 : decode cd_D_freeBlocks 11 = .ok (.aload_n 0, 1) := by decide +kernel
theorem dd_D_freeBlocks_12 : decode cd_D_freeBlocks 12 = .ok (.iload_n 2, 1) := by decide +kernel
theorem dd_D_freeBlocks_13 : decode cd_D_freeBlocks 13 = .ok (.invokevirtual 30, 3) := by decide +kernel
theorem dd_D_freeBlocks_16 : decode cd_D_freeBlocks 16 = .ok (.ifCond .ne 6, 3) := by decide +kernel
theorem dd_D_freeBlocks_19 : decode cd_D_freeBlocks 19 = .ok (.iinc 1 1, 3) := by decide +kernel
theorem dd_D_freeBlocks_22 : decode cd_D_freeBlocks 22 = .ok (.iinc 2 1, 3) := by decide +kernel
theorem dd_D_freeBlocks_25 : decode cd_D_freeBlocks 25 = .ok (.goto (-20), 3) := by decide +kernel
theorem dd_D_freeBlocks_28 : decode cd_D_freeBlocks 28 = .ok (.iload_n 1, 1) := by decide +kernel
theorem dd_D_freeBlocks_29 : decode cd_D_freeBlocks 29 = .ok (.ireturn, 1) := by decide +kernel
theorem dd_D_isUsed_0 : decode cd_D_isUsed 0 = .ok (.aload_n 0, 1) := by decide +kernel
theorem dd_D_isUsed_1 : decode cd_D_isUsed 1 = .ok (.iload_n 1, 1) := by decide +kernel
theorem dd_D_isUsed_2 : decode cd_D_isUsed 2 = .ok (.bipush 8, 2) := by decide +kernel
theorem dd_D_isUsed_4 : decode cd_D_isUsed 4 = .ok (.idiv, 1) := by decide +kernel
theorem dd_D_isUsed_5 : decode cd_D_isUsed 5 = .ok (.invokevirtual 22, 3) := by decide +kernel
theorem dd_D_isUsed_8 : decode cd_D_isUsed 8 = .ok (.iload_n 1, 1) := by decide +kernel
theorem dd_D_isUsed_9 : decode cd_D_isUsed 9 = .ok (.bipush 8, 2) := by decide +kernel
theorem dd_D_isUsed_11 : decode cd_D_isUsed 11 = .ok (.irem, 1) := by decide +kernel
theorem dd_D_isUsed_12 : decode cd_D_isUsed 12 = .ok (.ishr, 1) := by decide +kernel
theorem dd_D_isUsed_13 : decode cd_D_isUsed 13 = .ok (.iconst 1, 1) := by decide +kernel
theorem dd_D_isUsed_14 : decode cd_D_isUsed 14 = .ok (.iand, 1) := by decide +kernel
theorem dd_D_isUsed_15 : decode cd_D_isUsed 15 = .ok (.iconst 1, 1) := by decide +kernel
theorem dd_D_isUsed_16 : decode cd_D_isUsed 16 = .ok (.if_icmp .ne 7, 3) := by decide +kernel
theorem dd_D_isUsed_19 : decode cd_D_isUsed 19 = .ok (.iconst 1, 1) := by decide +kernel
theorem dd_D_isUsed_20 : decode cd_D_isUsed 20 = .ok (.goto 4, 3) := by decide +kernel
theorem dd_D_isUsed_23 : decode cd_D_isUsed 23 = .ok (.iconst 0, 1) := by decide +kernel
theorem dd_D_isUsed_24 : decode cd_D_isUsed 24 = .ok (.ireturn, 1) := by decide +kernel
theorem dd_I_freeInodes_0 : decode cd_I_freeInodes 0 = .ok (.iconst 0, 1) := by decide +kernel
theorem dd_I_freeInodes_1 : decode cd_I_freeInodes 1 = .ok (.istore_n 1, 1) := by decide +kernel
theorem dd_I_freeInodes_2 : decode cd_I_freeInodes 2 = .ok (.iconst 0, 1) := by decide +kernel
theorem dd_I_freeInodes_3 : decode cd_I_freeInodes 3 = .ok (.istore_n 2, 1) := by decide +kernel
theorem dd_I_freeInodes_4 : decode cd_I_freeInodes 4 = .ok (.iload_n 2, 1) := by decide +kernel
theorem dd_I_freeInodes_5 : decode cd_I_freeInodes 5 = .ok (.bipush 12, 2) := by decide +kernel
theorem dd_I_freeInodes_7 : decode cd_I_freeInodes 7 = .ok (.if_icmp .ge 20, 3) := by decide +kernel
theorem dd_I_freeInodes_10 : decode cd_I_freeInodes 10 = .ok (.aload_n 0, 1) := by decide +kernel
theorem dd_I_freeInodes_11 : decode cd_I_freeInodes 11 = .ok (.iload_n 2, 1) := by decide +kernel
theorem dd_I_freeInodes_12 : decode cd_I_freeInodes 12 = .ok (.invokevirtual 29, 3) := by decide +kernel
theorem dd_I_freeInodes_15 : decode cd_I_freeInodes 15 = .ok (.ifCond .ne 6, 3) := by decide +kernel
theorem dd_I_freeInodes_18 : decode cd_I_freeInodes 18 = .ok (.iinc 1 1, 3) := by decide +kernel
theorem dd_I_freeInodes_21 : decode cd_I_freeInodes 21 = .ok (.iinc 2 1, 3) := by decide +kernel
theorem dd_I_freeInodes_24 : decode cd_I_freeInodes 24 = .ok (.goto (-20), 3) := by decide +kernel
theorem dd_I_freeInodes_27 : decode cd_I_freeInodes 27 = .ok (.iload_n 1, 1) := by decide +kernel
theorem dd_I_freeInodes_28 : decode cd_I_freeInodes 28 = .ok (.ireturn, 1) := by decide +kernel
theorem dd_I_kind_0 : decode cd_I_kind 0 = .ok (.aload_n 0, 1) := by decide +kernel
theorem dd_I_kind_1 : decode cd_I_kind 1 = .ok (.iload_n 1, 1) := by decide +kernel
theorem dd_I_kind_2 : decode cd_I_kind 2 = .ok (.iconst 0, 1) := by decide +kernel
theorem dd_I_kind_3 : decode cd_I_kind 3 = .ok (.invokevirtual 25, 3) := by decide +kernel
theorem dd_I_kind_6 : decode cd_I_kind 6 = .ok (.ireturn, 1) := by decide +kernel
theorem dd_D_differingBlocks_0 : decode cd_D_differingBlocks 0 = .ok (.iconst 0, 1) := by decide +kernel
theorem dd_D_differingBlocks_1 : decode cd_D_differingBlocks 1 = .ok (.istore_n 1, 1) := by decide +kernel
theorem dd_D_differingBlocks_2 : decode cd_D_differingBlocks 2 = .ok (.iconst 0, 1) := by decide +kernel
theorem dd_D_differingBlocks_3 : decode cd_D_differingBlocks 3 = .ok (.istore_n 2, 1) := by decide +kernel
theorem dd_D_differingBlocks_4 : decode cd_D_differingBlocks 4 = .ok (.iload_n 2, 1) := by decide +kernel
theorem dd_D_differingBlocks_5 : decode cd_D_differingBlocks 5 = .ok (.bipush 40, 2) := by decide +kernel
theorem dd_D_differingBlocks_7 : decode cd_D_differingBlocks 7 = .ok (.if_icmp .ge 20, 3) := by decide +kernel
theorem dd_D_differingBlocks_10 : decode cd_D_differingBlocks 10 = .ok (.aload_n 0, 1) := by decide +kernel
theorem dd_D_differingBlocks_11 : decode cd_D_differingBlocks 11 = .ok (.iload_n 2, 1) := by decide +kernel
theorem dd_D_differingBlocks_12 : decode cd_D_differingBlocks 12 = .ok (.invokevirtual 34, 3) := by decide +kernel
theorem dd_D_differingBlocks_15 : decode cd_D_differingBlocks 15 = .ok (.ifCond .eq 6, 3) := by decide +kernel
theorem dd_D_differingBlocks_18 : decode cd_D_differingBlocks 18 = .ok (.iinc 1 1, 3) := by decide +kernel
theorem dd_D_differingBlocks_21 : decode cd_D_differingBlocks 21 = .ok (.iinc 2 1, 3) := by decide +kernel
theorem dd_D_differingBlocks_24 : decode cd_D_differingBlocks 24 = .ok (.goto (-20), 3) := by decide +kernel
theorem dd_D_differingBlocks_27 : decode cd_D_differingBlocks 27 = .ok (.iload_n 1, 1) := by decide +kernel
theorem dd_D_differingBlocks_28 : decode cd_D_differingBlocks 28 = .ok (.ireturn, 1) := by decide +kernel
theorem dd_D_differs_0 : decode cd_D_differs 0 = .ok (.iconst 0, 1) := by decide +kernel
theorem dd_D_differs_1 : decode cd_D_differs 1 = .ok (.istore_n 2, 1) := by decide +kernel
theorem dd_D_differs_2 : decode cd_D_differs 2 = .ok (.iload_n 2, 1) := by decide +kernel
theorem dd_D_differs_3 : decode cd_D_differs 3 = .ok (.bipush 16, 2) := by decide +kernel
theorem dd_D_differs_5 : decode cd_D_differs 5 = .ok (.if_icmp .ge 31, 3) := by decide +kernel
theorem dd_D_differs_8 : decode cd_D_differs 8 = .ok (.iload_n 1, 1) := by decide +kernel
theorem dd_D_differs_9 : decode cd_D_differs 9 = .ok (.bipush 16, 2) := by decide +kernel
theorem dd_D_differs_11 : decode cd_D_differs 11 = .ok (.imul, 1) := by decide +kernel
theorem dd_D_differs_12 : decode cd_D_differs 12 = .ok (.iload_n 2, 1) := by decide +kernel
theorem dd_D_differs_13 : decode cd_D_differs 13 = .ok (.iadd, 1) := by decide +kernel
theorem dd_D_differs_14 : decode cd_D_differs 14 = .ok (.istore_n 3, 1) := by decide +kernel
theorem dd_D_differs_15 : decode cd_D_differs 15 = .ok (.aload_n 0, 1) := by decide +kernel
theorem dd_D_differs_16 : decode cd_D_differs 16 = .ok (.iload_n 3, 1) := by decide +kernel
theorem dd_D_differs_17 : decode cd_D_differs 17 = .ok (.invokevirtual 22, 3) := by decide +kernel
theorem dd_D_differs_20 : decode cd_D_differs 20 = .ok (.aload_n 0, 1) := by decide +kernel
theorem dd_D_differs_21 : decode cd_D_differs 21 = .ok (.iload_n 3, 1) := by decide +kernel
theorem dd_D_differs_22 : decode cd_D_differs 22 = .ok (.invokevirtual 37, 3) := by decide +kernel
theorem dd_D_differs_25 : decode cd_D_differs 25 = .ok (.if_icmp .eq 5, 3) := by decide +kernel
theorem dd_D_differs_28 : decode cd_D_differs 28 = .ok (.iconst 1, 1) := by decide +kernel
theorem dd_D_differs_29 : decode cd_D_differs 29 = .ok (.ireturn, 1) := by decide +kernel
theorem dd_D_differs_30 : decode cd_D_differs 30 = .ok (.iinc 2 1, 3) := by decide +kernel
theorem dd_D_differs_33 : decode cd_D_differs 33 = .ok (.goto (-31), 3) := by decide +kernel
theorem dd_D_differs_36 : decode cd_D_differs 36 = .ok (.iconst 0, 1) := by decide +kernel
theorem dd_D_differs_37 : decode cd_D_differs 37 = .ok (.ireturn, 1) := by decide +kernel
theorem dd_D_getKept_0 : decode cd_D_getKept 0 = .ok (.iload_n 1, 1) := by decide +kernel
theorem dd_D_getKept_1 : decode cd_D_getKept 1 = .ok (.ifCond .lt 19, 3) := by decide +kernel
theorem dd_D_getKept_4 : decode cd_D_getKept 4 = .ok (.iload_n 1, 1) := by decide +kernel
theorem dd_D_getKept_5 : decode cd_D_getKept 5 = .ok (.sipush 640, 3) := by decide +kernel
theorem dd_D_getKept_8 : decode cd_D_getKept 8 = .ok (.if_icmp .ge 12, 3) := by decide +kernel
theorem dd_D_getKept_11 : decode cd_D_getKept 11 = .ok (.aload_n 0, 1) := by decide +kernel
theorem dd_D_getKept_12 : decode cd_D_getKept 12 = .ok (.getfield 15, 3) := by decide +kernel
theorem dd_D_getKept_15 : decode cd_D_getKept 15 = .ok (.iload_n 1, 1) := by decide +kernel
theorem dd_D_getKept_16 : decode cd_D_getKept 16 = .ok (.iaload, 1) := by decide +kernel
theorem dd_D_getKept_17 : decode cd_D_getKept 17 = .ok (.goto 4, 3) := by decide +kernel
theorem dd_D_getKept_20 : decode cd_D_getKept 20 = .ok (.iconst 0, 1) := by decide +kernel
theorem dd_D_getKept_21 : decode cd_D_getKept 21 = .ok (.ireturn, 1) := by decide +kernel
theorem dd_I_findEntry_0 : decode cd_I_findEntry 0 = .ok (.aload_n 0, 1) := by decide +kernel
theorem dd_I_findEntry_1 : decode cd_I_findEntry 1 = .ok (.iload_n 1, 1) := by decide +kernel
theorem dd_I_findEntry_2 : decode cd_I_findEntry 2 = .ok (.invokevirtual 68, 3) := by decide +kernel
theorem dd_I_findEntry_5 : decode cd_I_findEntry 5 = .ok (.istore_n 3, 1) := by decide +kernel
theorem dd_I_findEntry_6 : decode cd_I_findEntry 6 = .ok (.iconst 0, 1) := by decide +kernel
theorem dd_I_findEntry_7 : decode cd_I_findEntry 7 = .ok (.istore 4, 2) := by decide +kernel
theorem dd_I_findEntry_9 : decode cd_I_findEntry 9 = .ok (.iload 4, 2) := by decide +kernel
theorem dd_I_findEntry_11 : decode cd_I_findEntry 11 = .ok (.iload_n 3, 1) := by decide +kernel
theorem dd_I_findEntry_12 : decode cd_I_findEntry 12 = .ok (.if_icmp .ge 25, 3) := by decide +kernel
theorem dd_I_findEntry_15 : decode cd_I_findEntry 15 = .ok (.aload_n 0, 1) := by decide +kernel
theorem dd_I_findEntry_16 : decode cd_I_findEntry 16 = .ok (.iload_n 1, 1) := by decide +kernel
theorem dd_I_findEntry_17 : decode cd_I_findEntry 17 = .ok (.iload 4, 2) := by decide +kernel
theorem dd_I_findEntry_19 : decode cd_I_findEntry 19 = .ok (.iconst 2, 1) := by decide +kernel
theorem dd_I_findEntry_20 : decode cd_I_findEntry 20 = .ok (.imul, 1) := by decide +kernel
theorem dd_I_findEntry_21 : decode cd_I_findEntry 21 = .ok (.invokevirtual 65, 3) := by decide +kernel
theorem dd_I_findEntry_24 : decode cd_I_findEntry 24 = .ok (.iload_n 2, 1) := by decide +kernel
theorem dd_I_findEntry_25 : decode cd_I_findEntry 25 = .ok (.if_icmp .ne 6, 3) := by decide +kernel
theorem dd_I_findEntry_28 : decode cd_I_findEntry 28 = .ok (.iload 4, 2) := by decide +kernel
theorem dd_I_findEntry_30 : decode cd_I_findEntry 30 = .ok (.ireturn, 1) := by decide +kernel
theorem dd_I_findEntry_31 : decode cd_I_findEntry 31 = .ok (.iinc 4 1, 3) := by decide +kernel
theorem dd_I_findEntry_34 : decode cd_I_findEntry 34 = .ok (.goto (-25), 3) := by decide +kernel
theorem dd_I_findEntry_37 : decode cd_I_findEntry 37 = .ok (.iconst (-1), 1) := by decide +kernel
theorem dd_I_findEntry_38 : decode cd_I_findEntry 38 = .ok (.ireturn, 1) := by decide +kernel
theorem dd_I_entries_0 : decode cd_I_entries 0 = .ok (.aload_n 0, 1) := by decide +kernel
theorem dd_I_entries_1 : decode cd_I_entries 1 = .ok (.iload_n 1, 1) := by decide +kernel
theorem dd_I_entries_2 : decode cd_I_entries 2 = .ok (.invokevirtual 29, 3) := by decide +kernel
theorem dd_I_entries_5 : decode cd_I_entries 5 = .ok (.iconst 2, 1) := by decide +kernel
theorem dd_I_entries_6 : decode cd_I_entries 6 = .ok (.if_icmp .ne 13, 3) := by decide +kernel
theorem dd_I_entries_9 : decode cd_I_entries 9 = .ok (.aload_n 0, 1) := by decide +kernel
theorem dd_I_entries_10 : decode cd_I_entries 10 = .ok (.iload_n 1, 1) := by decide +kernel
theorem dd_I_entries_11 : decode cd_I_entries 11 = .ok (.invokevirtual 32, 3) := by decide +kernel
theorem dd_I_entries_14 : decode cd_I_entries 14 = .ok (.iconst 2, 1) := by decide +kernel
theorem dd_I_entries_15 : decode cd_I_entries 15 = .ok (.idiv, 1) := by decide +kernel
theorem dd_I_entries_16 : decode cd_I_entries 16 = .ok (.goto 4, 3) := by decide +kernel
theorem dd_I_entries_19 : decode cd_I_entries 19 = .ok (.iconst 0, 1) := by decide +kernel
theorem dd_I_entries_20 : decode cd_I_entries 20 = .ok (.ireturn, 1) := by decide +kernel
theorem dd_I_size_0 : decode cd_I_size 0 = .ok (.aload_n 0, 1) := by decide +kernel
theorem dd_I_size_1 : decode cd_I_size 1 = .ok (.iload_n 1, 1) := by decide +kernel
theorem dd_I_size_2 : decode cd_I_size 2 = .ok (.iconst 1, 1) := by decide +kernel
theorem dd_I_size_3 : decode cd_I_size 3 = .ok (.invokevirtual 25, 3) := by decide +kernel
theorem dd_I_size_6 : decode cd_I_size 6 = .ok (.ireturn, 1) := by decide +kernel
theorem dd_I_byteOf_0 : decode cd_I_byteOf 0 = .ok (.aload_n 0, 1) := by decide +kernel
theorem dd_I_byteOf_1 : decode cd_I_byteOf 1 = .ok (.getfield 9, 3) := by decide +kernel
theorem dd_I_byteOf_4 : decode cd_I_byteOf 4 = .ok (.aload_n 0, 1) := by decide +kernel
theorem dd_I_byteOf_5 : decode cd_I_byteOf 5 = .ok (.iload_n 1, 1) := by decide +kernel
theorem dd_I_byteOf_6 : decode cd_I_byteOf 6 = .ok (.iload_n 2, 1) := by decide +kernel
theorem dd_I_byteOf_7 : decode cd_I_byteOf 7 = .ok (.invokevirtual 45, 3) := by decide +kernel
theorem dd_I_byteOf_10 : decode cd_I_byteOf 10 = .ok (.invokevirtual 15, 3) := by decide +kernel
theorem dd_I_byteOf_13 : decode cd_I_byteOf 13 = .ok (.ireturn, 1) := by decide +kernel
theorem dd_I_placeOf_0 : decode cd_I_placeOf 0 = .ok (.bipush 16, 2) := by decide +kernel
theorem dd_I_placeOf_2 : decode cd_I_placeOf 2 = .ok (.iload_n 1, 1) := by decide +kernel
theorem dd_I_placeOf_3 : decode cd_I_placeOf 3 = .ok (.bipush 8, 2) := by decide +kernel
theorem dd_I_placeOf_5 : decode cd_I_placeOf 5 = .ok (.imul, 1) := by decide +kernel
theorem dd_I_placeOf_6 : decode cd_I_placeOf 6 = .ok (.iadd, 1) := by decide +kernel
theorem dd_I_placeOf_7 : decode cd_I_placeOf 7 = .ok (.iconst 4, 1) := by decide +kernel
theorem dd_I_placeOf_8 : decode cd_I_placeOf 8 = .ok (.iadd, 1) := by decide +kernel
theorem dd_I_placeOf_9 : decode cd_I_placeOf 9 = .ok (.iload_n 2, 1) := by decide +kernel
theorem dd_I_placeOf_10 : decode cd_I_placeOf 10 = .ok (.bipush 16, 2) := by decide +kernel
theorem dd_I_placeOf_12 : decode cd_I_placeOf 12 = .ok (.idiv, 1) := by decide +kernel
theorem dd_I_placeOf_13 : decode cd_I_placeOf 13 = .ok (.iadd, 1) := by decide +kernel
theorem dd_I_placeOf_14 : decode cd_I_placeOf 14 = .ok (.istore_n 3, 1) := by decide +kernel
theorem dd_I_placeOf_15 : decode cd_I_placeOf 15 = .ok (.aload_n 0, 1) := by decide +kernel
theorem dd_I_placeOf_16 : decode cd_I_placeOf 16 = .ok (.getfield 9, 3) := by decide +kernel
theorem dd_I_placeOf_19 : decode cd_I_placeOf 19 = .ok (.iload_n 3, 1) := by decide +kernel
theorem dd_I_placeOf_20 : decode cd_I_placeOf 20 = .ok (.invokevirtual 15, 3) := by decide +kernel
theorem dd_I_placeOf_23 : decode cd_I_placeOf 23 = .ok (.bipush 16, 2) := by decide +kernel
theorem dd_I_placeOf_25 : decode cd_I_placeOf 25 = .ok (.imul, 1) := by decide +kernel
theorem dd_I_placeOf_26 : decode cd_I_placeOf 26 = .ok (.iload_n 2, 1) := by decide +kernel
theorem dd_I_placeOf_27 : decode cd_I_placeOf 27 = .ok (.bipush 16, 2) := by decide +kernel
theorem dd_I_placeOf_29 : decode cd_I_placeOf 29 = .ok (.irem, 1) := by decide +kernel
theorem dd_I_placeOf_30 : decode cd_I_placeOf 30 = .ok (.iadd, 1) := by decide +kernel
theorem dd_I_placeOf_31 : decode cd_I_placeOf 31 = .ok (.ireturn, 1) := by decide +kernel
theorem dd_I_entryInode_0 : decode cd_I_entryInode 0 = .ok (.aload_n 0, 1) := by decide +kernel
theorem dd_I_entryInode_1 : decode cd_I_entryInode 1 = .ok (.iload_n 1, 1) := by decide +kernel
theorem dd_I_entryInode_2 : decode cd_I_entryInode 2 = .ok (.iload_n 2, 1) := by decide +kernel
theorem dd_I_entryInode_3 : decode cd_I_entryInode 3 = .ok (.iconst 2, 1) := by decide +kernel
theorem dd_I_entryInode_4 : decode cd_I_entryInode 4 = .ok (.imul, 1) := by decide +kernel
theorem dd_I_entryInode_5 : decode cd_I_entryInode 5 = .ok (.iconst 1, 1) := by decide +kernel
theorem dd_I_entryInode_6 : decode cd_I_entryInode 6 = .ok (.iadd, 1) := by decide +kernel
theorem dd_I_entryInode_7 : decode cd_I_entryInode 7 = .ok (.invokevirtual 65, 3) := by decide +kernel
theorem dd_I_entryInode_10 : decode cd_I_entryInode 10 = .ok (.ireturn, 1) := by decide +kernel
theorem dd_I_leastFree_0 : decode cd_I_leastFree 0 = .ok (.iconst 0, 1) := by decide +kernel
theorem dd_I_leastFree_1 : decode cd_I_leastFree 1 = .ok (.istore_n 1, 1) := by decide +kernel
theorem dd_I_leastFree_2 : decode cd_I_leastFree 2 = .ok (.iload_n 1, 1) := by decide +kernel
theorem dd_I_leastFree_3 : decode cd_I_leastFree 3 = .ok (.bipush 12, 2) := by decide +kernel
theorem dd_I_leastFree_5 : decode cd_I_leastFree 5 = .ok (.if_icmp .ge 19, 3) := by decide +kernel
theorem dd_I_leastFree_8 : decode cd_I_leastFree 8 = .ok (.aload_n 0, 1) := by decide +kernel
theorem dd_I_leastFree_9 : decode cd_I_leastFree 9 = .ok (.iload_n 1, 1) := by decide +kernel
theorem dd_I_leastFree_10 : decode cd_I_leastFree 10 = .ok (.invokevirtual 29, 3) := by decide +kernel
theorem dd_I_leastFree_13 : decode cd_I_leastFree 13 = .ok (.ifCond .ne 5, 3) := by decide +kernel
theorem dd_I_leastFree_16 : decode cd_I_leastFree 16 = .ok (.iload_n 1, 1) := by decide +kernel
theorem dd_I_leastFree_17 : decode cd_I_leastFree 17 = .ok (.ireturn, 1) := by decide +kernel
theorem dd_I_leastFree_18 : decode cd_I_leastFree 18 = .ok (.iinc 1 1, 3) := by decide +kernel
theorem dd_I_leastFree_21 : decode cd_I_leastFree 21 = .ok (.goto (-19), 3) := by decide +kernel
theorem dd_I_leastFree_24 : decode cd_I_leastFree 24 = .ok (.iconst (-1), 1) := by decide +kernel
theorem dd_I_leastFree_25 : decode cd_I_leastFree 25 = .ok (.ireturn, 1) := by decide +kernel
theorem dd_I_hasRoomForEntry_0 : decode cd_I_hasRoomForEntry 0 = .ok (.aload_n 0, 1) := by decide +kernel
theorem dd_I_hasRoomForEntry_1 : decode cd_I_hasRoomForEntry 1 = .ok (.iload_n 1, 1) := by decide +kernel
theorem dd_I_hasRoomForEntry_2 : decode cd_I_hasRoomForEntry 2 = .ok (.invokevirtual 68, 3) := by decide +kernel
theorem dd_I_hasRoomForEntry_5 : decode cd_I_hasRoomForEntry 5 = .ok (.istore_n 2, 1) := by decide +kernel
theorem dd_I_hasRoomForEntry_6 : decode cd_I_hasRoomForEntry 6 = .ok (.iload_n 2, 1) := by decide +kernel
theorem dd_I_hasRoomForEntry_7 : decode cd_I_hasRoomForEntry 7 = .ok (.bipush 16, 2) := by decide +kernel
theorem dd_I_hasRoomForEntry_9 : decode cd_I_hasRoomForEntry 9 = .ok (.if_icmp .ge 24, 3) := by decide +kernel
theorem dd_I_hasRoomForEntry_12 : decode cd_I_hasRoomForEntry 12 = .ok (.iload_n 2, 1) := by decide +kernel
theorem dd_I_hasRoomForEntry_13 : decode cd_I_hasRoomForEntry 13 = .ok (.invokestatic 71, 3) := by decide +kernel
theorem dd_I_hasRoomForEntry_16 : decode cd_I_hasRoomForEntry 16 = .ok (.ifCond .eq 13, 3) := by decide +kernel
theorem dd_I_hasRoomForEntry_19 : decode cd_I_hasRoomForEntry 19 = .ok (.aload_n 0, 1) := by decide +kernel
theorem dd_I_hasRoomForEntry_20 : decode cd_I_hasRoomForEntry 20 = .ok (.getfield 9, 3) := by decide +kernel
theorem dd_I_hasRoomForEntry_23 : decode cd_I_hasRoomForEntry 23 = .ok (.invokevirtual 51, 3) := by decide +kernel
theorem dd_I_hasRoomForEntry_26 : decode cd_I_hasRoomForEntry 26 = .ok (.ifCond .le 7, 3) := by decide +kernel
theorem dd_I_hasRoomForEntry_29 : decode cd_I_hasRoomForEntry 29 = .ok (.iconst 1, 1) := by decide +kernel
theorem dd_I_hasRoomForEntry_30 : decode cd_I_hasRoomForEntry 30 = .ok (.goto 4, 3) := by decide +kernel
theorem dd_I_hasRoomForEntry_33 : decode cd_I_hasRoomForEntry 33 = .ok (.iconst 0, 1) := by decide +kernel
theorem dd_I_hasRoomForEntry_34 : decode cd_I_hasRoomForEntry 34 = .ok (.ireturn, 1) := by decide +kernel
theorem dd_I_startsBlock_0 : decode cd_I_startsBlock 0 = .ok (.iload_n 0, 1) := by decide +kernel
theorem dd_I_startsBlock_1 : decode cd_I_startsBlock 1 = .ok (.iconst 2, 1) := by decide +kernel
theorem dd_I_startsBlock_2 : decode cd_I_startsBlock 2 = .ok (.imul, 1) := by decide +kernel
theorem dd_I_startsBlock_3 : decode cd_I_startsBlock 3 = .ok (.bipush 16, 2) := by decide +kernel
theorem dd_I_startsBlock_5 : decode cd_I_startsBlock 5 = .ok (.irem, 1) := by decide +kernel
theorem dd_I_startsBlock_6 : decode cd_I_startsBlock 6 = .ok (.ifCond .ne 7, 3) := by decide +kernel
theorem dd_I_startsBlock_9 : decode cd_I_startsBlock 9 = .ok (.iconst 1, 1) := by decide +kernel
theorem dd_I_startsBlock_10 : decode cd_I_startsBlock 10 = .ok (.goto 4, 3) := by decide +kernel
theorem dd_I_startsBlock_13 : decode cd_I_startsBlock 13 = .ok (.iconst 0, 1) := by decide +kernel
theorem dd_I_startsBlock_14 : decode cd_I_startsBlock 14 = .ok (.ireturn, 1) := by decide +kernel
theorem dd_I_addEntry_0 : decode cd_I_addEntry 0 = .ok (.aload_n 0, 1) := by decide +kernel
theorem dd_I_addEntry_1 : decode cd_I_addEntry 1 = .ok (.iload_n 1, 1) := by decide +kernel
theorem dd_I_addEntry_2 : decode cd_I_addEntry 2 = .ok (.invokevirtual 68, 3) := by decide +kernel
theorem dd_I_addEntry_5 : decode cd_I_addEntry 5 = .ok (.istore 4, 2) := by decide +kernel
theorem dd_I_addEntry_7 : decode cd_I_addEntry 7 = .ok (.aload_n 0, 1) := by decide +kernel
theorem dd_I_addEntry_8 : decode cd_I_addEntry 8 = .ok (.iload_n 1, 1) := by decide +kernel
theorem dd_I_addEntry_9 : decode cd_I_addEntry 9 = .ok (.iload 4, 2) := by decide +kernel
theorem dd_I_addEntry_11 : decode cd_I_addEntry 11 = .ok (.iconst 1, 1) := by decide +kernel
theorem dd_I_addEntry_12 : decode cd_I_addEntry 12 = .ok (.iadd, 1) := by decide +kernel
theorem dd_I_addEntry_13 : decode cd_I_addEntry 13 = .ok (.iconst 2, 1) := by decide +kernel
theorem dd_I_addEntry_14 : decode cd_I_addEntry 14 = .ok (.imul, 1) := by decide +kernel
theorem dd_I_addEntry_15 : decode cd_I_addEntry 15 = .ok (.invokevirtual 42, 3) := by decide +kernel
theorem dd_I_addEntry_18 : decode cd_I_addEntry 18 = .ok (.aload_n 0, 1) := by decide +kernel
theorem dd_I_addEntry_19 : decode cd_I_addEntry 19 = .ok (.iload_n 1, 1) := by decide +kernel
theorem dd_I_addEntry_20 : decode cd_I_addEntry 20 = .ok (.iload 4, 2) := by decide +kernel
theorem dd_I_addEntry_22 : decode cd_I_addEntry 22 = .ok (.iload_n 2, 1) := by decide +kernel
theorem dd_I_addEntry_23 : decode cd_I_addEntry 23 = .ok (.iload_n 3, 1) := by decide +kernel
theorem dd_I_addEntry_24 : decode cd_I_addEntry 24 = .ok (.invokevirtual 75, 3) := by decide +kernel
theorem dd_I_addEntry_27 : decode cd_I_addEntry 27 = .ok (.return_, 1) := by decide +kernel
theorem dd_I_resize_0 : decode cd_I_resize 0 = .ok (.aload_n 0, 1) := by decide +kernel
theorem dd_I_resize_1 : decode cd_I_resize 1 = .ok (.iload_n 1, 1) := by decide +kernel
theorem dd_I_resize_2 : decode cd_I_resize 2 = .ok (.invokevirtual 32, 3) := by decide +kernel
theorem dd_I_resize_5 : decode cd_I_resize 5 = .ok (.istore_n 3, 1) := by decide +kernel
theorem dd_I_resize_6 : decode cd_I_resize 6 = .ok (.iload_n 2, 1) := by decide +kernel
theorem dd_I_resize_7 : decode cd_I_resize 7 = .ok (.istore 4, 2) := by decide +kernel
theorem dd_I_resize_9 : decode cd_I_resize 9 = .ok (.iload 4, 2) := by decide +kernel
theorem dd_I_resize_11 : decode cd_I_resize 11 = .ok (.iload_n 3, 1) := by decide +kernel
theorem dd_I_resize_12 : decode cd_I_resize 12 = .ok (.if_icmp .ge 17, 3) := by decide +kernel
theorem dd_I_resize_15 : decode cd_I_resize 15 = .ok (.aload_n 0, 1) := by decide +kernel
theorem dd_I_resize_16 : decode cd_I_resize 16 = .ok (.iload_n 1, 1) := by decide +kernel
theorem dd_I_resize_17 : decode cd_I_resize 17 = .ok (.iload 4, 2) := by decide +kernel
theorem dd_I_resize_19 : decode cd_I_resize 19 = .ok (.iconst 0, 1) := by decide +kernel
theorem dd_I_resize_20 : decode cd_I_resize 20 = .ok (.invokevirtual 55, 3) := by decide +kernel
theorem dd_I_resize_23 : decode cd_I_resize 23 = .ok (.iinc 4 1, 3) := by decide +kernel
theorem dd_I_resize_26 : decode cd_I_resize 26 = .ok (.goto (-17), 3) := by decide +kernel
theorem dd_I_resize_29 : decode cd_I_resize 29 = .ok (.iload_n 2, 1) := by decide +kernel
theorem dd_I_resize_30 : decode cd_I_resize 30 = .ok (.invokestatic 48, 3) := by decide +kernel
theorem dd_I_resize_33 : decode cd_I_resize 33 = .ok (.istore 4, 2) := by decide +kernel
theorem dd_I_resize_35 : decode cd_I_resize 35 = .ok (.iload 4, 2) := by decide +kernel
theorem dd_I_resize_37 : decode cd_I_resize 37 = .ok (.iload_n 3, 1) := by decide +kernel
theorem dd_I_resize_38 : decode cd_I_resize 38 = .ok (.invokestatic 48, 3) := by decide +kernel
theorem dd_I_resize_41 : decode cd_I_resize 41 = .ok (.if_icmp .ge 35, 3) := by decide +kernel
theorem dd_I_resize_44 : decode cd_I_resize 44 = .ok (.aload_n 0, 1) := by decide +kernel
theorem dd_I_resize_45 : decode cd_I_resize 45 = .ok (.getfield 9, 3) := by decide +kernel
theorem dd_I_resize_48 : decode cd_I_resize 48 = .ok (.aload_n 0, 1) := by decide +kernel
theorem dd_I_resize_49 : decode cd_I_resize 49 = .ok (.iload_n 1, 1) := by decide +kernel
theorem dd_I_resize_50 : decode cd_I_resize 50 = .ok (.iconst 4, 1) := by decide +kernel
theorem dd_I_resize_51 : decode cd_I_resize 51 = .ok (.iload 4, 2) := by decide +kernel
theorem dd_I_resize_53 : decode cd_I_resize 53 = .ok (.iadd, 1) := by decide +kernel
theorem dd_I_resize_54 : decode cd_I_resize 54 = .ok (.invokevirtual 25, 3) := by decide +kernel
theorem dd_I_resize_57 : decode cd_I_resize 57 = .ok (.invokevirtual 58, 3) := by decide +kernel
theorem dd_I_resize_60 : decode cd_I_resize 60 = .ok (.aload_n 0, 1) := by decide +kernel
theorem dd_I_resize_61 : decode cd_I_resize 61 = .ok (.iload_n 1, 1) := by decide +kernel
theorem dd_I_resize_62 : decode cd_I_resize 62 = .ok (.iconst 4, 1) := by decide +kernel
theorem dd_I_resize_63 : decode cd_I_resize 63 = .ok (.iload 4, 2) := by decide +kernel
theorem dd_I_resize_65 : decode cd_I_resize 65 = .ok (.iadd, 1) := by decide +kernel
theorem dd_I_resize_66 : decode cd_I_resize 66 = .ok (.iconst 0, 1) := by decide +kernel
theorem dd_I_resize_67 : decode cd_I_resize 67 = .ok (.invokevirtual 35, 3) := by decide +kernel
theorem dd_I_resize_70 : decode cd_I_resize 70 = .ok (.iinc 4 1, 3) := by decide +kernel
theorem dd_I_resize_73 : decode cd_I_resize 73 = .ok (.goto (-38), 3) := by decide +kernel
theorem dd_I_resize_76 : decode cd_I_resize 76 = .ok (.iload_n 3, 1) := by decide +kernel
theorem dd_I_resize_77 : decode cd_I_resize 77 = .ok (.invokestatic 48, 3) := by decide +kernel
theorem dd_I_resize_80 : decode cd_I_resize 80 = .ok (.istore 4, 2) := by decide +kernel
theorem dd_I_resize_82 : decode cd_I_resize 82 = .ok (.iload 4, 2) := by decide +kernel
theorem dd_I_resize_84 : decode cd_I_resize 84 = .ok (.iload_n 2, 1) := by decide +kernel
theorem dd_I_resize_85 : decode cd_I_resize 85 = .ok (.invokestatic 48, 3) := by decide +kernel
theorem dd_I_resize_88 : decode cd_I_resize 88 = .ok (.if_icmp .ge 25, 3) := by decide +kernel
theorem dd_I_resize_91 : decode cd_I_resize 91 = .ok (.aload_n 0, 1) := by decide +kernel
theorem dd_I_resize_92 : decode cd_I_resize 92 = .ok (.iload_n 1, 1) := by decide +kernel
theorem dd_I_resize_93 : decode cd_I_resize 93 = .ok (.iconst 4, 1) := by decide +kernel
theorem dd_I_resize_94 : decode cd_I_resize 94 = .ok (.iload 4, 2) := by decide +kernel
theorem dd_I_resize_96 : decode cd_I_resize 96 = .ok (.iadd, 1) := by decide +kernel
theorem dd_I_resize_97 : decode cd_I_resize 97 = .ok (.aload_n 0, 1) := by decide +kernel
theorem dd_I_resize_98 : decode cd_I_resize 98 = .ok (.getfield 9, 3) := by decide +kernel
theorem dd_I_resize_101 : decode cd_I_resize 101 = .ok (.invokevirtual 62, 3) := by decide +kernel
theorem dd_I_resize_104 : decode cd_I_resize 104 = .ok (.invokevirtual 35, 3) := by decide +kernel
theorem dd_I_resize_107 : decode cd_I_resize 107 = .ok (.iinc 4 1, 3) := by decide +kernel
theorem dd_I_resize_110 : decode cd_I_resize 110 = .ok (.goto (-28), 3) := by decide +kernel
theorem dd_I_resize_113 : decode cd_I_resize 113 = .ok (.aload_n 0, 1) := by decide +kernel
theorem dd_I_resize_114 : decode cd_I_resize 114 = .ok (.iload_n 1, 1) := by decide +kernel
theorem dd_I_resize_115 : decode cd_I_resize 115 = .ok (.iconst 1, 1) := by decide +kernel
theorem dd_I_resize_116 : decode cd_I_resize 116 = .ok (.iload_n 2, 1) := by decide +kernel
theorem dd_I_resize_117 : decode cd_I_resize 117 = .ok (.invokevirtual 35, 3) := by decide +kernel
theorem dd_I_resize_120 : decode cd_I_resize 120 = .ok (.return_, 1) := by decide +kernel
theorem dd_I_putByte_0 : decode cd_I_putByte 0 = .ok (.aload_n 0, 1) := by decide +kernel
theorem dd_I_putByte_1 : decode cd_I_putByte 1 = .ok (.getfield 9, 3) := by decide +kernel
theorem dd_I_putByte_4 : decode cd_I_putByte 4 = .ok (.aload_n 0, 1) := by decide +kernel
theorem dd_I_putByte_5 : decode cd_I_putByte 5 = .ok (.iload_n 1, 1) := by decide +kernel
theorem dd_I_putByte_6 : decode cd_I_putByte 6 = .ok (.iload_n 2, 1) := by decide +kernel
theorem dd_I_putByte_7 : decode cd_I_putByte 7 = .ok (.invokevirtual 45, 3) := by decide +kernel
theorem dd_I_putByte_10 : decode cd_I_putByte 10 = .ok (.iload_n 3, 1) := by decide +kernel
theorem dd_I_putByte_11 : decode cd_I_putByte 11 = .ok (.invokevirtual 21, 3) := by decide +kernel
theorem dd_I_putByte_14 : decode cd_I_putByte 14 = .ok (.return_, 1) := by decide +kernel
theorem dd_I_blocksFor_0 : decode cd_I_blocksFor 0 = .ok (.iload_n 0, 1) := by decide +kernel
theorem dd_I_blocksFor_1 : decode cd_I_blocksFor 1 = .ok (.bipush 16, 2) := by decide +kernel
theorem dd_I_blocksFor_3 : decode cd_I_blocksFor 3 = .ok (.iadd, 1) := by decide +kernel
theorem dd_I_blocksFor_4 : decode cd_I_blocksFor 4 = .ok (.iconst 1, 1) := by decide +kernel
theorem dd_I_blocksFor_5 : decode cd_I_blocksFor 5 = .ok (.isub, 1) := by decide +kernel
theorem dd_I_blocksFor_6 : decode cd_I_blocksFor 6 = .ok (.bipush 16, 2) := by decide +kernel
theorem dd_I_blocksFor_8 : decode cd_I_blocksFor 8 = .ok (.idiv, 1) := by decide +kernel
theorem dd_I_blocksFor_9 : decode cd_I_blocksFor 9 = .ok (.ireturn, 1) := by decide +kernel
theorem dd_D_giveBack_0 : decode cd_D_giveBack 0 = .ok (.aload_n 0, 1) := by decide +kernel
theorem dd_D_giveBack_1 : decode cd_D_giveBack 1 = .ok (.iload_n 1, 1) := by decide +kernel
theorem dd_D_giveBack_2 : decode cd_D_giveBack 2 = .ok (.iconst 0, 1) := by decide +kernel
theorem dd_D_giveBack_3 : decode cd_D_giveBack 3 = .ok (.invokevirtual 18, 3) := by decide +kernel
theorem dd_D_giveBack_6 : decode cd_D_giveBack 6 = .ok (.return_, 1) := by decide +kernel
theorem dd_D_takeBlock_0 : decode cd_D_takeBlock 0 = .ok (.bipush 9, 2) := by decide +kernel
theorem dd_D_takeBlock_2 : decode cd_D_takeBlock 2 = .ok (.istore_n 1, 1) := by decide +kernel
theorem dd_D_takeBlock_3 : decode cd_D_takeBlock 3 = .ok (.iload_n 1, 1) := by decide +kernel
theorem dd_D_takeBlock_4 : decode cd_D_takeBlock 4 = .ok (.bipush 40, 2) := by decide +kernel
theorem dd_D_takeBlock_6 : decode cd_D_takeBlock 6 = .ok (.if_icmp .ge 25, 3) := by decide +kernel
theorem dd_D_takeBlock_9 : decode cd_D_takeBlock 9 = .ok (.aload_n 0, 1) := by decide +kernel
theorem dd_D_takeBlock_10 : decode cd_D_takeBlock 10 = .ok (.iload_n 1, 1) := by decide +kernel
theorem dd_D_takeBlock_11 : decode cd_D_takeBlock 11 = .ok (.invokevirtual 30, 3) := by decide +kernel
theorem dd_D_takeBlock_14 : decode cd_D_takeBlock 14 = .ok (.ifCond .ne 11, 3) := by decide +kernel
theorem dd_D_takeBlock_17 : decode cd_D_takeBlock 17 = .ok (.aload_n 0, 1) := by decide +kernel
theorem dd_D_takeBlock_18 : decode cd_D_takeBlock 18 = .ok (.iload_n 1, 1) := by decide +kernel
theorem dd_D_takeBlock_19 : decode cd_D_takeBlock 19 = .ok (.iconst 1, 1) := by decide +kernel
theorem dd_D_takeBlock_20 : decode cd_D_takeBlock 20 = .ok (.invokevirtual 18, 3) := by decide +kernel
theorem dd_D_takeBlock_23 : decode cd_D_takeBlock 23 = .ok (.iload_n 1, 1) := by decide +kernel
theorem dd_D_takeBlock_24 : decode cd_D_takeBlock 24 = .ok (.ireturn, 1) := by decide +kernel
theorem dd_D_takeBlock_25 : decode cd_D_takeBlock 25 = .ok (.iinc 1 1, 3) := by decide +kernel
theorem dd_D_takeBlock_28 : decode cd_D_takeBlock 28 = .ok (.goto (-25), 3) := by decide +kernel
theorem dd_D_takeBlock_31 : decode cd_D_takeBlock 31 = .ok (.iconst 0, 1) := by decide +kernel
theorem dd_D_takeBlock_32 : decode cd_D_takeBlock 32 = .ok (.ireturn, 1) := by decide +kernel
theorem dd_I_putEntry_0 : decode cd_I_putEntry 0 = .ok (.aload_n 0, 1) := by decide +kernel
theorem dd_I_putEntry_1 : decode cd_I_putEntry 1 = .ok (.iload_n 1, 1) := by decide +kernel
theorem dd_I_putEntry_2 : decode cd_I_putEntry 2 = .ok (.iload_n 2, 1) := by decide +kernel
theorem dd_I_putEntry_3 : decode cd_I_putEntry 3 = .ok (.iconst 2, 1) := by decide +kernel
theorem dd_I_putEntry_4 : decode cd_I_putEntry 4 = .ok (.imul, 1) := by decide +kernel
theorem dd_I_putEntry_5 : decode cd_I_putEntry 5 = .ok (.iload_n 3, 1) := by decide +kernel
theorem dd_I_putEntry_6 : decode cd_I_putEntry 6 = .ok (.invokevirtual 55, 3) := by decide +kernel
theorem dd_I_putEntry_9 : decode cd_I_putEntry 9 = .ok (.aload_n 0, 1) := by decide +kernel
theorem dd_I_putEntry_10 : decode cd_I_putEntry 10 = .ok (.iload_n 1, 1) := by decide +kernel
theorem dd_I_putEntry_11 : decode cd_I_putEntry 11 = .ok (.iload_n 2, 1) := by decide +kernel
theorem dd_I_putEntry_12 : decode cd_I_putEntry 12 = .ok (.iconst 2, 1) := by decide +kernel
theorem dd_I_putEntry_13 : decode cd_I_putEntry 13 = .ok (.imul, 1) := by decide +kernel
theorem dd_I_putEntry_14 : decode cd_I_putEntry 14 = .ok (.iconst 1, 1) := by decide +kernel
theorem dd_I_putEntry_15 : decode cd_I_putEntry 15 = .ok (.iadd, 1) := by decide +kernel
theorem dd_I_putEntry_16 : decode cd_I_putEntry 16 = .ok (.iload 4, 2) := by decide +kernel
theorem dd_I_putEntry_18 : decode cd_I_putEntry 18 = .ok (.invokevirtual 55, 3) := by decide +kernel
theorem dd_I_putEntry_21 : decode cd_I_putEntry 21 = .ok (.return_, 1) := by decide +kernel
theorem dd_I_hasRoomForSize_0 : decode cd_I_hasRoomForSize 0 = .ok (.iload_n 2, 1) := by decide +kernel
theorem dd_I_hasRoomForSize_1 : decode cd_I_hasRoomForSize 1 = .ok (.invokestatic 48, 3) := by decide +kernel
theorem dd_I_hasRoomForSize_4 : decode cd_I_hasRoomForSize 4 = .ok (.aload_n 0, 1) := by decide +kernel
theorem dd_I_hasRoomForSize_5 : decode cd_I_hasRoomForSize 5 = .ok (.iload_n 1, 1) := by decide +kernel
theorem dd_I_hasRoomForSize_6 : decode cd_I_hasRoomForSize 6 = .ok (.invokevirtual 32, 3) := by decide +kernel
theorem dd_I_hasRoomForSize_9 : decode cd_I_hasRoomForSize 9 = .ok (.invokestatic 48, 3) := by decide +kernel
theorem dd_I_hasRoomForSize_12 : decode cd_I_hasRoomForSize 12 = .ok (.isub, 1) := by decide +kernel
theorem dd_I_hasRoomForSize_13 : decode cd_I_hasRoomForSize 13 = .ok (.aload_n 0, 1) := by decide +kernel
theorem dd_I_hasRoomForSize_14 : decode cd_I_hasRoomForSize 14 = .ok (.getfield 9, 3) := by decide +kernel
theorem dd_I_hasRoomForSize_17 : decode cd_I_hasRoomForSize 17 = .ok (.invokevirtual 51, 3) := by decide +kernel
theorem dd_I_hasRoomForSize_20 : decode cd_I_hasRoomForSize 20 = .ok (.if_icmp .gt 7, 3) := by decide +kernel
theorem dd_I_hasRoomForSize_23 : decode cd_I_hasRoomForSize 23 = .ok (.iconst 1, 1) := by decide +kernel
theorem dd_I_hasRoomForSize_24 : decode cd_I_hasRoomForSize 24 = .ok (.goto 4, 3) := by decide +kernel
theorem dd_I_hasRoomForSize_27 : decode cd_I_hasRoomForSize 27 = .ok (.iconst 0, 1) := by decide +kernel
theorem dd_I_hasRoomForSize_28 : decode cd_I_hasRoomForSize 28 = .ok (.ireturn, 1) := by decide +kernel
theorem dd_I_entryName_0 : decode cd_I_entryName 0 = .ok (.aload_n 0, 1) := by decide +kernel
theorem dd_I_entryName_1 : decode cd_I_entryName 1 = .ok (.iload_n 1, 1) := by decide +kernel
theorem dd_I_entryName_2 : decode cd_I_entryName 2 = .ok (.iload_n 2, 1) := by decide +kernel
theorem dd_I_entryName_3 : decode cd_I_entryName 3 = .ok (.iconst 2, 1) := by decide +kernel
theorem dd_I_entryName_4 : decode cd_I_entryName 4 = .ok (.imul, 1) := by decide +kernel
theorem dd_I_entryName_5 : decode cd_I_entryName 5 = .ok (.invokevirtual 65, 3) := by decide +kernel
theorem dd_I_entryName_8 : decode cd_I_entryName 8 = .ok (.ireturn, 1) := by decide +kernel
theorem dd_I_dropEntry_0 : decode cd_I_dropEntry 0 = .ok (.aload_n 0, 1) := by decide +kernel
theorem dd_I_dropEntry_1 : decode cd_I_dropEntry 1 = .ok (.iload_n 1, 1) := by decide +kernel
theorem dd_I_dropEntry_2 : decode cd_I_dropEntry 2 = .ok (.iload_n 2, 1) := by decide +kernel
theorem dd_I_dropEntry_3 : decode cd_I_dropEntry 3 = .ok (.invokevirtual 79, 3) := by decide +kernel
theorem dd_I_dropEntry_6 : decode cd_I_dropEntry 6 = .ok (.istore_n 3, 1) := by decide +kernel
theorem dd_I_dropEntry_7 : decode cd_I_dropEntry 7 = .ok (.iload_n 3, 1) := by decide +kernel
theorem dd_I_dropEntry_8 : decode cd_I_dropEntry 8 = .ok (.iconst (-1), 1) := by decide +kernel
theorem dd_I_dropEntry_9 : decode cd_I_dropEntry 9 = .ok (.if_icmp .ne 4, 3) := by decide +kernel
theorem dd_I_dropEntry_12 : decode cd_I_dropEntry 12 = .ok (.return_, 1) := by decide +kernel
theorem dd_I_dropEntry_13 : decode cd_I_dropEntry 13 = .ok (.aload_n 0, 1) := by decide +kernel
theorem dd_I_dropEntry_14 : decode cd_I_dropEntry 14 = .ok (.iload_n 1, 1) := by decide +kernel
theorem dd_I_dropEntry_15 : decode cd_I_dropEntry 15 = .ok (.invokevirtual 68, 3) := by decide +kernel
theorem dd_I_dropEntry_18 : decode cd_I_dropEntry 18 = .ok (.iconst 1, 1) := by decide +kernel
theorem dd_I_dropEntry_19 : decode cd_I_dropEntry 19 = .ok (.isub, 1) := by decide +kernel
theorem dd_I_dropEntry_20 : decode cd_I_dropEntry 20 = .ok (.istore 4, 2) := by decide +kernel
theorem dd_I_dropEntry_22 : decode cd_I_dropEntry 22 = .ok (.aload_n 0, 1) := by decide +kernel
theorem dd_I_dropEntry_23 : decode cd_I_dropEntry 23 = .ok (.iload_n 1, 1) := by decide +kernel
theorem dd_I_dropEntry_24 : decode cd_I_dropEntry 24 = .ok (.iload_n 3, 1) := by decide +kernel
theorem dd_I_dropEntry_25 : decode cd_I_dropEntry 25 = .ok (.aload_n 0, 1) := by decide +kernel
theorem dd_I_dropEntry_26 : decode cd_I_dropEntry 26 = .ok (.iload_n 1, 1) := by decide +kernel
theorem dd_I_dropEntry_27 : decode cd_I_dropEntry 27 = .ok (.iload 4, 2) := by decide +kernel
theorem dd_I_dropEntry_29 : decode cd_I_dropEntry 29 = .ok (.invokevirtual 82, 3) := by decide +kernel
theorem dd_I_dropEntry_32 : decode cd_I_dropEntry 32 = .ok (.aload_n 0, 1) := by decide +kernel
theorem dd_I_dropEntry_33 : decode cd_I_dropEntry 33 = .ok (.iload_n 1, 1) := by decide +kernel
theorem dd_I_dropEntry_34 : decode cd_I_dropEntry 34 = .ok (.iload 4, 2) := by decide +kernel
theorem dd_I_dropEntry_36 : decode cd_I_dropEntry 36 = .ok (.invokevirtual 85, 3) := by decide +kernel
theorem dd_I_dropEntry_39 : decode cd_I_dropEntry 39 = .ok (.invokevirtual 75, 3) := by decide +kernel
theorem dd_I_dropEntry_42 : decode cd_I_dropEntry 42 = .ok (.aload_n 0, 1) := by decide +kernel
theorem dd_I_dropEntry_43 : decode cd_I_dropEntry 43 = .ok (.iload_n 1, 1) := by decide +kernel
theorem dd_I_dropEntry_44 : decode cd_I_dropEntry 44 = .ok (.iload 4, 2) := by decide +kernel
theorem dd_I_dropEntry_46 : decode cd_I_dropEntry 46 = .ok (.iconst 2, 1) := by decide +kernel
theorem dd_I_dropEntry_47 : decode cd_I_dropEntry 47 = .ok (.imul, 1) := by decide +kernel
theorem dd_I_dropEntry_48 : decode cd_I_dropEntry 48 = .ok (.invokevirtual 42, 3) := by decide +kernel
theorem dd_I_dropEntry_51 : decode cd_I_dropEntry 51 = .ok (.return_, 1) := by decide +kernel
theorem dd_I_vacate_0 : decode cd_I_vacate 0 = .ok (.aload_n 0, 1) := by decide +kernel
theorem dd_I_vacate_1 : decode cd_I_vacate 1 = .ok (.iload_n 1, 1) := by decide +kernel
theorem dd_I_vacate_2 : decode cd_I_vacate 2 = .ok (.iconst 0, 1) := by decide +kernel
theorem dd_I_vacate_3 : decode cd_I_vacate 3 = .ok (.invokevirtual 42, 3) := by decide +kernel
theorem dd_I_vacate_6 : decode cd_I_vacate 6 = .ok (.aload_n 0, 1) := by decide +kernel
theorem dd_I_vacate_7 : decode cd_I_vacate 7 = .ok (.iload_n 1, 1) := by decide +kernel
theorem dd_I_vacate_8 : decode cd_I_vacate 8 = .ok (.iconst 0, 1) := by decide +kernel
theorem dd_I_vacate_9 : decode cd_I_vacate 9 = .ok (.iconst 0, 1) := by decide +kernel
theorem dd_I_vacate_10 : decode cd_I_vacate 10 = .ok (.invokevirtual 35, 3) := by decide +kernel
theorem dd_I_vacate_13 : decode cd_I_vacate 13 = .ok (.aload_n 0, 1) := by decide +kernel
theorem dd_I_vacate_14 : decode cd_I_vacate 14 = .ok (.iload_n 1, 1) := by decide +kernel
theorem dd_I_vacate_15 : decode cd_I_vacate 15 = .ok (.iconst 2, 1) := by decide +kernel
theorem dd_I_vacate_16 : decode cd_I_vacate 16 = .ok (.iconst 0, 1) := by decide +kernel
theorem dd_I_vacate_17 : decode cd_I_vacate 17 = .ok (.invokevirtual 35, 3) := by decide +kernel
theorem dd_I_vacate_20 : decode cd_I_vacate 20 = .ok (.return_, 1) := by decide +kernel
theorem dd_I_redirectEntry_0 : decode cd_I_redirectEntry 0 = .ok (.aload_n 0, 1) := by decide +kernel
theorem dd_I_redirectEntry_1 : decode cd_I_redirectEntry 1 = .ok (.iload_n 1, 1) := by decide +kernel
theorem dd_I_redirectEntry_2 : decode cd_I_redirectEntry 2 = .ok (.iload_n 2, 1) := by decide +kernel
theorem dd_I_redirectEntry_3 : decode cd_I_redirectEntry 3 = .ok (.invokevirtual 79, 3) := by decide +kernel
theorem dd_I_redirectEntry_6 : decode cd_I_redirectEntry 6 = .ok (.istore 4, 2) := by decide +kernel
theorem dd_I_redirectEntry_8 : decode cd_I_redirectEntry 8 = .ok (.iload 4, 2) := by decide +kernel
theorem dd_I_redirectEntry_10 : decode cd_I_redirectEntry 10 = .ok (.iconst (-1), 1) := by decide +kernel
theorem dd_I_redirectEntry_11 : decode cd_I_redirectEntry 11 = .ok (.if_icmp .eq 12, 3) := by decide +kernel
theorem dd_I_redirectEntry_14 : decode cd_I_redirectEntry 14 = .ok (.aload_n 0, 1) := by decide +kernel
theorem dd_I_redirectEntry_15 : decode cd_I_redirectEntry 15 = .ok (.iload_n 1, 1) := by decide +kernel
theorem dd_I_redirectEntry_16 : decode cd_I_redirectEntry 16 = .ok (.iload 4, 2) := by decide +kernel
theorem dd_I_redirectEntry_18 : decode cd_I_redirectEntry 18 = .ok (.iload_n 2, 1) := by decide +kernel
theorem dd_I_redirectEntry_19 : decode cd_I_redirectEntry 19 = .ok (.iload_n 3, 1) := by decide +kernel
theorem dd_I_redirectEntry_20 : decode cd_I_redirectEntry 20 = .ok (.invokevirtual 75, 3) := by decide +kernel
theorem dd_I_redirectEntry_23 : decode cd_I_redirectEntry 23 = .ok (.return_, 1) := by decide +kernel
end
section
/-! My layer over the kit: numbers as Nats in the rows, contracts whose worlds are lists, calls by one row. -/
-- a list of bytes or small numbers as an array's contents
abbrev jn (s : Nat → Nat) : Nat → Int32 := fun k => nI (s k)
def ju (s : Nat → Nat) (a v : Nat) : Nat → Nat := fun k => if k = a then v else s k
theorem jn_upd (s : Nat → Nat) {a : Nat} (v : Nat) (ha : a < 2 ^ 31) : upd (jn s) (nI a).toNatClampNeg (nI v) = jn (ju s a v) := by
  rw [nI_clamp ha]
  funext k
  by_cases h : k = a
  · subst h
    rw [pk_us]
    simp [jn, ju]
  · rw [pk_un h]
    simp [jn, ju, h]
theorem jn_at (s : Nat → Nat) {a : Nat} (ha : a < 2 ^ 31) : jn s (nI a).toNatClampNeg = nI (s a) := by
  show nI (s (nI a).toNatClampNeg) = nI (s a)
  rw [nI_clamp ha]
section JL
variable {p : Program} {l : Launch} {e : Env} {R : Room} {s : State} {m : MethodId} {args : Array Value} {below : List Frame} {meth : Method} {c : Code} {H : Heap} {locs : List Loc} {cells slots : Nat} {Q : State → Prop}
variable {cc : ByteArray} {pc : Nat} {ls : Array Slot} {rest : List Value}
theorem jl_iadd (hx : p.tables.exec = Jvm.exec) (hb : c.code = cc) {a b : Nat} (hd : decode cc pc = .ok (.iadd, 1)) (k : W p l e R s m args below meth c H locs cells slots Q (F0 m (pc + 1) ls (.int (nI (a + b)) :: rest))) : W p l e R s m args below meth c H locs cells slots Q (F0 m pc ls (.int (nI b) :: .int (nI a) :: rest)) :=
  lv_iadd hx hb hd (by rw [nI_add]; exact k)
theorem jl_isub (hx : p.tables.exec = Jvm.exec) (hb : c.code = cc) {a b : Nat} (h : b ≤ a) (hd : decode cc pc = .ok (.isub, 1)) (k : W p l e R s m args below meth c H locs cells slots Q (F0 m (pc + 1) ls (.int (nI (a - b)) :: rest))) : W p l e R s m args below meth c H locs cells slots Q (F0 m pc ls (.int (nI b) :: .int (nI a) :: rest)) :=
  lv_isub hx hb hd (by rw [pk_sub h]; exact k)
theorem jl_imul (hx : p.tables.exec = Jvm.exec) (hb : c.code = cc) {a b : Nat} (hd : decode cc pc = .ok (.imul, 1)) (k : W p l e R s m args below meth c H locs cells slots Q (F0 m (pc + 1) ls (.int (nI (a * b)) :: rest))) : W p l e R s m args below meth c H locs cells slots Q (F0 m pc ls (.int (nI b) :: .int (nI a) :: rest)) :=
  lv_imul hx hb hd (by rw [pk_mul]; exact k)
theorem jl_idiv (hx : p.tables.exec = Jvm.exec) (hb : c.code = cc) {a b : Nat} (ha : a < 2 ^ 31) (h0 : 0 < b) (h1 : b < 2 ^ 31) (hd : decode cc pc = .ok (.idiv, 1)) (k : W p l e R s m args below meth c H locs cells slots Q (F0 m (pc + 1) ls (.int (nI (a / b)) :: rest))) : W p l e R s m args below meth c H locs cells slots Q (F0 m pc ls (.int (nI b) :: .int (nI a) :: rest)) :=
  lv_idiv hx hb hd (nI_ne0 h0 h1) (by rw [pk_div ha h0 h1]; exact k)
theorem jl_irem (hx : p.tables.exec = Jvm.exec) (hb : c.code = cc) {a b : Nat} (ha : a < 2 ^ 31) (h0 : 0 < b) (h1 : b < 2 ^ 31) (hd : decode cc pc = .ok (.irem, 1)) (k : W p l e R s m args below meth c H locs cells slots Q (F0 m (pc + 1) ls (.int (nI (a % b)) :: rest))) : W p l e R s m args below meth c H locs cells slots Q (F0 m pc ls (.int (nI b) :: .int (nI a) :: rest)) :=
  lv_irem hx hb hd (nI_ne0 h0 h1) (by rw [pk_rem ha h0 h1]; exact k)
theorem jl_eq (hx : p.tables.exec = Jvm.exec) (hb : c.code = cc) {a b : Nat} {off : Int} {tgt : Nat} (ha : a < 2 ^ 31) (h1 : b < 2 ^ 31) (hd : decode cc pc = .ok (.if_icmp .eq off, 3)) (ht : (pc : Int) + off = (tgt : Int)) (kt : a = b → W p l e R s m args below meth c H locs cells slots Q (F0 m tgt ls rest)) (kf : ¬ a = b → W p l e R s m args below meth c H locs cells slots Q (F0 m (pc + 3) ls rest)) : W p l e R s m args below meth c H locs cells slots Q (F0 m pc ls (.int (nI b) :: .int (nI a) :: rest)) :=
  lv_icmp_eq hx hb hd ht (fun h => kt ((nI_eq ha h1).mp h)) (fun h => kf (fun q => h ((nI_eq ha h1).mpr q)))
theorem jl_ne (hx : p.tables.exec = Jvm.exec) (hb : c.code = cc) {a b : Nat} {off : Int} {tgt : Nat} (ha : a < 2 ^ 31) (h1 : b < 2 ^ 31) (hd : decode cc pc = .ok (.if_icmp .ne off, 3)) (ht : (pc : Int) + off = (tgt : Int)) (kt : ¬ a = b → W p l e R s m args below meth c H locs cells slots Q (F0 m tgt ls rest)) (kf : a = b → W p l e R s m args below meth c H locs cells slots Q (F0 m (pc + 3) ls rest)) : W p l e R s m args below meth c H locs cells slots Q (F0 m pc ls (.int (nI b) :: .int (nI a) :: rest)) :=
  lv_icmp_ne hx hb hd ht (fun h => kt (fun q => h ((nI_eq ha h1).mpr q))) (fun h => kf ((nI_eq ha h1).mp h))
theorem jl_lt (hx : p.tables.exec = Jvm.exec) (hb : c.code = cc) {a b : Nat} {off : Int} {tgt : Nat} (ha : a < 2 ^ 31) (h1 : b < 2 ^ 31) (hd : decode cc pc = .ok (.if_icmp .lt off, 3)) (ht : (pc : Int) + off = (tgt : Int)) (kt : a < b → W p l e R s m args below meth c H locs cells slots Q (F0 m tgt ls rest)) (kf : ¬ a < b → W p l e R s m args below meth c H locs cells slots Q (F0 m (pc + 3) ls rest)) : W p l e R s m args below meth c H locs cells slots Q (F0 m pc ls (.int (nI b) :: .int (nI a) :: rest)) :=
  lv_icmp_lt hx hb hd ht (fun h => kt ((nI_ltI ha h1).mp h)) (fun h => kf (fun q => h ((nI_ltI ha h1).mpr q)))
theorem jl_ge (hx : p.tables.exec = Jvm.exec) (hb : c.code = cc) {a b : Nat} {off : Int} {tgt : Nat} (ha : a < 2 ^ 31) (h1 : b < 2 ^ 31) (hd : decode cc pc = .ok (.if_icmp .ge off, 3)) (ht : (pc : Int) + off = (tgt : Int)) (kt : ¬ a < b → W p l e R s m args below meth c H locs cells slots Q (F0 m tgt ls rest)) (kf : a < b → W p l e R s m args below meth c H locs cells slots Q (F0 m (pc + 3) ls rest)) : W p l e R s m args below meth c H locs cells slots Q (F0 m pc ls (.int (nI b) :: .int (nI a) :: rest)) :=
  lv_icmp_ge hx hb hd ht (fun h => kt (Nat.not_lt.mpr ((nI_leI h1 ha).mp h))) (fun h => kf (Nat.not_le.mp (fun q => h ((nI_leI h1 ha).mpr q))))
theorem jl_gt (hx : p.tables.exec = Jvm.exec) (hb : c.code = cc) {a b : Nat} {off : Int} {tgt : Nat} (ha : a < 2 ^ 31) (h1 : b < 2 ^ 31) (hd : decode cc pc = .ok (.if_icmp .gt off, 3)) (ht : (pc : Int) + off = (tgt : Int)) (kt : b < a → W p l e R s m args below meth c H locs cells slots Q (F0 m tgt ls rest)) (kf : ¬ b < a → W p l e R s m args below meth c H locs cells slots Q (F0 m (pc + 3) ls rest)) : W p l e R s m args below meth c H locs cells slots Q (F0 m pc ls (.int (nI b) :: .int (nI a) :: rest)) :=
  lv_icmp_gt hx hb hd ht (fun h => kt ((nI_ltI h1 ha).mp h)) (fun h => kf (fun q => h ((nI_ltI h1 ha).mpr q)))
theorem jl_le (hx : p.tables.exec = Jvm.exec) (hb : c.code = cc) {a b : Nat} {off : Int} {tgt : Nat} (ha : a < 2 ^ 31) (h1 : b < 2 ^ 31) (hd : decode cc pc = .ok (.if_icmp .le off, 3)) (ht : (pc : Int) + off = (tgt : Int)) (kt : ¬ b < a → W p l e R s m args below meth c H locs cells slots Q (F0 m tgt ls rest)) (kf : b < a → W p l e R s m args below meth c H locs cells slots Q (F0 m (pc + 3) ls rest)) : W p l e R s m args below meth c H locs cells slots Q (F0 m pc ls (.int (nI b) :: .int (nI a) :: rest)) :=
  lv_icmp_le hx hb hd ht (fun h => kt (Nat.not_lt.mpr ((nI_leI ha h1).mp h))) (fun h => kf (Nat.not_le.mp (fun q => h ((nI_leI ha h1).mpr q))))
theorem jl_ifeq (hx : p.tables.exec = Jvm.exec) (hb : c.code = cc) {a : Nat} {off : Int} {tgt : Nat} (ha : a < 2 ^ 31) (hd : decode cc pc = .ok (.ifCond .eq off, 3)) (ht : (pc : Int) + off = (tgt : Int)) (kt : a = 0 → W p l e R s m args below meth c H locs cells slots Q (F0 m tgt ls rest)) (kf : ¬ a = 0 → W p l e R s m args below meth c H locs cells slots Q (F0 m (pc + 3) ls rest)) : W p l e R s m args below meth c H locs cells slots Q (F0 m pc ls (.int (nI a) :: rest)) :=
  lv_if_eq hx hb hd ht (fun h => kt ((nI_eq ha (by decide)).mp (h.trans nI_0.symm))) (fun h => kf (fun q => h (by rw [q]; exact nI_0)))
theorem jl_ifne (hx : p.tables.exec = Jvm.exec) (hb : c.code = cc) {a : Nat} {off : Int} {tgt : Nat} (ha : a < 2 ^ 31) (hd : decode cc pc = .ok (.ifCond .ne off, 3)) (ht : (pc : Int) + off = (tgt : Int)) (kt : ¬ a = 0 → W p l e R s m args below meth c H locs cells slots Q (F0 m tgt ls rest)) (kf : a = 0 → W p l e R s m args below meth c H locs cells slots Q (F0 m (pc + 3) ls rest)) : W p l e R s m args below meth c H locs cells slots Q (F0 m pc ls (.int (nI a) :: rest)) :=
  lv_if_ne hx hb hd ht (fun h => kt (fun q => h (by rw [q]; exact nI_0))) (fun h => kf ((nI_eq ha (by decide)).mp (h.trans nI_0.symm)))
/-- a Nat is not below 0 -/
theorem jl_iflt (hx : p.tables.exec = Jvm.exec) (hb : c.code = cc) {a : Nat} {off : Int} {tgt : Nat} (ha : a < 2 ^ 31) (hd : decode cc pc = .ok (.ifCond .lt off, 3)) (ht : (pc : Int) + off = (tgt : Int)) (kf : W p l e R s m args below meth c H locs cells slots Q (F0 m (pc + 3) ls rest)) : W p l e R s m args below meth c H locs cells slots Q (F0 m pc ls (.int (nI a) :: rest)) :=
  lv_if_lt hx hb hd ht (fun h => absurd h (nI_pos ha)) (fun _ => kf)
theorem jl_ifge (hx : p.tables.exec = Jvm.exec) (hb : c.code = cc) {a : Nat} {off : Int} {tgt : Nat} (ha : a < 2 ^ 31) (hd : decode cc pc = .ok (.ifCond .ge off, 3)) (ht : (pc : Int) + off = (tgt : Int)) (kt : W p l e R s m args below meth c H locs cells slots Q (F0 m tgt ls rest)) : W p l e R s m args below meth c H locs cells slots Q (F0 m pc ls (.int (nI a) :: rest)) :=
  lv_if_ge hx hb hd ht (fun _ => kt) (fun h => absurd (nI_pos' ha) h)
theorem jl_ifle (hx : p.tables.exec = Jvm.exec) (hb : c.code = cc) {a : Nat} {off : Int} {tgt : Nat} (ha : a < 2 ^ 31) (hd : decode cc pc = .ok (.ifCond .le off, 3)) (ht : (pc : Int) + off = (tgt : Int)) (kt : a = 0 → W p l e R s m args below meth c H locs cells slots Q (F0 m tgt ls rest)) (kf : ¬ a = 0 → W p l e R s m args below meth c H locs cells slots Q (F0 m (pc + 3) ls rest)) : W p l e R s m args below meth c H locs cells slots Q (F0 m pc ls (.int (nI a) :: rest)) :=
  lv_if_le hx hb hd ht (fun h => kt (Nat.eq_zero_of_not_pos (fun q => nI_nle q ha h))) (fun h => kf (fun q => h (by rw [q, nI_0]; exact Int32.le_refl 0)))
theorem jl_ifgt (hx : p.tables.exec = Jvm.exec) (hb : c.code = cc) {a : Nat} {off : Int} {tgt : Nat} (ha : a < 2 ^ 31) (hd : decode cc pc = .ok (.ifCond .gt off, 3)) (ht : (pc : Int) + off = (tgt : Int)) (kt : ¬ a = 0 → W p l e R s m args below meth c H locs cells slots Q (F0 m tgt ls rest)) (kf : a = 0 → W p l e R s m args below meth c H locs cells slots Q (F0 m (pc + 3) ls rest)) : W p l e R s m args below meth c H locs cells slots Q (F0 m pc ls (.int (nI a) :: rest)) :=
  lv_if_gt hx hb hd ht (fun h => kt (fun q => by rw [q, nI_0] at h; exact absurd h (by decide))) (fun h => kf (Nat.eq_zero_of_not_pos (fun q => h (by rw [← nI_0]; exact nI_lt q ha))))
theorem jl_iinc (hx : p.tables.exec = Jvm.exec) (hb : c.code = cc) {i nL k a : Nat} {lv lv' : List (Nat × Value)} (hd : decode cc pc = .ok (.iinc i 1, 3)) (h : lv_has ls nL lv) (hk : lv[k]? = some (i, .int (nI a))) (hn : i < nL) (hl : (i, Value.int (nI (a + 1))) :: lv.filter (fun q => !(q.1 == i) && !(q.1 + 1 == i && q.2.category == 2)) = lv')
    (kk : ∀ ls', lv_has ls' nL lv' → W p l e R s m args below meth c H locs cells slots Q (F0 m (pc + 3) ls' rest)) : W p l e R s m args below meth c H locs cells slots Q (F0 m pc ls rest) :=
  lv_iinc (v := nI (a + 1)) hx hb hd h hk (by rw [nI_succ]; rfl) hn hl kk
end JL
-- what a walk keeps at hand: the machine, the code, its class, the words, what it answers
def jx (p : Program) (s : State) (m : MethodId) (args : Array Value) (meth : Method) (c : Code) (own : String) (cc : ByteArray) (nL : Nat) (ret : Option FieldType) : Prop :=
  p.tables.exec = Jvm.exec ∧ c.code = cc ∧ c.maxLocals = nL ∧ s.vm.findClass own = some m.cls ∧ (∀ w ∈ jb, w.before args s = true) ∧ meth.sig.returnType = ret ∧ meth.locks = false
/-- a method that only reads, and answers v -/
def jr (l : Launch) (y : MethodName) (cw : Cond) (rm : Room) (G : va_G) (tys : List (ClassId × FieldType)) (ws : va_W) (As : List Value) (v : Int32) : Prop :=
  Met l y (cw :: jb) rm (va_Pc As (fun U => va_P G jcl ws U.heap ∧ va_K G jcl tys U)) (vp_Si (fun r => r = v)) 0 0 (fun _ => False)
/-- where such a method's walk has to come -/
abbrev jr_Q (below : List Frame) (As : List Value) (s : State) (v : Int32) : State → Prop := MQ below (vp_Si (fun r => r = v)) As.toArray s 0 0 (fun _ => False)
theorem jr_of {l : Launch} {y : MethodName} {cc : ByteArray} {nL : Nat} {ret : Option FieldType} {rm : Room} {G : va_G} {tys : List (ClassId × FieldType)} {ws : va_W} {As : List Value} {v : Int32}
    (hy : plainName y.cls = true) (hn : (lg_sl As).length ≤ nL)
    (body : ∀ (p : Program) (e : Env) (s : State) (m : MethodId) (below : List Frame) (meth : Method) (c : Code) (ls : Array Slot), jx p s m As.toArray meth c y.cls cc nL ret → va_P G jcl ws s.heap → va_K G jcl tys s → lv_has ls nL (lv_args 0 As) →
      W p l e rm s m As.toArray below meth c s.heap [] 0 0 (jr_Q below As s v) (F0 m 0 ls [])) : jr l y (.code y cc nL ret) rm G tys ws As v := by
  refine Met.ofW (cc := cc) (maxL := nL) (ret := ret) hy rfl ?_
  intro p e s m args below meth c s₁ B hml hv
  obtain ⟨rfl, hP, hK⟩ := hv
  have hts := atoms_spec (ws := Cond.code y cc nL ret :: jb) B.pre
  have hl := lv_entry As (n := nL) hn
  rw [lg_entry_eq]
  exact body p e s m below meth c _ ⟨B.exec, B.bytes, hml, findClass_of_methodNamed B.named, fun w h => hts w (List.mem_cons_of_mem _ h), B.returns, B.notSynchronized⟩ hP hK hl
section JR
variable {p : Program} {l : Launch} {e : Env} {R : Room} {s : State} {m : MethodId} {args : Array Value} {below : List Frame} {meth : Method} {c : Code} {H : Heap} {locs : List Loc} {cells slots : Nat} {Q : State → Prop}
variable {cc : ByteArray} {pc nL : Nat} {ls : Array Slot} {rest : List Value} {own : String} {ret : Option FieldType} {G : va_G} {tys : List (ClassId × FieldType)}
theorem jr_ret {As : List Value} {v w : Int32} (C : jx p s m As.toArray meth c own cc nL (some .int)) (hv : w = v) (hd : decode cc pc = .ok (.ireturn, 1)) : W p l e R s m As.toArray below meth c s.heap [] 0 0 (jr_Q below As s v) (F0 m pc ls [.int w]) :=
  W.iret (v := w) C.1 C.2.1 C.2.2.2.2.2.1 (fun t ht _ => ⟨w, rfl, hv, ht⟩) (fun q h => by cases h) hd C.2.2.2.2.2.2
theorem jr_retz {As : List Value} {v w : Int32} (C : jx p s m As.toArray meth c own cc nL (some .boolean)) (hn : narrow .boolean (.int w) = .int w) (hv : w = v) (hd : decode cc pc = .ok (.ireturn, 1)) : W p l e R s m As.toArray below meth c s.heap [] 0 0 (jr_Q below As s v) (F0 m pc ls [.int w]) :=
  W.zret (v := w) C.1 C.2.1 C.2.2.2.2.2.1 hn (fun t ht _ => ⟨w, rfl, hv, ht⟩) (fun q h => by cases h) hd C.2.2.2.2.2.2
/-- a call of a reading method on an object -/
theorem jr_callV {index : Nat} {y : MethodName} {bytes : ByteArray} {maxL n : Nat} {rt : Option FieldType} {rm : Room} {tys' : List (ClassId × FieldType)} {ws' : va_W} {b : Addr} {As : List Value} {v : Int32}
    (C : jx p s m args meth c own cc nL ret) (hM : jr l y (.code y bytes maxL rt) rm G tys' ws' (.ref b :: As) v) (kl : jc_V own index y bytes maxL rt n)
    (hR : rm.frames + 1 ≤ R.frames ∧ 8 + (maxL + 11) + rm.locals ≤ R.locals ∧ rm.cells = 0 ∧ rm.slots = 0) (hc : cells ≤ R.cells ∧ slots ≤ R.slots)
    (hP : va_P G jcl ws' H) (hK : va_K G jcl tys' s) (hv : ∃ cell : Cell, H[b]? = some cell ∧ cell.vm.isStatics = false ∧ s.vm.findClass y.cls = some cell.cls)
    (hl : ls.size = nL) (hn : As.length = n) {st : List Value} (hst : st = As.reverse ++ .ref b :: rest) (hw : (rest.map fun v => v.category).sum ≤ 8) (hd : decode cc pc = .ok (.invokevirtual index, 3))
    (kk : W p l e R s m args below meth c H locs cells slots Q (F0 m (pc + 3) ls (.int v :: rest))) : W p l e R s m args below meth c H locs cells slots Q (F0 m pc ls st) := by
  obtain ⟨k1, k2, k3, k4, k5, k6⟩ := kl
  refine vp_callSi (va_Run.run (va_runV (As := As) (rest := rest) (Ts := jb) ⟨C.1, C.2.1, C.2.2.1, C.2.2.2.1, C.2.2.2.2.1⟩ hM
    ⟨⟨hR.2.2.1, hR.2.2.2, hR.1, hR.2.1, ?_, List.mem_cons_self, C.2.2.2.2.1 _ k5, C.2.2.2.2.1 _ k4, ⟨k6.1, k6.2.1⟩, fun sig h => ?_, C.2.2.2.2.1 _ k1⟩, C.2.2.2.2.1 _ k2, C.2.2.2.2.1 _ k3⟩
    ⟨fun a U g mk q => ⟨q.1, q.2.1, va_K.moved (u := U) (U := U.calling g mk a) (Vm.Alike.refl U.vm) q.2.2⟩, hv, fun U hU hW => ⟨rfl, by rw [hU]; exact hP, va_K.moved hW.alike hK⟩⟩ rfl hn hl hst (lv_room hw) hd ⟨hc.1, hc.2⟩)) (fun r hr => by rw [hr]; exact kk)
  · intro w hw a' U hW
    rcases List.mem_cons.mp hw with rfl | hw
    · exact word_at hW (good_of_word (jb_g k5)) (C.2.2.2.2.1 _ k5)
    · exact word_at hW (good_of_word (jb_g hw)) (C.2.2.2.2.1 _ hw)
  · have h9 := k6.2.2
    rw [h] at h9
    exact (Option.some.inj h9).symm
/-- a call of a reading static method -/
theorem jr_callS {index : Nat} {y : MethodName} {bytes : ByteArray} {maxL n : Nat} {rt : Option FieldType} {rm : Room} {tys' : List (ClassId × FieldType)} {ws' : va_W} {As : List Value} {v : Int32}
    (C : jx p s m args meth c own cc nL ret) (hM : jr l y (.code y bytes maxL rt) rm G tys' ws' As v) (kl : jc_S own index y bytes maxL rt n)
    (hR : rm.frames + 1 ≤ R.frames ∧ 8 + (maxL + 11) + rm.locals ≤ R.locals ∧ rm.cells = 0 ∧ rm.slots = 0) (hc : cells ≤ R.cells ∧ slots ≤ R.slots)
    (hP : va_P G jcl ws' H) (hK : va_K G jcl tys' s)
    (hl : ls.size = nL) (hn : As.length = n) {st : List Value} (hst : st = As.reverse ++ rest) (hw : (rest.map fun v => v.category).sum ≤ 8) (hd : decode cc pc = .ok (.invokestatic index, 3))
    (kk : W p l e R s m args below meth c H locs cells slots Q (F0 m (pc + 3) ls (.int v :: rest))) : W p l e R s m args below meth c H locs cells slots Q (F0 m pc ls st) := by
  obtain ⟨k1, k2, k4, k5, k6⟩ := kl
  refine vp_callSi (va_Run.run (va_runS (As := As) (rest := rest) (Ts := jb) ⟨C.1, C.2.1, C.2.2.1, C.2.2.2.1, C.2.2.2.2.1⟩ hM
    ⟨⟨hR.2.2.1, hR.2.2.2, hR.1, hR.2.1, ?_, List.mem_cons_self, C.2.2.2.2.1 _ k5, C.2.2.2.2.1 _ k4, ⟨k6.1, k6.2.1⟩, fun sig h => ?_, C.2.2.2.2.1 _ k1⟩, C.2.2.2.2.1 _ k2⟩
    ⟨fun a U g mk q => ⟨q.1, q.2.1, va_K.moved (u := U) (U := U.calling g mk a) (Vm.Alike.refl U.vm) q.2.2⟩, fun U hU hW => ⟨rfl, by rw [hU]; exact hP, va_K.moved hW.alike hK⟩⟩ rfl hn hl hst (lv_room hw) hd ⟨hc.1, hc.2⟩)) (fun r hr => by rw [hr]; exact kk)
  · intro w hw a' U hW
    rcases List.mem_cons.mp hw with rfl | hw
    · exact word_at hW (good_of_word (jb_g k5)) (C.2.2.2.2.1 _ k5)
    · exact word_at hW (good_of_word (jb_g hw)) (C.2.2.2.2.1 _ hw)
  · have h9 := k6.2.2
    rw [h] at h9
    exact (Option.some.inj h9).symm
end JR
end
section
/-- a world in two parts: the first is handed over and comes back as w1, the rest stays -/
theorem jw_join {A0 : Nat → Prop} {D : va_G} {cl : List vw_C} {wc wr w1 : va_W} {H H1 : Heap} (hP : va_P D cl (wc ++ wr) H) (hD : va_D A0 (wc ++ wr)) (hk : ∀ q : Nat, q < H.size → ¬ va_A wc H.size q → H1[q]? = H[q]?) (hF : ∀ q, va_A wc H.size q → A0 q) (hP1 : va_P D cl w1 H1) (hD1 : va_D (va_A wc H.size) w1) : va_P D cl (w1 ++ wr) H1 ∧ va_D A0 (w1 ++ wr) := by
  have at2 : ∀ (k : Nat) (q : Nat × va_E), wr[k]? = some q → (wc ++ wr)[wc.length + k]? = some q := by
    intro k q hq
    rw [List.getElem?_append_right (Nat.le_add_right _ _), Nat.add_sub_cancel_left]
    exact hq
  have at1 : ∀ (k : Nat) (q : Nat × va_E), wc[k]? = some q → (wc ++ wr)[k]? = some q := by
    intro k q hq
    rw [List.getElem?_append_left (List.getElem?_eq_some_iff.mp hq).1]
    exact hq
  have apart : ∀ (k : Nat) (q : Nat × va_E), wr[k]? = some q → q.1 < H.size ∧ ¬ va_A wc H.size q.1 := by
    intro k q hq
    have hl := (hP _ q (at2 k q hq)).lt
    refine ⟨hl, fun h => ?_⟩
    rcases h with ⟨k2, e, h⟩ | h
    · have hij := hD.1 _ _ q (q.1, e) (at2 k q hq) (at1 k2 _ h) rfl
      have := (List.getElem?_eq_some_iff.mp h).1
      omega
    · omega
  have hDr : va_D A0 wr := ⟨fun i j p q hp hq h => by
    have := hD.1 _ _ p q (at2 i p hp) (at2 j q hq) h
    omega, fun k q hq => hD.2 _ q (at2 k q hq)⟩
  refine ⟨va_P.app hP1 (fun k q hq => ?_), va_D.app (hD1.weaken (fun k q _ h => hF q.1 h)) hDr (fun i j x y hx hy hxy => ?_)⟩
  · obtain ⟨g1, g2⟩ := apart k q hq
    exact (hP _ q (at2 k q hq)).kept (hk q.1 g1 g2)
  · exact (apart j y hy).2 (by rw [← hxy]; exact hD1.2 i x hx)
theorem jw_left {D : va_G} {cl : List vw_C} {wc wr : va_W} {H : Heap} (hP : va_P D cl (wc ++ wr) H) : va_P D cl wc H := fun k q hq => hP k q (by
  rw [List.getElem?_append_left (List.getElem?_eq_some_iff.mp hq).1]
  exact hq)
theorem jw_leftD {A : Nat → Prop} {wc wr : va_W} (hD : va_D A (wc ++ wr)) : va_D A wc := by
  have at1 : ∀ (k : Nat) (q : Nat × va_E), wc[k]? = some q → (wc ++ wr)[k]? = some q := by
    intro k q hq
    rw [List.getElem?_append_left (List.getElem?_eq_some_iff.mp hq).1]
    exact hq
  exact ⟨fun i j p q hp hq h => hD.1 i j p q (at1 i p hp) (at1 j q hq) h, fun k q hq => hD.2 k q (at1 k q hq)⟩
/-- what a method that turns the world ws into ws' and answers o ends with -/
abbrev jm_E (G : va_G) (tys : List (ClassId × FieldType)) (A : Nat → Prop) (o : Option Value) (ws' : va_W) : Array Value → State → Outcome → State → Prop := fun _ st oc t =>
  (oc = .returned o ∧ va_P G jcl ws' t.heap ∧ va_K G jcl tys t ∧ va_D A ws') ∧ va_F A st t
def jm (l : Launch) (y : MethodName) (cw : Cond) (rm : Room) (G : va_G) (tys : List (ClassId × FieldType)) (ws : va_W) (As : List Value) (o : Option Value) (ws' : va_W) : Prop :=
  ∀ sz : Nat, Met l y (cw :: jb) rm (va_Pc As (fun U => U.heap.size = sz ∧ va_P G jcl ws U.heap ∧ va_K G jcl tys U ∧ va_D (fun _ => True) ws)) (jm_E G tys (va_A ws sz) o ws') rm.cells rm.slots (va_A ws sz)
abbrev jm_Q (below : List Frame) (rm : Room) (G : va_G) (tys : List (ClassId × FieldType)) (A : Nat → Prop) (As : List Value) (s : State) (o : Option Value) (ws' : va_W) : State → Prop := MQ below (jm_E G tys A o ws') As.toArray s rm.cells rm.slots A
theorem jm_of {l : Launch} {y : MethodName} {cc : ByteArray} {nL : Nat} {ret : Option FieldType} {rm : Room} {G : va_G} {tys : List (ClassId × FieldType)} {ws ws' : va_W} {As : List Value} {o : Option Value}
    (hy : plainName y.cls = true) (hn : (lg_sl As).length ≤ nL)
    (body : ∀ (p : Program) (e : Env) (s : State) (m : MethodId) (below : List Frame) (meth : Method) (c : Code) (ls : Array Slot) (A : Nat → Prop), (∀ q : Nat, s.heap.size ≤ q → A q) → jx p s m As.toArray meth c y.cls cc nL ret → va_P G jcl ws s.heap → va_K G jcl tys s → va_D A ws → va_S A s.heap s.heap [] → lv_has ls nL (lv_args 0 As) →
      W p l e rm s m As.toArray below meth c s.heap [] 0 0 (jm_Q below rm G tys A As s o ws') (F0 m 0 ls [])) : jm l y (.code y cc nL ret) rm G tys ws As o ws' := by
  intro sz
  refine Met.ofW (cc := cc) (maxL := nL) (ret := ret) hy rfl ?_
  intro p e s m args below meth c s₁ B hml hv
  obtain ⟨rfl, hsz, hP, hK, hD0⟩ := hv
  subst hsz
  have hD := hD0.self (sz := s.heap.size)
  have hts := atoms_spec (ws := Cond.code y cc nL ret :: jb) B.pre
  have hl := lv_entry As (n := nL) hn
  rw [lg_entry_eq]
  exact body p e s m below meth c _ (va_A ws s.heap.size) (fun q h => Or.inr h) ⟨B.exec, B.bytes, hml, findClass_of_methodNamed B.named, fun w h => hts w (List.mem_cons_of_mem _ h), B.returns, B.notSynchronized⟩ hP hK hD va_S.rf hl
section JM
variable {p : Program} {l : Launch} {e : Env} {R : Room} {s : State} {m : MethodId} {args : Array Value} {below : List Frame} {meth : Method} {c : Code} {H H0 : Heap} {locs : List Loc} {cells slots : Nat} {Q : State → Prop}
variable {cc : ByteArray} {pc nL : Nat} {ls : Array Slot} {rest st : List Value} {own : String} {ret : Option FieldType} {G : va_G} {tys : List (ClassId × FieldType)} {A : Nat → Prop} {ws' : va_W} {As : List Value} {rm : Room}
theorem jm_retv (C : jx p s m As.toArray meth c own cc nL none) (hP : va_P G jcl ws' H) (hD : va_D A ws') (hK : va_K G jcl tys s) (hS : va_S A s.heap H locs) (hc : cells ≤ rm.cells ∧ slots ≤ rm.slots) (hd : decode cc pc = .ok (.return_, 1)) : W p l e R s m As.toArray below meth c H locs cells slots (jm_Q below rm G tys A As s none ws') (F0 m pc ls []) :=
  W.widen hc.1 hc.2 (W.vret C.1 C.2.1 C.2.2.2.2.2.1 (fun t ht hW => ⟨⟨rfl, by rw [ht]; exact hP, va_K.moved hW.alike hK, hD⟩, hS.F ht⟩) hS.2.2 hd C.2.2.2.2.2.2)
theorem jm_reti {v w : Int32} (C : jx p s m As.toArray meth c own cc nL (some .int)) (hv : w = v) (hP : va_P G jcl ws' H) (hD : va_D A ws') (hK : va_K G jcl tys s) (hS : va_S A s.heap H locs) (hc : cells ≤ rm.cells ∧ slots ≤ rm.slots) (hd : decode cc pc = .ok (.ireturn, 1)) : W p l e R s m As.toArray below meth c H locs cells slots (jm_Q below rm G tys A As s (some (.int v)) ws') (F0 m pc ls [.int w]) :=
  W.widen hc.1 hc.2 (W.iret (v := w) C.1 C.2.1 C.2.2.2.2.2.1 (fun t ht hW => ⟨⟨by rw [hv], by rw [ht]; exact hP, va_K.moved hW.alike hK, hD⟩, hS.F ht⟩) hS.2.2 hd C.2.2.2.2.2.2)
theorem jm_retz {v w : Int32} (C : jx p s m As.toArray meth c own cc nL (some .boolean)) (hn : narrow .boolean (.int w) = .int w) (hv : w = v) (hP : va_P G jcl ws' H) (hD : va_D A ws') (hK : va_K G jcl tys s) (hS : va_S A s.heap H locs) (hc : cells ≤ rm.cells ∧ slots ≤ rm.slots) (hd : decode cc pc = .ok (.ireturn, 1)) : W p l e R s m As.toArray below meth c H locs cells slots (jm_Q below rm G tys A As s (some (.int v)) ws') (F0 m pc ls [.int w]) :=
  W.widen hc.1 hc.2 (W.zret (v := w) C.1 C.2.1 C.2.2.2.2.2.1 hn (fun t ht hW => ⟨⟨by rw [hv], by rw [ht]; exact hP, va_K.moved hW.alike hK, hD⟩, hS.F ht⟩) hS.2.2 hd C.2.2.2.2.2.2)
theorem jm_retl {v w : Int64} (C : jx p s m As.toArray meth c own cc nL (some .long)) (hv : w = v) (hP : va_P G jcl ws' H) (hD : va_D A ws') (hK : va_K G jcl tys s) (hS : va_S A s.heap H locs) (hc : cells ≤ rm.cells ∧ slots ≤ rm.slots) (hd : decode cc pc = .ok (.lreturn, 1)) : W p l e R s m As.toArray below meth c H locs cells slots (jm_Q below rm G tys A As s (some (.long v)) ws') (F0 m pc ls [.long w]) :=
  W.widen hc.1 hc.2 (W.lret (v := w) C.1 C.2.1 C.2.2.2.2.2.1 (fun t ht hW => ⟨⟨by rw [hv], by rw [ht]; exact hP, va_K.moved hW.alike hK, hD⟩, hS.F ht⟩) hS.2.2 hd C.2.2.2.2.2.2)
/-- behind such a call -/
theorem jm_back {wc wr w1 : va_W} {o : Option Value} {tys' : List (ClassId × FieldType)} {a : Array Value}
    (hr : va_Run p l e R s m args below meth c H locs cells slots rm.cells rm.slots (F0 m pc ls st) rest (jm_E G tys' (va_A wc H.size) o w1 a) (va_A wc H.size))
    (hP : va_P G jcl (wc ++ wr) H) (hD : va_D A (wc ++ wr)) (hS : va_S A H0 H locs) (hA : ∀ q, H0.size ≤ q → A q)
    (kk : ∀ (H1 : Heap) (locs1 : List Loc), va_P G jcl (w1 ++ wr) H1 → va_D A (w1 ++ wr) → va_S A H0 H1 locs1 → W p l e R s m args below meth c H1 locs1 (cells + rm.cells) (slots + rm.slots) Q (F0 m (pc + 3) ls (o.toList ++ rest))) : W p l e R s m args below meth c H locs cells slots Q (F0 m pc ls st) := by
  have hF : ∀ q, va_A wc H.size q → A q := by
    intro q h
    rcases h with ⟨k, e, h⟩ | h
    · exact (jw_leftD hD).2 k (q, e) h
    · exact hA q (Nat.le_trans hS.1 h)
  intro T hT X
  obtain ⟨v, st₀, t, T', L, h0, X', hL, e1, e2, ⟨⟨hv, hb, -, hb2⟩, hz, hk⟩, sg⟩ := hr T hT X
  cases hv
  rw [h0] at hz hk
  rw [← e1] at hb hz hk
  obtain ⟨hP1, hD1⟩ := jw_join hP hD hk hF hb hb2
  obtain ⟨t2, a1, b1⟩ := kk T'.heap (locs ++ L) hP1 hD1
    ⟨Nat.le_trans hS.1 hz, fun q h1 h2 => by rw [hk q (Nat.lt_of_lt_of_le h1 hS.1) (fun z => h2 (hF q z))]; exact hS.2.1 q h1 h2, fun q hq => by
      rcases List.mem_append.mp hq with h | h
      · exact hS.2.2 q h
      · exact hF _ (hL q h)⟩ T' rfl X'
  exact ⟨t2, sg t2 a1, b1⟩
theorem jm_callV {index : Nat} {y : MethodName} {bytes : ByteArray} {maxL n : Nat} {rt : Option FieldType} {tys' : List (ClassId × FieldType)} {wc wr w1 : va_W} {b : Addr} {Bs : List Value} {o : Option Value}
    (C : jx p s m args meth c own cc nL ret) (hM : jm l y (.code y bytes maxL rt) rm G tys' wc (.ref b :: Bs) o w1) (kl : jc_V own index y bytes maxL rt n)
    (hR : rm.frames + 1 ≤ R.frames ∧ 8 + (maxL + 11) + rm.locals ≤ R.locals) (hc : cells + rm.cells ≤ R.cells ∧ slots + rm.slots ≤ R.slots)
    (hP : va_P G jcl (wc ++ wr) H) (hD : va_D A (wc ++ wr)) (hS : va_S A H0 H locs) (hA : ∀ q, H0.size ≤ q → A q) (hK : va_K G jcl tys' s) (hv : ∃ cell : Cell, H[b]? = some cell ∧ cell.vm.isStatics = false ∧ s.vm.findClass y.cls = some cell.cls)
    (hl : ls.size = nL) (hn : Bs.length = n) (hst : st = Bs.reverse ++ .ref b :: rest) (hw : (rest.map fun v => v.category).sum ≤ 8) (hd : decode cc pc = .ok (.invokevirtual index, 3))
    (kk : ∀ (H1 : Heap) (locs1 : List Loc), va_P G jcl (w1 ++ wr) H1 → va_D A (w1 ++ wr) → va_S A H0 H1 locs1 → W p l e R s m args below meth c H1 locs1 (cells + rm.cells) (slots + rm.slots) Q (F0 m (pc + 3) ls (o.toList ++ rest))) : W p l e R s m args below meth c H locs cells slots Q (F0 m pc ls st) := by
  obtain ⟨k1, k2, k3, k4, k5, k6⟩ := kl
  refine jm_back (rm := rm) (a := (Value.ref b :: Bs).toArray) (tys' := tys') (va_runV (As := Bs) (rest := rest) (Ts := jb) ⟨C.1, C.2.1, C.2.2.1, C.2.2.2.1, C.2.2.2.2.1⟩ (hM H.size)
    ⟨⟨rfl, rfl, hR.1, hR.2, ?_, List.mem_cons_self, C.2.2.2.2.1 _ k5, C.2.2.2.2.1 _ k4, ⟨k6.1, k6.2.1⟩, fun sig h => ?_, C.2.2.2.2.1 _ k1⟩, C.2.2.2.2.1 _ k2, C.2.2.2.2.1 _ k3⟩
    ⟨fun a U g mk q => ⟨q.1, q.2.1, q.2.2.1, va_K.moved (u := U) (U := U.calling g mk a) (Vm.Alike.refl U.vm) q.2.2.2.1, q.2.2.2.2⟩, hv, fun U hU hW => ⟨rfl, by rw [hU], by rw [hU]; exact jw_left hP, va_K.moved hW.alike hK, (jw_leftD hD).weaken (fun _ _ _ _ => trivial)⟩⟩ rfl hn hl hst (lv_room hw) hd hc) hP hD hS hA kk
  · intro w hw a' U hW
    rcases List.mem_cons.mp hw with rfl | hw
    · exact word_at hW (good_of_word (jb_g k5)) (C.2.2.2.2.1 _ k5)
    · exact word_at hW (good_of_word (jb_g hw)) (C.2.2.2.2.1 _ hw)
  · have h9 := k6.2.2
    rw [h] at h9
    exact (Option.some.inj h9).symm
end JM
end
section
/-! The class as functions of numbers. s: THE STATE's bytes, c: COMMITTED's -/
def jf_ok (s : Nat → Nat) : Prop := ∀ k, s k < 256
def jf_get (s : Nat → Nat) (a : Nat) : Nat := if a < 640 then s a else 0
def jf_put (s : Nat → Nat) (a v : Nat) : Nat → Nat := if a < 640 then ju s a v else s
theorem jf_get_lt {s : Nat → Nat} (hs : jf_ok s) (a : Nat) : jf_get s a < 256 := by
  unfold jf_get
  split
  · exact hs a
  · decide
theorem jf_put_ok {s : Nat → Nat} (hs : jf_ok s) (a : Nat) {v : Nat} (hv : v < 256) : jf_ok (jf_put s a v) := by
  intro k
  unfold jf_put
  split
  · unfold ju
    split
    · exact hv
    · exact hs k
  · exact hs k
def jf_clr (x k : Nat) : Nat := x - 2 ^ k * (x / 2 ^ k % 2)
theorem jf_bits : ∀ x, x < 256 → ∀ k, k < 8 → nI x &&& (nI 1 <<< (nI k &&& 31) ^^^ (-1)) = nI (jf_clr x k) ∧ nI (jf_clr x k) ||| nI 1 <<< (nI k &&& 31) = nI (jf_clr x k + 2 ^ k) ∧ nI x >>> (nI k &&& 31) &&& nI 1 = nI (x / 2 ^ k % 2) ∧ jf_clr x k + 2 ^ k < 256 ∧ jf_clr x k < 256 := by decide +kernel
def jf_isUsed (s : Nat → Nat) (b : Nat) : Nat := jf_get s (b / 8) / 2 ^ (b % 8) % 2
theorem jf_isUsed_lt (s : Nat → Nat) (b : Nat) : jf_isUsed s b < 2 := Nat.mod_lt _ (by decide)
def jf_mark (s : Nat → Nat) (b u : Nat) : Nat → Nat := jf_put s (b / 8) (if u = 0 then jf_clr (jf_get s (b / 8)) (b % 8) else jf_clr (jf_get s (b / 8)) (b % 8) + 2 ^ (b % 8))
theorem jf_mark_ok {s : Nat → Nat} (hs : jf_ok s) (b u : Nat) : jf_ok (jf_mark s b u) := by
  have h := jf_bits _ (jf_get_lt hs (b / 8)) (b % 8) (Nat.mod_lt _ (by decide))
  refine jf_put_ok hs _ ?_
  split
  · exact h.2.2.2.2
  · exact h.2.2.2.1
def jf_freeL (s : Nat → Nat) : Nat → Nat → Nat → Nat
  | 0, _, f => f
  | n + 1, b, f => jf_freeL s n (b + 1) (if jf_isUsed s b = 0 then f + 1 else f)
def jf_free (s : Nat → Nat) : Nat := jf_freeL s 31 9 0
theorem jf_freeL_le (s : Nat → Nat) : ∀ n b f, jf_freeL s n b f ≤ f + n := by
  intro n
  induction n with
  | zero => intro b f; exact Nat.le_refl _
  | succ n ih =>
    intro b f
    have := ih (b + 1) (if jf_isUsed s b = 0 then f + 1 else f)
    unfold jf_freeL
    split at this <;> rename_i h <;> simp only [h, if_true, if_false] <;> omega
theorem jf_free_lt (s : Nat → Nat) : jf_free s < 32 := by
  have := jf_freeL_le s 31 9 0
  unfold jf_free
  omega
def jf_takeL (s : Nat → Nat) : Nat → Nat → Nat × (Nat → Nat)
  | 0, _ => (0, s)
  | n + 1, b => if jf_isUsed s b = 0 then (b, jf_mark s b 1) else jf_takeL s n (b + 1)
def jf_take (s : Nat → Nat) : Nat × (Nat → Nat) := jf_takeL s 31 9
theorem jf_takeL_ok {s : Nat → Nat} (hs : jf_ok s) : ∀ n b, b + n = 40 → (jf_takeL s n b).1 < 256 ∧ jf_ok (jf_takeL s n b).2 := by
  intro n
  induction n with
  | zero => intro b _; exact ⟨by show 0 < 256; decide, hs⟩
  | succ n ih =>
    intro b h
    unfold jf_takeL
    split
    · exact ⟨by show b < 256; omega, jf_mark_ok hs b 1⟩
    · exact ih (b + 1) (by omega)
def jf_diffL (s c : Nat → Nat) (b : Nat) : Nat → Nat → Nat
  | 0, _ => 0
  | n + 1, i => if jf_get s (b * 16 + i) = jf_get c (b * 16 + i) then jf_diffL s c b n (i + 1) else 1
def jf_differs (s c : Nat → Nat) (b : Nat) : Nat := jf_diffL s c b 16 0
theorem jf_diffL_lt (s c : Nat → Nat) (b : Nat) : ∀ n i, jf_diffL s c b n i < 2 := by
  intro n
  induction n with
  | zero => intro i; show 0 < 2; decide
  | succ n ih =>
    intro i
    unfold jf_diffL
    split
    · exact ih _
    · decide
def jf_dfbL (s c : Nat → Nat) : Nat → Nat → Nat → Nat
  | 0, _, d => d
  | n + 1, b, d => jf_dfbL s c n (b + 1) (if jf_differs s c b = 0 then d else d + 1)
def jf_differing (s c : Nat → Nat) : Nat := jf_dfbL s c 40 0 0
-- worlds
abbrev wD (qD qS qC : Nat) (cS cC : ClassId) (s c : Nat → Nat) : va_W := [(qD, .inr (0, [.ref qS, .ref qC])), (qS, .inl (cS, 640, .inl (jn s))), (qC, .inl (cC, 640, .inl (jn c)))]
abbrev tD (cS cC : ClassId) : List (ClassId × FieldType) := [(cS, .int), (cC, .int)]
section JT
variable {p : Program} {l : Launch} {e : Env} {R : Room} {s : State} {m : MethodId} {args : Array Value} {below : List Frame} {meth : Method} {c : Code} {H : Heap} {locs : List Loc} {cells slots : Nat} {Q : State → Prop}
variable {pc : Nat} {ls : Array Slot} {rest : List Value}
theorem jl_top {x y : Int32} (h : x = y) (k : W p l e R s m args below meth c H locs cells slots Q (F0 m pc ls (.int y :: rest))) : W p l e R s m args below meth c H locs cells slots Q (F0 m pc ls (.int x :: rest)) := h ▸ k
end JT
end
section
set_option maxHeartbeats 4000000 in
set_option maxRecDepth 100000 in
theorem ct_D_get (l : Launch) (G : va_G) (qD qS qC : Nat) (cS cC : ClassId) (s c : Nat → Nat) (a : Nat) (ha : a < 2147483648) : jr l yn_D_get (.code yn_D_get cd_D_get 2 (some .int)) { frames := 0, cells := 0, slots := 0, locals := 0 } G (tD cS cC) (wD qD qS qC cS cC s c) [.ref qD, .int (nI (a))] (nI (jf_get s a)) := by
  refine jr_of (by decide) (Nat.le_of_ble_eq_true rfl) ?_
  intro pr en σ mi bel met cd ls C hP hK hl
  have hx := C.1
  have hb := C.2.1
  have hown := C.2.2.2.1
  have hts := C.2.2.2.2.1
  have hl : lv_has ls 2 [(0, .ref qD), (1, .int (nI (a)))] := hl
  refine lv_iload_n hx hb dd_D_get_0 rfl (lv_at hl 1 rfl) ?_
  refine jl_iflt (tgt := 20) hx hb (by omega) dd_D_get_1 (by decide) ?_
  refine lv_iload_n hx hb dd_D_get_4 rfl (lv_at hl 1 rfl) ?_
  refine lv_sipush (v := nI 640) hx hb dd_D_get_5 (by decide) ?_
  refine jl_ge (tgt := 20) hx hb (by omega) (by omega) dd_D_get_8 (by decide) (fun c_2 => ?_) (fun c_2 => ?_)
  · skip
    refine lv_iconst (v := nI 0) hx hb dd_D_get_20 (by decide) ?_
    exact jr_ret C (by first | with_reducible rfl | (simp [jf_get, c_2]; done) | (simp_all [jf_get]; done)) dd_D_get_21
  · skip
    refine lv_aload_n hx hb dd_D_get_11 rfl (lv_at hl 0 rfl) ?_
    refine va_get (D := G) (ci := 0) (v := .ref qS) (C := cn_D) (T := ft_D) (N := 2) hx hb hts uw_D hown hK hP 0 rfl rfl 0 (by decide) (hts _ tw_41) (fun _ h9 => h9) rfl dd_D_get_12 ?_
    refine lv_iload_n hx hb dd_D_get_15 rfl (lv_at hl 1 rfl) ?_
    refine va_iald hx hb hK hP 1 0 rfl rfl (vp_in_nI (by omega) (by decide)) dd_D_get_16 ?_
    refine jl_top (jn_at (s) (by omega)) ?_
    refine lv_goto (tgt := 21) hx hb dd_D_get_17 (by decide) ?_
    exact jr_ret C (by first | with_reducible rfl | (simp [jf_get, c_2]; done) | (simp_all [jf_get]; done)) dd_D_get_21
set_option maxHeartbeats 4000000 in
set_option maxRecDepth 100000 in
theorem ct_D_getKept (l : Launch) (G : va_G) (qD qS qC : Nat) (cS cC : ClassId) (s c : Nat → Nat) (a : Nat) (ha : a < 2147483648) : jr l yn_D_getKept (.code yn_D_getKept cd_D_getKept 2 (some .int)) { frames := 0, cells := 0, slots := 0, locals := 0 } G (tD cS cC) (wD qD qS qC cS cC s c) [.ref qD, .int (nI (a))] (nI (jf_get c a)) := by
  refine jr_of (by decide) (Nat.le_of_ble_eq_true rfl) ?_
  intro pr en σ mi bel met cd ls C hP hK hl
  have hx := C.1
  have hb := C.2.1
  have hown := C.2.2.2.1
  have hts := C.2.2.2.2.1
  have hl : lv_has ls 2 [(0, .ref qD), (1, .int (nI (a)))] := hl
  refine lv_iload_n hx hb dd_D_getKept_0 rfl (lv_at hl 1 rfl) ?_
  refine jl_iflt (tgt := 20) hx hb (by omega) dd_D_getKept_1 (by decide) ?_
  refine lv_iload_n hx hb dd_D_getKept_4 rfl (lv_at hl 1 rfl) ?_
  refine lv_sipush (v := nI 640) hx hb dd_D_getKept_5 (by decide) ?_
  refine jl_ge (tgt := 20) hx hb (by omega) (by omega) dd_D_getKept_8 (by decide) (fun c_2 => ?_) (fun c_2 => ?_)
  · skip
    refine lv_iconst (v := nI 0) hx hb dd_D_getKept_20 (by decide) ?_
    exact jr_ret C (by first | with_reducible rfl | (simp [jf_get, c_2]; done) | (simp_all [jf_get]; done)) dd_D_getKept_21
  · skip
    refine lv_aload_n hx hb dd_D_getKept_11 rfl (lv_at hl 0 rfl) ?_
    refine va_get (D := G) (ci := 0) (v := .ref qC) (C := cn_D) (T := ft_D) (N := 2) hx hb hts uw_D hown hK hP 0 rfl rfl 1 (by decide) (hts _ tw_42) (fun _ h9 => h9) rfl dd_D_getKept_12 ?_
    refine lv_iload_n hx hb dd_D_getKept_15 rfl (lv_at hl 1 rfl) ?_
    refine va_iald hx hb hK hP 2 1 rfl rfl (vp_in_nI (by omega) (by decide)) dd_D_getKept_16 ?_
    refine jl_top (jn_at (c) (by omega)) ?_
    refine lv_goto (tgt := 21) hx hb dd_D_getKept_17 (by decide) ?_
    exact jr_ret C (by first | with_reducible rfl | (simp [jf_get, c_2]; done) | (simp_all [jf_get]; done)) dd_D_getKept_21
set_option maxHeartbeats 4000000 in
set_option maxRecDepth 100000 in
theorem ct_D_put (l : Launch) (G : va_G) (qD qS qC : Nat) (cS cC : ClassId) (s c : Nat → Nat) (a : Nat) (v : Nat) (ha : a < 2147483648) : jm l yn_D_put (.code yn_D_put cd_D_put 3 none) { frames := 0, cells := 0, slots := 0, locals := 0 } G (tD cS cC) (wD qD qS qC cS cC s c) [.ref qD, .int (nI (a)), .int (nI (v))] none (wD qD qS qC cS cC (jf_put s a v) c) := by
  refine jm_of (by decide) (Nat.le_of_ble_eq_true rfl) ?_
  intro pr en σ mi bel met cd ls A hA C hP hK hD hS hl
  have hx := C.1
  have hb := C.2.1
  have hown := C.2.2.2.1
  have hts := C.2.2.2.2.1
  have hl : lv_has ls 3 [(0, .ref qD), (1, .int (nI (a))), (2, .int (nI (v)))] := hl
  refine lv_iload_n hx hb dd_D_put_0 rfl (lv_at hl 1 rfl) ?_
  refine jl_iflt (tgt := 18) hx hb (by omega) dd_D_put_1 (by decide) ?_
  refine lv_iload_n hx hb dd_D_put_4 rfl (lv_at hl 1 rfl) ?_
  refine lv_sipush (v := nI 640) hx hb dd_D_put_5 (by decide) ?_
  refine jl_ge (tgt := 18) hx hb (by omega) (by omega) dd_D_put_8 (by decide) (fun c_2 => ?_) (fun c_2 => ?_)
  · skip
    have he : wD qD qS qC cS cC s c = wD qD qS qC cS cC (jf_put s a v) c := by first | with_reducible rfl | (simp [jf_put, c_2]; done)
    rw [he] at hP hD
    exact jm_retv C hP hD hK hS ⟨Nat.le_of_ble_eq_true rfl, Nat.le_of_ble_eq_true rfl⟩ dd_D_put_18
  · skip
    refine lv_aload_n hx hb dd_D_put_11 rfl (lv_at hl 0 rfl) ?_
    refine va_get (D := G) (ci := 0) (v := .ref qS) (C := cn_D) (T := ft_D) (N := 2) hx hb hts uw_D hown hK hP 0 rfl rfl 0 (by decide) (hts _ tw_41) (fun _ h9 => h9) rfl dd_D_put_12 ?_
    refine lv_iload_n hx hb dd_D_put_15 rfl (lv_at hl 1 rfl) ?_
    refine lv_iload_n hx hb dd_D_put_16 rfl (lv_at hl 2 rfl) ?_
    refine va_iast hx hb hK hP hD hS 1 0 rfl rfl (vp_in_nI (by omega) (by decide)) dd_D_put_17 (fun H locs hP hD hS => ?_)
    rw [jn_upd (s) (v) (by omega)] at hP hD
    have hP : va_P G jcl (wD qD qS qC cS cC (ju s a v) c) H := hP
    have hD : va_D A (wD qD qS qC cS cC (ju s a v) c) := hD
    have he : wD qD qS qC cS cC (ju s a v) c = wD qD qS qC cS cC (jf_put s a v) c := by first | with_reducible rfl | (simp [jf_put, c_2]; done)
    rw [he] at hP hD
    exact jm_retv C hP hD hK hS ⟨Nat.le_of_ble_eq_true rfl, Nat.le_of_ble_eq_true rfl⟩ dd_D_put_18
set_option maxHeartbeats 4000000 in
set_option maxRecDepth 100000 in
theorem ct_D_isUsed (l : Launch) (G : va_G) (qD qS qC : Nat) (cS cC : ClassId) (s c : Nat → Nat) (b : Nat) (hb0 : b < 2147483648) (hs : jf_ok s) : jr l yn_D_isUsed (.code yn_D_isUsed cd_D_isUsed 2 (some .boolean)) { frames := 1, cells := 0, slots := 0, locals := 21 } G (tD cS cC) (wD qD qS qC cS cC s c) [.ref qD, .int (nI (b))] (nI (jf_isUsed s b)) := by
  refine jr_of (by decide) (Nat.le_of_ble_eq_true rfl) ?_
  intro pr en σ mi bel met cd ls C hP hK hl
  have hx := C.1
  have hb := C.2.1
  have hown := C.2.2.2.1
  have hts := C.2.2.2.2.1
  have hl : lv_has ls 2 [(0, .ref qD), (1, .int (nI (b)))] := hl
  refine lv_aload_n hx hb dd_D_isUsed_0 rfl (lv_at hl 0 rfl) ?_
  refine lv_iload_n hx hb dd_D_isUsed_1 rfl (lv_at hl 1 rfl) ?_
  refine lv_bipush (v := nI 8) hx hb dd_D_isUsed_2 (by decide) ?_
  refine jl_idiv hx hb (by omega) (by decide) (by decide) dd_D_isUsed_4 ?_
  refine jr_callV C (ct_D_get l G qD qS qC cS cC s c (b / 8) (by omega)) kl_D_22 ⟨Nat.le_of_ble_eq_true rfl, Nat.le_of_ble_eq_true rfl, rfl, rfl⟩ ⟨Nat.le_of_ble_eq_true rfl, Nat.le_of_ble_eq_true rfl⟩ (hP) (hK) (va_recv hK hP (ci := 0) (q0 := 0) rfl rfl) hl.1 rfl rfl (Nat.le_of_ble_eq_true rfl) dd_D_isUsed_5 ?_
  have hf_1 : jf_get s (b / 8) < 256 := jf_get_lt (by assumption) _
  refine lv_iload_n hx hb dd_D_isUsed_8 rfl (lv_at hl 1 rfl) ?_
  refine lv_bipush (v := nI 8) hx hb dd_D_isUsed_9 (by decide) ?_
  refine jl_irem hx hb (by omega) (by decide) (by decide) dd_D_isUsed_11 ?_
  refine lv_ishr hx hb dd_D_isUsed_12 ?_
  refine lv_iconst (v := nI 1) hx hb dd_D_isUsed_13 (by decide) ?_
  refine lv_iand hx hb dd_D_isUsed_14 ?_
  refine jl_top ((jf_bits _ (by assumption) (b % 8) (Nat.mod_lt _ (by decide))).2.2.1) ?_
  refine lv_iconst (v := nI 1) hx hb dd_D_isUsed_15 (by decide) ?_
  refine jl_ne (tgt := 23) hx hb (by omega) (by omega) dd_D_isUsed_16 (by decide) (fun c_2 => ?_) (fun c_2 => ?_)
  · skip
    have hq : jf_get s (b / 8) / 2 ^ (b % 8) % 2 < 2 := Nat.mod_lt _ (by decide)
    refine lv_iconst (v := nI 0) hx hb dd_D_isUsed_23 (by decide) ?_
    exact jr_retz C (by decide) (by first | with_reducible rfl | (simp [jf_isUsed, c_2]; done) | (simp_all [jf_isUsed]; done)) dd_D_isUsed_24
  · skip
    have hq : jf_get s (b / 8) / 2 ^ (b % 8) % 2 < 2 := Nat.mod_lt _ (by decide)
    refine lv_iconst (v := nI 1) hx hb dd_D_isUsed_19 (by decide) ?_
    refine lv_goto (tgt := 24) hx hb dd_D_isUsed_20 (by decide) ?_
    exact jr_retz C (by decide) (by first | with_reducible rfl | (simp [jf_isUsed, c_2]; done) | (simp_all [jf_isUsed]; done)) dd_D_isUsed_24
set_option maxHeartbeats 4000000 in
set_option maxRecDepth 100000 in
theorem ct_D_mark (l : Launch) (G : va_G) (qD qS qC : Nat) (cS cC : ClassId) (s c : Nat → Nat) (b : Nat) (u : Nat) (hb0 : b < 2147483648) (hu : u < 2) (hs : jf_ok s) : jm l yn_D_mark (.code yn_D_mark cd_D_mark 5 none) { frames := 1, cells := 0, slots := 0, locals := 22 } G (tD cS cC) (wD qD qS qC cS cC s c) [.ref qD, .int (nI (b)), .int (nI (u))] none (wD qD qS qC cS cC (jf_mark s b u) c) := by
  refine jm_of (by decide) (Nat.le_of_ble_eq_true rfl) ?_
  intro pr en σ mi bel met cd ls A hA C hP hK hD hS hl
  have hx := C.1
  have hb := C.2.1
  have hown := C.2.2.2.1
  have hts := C.2.2.2.2.1
  have hl : lv_has ls 5 [(0, .ref qD), (1, .int (nI (b))), (2, .int (nI (u)))] := hl
  refine lv_iconst (v := nI 1) hx hb dd_D_mark_0 (by decide) ?_
  refine lv_iload_n hx hb dd_D_mark_1 rfl (lv_at hl 1 rfl) ?_
  refine lv_bipush (v := nI 8) hx hb dd_D_mark_2 (by decide) ?_
  refine jl_irem hx hb (by omega) (by decide) (by decide) dd_D_mark_4 ?_
  refine lv_ishl hx hb dd_D_mark_5 ?_
  refine lv_istore_n (lv' := [(3, .int ((nI 1) <<< ((nI (b % 8)) &&& 31))), (0, .ref qD), (1, .int (nI (b))), (2, .int (nI (u)))]) hx hb dd_D_mark_6 rfl hl (by decide) rfl (fun ls hl => ?_)
  refine lv_aload_n hx hb dd_D_mark_7 rfl (lv_at hl 1 rfl) ?_
  refine lv_iload_n hx hb dd_D_mark_8 rfl (lv_at hl 2 rfl) ?_
  refine lv_bipush (v := nI 8) hx hb dd_D_mark_9 (by decide) ?_
  refine jl_idiv hx hb (by omega) (by decide) (by decide) dd_D_mark_11 ?_
  refine jr_callV C (ct_D_get l G qD qS qC cS cC s c (b / 8) (by omega)) kl_D_22 ⟨Nat.le_of_ble_eq_true rfl, Nat.le_of_ble_eq_true rfl, rfl, rfl⟩ ⟨Nat.le_of_ble_eq_true rfl, Nat.le_of_ble_eq_true rfl⟩ (hP) (hK) (va_recv hK hP (ci := 0) (q0 := 0) rfl rfl) hl.1 rfl rfl (Nat.le_of_ble_eq_true rfl) dd_D_mark_12 ?_
  have hf_1 : jf_get s (b / 8) < 256 := jf_get_lt (by assumption) _
  refine lv_iload_n hx hb dd_D_mark_15 rfl (lv_at hl 0 rfl) ?_
  refine lv_iconst (v := -1) hx hb dd_D_mark_16 (by decide) ?_
  refine lv_ixor hx hb dd_D_mark_17 ?_
  refine lv_iand hx hb dd_D_mark_18 ?_
  refine jl_top ((jf_bits _ (by assumption) (b % 8) (Nat.mod_lt _ (by decide))).1) ?_
  refine lv_istore (lv' := [(4, .int (nI (jf_clr (jf_get s (b / 8)) (b % 8)))), (3, .int ((nI 1) <<< ((nI (b % 8)) &&& 31))), (0, .ref qD), (1, .int (nI (b))), (2, .int (nI (u)))]) hx hb dd_D_mark_19 hl (by decide) rfl (fun ls hl => ?_)
  refine lv_aload_n hx hb dd_D_mark_21 rfl (lv_at hl 2 rfl) ?_
  refine lv_iload_n hx hb dd_D_mark_22 rfl (lv_at hl 3 rfl) ?_
  refine lv_bipush (v := nI 8) hx hb dd_D_mark_23 (by decide) ?_
  refine jl_idiv hx hb (by omega) (by decide) (by decide) dd_D_mark_25 ?_
  refine lv_iload_n hx hb dd_D_mark_26 rfl (lv_at hl 4 rfl) ?_
  refine jl_ifeq (tgt := 37) hx hb (by omega) dd_D_mark_27 (by decide) (fun c_2 => ?_) (fun c_2 => ?_)
  · skip
    refine lv_iload hx hb dd_D_mark_37 (lv_at hl 0 rfl) ?_
    refine jm_callV (wr := []) C (ct_D_put l G qD qS qC cS cC s c (b / 8) (jf_clr (jf_get s (b / 8)) (b % 8)) (by omega)) kl_D_26 ⟨Nat.le_of_ble_eq_true rfl, Nat.le_of_ble_eq_true rfl⟩ ⟨Nat.le_of_ble_eq_true rfl, Nat.le_of_ble_eq_true rfl⟩ hP hD hS hA (hK) (va_recv hK hP (ci := 0) (q0 := 0) rfl rfl) hl.1 rfl rfl (Nat.le_of_ble_eq_true rfl) dd_D_mark_39 (fun H locs hP hD hS => ?_)
    have hP : va_P G jcl (wD qD qS qC cS cC (jf_put s (b / 8) (jf_clr (jf_get s (b / 8)) (b % 8))) c) H := hP
    have hD : va_D A (wD qD qS qC cS cC (jf_put s (b / 8) (jf_clr (jf_get s (b / 8)) (b % 8))) c) := hD
    have he : wD qD qS qC cS cC (jf_put s (b / 8) (jf_clr (jf_get s (b / 8)) (b % 8))) c = wD qD qS qC cS cC (jf_mark s b u) c := by first | with_reducible rfl | (simp [jf_mark, c_2]; done)
    rw [he] at hP hD
    exact jm_retv C hP hD hK hS ⟨Nat.le_of_ble_eq_true rfl, Nat.le_of_ble_eq_true rfl⟩ dd_D_mark_42
  · skip
    refine lv_iload hx hb dd_D_mark_30 (lv_at hl 0 rfl) ?_
    refine lv_iload_n hx hb dd_D_mark_32 rfl (lv_at hl 1 rfl) ?_
    refine lv_ior hx hb dd_D_mark_33 ?_
    refine jl_top ((jf_bits _ (by assumption) (b % 8) (Nat.mod_lt _ (by decide))).2.1) ?_
    refine lv_goto (tgt := 39) hx hb dd_D_mark_34 (by decide) ?_
    refine jm_callV (wr := []) C (ct_D_put l G qD qS qC cS cC s c (b / 8) (jf_clr (jf_get s (b / 8)) (b % 8) + 2 ^ (b % 8)) (by omega)) kl_D_26 ⟨Nat.le_of_ble_eq_true rfl, Nat.le_of_ble_eq_true rfl⟩ ⟨Nat.le_of_ble_eq_true rfl, Nat.le_of_ble_eq_true rfl⟩ hP hD hS hA (hK) (va_recv hK hP (ci := 0) (q0 := 0) rfl rfl) hl.1 rfl rfl (Nat.le_of_ble_eq_true rfl) dd_D_mark_39 (fun H locs hP hD hS => ?_)
    have hP : va_P G jcl (wD qD qS qC cS cC (jf_put s (b / 8) (jf_clr (jf_get s (b / 8)) (b % 8) + 2 ^ (b % 8))) c) H := hP
    have hD : va_D A (wD qD qS qC cS cC (jf_put s (b / 8) (jf_clr (jf_get s (b / 8)) (b % 8) + 2 ^ (b % 8))) c) := hD
    have he : wD qD qS qC cS cC (jf_put s (b / 8) (jf_clr (jf_get s (b / 8)) (b % 8) + 2 ^ (b % 8))) c = wD qD qS qC cS cC (jf_mark s b u) c := by first | with_reducible rfl | (simp [jf_mark, c_2]; done)
    rw [he] at hP hD
    exact jm_retv C hP hD hK hS ⟨Nat.le_of_ble_eq_true rfl, Nat.le_of_ble_eq_true rfl⟩ dd_D_mark_42
set_option maxHeartbeats 4000000 in
set_option maxRecDepth 100000 in
theorem ct_D_freeBlocks (l : Launch) (G : va_G) (qD qS qC : Nat) (cS cC : ClassId) (s c : Nat → Nat)  (hs : jf_ok s) : jr l yn_D_freeBlocks (.code yn_D_freeBlocks cd_D_freeBlocks 3 (some .int)) { frames := 2, cells := 0, slots := 0, locals := 42 } G (tD cS cC) (wD qD qS qC cS cC s c) [.ref qD] (nI (jf_free s)) := by
  refine jr_of (by decide) (Nat.le_of_ble_eq_true rfl) ?_
  intro pr en σ mi bel met cd ls C hP hK hl
  have hx := C.1
  have hb := C.2.1
  have hown := C.2.2.2.1
  have hts := C.2.2.2.2.1
  have hl : lv_has ls 3 [(0, .ref qD)] := hl
  refine lv_iconst (v := nI 0) hx hb dd_D_freeBlocks_0 (by decide) ?_
  refine lv_istore_n (lv' := [(1, .int (nI (0))), (0, .ref qD)]) hx hb dd_D_freeBlocks_1 rfl hl (by decide) rfl (fun ls hl => ?_)
  refine lv_bipush (v := nI 9) hx hb dd_D_freeBlocks_2 (by decide) ?_
  refine lv_istore_n (lv' := [(2, .int (nI (9))), (1, .int (nI (0))), (0, .ref qD)]) hx hb dd_D_freeBlocks_4 rfl hl (by decide) rfl (fun ls hl => ?_)
  have loop : ∀ (n : Nat) (f : Nat) (b : Nat), (b + n = 40 ∧ f ≤ b) → jf_freeL s n b f = jf_free s → ∀ ls : Array Slot, lv_has ls 3 [(2, .int (nI (b))), (1, .int (nI (f))), (0, .ref qD)] → W pr l en { frames := 2, cells := 0, slots := 0, locals := 42 } σ mi ([.ref qD] : List Value).toArray bel met cd σ.heap [] 0 0 (jr_Q bel [.ref qD] σ (nI (jf_free s))) (F0 mi 5 ls []) := by
    intro n
    induction n with
    | zero =>
      intro f b hi  ht ls hl
      refine lv_iload_n hx hb dd_D_freeBlocks_5 rfl (lv_at hl 0 rfl) ?_
      refine lv_bipush (v := nI 40) hx hb dd_D_freeBlocks_6 (by decide) ?_
      refine jl_ge (tgt := 28) hx hb (by omega) (by omega) dd_D_freeBlocks_8 (by decide) (fun c_1 => ?_) (fun c_1 => ?_)
      · skip
        refine lv_iload_n hx hb dd_D_freeBlocks_28 rfl (lv_at hl 1 rfl) ?_
        exact jr_ret C (by rw [← ht]; first | with_reducible rfl | (simp [jf_freeL, c_1]; done)) dd_D_freeBlocks_29
      · skip
        exact absurd c_1 (by omega)
    | succ n ih =>
      intro f b hi  ht ls hl
      refine lv_iload_n hx hb dd_D_freeBlocks_5 rfl (lv_at hl 0 rfl) ?_
      refine lv_bipush (v := nI 40) hx hb dd_D_freeBlocks_6 (by decide) ?_
      refine jl_ge (tgt := 28) hx hb (by omega) (by omega) dd_D_freeBlocks_8 (by decide) (fun c_2 => ?_) (fun c_2 => ?_)
      · skip
        exact absurd c_2 (by omega)
      · skip
        refine lv_aload_n hx hb dd_D_freeBlocks_11 rfl (lv_at hl 2 rfl) ?_
        refine lv_iload_n hx hb dd_D_freeBlocks_12 rfl (lv_at hl 0 rfl) ?_
        refine jr_callV C (ct_D_isUsed l G qD qS qC cS cC s c b (by omega) (by first | assumption | (simp only [] ; assumption))) kl_D_30 ⟨Nat.le_of_ble_eq_true rfl, Nat.le_of_ble_eq_true rfl, rfl, rfl⟩ ⟨Nat.le_of_ble_eq_true rfl, Nat.le_of_ble_eq_true rfl⟩ (hP) (hK) (va_recv hK hP (ci := 0) (q0 := 0) rfl rfl) hl.1 rfl rfl (Nat.le_of_ble_eq_true rfl) dd_D_freeBlocks_13 ?_
        have hf_3 : jf_isUsed s b < 2 := jf_isUsed_lt _ _
        refine jl_ifne (tgt := 22) hx hb (by omega) dd_D_freeBlocks_16 (by decide) (fun c_4 => ?_) (fun c_4 => ?_)
        · skip
          refine jl_iinc (lv' := [(2, .int (nI (b + 1))), (1, .int (nI (f))), (0, .ref qD)]) hx hb dd_D_freeBlocks_22 hl (k := 0) rfl (by decide) rfl (fun ls hl => ?_)
          refine lv_goto (tgt := 5) hx hb dd_D_freeBlocks_25 (by decide) ?_
          exact ih f (b + 1) (by omega) (by simpa [jf_freeL, c_2, c_4] using ht) ls (lv_sub hl [0, 1, 2] rfl)
        · skip
          refine jl_iinc (lv' := [(1, .int (nI (f + 1))), (2, .int (nI (b))), (0, .ref qD)]) hx hb dd_D_freeBlocks_19 hl (k := 1) rfl (by decide) rfl (fun ls hl => ?_)
          refine jl_iinc (lv' := [(2, .int (nI (b + 1))), (1, .int (nI (f + 1))), (0, .ref qD)]) hx hb dd_D_freeBlocks_22 hl (k := 1) rfl (by decide) rfl (fun ls hl => ?_)
          refine lv_goto (tgt := 5) hx hb dd_D_freeBlocks_25 (by decide) ?_
          exact ih (f + 1) (b + 1) (by omega) (by simpa [jf_freeL, c_2, c_4] using ht) ls (lv_sub hl [0, 1, 2] rfl)
  exact loop 31 0 9 (by omega) (rfl) ls (lv_sub hl [0, 1, 2] rfl)
set_option maxHeartbeats 4000000 in
set_option maxRecDepth 100000 in
theorem ct_D_takeBlock (l : Launch) (G : va_G) (qD qS qC : Nat) (cS cC : ClassId) (s c : Nat → Nat)  (hs : jf_ok s) : jm l yn_D_takeBlock (.code yn_D_takeBlock cd_D_takeBlock 2 (some .int)) { frames := 2, cells := 0, slots := 0, locals := 46 } G (tD cS cC) (wD qD qS qC cS cC s c) [.ref qD] (some (.int (nI ((jf_take s).1)))) (wD qD qS qC cS cC ((jf_take s).2) c) := by
  refine jm_of (by decide) (Nat.le_of_ble_eq_true rfl) ?_
  intro pr en σ mi bel met cd ls A hA C hP hK hD hS hl
  have hx := C.1
  have hb := C.2.1
  have hown := C.2.2.2.1
  have hts := C.2.2.2.2.1
  have hl : lv_has ls 2 [(0, .ref qD)] := hl
  refine lv_bipush (v := nI 9) hx hb dd_D_takeBlock_0 (by decide) ?_
  refine lv_istore_n (lv' := [(1, .int (nI (9))), (0, .ref qD)]) hx hb dd_D_takeBlock_2 rfl hl (by decide) rfl (fun ls hl => ?_)
  have loop : ∀ (n : Nat) (b : Nat), (b + n = 40) → jf_takeL s n b = jf_take s → ∀ ls : Array Slot, lv_has ls 2 [(1, .int (nI (b))), (0, .ref qD)] → W pr l en { frames := 2, cells := 0, slots := 0, locals := 46 } σ mi ([.ref qD] : List Value).toArray bel met cd σ.heap [] 0 0 (jm_Q bel { frames := 2, cells := 0, slots := 0, locals := 46 } G (tD cS cC) A [.ref qD] σ (some (.int (nI ((jf_take s).1)))) (wD qD qS qC cS cC ((jf_take s).2) c)) (F0 mi 3 ls []) := by
    intro n
    induction n with
    | zero =>
      intro b hi  ht ls hl
      refine lv_iload_n hx hb dd_D_takeBlock_3 rfl (lv_at hl 0 rfl) ?_
      refine lv_bipush (v := nI 40) hx hb dd_D_takeBlock_4 (by decide) ?_
      refine jl_ge (tgt := 31) hx hb (by omega) (by omega) dd_D_takeBlock_6 (by decide) (fun c_1 => ?_) (fun c_1 => ?_)
      · skip
        refine lv_iconst (v := nI 0) hx hb dd_D_takeBlock_31 (by decide) ?_
        have he : wD qD qS qC cS cC s c = wD qD qS qC cS cC ((jf_take s).2) c := by rw [← ht]; first | with_reducible rfl | (simp [jf_takeL, c_1]; done)
        rw [he] at hP hD
        exact jm_reti C (by rw [← ht]; first | with_reducible rfl | (simp [jf_takeL, c_1]; done)) hP hD hK hS ⟨Nat.le_of_ble_eq_true rfl, Nat.le_of_ble_eq_true rfl⟩ dd_D_takeBlock_32
      · skip
        exact absurd c_1 (by omega)
    | succ n ih =>
      intro b hi  ht ls hl
      refine lv_iload_n hx hb dd_D_takeBlock_3 rfl (lv_at hl 0 rfl) ?_
      refine lv_bipush (v := nI 40) hx hb dd_D_takeBlock_4 (by decide) ?_
      refine jl_ge (tgt := 31) hx hb (by omega) (by omega) dd_D_takeBlock_6 (by decide) (fun c_2 => ?_) (fun c_2 => ?_)
      · skip
        exact absurd c_2 (by omega)
      · skip
        refine lv_aload_n hx hb dd_D_takeBlock_9 rfl (lv_at hl 1 rfl) ?_
        refine lv_iload_n hx hb dd_D_takeBlock_10 rfl (lv_at hl 0 rfl) ?_
        refine jr_callV C (ct_D_isUsed l G qD qS qC cS cC s c b (by omega) (by first | assumption | (simp only [] ; assumption))) kl_D_30 ⟨Nat.le_of_ble_eq_true rfl, Nat.le_of_ble_eq_true rfl, rfl, rfl⟩ ⟨Nat.le_of_ble_eq_true rfl, Nat.le_of_ble_eq_true rfl⟩ (hP) (hK) (va_recv hK hP (ci := 0) (q0 := 0) rfl rfl) hl.1 rfl rfl (Nat.le_of_ble_eq_true rfl) dd_D_takeBlock_11 ?_
        have hf_3 : jf_isUsed s b < 2 := jf_isUsed_lt _ _
        refine jl_ifne (tgt := 25) hx hb (by omega) dd_D_takeBlock_14 (by decide) (fun c_4 => ?_) (fun c_4 => ?_)
        · skip
          refine jl_iinc (lv' := [(1, .int (nI (b + 1))), (0, .ref qD)]) hx hb dd_D_takeBlock_25 hl (k := 0) rfl (by decide) rfl (fun ls hl => ?_)
          refine lv_goto (tgt := 3) hx hb dd_D_takeBlock_28 (by decide) ?_
          exact ih (b + 1) (by omega) (by simpa [jf_takeL, c_2, c_4] using ht) ls (lv_sub hl [0, 1] rfl)
        · skip
          refine lv_aload_n hx hb dd_D_takeBlock_17 rfl (lv_at hl 1 rfl) ?_
          refine lv_iload_n hx hb dd_D_takeBlock_18 rfl (lv_at hl 0 rfl) ?_
          refine lv_iconst (v := nI 1) hx hb dd_D_takeBlock_19 (by decide) ?_
          refine jm_callV (wr := []) C (ct_D_mark l G qD qS qC cS cC s c b 1 (by omega) (by omega) (by first | assumption | (simp only [] ; assumption))) kl_D_18 ⟨Nat.le_of_ble_eq_true rfl, Nat.le_of_ble_eq_true rfl⟩ ⟨Nat.le_of_ble_eq_true rfl, Nat.le_of_ble_eq_true rfl⟩ hP hD hS hA (hK) (va_recv hK hP (ci := 0) (q0 := 0) rfl rfl) hl.1 rfl rfl (Nat.le_of_ble_eq_true rfl) dd_D_takeBlock_20 (fun H locs hP hD hS => ?_)
          have hP : va_P G jcl (wD qD qS qC cS cC (jf_mark s b 1) c) H := hP
          have hD : va_D A (wD qD qS qC cS cC (jf_mark s b 1) c) := hD
          have hf_5 : jf_ok (jf_mark s b 1) := jf_mark_ok (by assumption) _ _
          refine lv_iload_n hx hb dd_D_takeBlock_23 rfl (lv_at hl 0 rfl) ?_
          have he : wD qD qS qC cS cC (jf_mark s b 1) c = wD qD qS qC cS cC ((jf_take s).2) c := by rw [← ht]; first | with_reducible rfl | (simp [jf_takeL, c_2, c_4]; done)
          rw [he] at hP hD
          exact jm_reti C (by rw [← ht]; first | with_reducible rfl | (simp [jf_takeL, c_2, c_4]; done)) hP hD hK hS ⟨Nat.le_of_ble_eq_true rfl, Nat.le_of_ble_eq_true rfl⟩ dd_D_takeBlock_24
  exact loop 31 9 (by omega) (rfl) ls (lv_sub hl [0, 1] rfl)
set_option maxHeartbeats 4000000 in
set_option maxRecDepth 100000 in
theorem ct_D_giveBack (l : Launch) (G : va_G) (qD qS qC : Nat) (cS cC : ClassId) (s c : Nat → Nat) (b : Nat) (hb0 : b < 2147483648) (hs : jf_ok s) : jm l yn_D_giveBack (.code yn_D_giveBack cd_D_giveBack 2 none) { frames := 2, cells := 0, slots := 0, locals := 46 } G (tD cS cC) (wD qD qS qC cS cC s c) [.ref qD, .int (nI (b))] none (wD qD qS qC cS cC (jf_mark s b 0) c) := by
  refine jm_of (by decide) (Nat.le_of_ble_eq_true rfl) ?_
  intro pr en σ mi bel met cd ls A hA C hP hK hD hS hl
  have hx := C.1
  have hb := C.2.1
  have hown := C.2.2.2.1
  have hts := C.2.2.2.2.1
  have hl : lv_has ls 2 [(0, .ref qD), (1, .int (nI (b)))] := hl
  refine lv_aload_n hx hb dd_D_giveBack_0 rfl (lv_at hl 0 rfl) ?_
  refine lv_iload_n hx hb dd_D_giveBack_1 rfl (lv_at hl 1 rfl) ?_
  refine lv_iconst (v := nI 0) hx hb dd_D_giveBack_2 (by decide) ?_
  refine jm_callV (wr := []) C (ct_D_mark l G qD qS qC cS cC s c b 0 (by omega) (by omega) (by first | assumption | (simp only [] ; assumption))) kl_D_18 ⟨Nat.le_of_ble_eq_true rfl, Nat.le_of_ble_eq_true rfl⟩ ⟨Nat.le_of_ble_eq_true rfl, Nat.le_of_ble_eq_true rfl⟩ hP hD hS hA (hK) (va_recv hK hP (ci := 0) (q0 := 0) rfl rfl) hl.1 rfl rfl (Nat.le_of_ble_eq_true rfl) dd_D_giveBack_3 (fun H locs hP hD hS => ?_)
  have hP : va_P G jcl (wD qD qS qC cS cC (jf_mark s b 0) c) H := hP
  have hD : va_D A (wD qD qS qC cS cC (jf_mark s b 0) c) := hD
  have hf_1 : jf_ok (jf_mark s b 0) := jf_mark_ok (by assumption) _ _
  exact jm_retv C hP hD hK hS ⟨Nat.le_of_ble_eq_true rfl, Nat.le_of_ble_eq_true rfl⟩ dd_D_giveBack_6
set_option maxHeartbeats 4000000 in
set_option maxRecDepth 100000 in
theorem ct_D_differs (l : Launch) (G : va_G) (qD qS qC : Nat) (cS cC : ClassId) (s c : Nat → Nat) (b : Nat) (hb0 : b < 1000) (hs : jf_ok s) (hc : jf_ok c) : jr l yn_D_differs (.code yn_D_differs cd_D_differs 4 (some .boolean)) { frames := 1, cells := 0, slots := 0, locals := 21 } G (tD cS cC) (wD qD qS qC cS cC s c) [.ref qD, .int (nI (b))] (nI (jf_differs s c b)) := by
  refine jr_of (by decide) (Nat.le_of_ble_eq_true rfl) ?_
  intro pr en σ mi bel met cd ls C hP hK hl
  have hx := C.1
  have hb := C.2.1
  have hown := C.2.2.2.1
  have hts := C.2.2.2.2.1
  have hl : lv_has ls 4 [(0, .ref qD), (1, .int (nI (b)))] := hl
  refine lv_iconst (v := nI 0) hx hb dd_D_differs_0 (by decide) ?_
  refine lv_istore_n (lv' := [(2, .int (nI (0))), (0, .ref qD), (1, .int (nI (b)))]) hx hb dd_D_differs_1 rfl hl (by decide) rfl (fun ls hl => ?_)
  have loop : ∀ (n : Nat) (i : Nat), (i + n = 16) → jf_diffL s c b n i = jf_differs s c b → ∀ ls : Array Slot, lv_has ls 4 [(2, .int (nI (i))), (0, .ref qD), (1, .int (nI (b)))] → W pr l en { frames := 1, cells := 0, slots := 0, locals := 21 } σ mi ([.ref qD, .int (nI (b))] : List Value).toArray bel met cd σ.heap [] 0 0 (jr_Q bel [.ref qD, .int (nI (b))] σ (nI (jf_differs s c b))) (F0 mi 2 ls []) := by
    intro n
    induction n with
    | zero =>
      intro i hi  ht ls hl
      refine lv_iload_n hx hb dd_D_differs_2 rfl (lv_at hl 0 rfl) ?_
      refine lv_bipush (v := nI 16) hx hb dd_D_differs_3 (by decide) ?_
      refine jl_ge (tgt := 36) hx hb (by omega) (by omega) dd_D_differs_5 (by decide) (fun c_1 => ?_) (fun c_1 => ?_)
      · skip
        refine lv_iconst (v := nI 0) hx hb dd_D_differs_36 (by decide) ?_
        exact jr_retz C (by decide) (by rw [← ht]; first | with_reducible rfl | (simp [jf_diffL, c_1]; done)) dd_D_differs_37
      · skip
        exact absurd c_1 (by omega)
    | succ n ih =>
      intro i hi  ht ls hl
      refine lv_iload_n hx hb dd_D_differs_2 rfl (lv_at hl 0 rfl) ?_
      refine lv_bipush (v := nI 16) hx hb dd_D_differs_3 (by decide) ?_
      refine jl_ge (tgt := 36) hx hb (by omega) (by omega) dd_D_differs_5 (by decide) (fun c_2 => ?_) (fun c_2 => ?_)
      · skip
        exact absurd c_2 (by omega)
      · skip
        refine lv_iload_n hx hb dd_D_differs_8 rfl (lv_at hl 2 rfl) ?_
        refine lv_bipush (v := nI 16) hx hb dd_D_differs_9 (by decide) ?_
        refine jl_imul hx hb dd_D_differs_11 ?_
        refine lv_iload_n hx hb dd_D_differs_12 rfl (lv_at hl 0 rfl) ?_
        refine jl_iadd hx hb dd_D_differs_13 ?_
        refine lv_istore_n (lv' := [(3, .int (nI ((b * 16) + i))), (2, .int (nI (i))), (0, .ref qD), (1, .int (nI (b)))]) hx hb dd_D_differs_14 rfl hl (by decide) rfl (fun ls hl => ?_)
        refine lv_aload_n hx hb dd_D_differs_15 rfl (lv_at hl 2 rfl) ?_
        refine lv_iload_n hx hb dd_D_differs_16 rfl (lv_at hl 0 rfl) ?_
        refine jr_callV C (ct_D_get l G qD qS qC cS cC s c ((b * 16) + i) (by omega)) kl_D_22 ⟨Nat.le_of_ble_eq_true rfl, Nat.le_of_ble_eq_true rfl, rfl, rfl⟩ ⟨Nat.le_of_ble_eq_true rfl, Nat.le_of_ble_eq_true rfl⟩ (hP) (hK) (va_recv hK hP (ci := 0) (q0 := 0) rfl rfl) hl.1 rfl rfl (Nat.le_of_ble_eq_true rfl) dd_D_differs_17 ?_
        have hf_3 : jf_get s ((b * 16) + i) < 256 := jf_get_lt (by assumption) _
        refine lv_aload_n hx hb dd_D_differs_20 rfl (lv_at hl 2 rfl) ?_
        refine lv_iload_n hx hb dd_D_differs_21 rfl (lv_at hl 0 rfl) ?_
        refine jr_callV C (ct_D_getKept l G qD qS qC cS cC s c ((b * 16) + i) (by omega)) kl_D_37 ⟨Nat.le_of_ble_eq_true rfl, Nat.le_of_ble_eq_true rfl, rfl, rfl⟩ ⟨Nat.le_of_ble_eq_true rfl, Nat.le_of_ble_eq_true rfl⟩ (hP) (hK) (va_recv hK hP (ci := 0) (q0 := 0) rfl rfl) hl.1 rfl rfl (Nat.le_of_ble_eq_true rfl) dd_D_differs_22 ?_
        have hf_4 : jf_get c ((b * 16) + i) < 256 := jf_get_lt (by assumption) _
        refine jl_eq (tgt := 30) hx hb (by omega) (by omega) dd_D_differs_25 (by decide) (fun c_5 => ?_) (fun c_5 => ?_)
        · skip
          refine jl_iinc (lv' := [(2, .int (nI (i + 1))), (3, .int (nI ((b * 16) + i))), (0, .ref qD), (1, .int (nI (b)))]) hx hb dd_D_differs_30 hl (k := 1) rfl (by decide) rfl (fun ls hl => ?_)
          refine lv_goto (tgt := 2) hx hb dd_D_differs_33 (by decide) ?_
          exact ih (i + 1) (by omega) (by simpa [jf_diffL, c_2, c_5] using ht) ls (lv_sub hl [0, 2, 3] rfl)
        · skip
          refine lv_iconst (v := nI 1) hx hb dd_D_differs_28 (by decide) ?_
          exact jr_retz C (by decide) (by rw [← ht]; first | with_reducible rfl | (simp [jf_diffL, c_2, c_5]; done)) dd_D_differs_29
  exact loop 16 0 (by omega) (rfl) ls (lv_sub hl [0, 1, 2] rfl)
set_option maxHeartbeats 4000000 in
set_option maxRecDepth 100000 in
theorem ct_D_differingBlocks (l : Launch) (G : va_G) (qD qS qC : Nat) (cS cC : ClassId) (s c : Nat → Nat)  (hs : jf_ok s) (hc : jf_ok c) : jr l yn_D_differingBlocks (.code yn_D_differingBlocks cd_D_differingBlocks 3 (some .int)) { frames := 2, cells := 0, slots := 0, locals := 44 } G (tD cS cC) (wD qD qS qC cS cC s c) [.ref qD] (nI (jf_differing s c)) := by
  refine jr_of (by decide) (Nat.le_of_ble_eq_true rfl) ?_
  intro pr en σ mi bel met cd ls C hP hK hl
  have hx := C.1
  have hb := C.2.1
  have hown := C.2.2.2.1
  have hts := C.2.2.2.2.1
  have hl : lv_has ls 3 [(0, .ref qD)] := hl
  refine lv_iconst (v := nI 0) hx hb dd_D_differingBlocks_0 (by decide) ?_
  refine lv_istore_n (lv' := [(1, .int (nI (0))), (0, .ref qD)]) hx hb dd_D_differingBlocks_1 rfl hl (by decide) rfl (fun ls hl => ?_)
  refine lv_iconst (v := nI 0) hx hb dd_D_differingBlocks_2 (by decide) ?_
  refine lv_istore_n (lv' := [(2, .int (nI (0))), (1, .int (nI (0))), (0, .ref qD)]) hx hb dd_D_differingBlocks_3 rfl hl (by decide) rfl (fun ls hl => ?_)
  have loop : ∀ (n : Nat) (d : Nat) (b : Nat), (b + n = 40 ∧ d ≤ b) → jf_dfbL s c n b d = jf_differing s c → ∀ ls : Array Slot, lv_has ls 3 [(2, .int (nI (b))), (1, .int (nI (d))), (0, .ref qD)] → W pr l en { frames := 2, cells := 0, slots := 0, locals := 44 } σ mi ([.ref qD] : List Value).toArray bel met cd σ.heap [] 0 0 (jr_Q bel [.ref qD] σ (nI (jf_differing s c))) (F0 mi 4 ls []) := by
    intro n
    induction n with
    | zero =>
      intro d b hi  ht ls hl
      refine lv_iload_n hx hb dd_D_differingBlocks_4 rfl (lv_at hl 0 rfl) ?_
      refine lv_bipush (v := nI 40) hx hb dd_D_differingBlocks_5 (by decide) ?_
      refine jl_ge (tgt := 27) hx hb (by omega) (by omega) dd_D_differingBlocks_7 (by decide) (fun c_1 => ?_) (fun c_1 => ?_)
      · skip
        refine lv_iload_n hx hb dd_D_differingBlocks_27 rfl (lv_at hl 1 rfl) ?_
        exact jr_ret C (by rw [← ht]; first | with_reducible rfl | (simp [jf_dfbL, c_1]; done)) dd_D_differingBlocks_28
      · skip
        exact absurd c_1 (by omega)
    | succ n ih =>
      intro d b hi  ht ls hl
      refine lv_iload_n hx hb dd_D_differingBlocks_4 rfl (lv_at hl 0 rfl) ?_
      refine lv_bipush (v := nI 40) hx hb dd_D_differingBlocks_5 (by decide) ?_
      refine jl_ge (tgt := 27) hx hb (by omega) (by omega) dd_D_differingBlocks_7 (by decide) (fun c_2 => ?_) (fun c_2 => ?_)
      · skip
        exact absurd c_2 (by omega)
      · skip
        refine lv_aload_n hx hb dd_D_differingBlocks_10 rfl (lv_at hl 2 rfl) ?_
        refine lv_iload_n hx hb dd_D_differingBlocks_11 rfl (lv_at hl 0 rfl) ?_
        refine jr_callV C (ct_D_differs l G qD qS qC cS cC s c b (by omega) (by first | assumption | (simp only [] ; assumption)) (by first | assumption | (simp only [] ; assumption))) kl_D_34 ⟨Nat.le_of_ble_eq_true rfl, Nat.le_of_ble_eq_true rfl, rfl, rfl⟩ ⟨Nat.le_of_ble_eq_true rfl, Nat.le_of_ble_eq_true rfl⟩ (hP) (hK) (va_recv hK hP (ci := 0) (q0 := 0) rfl rfl) hl.1 rfl rfl (Nat.le_of_ble_eq_true rfl) dd_D_differingBlocks_12 ?_
        have hf_3 : jf_differs s c b < 2 := jf_diffL_lt _ _ _ _ _
        refine jl_ifeq (tgt := 21) hx hb (by omega) dd_D_differingBlocks_15 (by decide) (fun c_4 => ?_) (fun c_4 => ?_)
        · skip
          refine jl_iinc (lv' := [(2, .int (nI (b + 1))), (1, .int (nI (d))), (0, .ref qD)]) hx hb dd_D_differingBlocks_21 hl (k := 0) rfl (by decide) rfl (fun ls hl => ?_)
          refine lv_goto (tgt := 4) hx hb dd_D_differingBlocks_24 (by decide) ?_
          exact ih d (b + 1) (by omega) (by simpa [jf_dfbL, c_2, c_4] using ht) ls (lv_sub hl [0, 1, 2] rfl)
        · skip
          refine jl_iinc (lv' := [(1, .int (nI (d + 1))), (2, .int (nI (b))), (0, .ref qD)]) hx hb dd_D_differingBlocks_18 hl (k := 1) rfl (by decide) rfl (fun ls hl => ?_)
          refine jl_iinc (lv' := [(2, .int (nI (b + 1))), (1, .int (nI (d + 1))), (0, .ref qD)]) hx hb dd_D_differingBlocks_21 hl (k := 1) rfl (by decide) rfl (fun ls hl => ?_)
          refine lv_goto (tgt := 4) hx hb dd_D_differingBlocks_24 (by decide) ?_
          exact ih (d + 1) (b + 1) (by omega) (by simpa [jf_dfbL, c_2, c_4] using ht) ls (lv_sub hl [0, 1, 2] rfl)
  exact loop 40 0 0 (by omega) (rfl) ls (lv_sub hl [0, 1, 2] rfl)
end
section
/-! Inodes: what the bytes mean -/
def jo (o : Option Nat) : Int32 := match o with
  | none => -1
  | some n => nI n
theorem jo_ne {n : Nat} (h : n < 2 ^ 31) : ¬ nI n = -1 := by
  intro q
  have := nI_pos' h
  rw [q] at this
  exact absurd this (by decide)
section JO
variable {p : Program} {l : Launch} {e : Env} {R : Room} {s : State} {m : MethodId} {args : Array Value} {below : List Frame} {meth : Method} {c : Code} {H : Heap} {locs : List Loc} {cells slots : Nat} {Q : State → Prop}
variable {cc : ByteArray} {pc : Nat} {ls : Array Slot} {rest : List Value}
theorem jl_neO (hx : p.tables.exec = Jvm.exec) (hb : c.code = cc) {o : Option Nat} {off : Int} {tgt : Nat} (ho : ∀ j, o = some j → j < 2 ^ 31) (hd : decode cc pc = .ok (.if_icmp .ne off, 3)) (ht : (pc : Int) + off = (tgt : Int)) (kt : ∀ j, o = some j → W p l e R s m args below meth c H locs cells slots Q (F0 m tgt ls rest)) (kf : o = none → W p l e R s m args below meth c H locs cells slots Q (F0 m (pc + 3) ls rest)) : W p l e R s m args below meth c H locs cells slots Q (F0 m pc ls (.int (-1) :: .int (jo o) :: rest)) := by
  cases o with
  | none => exact lv_icmp_ne hx hb hd ht (fun h => absurd rfl h) (fun _ => kf rfl)
  | some j => exact lv_icmp_ne hx hb hd ht (fun _ => kt j rfl) (fun h => absurd h (jo_ne (ho j rfl)))
theorem jl_eqO (hx : p.tables.exec = Jvm.exec) (hb : c.code = cc) {o : Option Nat} {off : Int} {tgt : Nat} (ho : ∀ j, o = some j → j < 2 ^ 31) (hd : decode cc pc = .ok (.if_icmp .eq off, 3)) (ht : (pc : Int) + off = (tgt : Int)) (kt : o = none → W p l e R s m args below meth c H locs cells slots Q (F0 m tgt ls rest)) (kf : ∀ j, o = some j → W p l e R s m args below meth c H locs cells slots Q (F0 m (pc + 3) ls rest)) : W p l e R s m args below meth c H locs cells slots Q (F0 m pc ls (.int (-1) :: .int (jo o) :: rest)) := by
  cases o with
  | none => exact lv_icmp_eq hx hb hd ht (fun _ => kt rfl) (fun h => absurd rfl h)
  | some j => exact lv_icmp_eq hx hb hd ht (fun h => absurd h (jo_ne (ho j rfl))) (fun _ => kf j rfl)
/-- a difference that may be below 0, against a number -/
theorem jl_gtD (hx : p.tables.exec = Jvm.exec) (hb : c.code = cc) {a b f : Nat} {off : Int} {tgt : Nat} (ha : a < 2 ^ 30) (h1 : b < 2 ^ 30) (h2 : f < 2 ^ 30) (hd : decode cc pc = .ok (.if_icmp .gt off, 3)) (ht : (pc : Int) + off = (tgt : Int)) (kt : f + b < a → W p l e R s m args below meth c H locs cells slots Q (F0 m tgt ls rest)) (kf : ¬ f + b < a → W p l e R s m args below meth c H locs cells slots Q (F0 m (pc + 3) ls rest)) : W p l e R s m args below meth c H locs cells slots Q (F0 m pc ls (.int (nI f) :: .int (nI a - nI b) :: rest)) := by
  have e1 := pk_sub_toInt ha h1
  have e2 : (nI f).toInt = (f : Int) := nI_toInt (by omega)
  refine lv_icmp_gt hx hb hd ht (fun h => kt ?_) (fun h => kf (fun q => h ?_))
  · rw [Int32.lt_iff_toInt_lt] at h
    omega
  · rw [Int32.lt_iff_toInt_lt]
    omega
end JO
def jf_field (s : Nat → Nat) (i f : Nat) : Nat := jf_get s (16 + i * 8 + f)
def jf_putField (s : Nat → Nat) (i f v : Nat) : Nat → Nat := jf_put s (16 + i * 8 + f) v
def jf_kind (s : Nat → Nat) (i : Nat) : Nat := jf_field s i 0
def jf_size (s : Nat → Nat) (i : Nat) : Nat := jf_field s i 1
def jf_gen (s : Nat → Nat) (i : Nat) : Nat := jf_field s i 3
def jf_entries (s : Nat → Nat) (i : Nat) : Nat := if jf_kind s i = 2 then jf_size s i / 2 else 0
def jf_friL (s : Nat → Nat) : Nat → Nat → Nat → Nat
  | 0, _, f => f
  | n + 1, i, f => jf_friL s n (i + 1) (if jf_kind s i = 0 then f + 1 else f)
def jf_freeInodes (s : Nat → Nat) : Nat := jf_friL s 12 0 0
def jf_lfL (s : Nat → Nat) : Nat → Nat → Option Nat
  | 0, _ => none
  | n + 1, i => if jf_kind s i = 0 then some i else jf_lfL s n (i + 1)
def jf_leastFree (s : Nat → Nat) : Option Nat := jf_lfL s 12 0
def jf_occupy (s : Nat → Nat) (i k : Nat) : Nat → Nat :=
  jf_putField (jf_putField (jf_putField s i 0 k) i 2 1) i 3 ((jf_gen (jf_putField (jf_putField s i 0 k) i 2 1) i + 1) % 256)
def jf_placeOf (s : Nat → Nat) (i p : Nat) : Nat := jf_get s (16 + i * 8 + 4 + p / 16) * 16 + p % 16
def jf_byteOf (s : Nat → Nat) (i p : Nat) : Nat := jf_get s (jf_placeOf s i p)
def jf_putByte (s : Nat → Nat) (i p v : Nat) : Nat → Nat := jf_put s (jf_placeOf s i p) v
def jf_blocksFor (z : Nat) : Nat := (z + 16 - 1) / 16
def jf_hasRoomForSize (s : Nat → Nat) (i z : Nat) : Nat := if jf_free s + jf_blocksFor (jf_size s i) < jf_blocksFor z then 0 else 1
def jf_rsA (i : Nat) : Nat → Nat → (Nat → Nat) → (Nat → Nat)
  | 0, _, s => s
  | n + 1, p, s => jf_rsA i n (p + 1) (jf_putByte s i p 0)
def jf_rsB (i : Nat) : Nat → Nat → (Nat → Nat) → (Nat → Nat)
  | 0, _, s => s
  | n + 1, k, s => jf_rsB i n (k + 1) (jf_putField (jf_mark s (jf_field s i (4 + k)) 0) i (4 + k) 0)
def jf_rsC (i : Nat) : Nat → Nat → (Nat → Nat) → (Nat → Nat)
  | 0, _, s => s
  | n + 1, k, s => jf_rsC i n (k + 1) (jf_putField (jf_take s).2 i (4 + k) (jf_take s).1)
def jf_resize (s : Nat → Nat) (i z : Nat) : Nat → Nat :=
  jf_putField (jf_rsC i (jf_blocksFor z - jf_blocksFor (jf_size s i)) (jf_blocksFor (jf_size s i)) (jf_rsB i (jf_blocksFor (jf_size s i) - jf_blocksFor z) (jf_blocksFor z) (jf_rsA i (jf_size s i - z) z s))) i 1 z
def jf_vacate (s : Nat → Nat) (i : Nat) : Nat → Nat := jf_putField (jf_putField (jf_resize s i 0) i 0 0) i 2 0
def jf_entryName (s : Nat → Nat) (d e : Nat) : Nat := jf_byteOf s d (e * 2)
def jf_entryInode (s : Nat → Nat) (d e : Nat) : Nat := jf_byteOf s d (e * 2 + 1)
def jf_putEntry (s : Nat → Nat) (d e n i : Nat) : Nat → Nat := jf_putByte (jf_putByte s d (e * 2) n) d (e * 2 + 1) i
def jf_feL (s : Nat → Nat) (d nm : Nat) : Nat → Nat → Option Nat
  | 0, _ => none
  | n + 1, e => if jf_byteOf s d (e * 2) = nm then some e else jf_feL s d nm n (e + 1)
def jf_findEntry (s : Nat → Nat) (d nm : Nat) : Option Nat := jf_feL s d nm (jf_entries s d) 0
def jf_startsBlock (e : Nat) : Nat := if e * 2 % 16 = 0 then 1 else 0
def jf_hasRoomForEntry (s : Nat → Nat) (d : Nat) : Nat := if jf_entries s d < 16 then (if jf_startsBlock (jf_entries s d) = 0 then 1 else if jf_free s = 0 then 0 else 1) else 0
def jf_addEntry (s : Nat → Nat) (d n i : Nat) : Nat → Nat := jf_putEntry (jf_resize s d ((jf_entries s d + 1) * 2)) d (jf_entries s d) n i
def jf_redirect (s : Nat → Nat) (d n i : Nat) : Nat → Nat := match jf_findEntry s d n with
  | none => s
  | some e => jf_putEntry s d e n i
def jf_dropEntry (s : Nat → Nat) (d n : Nat) : Nat → Nat := match jf_findEntry s d n with
  | none => s
  | some e => jf_resize (jf_putEntry s d e (jf_entryName s d (jf_entries s d - 1)) (jf_entryInode s d (jf_entries s d - 1))) d ((jf_entries s d - 1) * 2)
-- bounds
theorem jf_entries_lt {s : Nat → Nat} (hs : jf_ok s) (i : Nat) : jf_entries s i < 128 := by
  have h : jf_size s i < 256 := jf_get_lt hs _
  unfold jf_entries
  split <;> omega
theorem jf_placeOf_lt {s : Nat → Nat} (hs : jf_ok s) (i p : Nat) : jf_placeOf s i p < 4096 := by
  have h := jf_get_lt hs (16 + i * 8 + 4 + p / 16)
  unfold jf_placeOf
  omega
theorem jf_blocksFor_le (z : Nat) : jf_blocksFor z * 16 ≤ z + 15 := by
  unfold jf_blocksFor
  omega
theorem jf_feL_lt (s : Nat → Nat) (d nm : Nat) {j : Nat} : ∀ n e, jf_feL s d nm n e = some j → j < e + n := by
  intro n
  induction n with
  | zero => intro e h; simp [jf_feL] at h
  | succ n ih =>
    intro e h
    unfold jf_feL at h
    split at h
    · cases h; omega
    · have := ih _ h; omega
theorem jf_findEntry_lt {s : Nat → Nat} {d nm j : Nat} (h : jf_findEntry s d nm = some j) : j < jf_entries s d := by
  have := jf_feL_lt s d nm _ _ h
  omega
theorem jf_lfL_lt (s : Nat → Nat) {j : Nat} : ∀ n e, jf_lfL s n e = some j → j < e + n := by
  intro n
  induction n with
  | zero => intro e h; simp [jf_lfL] at h
  | succ n ih =>
    intro e h
    unfold jf_lfL at h
    split at h
    · cases h; omega
    · have := ih _ h; omega
theorem jf_leastFree_lt {s : Nat → Nat} {j : Nat} (h : jf_leastFree s = some j) : j < 12 := by
  have := jf_lfL_lt s _ _ h
  omega
theorem jf_putByte_ok {s : Nat → Nat} (hs : jf_ok s) (i p : Nat) {v : Nat} (hv : v < 256) : jf_ok (jf_putByte s i p v) := jf_put_ok hs _ hv
theorem jf_putField_ok {s : Nat → Nat} (hs : jf_ok s) (i f : Nat) {v : Nat} (hv : v < 256) : jf_ok (jf_putField s i f v) := jf_put_ok hs _ hv
theorem jf_take_ok {s : Nat → Nat} (hs : jf_ok s) : (jf_take s).1 < 256 ∧ jf_ok (jf_take s).2 := jf_takeL_ok hs 31 9 rfl
theorem jf_rsA_ok (i : Nat) : ∀ n p {s : Nat → Nat}, jf_ok s → jf_ok (jf_rsA i n p s) := by
  intro n
  induction n with
  | zero => intro p s hs; exact hs
  | succ n ih => intro p s hs; exact ih _ (jf_putByte_ok hs _ _ (by decide))
theorem jf_rsB_ok (i : Nat) : ∀ n p {s : Nat → Nat}, jf_ok s → jf_ok (jf_rsB i n p s) := by
  intro n
  induction n with
  | zero => intro p s hs; exact hs
  | succ n ih => intro p s hs; exact ih _ (jf_putField_ok (jf_mark_ok hs _ _) _ _ (by decide))
theorem jf_rsC_ok (i : Nat) : ∀ n p {s : Nat → Nat}, jf_ok s → jf_ok (jf_rsC i n p s) := by
  intro n
  induction n with
  | zero => intro p s hs; exact hs
  | succ n ih => intro p s hs; exact ih _ (jf_putField_ok (jf_take_ok hs).2 _ _ (jf_take_ok hs).1)
theorem jf_resize_ok {s : Nat → Nat} (hs : jf_ok s) (i : Nat) {z : Nat} (hz : z < 256) : jf_ok (jf_resize s i z) := jf_putField_ok (jf_rsC_ok _ _ _ (jf_rsB_ok _ _ _ (jf_rsA_ok _ _ _ hs))) _ _ hz
theorem jf_putEntry_ok {s : Nat → Nat} (hs : jf_ok s) (d e : Nat) {n i : Nat} (hn : n < 256) (hi : i < 256) : jf_ok (jf_putEntry s d e n i) := jf_putByte_ok (jf_putByte_ok hs _ _ hn) _ _ hi
theorem jf_occupy_ok {s : Nat → Nat} (hs : jf_ok s) (i : Nat) {k : Nat} (hk : k < 256) : jf_ok (jf_occupy s i k) := jf_putField_ok (jf_putField_ok (jf_putField_ok hs _ _ hk) _ _ (by decide)) _ _ (Nat.mod_lt _ (by decide))
theorem jf_vacate_ok {s : Nat → Nat} (hs : jf_ok s) (i : Nat) : jf_ok (jf_vacate s i) := jf_putField_ok (jf_putField_ok (jf_resize_ok hs _ (by decide)) _ _ (by decide)) _ _ (by decide)
theorem jf_addEntry_ok {s : Nat → Nat} (hs : jf_ok s) (d : Nat) {n i : Nat} (hn : n < 256) (hi : i < 256) (he : jf_entries s d < 127) : jf_ok (jf_addEntry s d n i) := jf_putEntry_ok (jf_resize_ok hs _ (by omega)) _ _ hn hi
theorem jf_redirect_ok {s : Nat → Nat} (hs : jf_ok s) (d : Nat) {n i : Nat} (hn : n < 256) (hi : i < 256) : jf_ok (jf_redirect s d n i) := by
  unfold jf_redirect
  split
  · exact hs
  · exact jf_putEntry_ok hs _ _ hn hi
theorem jf_dropEntry_ok {s : Nat → Nat} (hs : jf_ok s) (d n : Nat) : jf_ok (jf_dropEntry s d n) := by
  unfold jf_dropEntry
  split
  · exact hs
  · have := jf_entries_lt hs d
    exact jf_resize_ok (jf_putEntry_ok hs _ _ (jf_get_lt hs _) (jf_get_lt hs _)) _ (by omega)
def jf_cpy (s c : Nat → Nat) : Nat → Nat := fun k => if k < 640 then s k else c k
theorem jf_cpy_ok {s c : Nat → Nat} (hs : jf_ok s) (hc : jf_ok c) : jf_ok (jf_cpy s c) := by
  intro k
  unfold jf_cpy
  split
  · exact hs k
  · exact hc k
theorem jf_cpy_eq (s c : Nat → Nat) : va_cpy (jn s) (jn c) (nI 0).toNatClampNeg (nI 0).toNatClampNeg (nI 640).toNatClampNeg = jn (jf_cpy s c) := by
  have e0 : (nI 0).toNatClampNeg = 0 := by decide
  have e1 : (nI 640).toNatClampNeg = 640 := by decide
  rw [e0, e1]
  funext k
  by_cases h : k < 640
  · rw [sb_cpy0 h]
    simp [jn, jf_cpy, h]
  · rw [pk_cpy_out (Or.inr (by omega))]
    simp [jn, jf_cpy, h]
abbrev wI (qI qD qS qC : Nat) (cS cC : ClassId) (s c : Nat → Nat) : va_W := wD qD qS qC cS cC s c ++ [(qI, .inr (2, [.ref qD]))]
section JS
variable {p : Program} {l : Launch} {e : Env} {R : Room} {s : State} {m : MethodId} {args : Array Value} {below : List Frame} {meth : Method} {c : Code} {H H0 : Heap} {locs : List Loc} {cells slots : Nat} {Q : State → Prop}
variable {cc : ByteArray} {pc nL : Nat} {ls : Array Slot} {rest st : List Value} {own : String} {ret : Option FieldType} {G : va_G}
/-- a static method that only counts -/
theorem jr_callS0 {index : Nat} {y : MethodName} {bytes : ByteArray} {maxL n : Nat} {rt : Option FieldType} {rm : Room} {As : List Value} {v : Int32}
    (C : jx p s m args meth c own cc nL ret) (hM : jr l y (.code y bytes maxL rt) rm G [] [] As v) (kl : jc_S own index y bytes maxL rt n)
    (hR : rm.frames + 1 ≤ R.frames ∧ 8 + (maxL + 11) + rm.locals ≤ R.locals ∧ rm.cells = 0 ∧ rm.slots = 0) (hc : cells ≤ R.cells ∧ slots ≤ R.slots)
    {tys : List (ClassId × FieldType)} (hK : va_K G jcl tys s)
    (hl : ls.size = nL) (hn : As.length = n) {st : List Value} (hst : st = As.reverse ++ rest) (hw : (rest.map fun v => v.category).sum ≤ 8) (hd : decode cc pc = .ok (.invokestatic index, 3))
    (kk : W p l e R s m args below meth c H locs cells slots Q (F0 m (pc + 3) ls (.int v :: rest))) : W p l e R s m args below meth c H locs cells slots Q (F0 m pc ls st) :=
  jr_callS C hM kl hR hc (fun k q h => by simp at h) (hK.sub [] rfl) hl hn hst hw hd kk
end JS
end
section
set_option maxHeartbeats 4000000 in
set_option maxRecDepth 100000 in
theorem ct_D_keep (l : Launch) (G : va_G) (qD qS qC : Nat) (cS cC : ClassId) (s c : Nat → Nat)   : jm l yn_D_keep (.code yn_D_keep cd_D_keep 1 none) { frames := 1, cells := 0, slots := 0, locals := 40 } G (tD cS cC) (wD qD qS qC cS cC s c) [.ref qD] none (wD qD qS qC cS cC s (jf_cpy s c)) := by
  refine jm_of (by decide) (Nat.le_of_ble_eq_true rfl) ?_
  intro pr en σ mi bel met cd ls A hA C hP hK hD hS hl
  have hx := C.1
  have hb := C.2.1
  have hown := C.2.2.2.1
  have hts := C.2.2.2.2.1
  have hl : lv_has ls 1 [(0, .ref qD)] := hl
  refine lv_aload_n hx hb dd_D_keep_0 rfl (lv_at hl 0 rfl) ?_
  refine va_get (D := G) (ci := 0) (v := .ref qS) (C := cn_D) (T := ft_D) (N := 2) hx hb hts uw_D hown hK hP 0 rfl rfl 0 (by decide) (hts _ tw_41) (fun _ h9 => h9) rfl dd_D_keep_1 ?_
  refine lv_iconst (v := nI 0) hx hb dd_D_keep_4 (by decide) ?_
  refine lv_aload_n hx hb dd_D_keep_5 rfl (lv_at hl 0 rfl) ?_
  refine va_get (D := G) (ci := 0) (v := .ref qC) (C := cn_D) (T := ft_D) (N := 2) hx hb hts uw_D hown hK hP 0 rfl rfl 1 (by decide) (hts _ tw_42) (fun _ h9 => h9) rfl dd_D_keep_6 ?_
  refine lv_iconst (v := nI 0) hx hb dd_D_keep_9 (by decide) ?_
  refine lv_sipush (v := nI 640) hx hb dd_D_keep_10 (by decide) ?_
  refine va_copyi hx hb (C.2.2.1.trans hl.1.symm) hown (hts _ tw_104) (hts _ tw_106) (hts _ tw_105) (hts _ tw_5) hK hP hD hS 1 2 0 1 rfl rfl rfl rfl rfl (by decide) (by decide) (by decide) (by decide) (by decide) (fun _ _ => rfl) (by decide) (by decide) dd_D_keep_13 (fun H locs hP hD hS => ?_)
  rw [jf_cpy_eq] at hP hD
  have hP : va_P G jcl (wD qD qS qC cS cC s (jf_cpy s c)) H := hP
  have hD : va_D A (wD qD qS qC cS cC s (jf_cpy s c)) := hD
  exact jm_retv C hP hD hK hS ⟨Nat.le_of_ble_eq_true rfl, Nat.le_of_ble_eq_true rfl⟩ dd_D_keep_16
set_option maxHeartbeats 4000000 in
set_option maxRecDepth 100000 in
theorem ct_D_goBack (l : Launch) (G : va_G) (qD qS qC : Nat) (cS cC : ClassId) (s c : Nat → Nat)   : jm l yn_D_goBack (.code yn_D_goBack cd_D_goBack 1 none) { frames := 1, cells := 0, slots := 0, locals := 40 } G (tD cS cC) (wD qD qS qC cS cC s c) [.ref qD] none (wD qD qS qC cS cC (jf_cpy c s) c) := by
  refine jm_of (by decide) (Nat.le_of_ble_eq_true rfl) ?_
  intro pr en σ mi bel met cd ls A hA C hP hK hD hS hl
  have hx := C.1
  have hb := C.2.1
  have hown := C.2.2.2.1
  have hts := C.2.2.2.2.1
  have hl : lv_has ls 1 [(0, .ref qD)] := hl
  refine lv_aload_n hx hb dd_D_goBack_0 rfl (lv_at hl 0 rfl) ?_
  refine va_get (D := G) (ci := 0) (v := .ref qC) (C := cn_D) (T := ft_D) (N := 2) hx hb hts uw_D hown hK hP 0 rfl rfl 1 (by decide) (hts _ tw_42) (fun _ h9 => h9) rfl dd_D_goBack_1 ?_
  refine lv_iconst (v := nI 0) hx hb dd_D_goBack_4 (by decide) ?_
  refine lv_aload_n hx hb dd_D_goBack_5 rfl (lv_at hl 0 rfl) ?_
  refine va_get (D := G) (ci := 0) (v := .ref qS) (C := cn_D) (T := ft_D) (N := 2) hx hb hts uw_D hown hK hP 0 rfl rfl 0 (by decide) (hts _ tw_41) (fun _ h9 => h9) rfl dd_D_goBack_6 ?_
  refine lv_iconst (v := nI 0) hx hb dd_D_goBack_9 (by decide) ?_
  refine lv_sipush (v := nI 640) hx hb dd_D_goBack_10 (by decide) ?_
  refine va_copyi hx hb (C.2.2.1.trans hl.1.symm) hown (hts _ tw_104) (hts _ tw_106) (hts _ tw_105) (hts _ tw_5) hK hP hD hS 2 1 1 0 rfl rfl rfl rfl rfl (by decide) (by decide) (by decide) (by decide) (by decide) (fun _ _ => rfl) (by decide) (by decide) dd_D_goBack_13 (fun H locs hP hD hS => ?_)
  rw [jf_cpy_eq] at hP hD
  have hP : va_P G jcl (wD qD qS qC cS cC (jf_cpy c s) c) H := hP
  have hD : va_D A (wD qD qS qC cS cC (jf_cpy c s) c) := hD
  exact jm_retv C hP hD hK hS ⟨Nat.le_of_ble_eq_true rfl, Nat.le_of_ble_eq_true rfl⟩ dd_D_goBack_16
set_option maxHeartbeats 4000000 in
set_option maxRecDepth 100000 in
theorem ct_I_field (l : Launch) (G : va_G) (qI qD qS qC : Nat) (cS cC : ClassId) (s c : Nat → Nat) (i : Nat) (f : Nat) (hi0 : i < 1000) (hf0 : f < 1000) (hs : jf_ok s) : jr l yn_I_field (.code yn_I_field cd_I_field 3 (some .int)) { frames := 1, cells := 0, slots := 0, locals := 21 } G (tD cS cC) (wI qI qD qS qC cS cC s c) [.ref qI, .int (nI (i)), .int (nI (f))] (nI (jf_field s i f)) := by
  refine jr_of (by decide) (Nat.le_of_ble_eq_true rfl) ?_
  intro pr en σ mi bel met cd ls C hP hK hl
  have hx := C.1
  have hb := C.2.1
  have hown := C.2.2.2.1
  have hts := C.2.2.2.2.1
  have hl : lv_has ls 3 [(0, .ref qI), (1, .int (nI (i))), (2, .int (nI (f)))] := hl
  refine lv_aload_n hx hb dd_I_field_0 rfl (lv_at hl 0 rfl) ?_
  refine va_get (D := G) (ci := 2) (v := .ref qD) (C := cn_I) (T := ft_I) (N := 1) hx hb hts uw_I hown hK hP 3 rfl rfl 0 (by decide) (hts _ tw_55) (fun _ h9 => h9) rfl dd_I_field_1 ?_
  refine lv_bipush (v := nI 16) hx hb dd_I_field_4 (by decide) ?_
  refine lv_iload_n hx hb dd_I_field_6 rfl (lv_at hl 1 rfl) ?_
  refine lv_bipush (v := nI 8) hx hb dd_I_field_7 (by decide) ?_
  refine jl_imul hx hb dd_I_field_9 ?_
  refine jl_iadd hx hb dd_I_field_10 ?_
  refine lv_iload_n hx hb dd_I_field_11 rfl (lv_at hl 2 rfl) ?_
  refine jl_iadd hx hb dd_I_field_12 ?_
  refine jr_callV C (ct_D_get l G qD qS qC cS cC s c ((16 + (i * 8)) + f) (by omega)) kl_I_15 ⟨Nat.le_of_ble_eq_true rfl, Nat.le_of_ble_eq_true rfl, rfl, rfl⟩ ⟨Nat.le_of_ble_eq_true rfl, Nat.le_of_ble_eq_true rfl⟩ (jw_left hP) (hK) (va_recv hK hP (ci := 0) (q0 := 0) rfl rfl) hl.1 rfl rfl (Nat.le_of_ble_eq_true rfl) dd_I_field_13 ?_
  have hf_1 : jf_get s ((16 + (i * 8)) + f) < 256 := jf_get_lt (by assumption) _
  exact jr_ret C (by first | with_reducible rfl | (simp [jf_field]; done) | (simp_all [jf_field]; done)) dd_I_field_16
set_option maxHeartbeats 4000000 in
set_option maxRecDepth 100000 in
theorem ct_I_putField (l : Launch) (G : va_G) (qI qD qS qC : Nat) (cS cC : ClassId) (s c : Nat → Nat) (i : Nat) (f : Nat) (v : Nat) (hi0 : i < 1000) (hf0 : f < 1000) : jm l yn_I_putField (.code yn_I_putField cd_I_putField 4 none) { frames := 1, cells := 0, slots := 0, locals := 22 } G (tD cS cC) (wI qI qD qS qC cS cC s c) [.ref qI, .int (nI (i)), .int (nI (f)), .int (nI (v))] none (wI qI qD qS qC cS cC (jf_putField s i f v) c) := by
  refine jm_of (by decide) (Nat.le_of_ble_eq_true rfl) ?_
  intro pr en σ mi bel met cd ls A hA C hP hK hD hS hl
  have hx := C.1
  have hb := C.2.1
  have hown := C.2.2.2.1
  have hts := C.2.2.2.2.1
  have hl : lv_has ls 4 [(0, .ref qI), (1, .int (nI (i))), (2, .int (nI (f))), (3, .int (nI (v)))] := hl
  refine lv_aload_n hx hb dd_I_putField_0 rfl (lv_at hl 0 rfl) ?_
  refine va_get (D := G) (ci := 2) (v := .ref qD) (C := cn_I) (T := ft_I) (N := 1) hx hb hts uw_I hown hK hP 3 rfl rfl 0 (by decide) (hts _ tw_55) (fun _ h9 => h9) rfl dd_I_putField_1 ?_
  refine lv_bipush (v := nI 16) hx hb dd_I_putField_4 (by decide) ?_
  refine lv_iload_n hx hb dd_I_putField_6 rfl (lv_at hl 1 rfl) ?_
  refine lv_bipush (v := nI 8) hx hb dd_I_putField_7 (by decide) ?_
  refine jl_imul hx hb dd_I_putField_9 ?_
  refine jl_iadd hx hb dd_I_putField_10 ?_
  refine lv_iload_n hx hb dd_I_putField_11 rfl (lv_at hl 2 rfl) ?_
  refine jl_iadd hx hb dd_I_putField_12 ?_
  refine lv_iload_n hx hb dd_I_putField_13 rfl (lv_at hl 3 rfl) ?_
  refine jm_callV (wr := [(qI, .inr (2, [.ref qD]))]) C (ct_D_put l G qD qS qC cS cC s c ((16 + (i * 8)) + f) v (by omega)) kl_I_21 ⟨Nat.le_of_ble_eq_true rfl, Nat.le_of_ble_eq_true rfl⟩ ⟨Nat.le_of_ble_eq_true rfl, Nat.le_of_ble_eq_true rfl⟩ hP hD hS hA (hK) (va_recv hK hP (ci := 0) (q0 := 0) rfl rfl) hl.1 rfl rfl (Nat.le_of_ble_eq_true rfl) dd_I_putField_14 (fun H locs hP hD hS => ?_)
  have hP : va_P G jcl (wI qI qD qS qC cS cC (jf_put s ((16 + (i * 8)) + f) v) c) H := hP
  have hD : va_D A (wI qI qD qS qC cS cC (jf_put s ((16 + (i * 8)) + f) v) c) := hD
  have he : wI qI qD qS qC cS cC (jf_put s ((16 + (i * 8)) + f) v) c = wI qI qD qS qC cS cC (jf_putField s i f v) c := by first | with_reducible rfl | (simp [jf_putField]; done)
  rw [he] at hP hD
  exact jm_retv C hP hD hK hS ⟨Nat.le_of_ble_eq_true rfl, Nat.le_of_ble_eq_true rfl⟩ dd_I_putField_17
set_option maxHeartbeats 4000000 in
set_option maxRecDepth 100000 in
theorem ct_I_kind (l : Launch) (G : va_G) (qI qD qS qC : Nat) (cS cC : ClassId) (s c : Nat → Nat) (i : Nat) (hi0 : i < 1000) (hs : jf_ok s) : jr l yn_I_kind (.code yn_I_kind cd_I_kind 2 (some .int)) { frames := 2, cells := 0, slots := 0, locals := 43 } G (tD cS cC) (wI qI qD qS qC cS cC s c) [.ref qI, .int (nI (i))] (nI (jf_kind s i)) := by
  refine jr_of (by decide) (Nat.le_of_ble_eq_true rfl) ?_
  intro pr en σ mi bel met cd ls C hP hK hl
  have hx := C.1
  have hb := C.2.1
  have hown := C.2.2.2.1
  have hts := C.2.2.2.2.1
  have hl : lv_has ls 2 [(0, .ref qI), (1, .int (nI (i)))] := hl
  refine lv_aload_n hx hb dd_I_kind_0 rfl (lv_at hl 0 rfl) ?_
  refine lv_iload_n hx hb dd_I_kind_1 rfl (lv_at hl 1 rfl) ?_
  refine lv_iconst (v := nI 0) hx hb dd_I_kind_2 (by decide) ?_
  refine jr_callV C (ct_I_field l G qI qD qS qC cS cC s c i 0 (by omega) (by omega) (by first | assumption | (simp only [] ; assumption))) kl_I_25 ⟨Nat.le_of_ble_eq_true rfl, Nat.le_of_ble_eq_true rfl, rfl, rfl⟩ ⟨Nat.le_of_ble_eq_true rfl, Nat.le_of_ble_eq_true rfl⟩ (hP) (hK) (va_recv hK hP (ci := 2) (q0 := 3) rfl rfl) hl.1 rfl rfl (Nat.le_of_ble_eq_true rfl) dd_I_kind_3 ?_
  have hf_1 : jf_field s i 0 < 256 := jf_get_lt (by assumption) _
  exact jr_ret C (by first | with_reducible rfl | (simp [jf_kind]; done) | (simp_all [jf_kind]; done)) dd_I_kind_6
set_option maxHeartbeats 4000000 in
set_option maxRecDepth 100000 in
theorem ct_I_size (l : Launch) (G : va_G) (qI qD qS qC : Nat) (cS cC : ClassId) (s c : Nat → Nat) (i : Nat) (hi0 : i < 1000) (hs : jf_ok s) : jr l yn_I_size (.code yn_I_size cd_I_size 2 (some .int)) { frames := 2, cells := 0, slots := 0, locals := 43 } G (tD cS cC) (wI qI qD qS qC cS cC s c) [.ref qI, .int (nI (i))] (nI (jf_size s i)) := by
  refine jr_of (by decide) (Nat.le_of_ble_eq_true rfl) ?_
  intro pr en σ mi bel met cd ls C hP hK hl
  have hx := C.1
  have hb := C.2.1
  have hown := C.2.2.2.1
  have hts := C.2.2.2.2.1
  have hl : lv_has ls 2 [(0, .ref qI), (1, .int (nI (i)))] := hl
  refine lv_aload_n hx hb dd_I_size_0 rfl (lv_at hl 0 rfl) ?_
  refine lv_iload_n hx hb dd_I_size_1 rfl (lv_at hl 1 rfl) ?_
  refine lv_iconst (v := nI 1) hx hb dd_I_size_2 (by decide) ?_
  refine jr_callV C (ct_I_field l G qI qD qS qC cS cC s c i 1 (by omega) (by omega) (by first | assumption | (simp only [] ; assumption))) kl_I_25 ⟨Nat.le_of_ble_eq_true rfl, Nat.le_of_ble_eq_true rfl, rfl, rfl⟩ ⟨Nat.le_of_ble_eq_true rfl, Nat.le_of_ble_eq_true rfl⟩ (hP) (hK) (va_recv hK hP (ci := 2) (q0 := 3) rfl rfl) hl.1 rfl rfl (Nat.le_of_ble_eq_true rfl) dd_I_size_3 ?_
  have hf_1 : jf_field s i 1 < 256 := jf_get_lt (by assumption) _
  exact jr_ret C (by first | with_reducible rfl | (simp [jf_size]; done) | (simp_all [jf_size]; done)) dd_I_size_6
set_option maxHeartbeats 4000000 in
set_option maxRecDepth 100000 in
theorem ct_I_generation (l : Launch) (G : va_G) (qI qD qS qC : Nat) (cS cC : ClassId) (s c : Nat → Nat) (i : Nat) (hi0 : i < 1000) (hs : jf_ok s) : jr l yn_I_generation (.code yn_I_generation cd_I_generation 2 (some .int)) { frames := 2, cells := 0, slots := 0, locals := 43 } G (tD cS cC) (wI qI qD qS qC cS cC s c) [.ref qI, .int (nI (i))] (nI (jf_gen s i)) := by
  refine jr_of (by decide) (Nat.le_of_ble_eq_true rfl) ?_
  intro pr en σ mi bel met cd ls C hP hK hl
  have hx := C.1
  have hb := C.2.1
  have hown := C.2.2.2.1
  have hts := C.2.2.2.2.1
  have hl : lv_has ls 2 [(0, .ref qI), (1, .int (nI (i)))] := hl
  refine lv_aload_n hx hb dd_I_generation_0 rfl (lv_at hl 0 rfl) ?_
  refine lv_iload_n hx hb dd_I_generation_1 rfl (lv_at hl 1 rfl) ?_
  refine lv_iconst (v := nI 3) hx hb dd_I_generation_2 (by decide) ?_
  refine jr_callV C (ct_I_field l G qI qD qS qC cS cC s c i 3 (by omega) (by omega) (by first | assumption | (simp only [] ; assumption))) kl_I_25 ⟨Nat.le_of_ble_eq_true rfl, Nat.le_of_ble_eq_true rfl, rfl, rfl⟩ ⟨Nat.le_of_ble_eq_true rfl, Nat.le_of_ble_eq_true rfl⟩ (hP) (hK) (va_recv hK hP (ci := 2) (q0 := 3) rfl rfl) hl.1 rfl rfl (Nat.le_of_ble_eq_true rfl) dd_I_generation_3 ?_
  have hf_1 : jf_field s i 3 < 256 := jf_get_lt (by assumption) _
  exact jr_ret C (by first | with_reducible rfl | (simp [jf_gen]; done) | (simp_all [jf_gen]; done)) dd_I_generation_6
set_option maxHeartbeats 4000000 in
set_option maxRecDepth 100000 in
theorem ct_I_entries (l : Launch) (G : va_G) (qI qD qS qC : Nat) (cS cC : ClassId) (s c : Nat → Nat) (i : Nat) (hi0 : i < 1000) (hs : jf_ok s) : jr l yn_I_entries (.code yn_I_entries cd_I_entries 2 (some .int)) { frames := 3, cells := 0, slots := 0, locals := 64 } G (tD cS cC) (wI qI qD qS qC cS cC s c) [.ref qI, .int (nI (i))] (nI (jf_entries s i)) := by
  refine jr_of (by decide) (Nat.le_of_ble_eq_true rfl) ?_
  intro pr en σ mi bel met cd ls C hP hK hl
  have hx := C.1
  have hb := C.2.1
  have hown := C.2.2.2.1
  have hts := C.2.2.2.2.1
  have hl : lv_has ls 2 [(0, .ref qI), (1, .int (nI (i)))] := hl
  refine lv_aload_n hx hb dd_I_entries_0 rfl (lv_at hl 0 rfl) ?_
  refine lv_iload_n hx hb dd_I_entries_1 rfl (lv_at hl 1 rfl) ?_
  refine jr_callV C (ct_I_kind l G qI qD qS qC cS cC s c i (by omega) (by first | assumption | (simp only [] ; assumption))) kl_I_29 ⟨Nat.le_of_ble_eq_true rfl, Nat.le_of_ble_eq_true rfl, rfl, rfl⟩ ⟨Nat.le_of_ble_eq_true rfl, Nat.le_of_ble_eq_true rfl⟩ (hP) (hK) (va_recv hK hP (ci := 2) (q0 := 3) rfl rfl) hl.1 rfl rfl (Nat.le_of_ble_eq_true rfl) dd_I_entries_2 ?_
  have hf_1 : jf_kind s i < 256 := jf_get_lt (by assumption) _
  refine lv_iconst (v := nI 2) hx hb dd_I_entries_5 (by decide) ?_
  refine jl_ne (tgt := 19) hx hb (by omega) (by omega) dd_I_entries_6 (by decide) (fun c_2 => ?_) (fun c_2 => ?_)
  · skip
    refine lv_iconst (v := nI 0) hx hb dd_I_entries_19 (by decide) ?_
    exact jr_ret C (by first | with_reducible rfl | (simp [jf_entries, c_2]; done) | (simp_all [jf_entries]; done)) dd_I_entries_20
  · skip
    refine lv_aload_n hx hb dd_I_entries_9 rfl (lv_at hl 0 rfl) ?_
    refine lv_iload_n hx hb dd_I_entries_10 rfl (lv_at hl 1 rfl) ?_
    refine jr_callV C (ct_I_size l G qI qD qS qC cS cC s c i (by omega) (by first | assumption | (simp only [] ; assumption))) kl_I_32 ⟨Nat.le_of_ble_eq_true rfl, Nat.le_of_ble_eq_true rfl, rfl, rfl⟩ ⟨Nat.le_of_ble_eq_true rfl, Nat.le_of_ble_eq_true rfl⟩ (hP) (hK) (va_recv hK hP (ci := 2) (q0 := 3) rfl rfl) hl.1 rfl rfl (Nat.le_of_ble_eq_true rfl) dd_I_entries_11 ?_
    have hf_3 : jf_size s i < 256 := jf_get_lt (by assumption) _
    refine lv_iconst (v := nI 2) hx hb dd_I_entries_14 (by decide) ?_
    refine jl_idiv hx hb (by omega) (by decide) (by decide) dd_I_entries_15 ?_
    refine lv_goto (tgt := 20) hx hb dd_I_entries_16 (by decide) ?_
    exact jr_ret C (by first | with_reducible rfl | (simp [jf_entries, c_2]; done) | (simp_all [jf_entries]; done)) dd_I_entries_20
end
section
set_option maxHeartbeats 4000000 in
set_option maxRecDepth 100000 in
theorem ct_I_freeInodes (l : Launch) (G : va_G) (qI qD qS qC : Nat) (cS cC : ClassId) (s c : Nat → Nat)  (hs : jf_ok s) : jr l yn_I_freeInodes (.code yn_I_freeInodes cd_I_freeInodes 3 (some .int)) { frames := 3, cells := 0, slots := 0, locals := 64 } G (tD cS cC) (wI qI qD qS qC cS cC s c) [.ref qI] (nI (jf_freeInodes s)) := by
  refine jr_of (by decide) (Nat.le_of_ble_eq_true rfl) ?_
  intro pr en σ mi bel met cd ls C hP hK hl
  have hx := C.1
  have hb := C.2.1
  have hown := C.2.2.2.1
  have hts := C.2.2.2.2.1
  have hl : lv_has ls 3 [(0, .ref qI)] := hl
  refine lv_iconst (v := nI 0) hx hb dd_I_freeInodes_0 (by decide) ?_
  refine lv_istore_n (lv' := [(1, .int (nI (0))), (0, .ref qI)]) hx hb dd_I_freeInodes_1 rfl hl (by decide) rfl (fun ls hl => ?_)
  refine lv_iconst (v := nI 0) hx hb dd_I_freeInodes_2 (by decide) ?_
  refine lv_istore_n (lv' := [(2, .int (nI (0))), (1, .int (nI (0))), (0, .ref qI)]) hx hb dd_I_freeInodes_3 rfl hl (by decide) rfl (fun ls hl => ?_)
  have loop : ∀ (n : Nat) (f : Nat) (i : Nat), (i + n = 12 ∧ f ≤ i) → jf_friL s n i f = jf_freeInodes s → ∀ ls : Array Slot, lv_has ls 3 [(2, .int (nI (i))), (1, .int (nI (f))), (0, .ref qI)] → W pr l en { frames := 3, cells := 0, slots := 0, locals := 64 } σ mi ([.ref qI] : List Value).toArray bel met cd σ.heap [] 0 0 (jr_Q bel [.ref qI] σ (nI (jf_freeInodes s))) (F0 mi 4 ls []) := by
    intro n
    induction n with
    | zero =>
      intro f i hi  ht ls hl
      refine lv_iload_n hx hb dd_I_freeInodes_4 rfl (lv_at hl 0 rfl) ?_
      refine lv_bipush (v := nI 12) hx hb dd_I_freeInodes_5 (by decide) ?_
      refine jl_ge (tgt := 27) hx hb (by omega) (by omega) dd_I_freeInodes_7 (by decide) (fun c_1 => ?_) (fun c_1 => ?_)
      · skip
        refine lv_iload_n hx hb dd_I_freeInodes_27 rfl (lv_at hl 1 rfl) ?_
        exact jr_ret C (by rw [← ht]; first | with_reducible rfl | (simp [jf_friL, c_1]; done)) dd_I_freeInodes_28
      · skip
        exact absurd c_1 (by omega)
    | succ n ih =>
      intro f i hi  ht ls hl
      refine lv_iload_n hx hb dd_I_freeInodes_4 rfl (lv_at hl 0 rfl) ?_
      refine lv_bipush (v := nI 12) hx hb dd_I_freeInodes_5 (by decide) ?_
      refine jl_ge (tgt := 27) hx hb (by omega) (by omega) dd_I_freeInodes_7 (by decide) (fun c_2 => ?_) (fun c_2 => ?_)
      · skip
        exact absurd c_2 (by omega)
      · skip
        refine lv_aload_n hx hb dd_I_freeInodes_10 rfl (lv_at hl 2 rfl) ?_
        refine lv_iload_n hx hb dd_I_freeInodes_11 rfl (lv_at hl 0 rfl) ?_
        refine jr_callV C (ct_I_kind l G qI qD qS qC cS cC s c i (by omega) (by first | assumption | (simp only [] ; assumption))) kl_I_29 ⟨Nat.le_of_ble_eq_true rfl, Nat.le_of_ble_eq_true rfl, rfl, rfl⟩ ⟨Nat.le_of_ble_eq_true rfl, Nat.le_of_ble_eq_true rfl⟩ (hP) (hK) (va_recv hK hP (ci := 2) (q0 := 3) rfl rfl) hl.1 rfl rfl (Nat.le_of_ble_eq_true rfl) dd_I_freeInodes_12 ?_
        have hf_3 : jf_kind s i < 256 := jf_get_lt (by assumption) _
        refine jl_ifne (tgt := 21) hx hb (by omega) dd_I_freeInodes_15 (by decide) (fun c_4 => ?_) (fun c_4 => ?_)
        · skip
          refine jl_iinc (lv' := [(2, .int (nI (i + 1))), (1, .int (nI (f))), (0, .ref qI)]) hx hb dd_I_freeInodes_21 hl (k := 0) rfl (by decide) rfl (fun ls hl => ?_)
          refine lv_goto (tgt := 4) hx hb dd_I_freeInodes_24 (by decide) ?_
          exact ih f (i + 1) (by omega) (by simpa [jf_friL, c_2, c_4] using ht) ls (lv_sub hl [0, 1, 2] rfl)
        · skip
          refine jl_iinc (lv' := [(1, .int (nI (f + 1))), (2, .int (nI (i))), (0, .ref qI)]) hx hb dd_I_freeInodes_18 hl (k := 1) rfl (by decide) rfl (fun ls hl => ?_)
          refine jl_iinc (lv' := [(2, .int (nI (i + 1))), (1, .int (nI (f + 1))), (0, .ref qI)]) hx hb dd_I_freeInodes_21 hl (k := 1) rfl (by decide) rfl (fun ls hl => ?_)
          refine lv_goto (tgt := 4) hx hb dd_I_freeInodes_24 (by decide) ?_
          exact ih (f + 1) (i + 1) (by omega) (by simpa [jf_friL, c_2, c_4] using ht) ls (lv_sub hl [0, 1, 2] rfl)
  exact loop 12 0 0 (by omega) (rfl) ls (lv_sub hl [0, 1, 2] rfl)
set_option maxHeartbeats 4000000 in
set_option maxRecDepth 100000 in
theorem ct_I_leastFree (l : Launch) (G : va_G) (qI qD qS qC : Nat) (cS cC : ClassId) (s c : Nat → Nat)  (hs : jf_ok s) : jr l yn_I_leastFree (.code yn_I_leastFree cd_I_leastFree 2 (some .int)) { frames := 3, cells := 0, slots := 0, locals := 64 } G (tD cS cC) (wI qI qD qS qC cS cC s c) [.ref qI] (jo (jf_leastFree s)) := by
  refine jr_of (by decide) (Nat.le_of_ble_eq_true rfl) ?_
  intro pr en σ mi bel met cd ls C hP hK hl
  have hx := C.1
  have hb := C.2.1
  have hown := C.2.2.2.1
  have hts := C.2.2.2.2.1
  have hl : lv_has ls 2 [(0, .ref qI)] := hl
  refine lv_iconst (v := nI 0) hx hb dd_I_leastFree_0 (by decide) ?_
  refine lv_istore_n (lv' := [(1, .int (nI (0))), (0, .ref qI)]) hx hb dd_I_leastFree_1 rfl hl (by decide) rfl (fun ls hl => ?_)
  have loop : ∀ (n : Nat) (i : Nat), (i + n = 12) → jf_lfL s n i = jf_leastFree s → ∀ ls : Array Slot, lv_has ls 2 [(1, .int (nI (i))), (0, .ref qI)] → W pr l en { frames := 3, cells := 0, slots := 0, locals := 64 } σ mi ([.ref qI] : List Value).toArray bel met cd σ.heap [] 0 0 (jr_Q bel [.ref qI] σ (jo (jf_leastFree s))) (F0 mi 2 ls []) := by
    intro n
    induction n with
    | zero =>
      intro i hi  ht ls hl
      refine lv_iload_n hx hb dd_I_leastFree_2 rfl (lv_at hl 0 rfl) ?_
      refine lv_bipush (v := nI 12) hx hb dd_I_leastFree_3 (by decide) ?_
      refine jl_ge (tgt := 24) hx hb (by omega) (by omega) dd_I_leastFree_5 (by decide) (fun c_1 => ?_) (fun c_1 => ?_)
      · skip
        refine lv_iconst (v := -1) hx hb dd_I_leastFree_24 (by decide) ?_
        exact jr_ret C (by rw [← ht]; first | with_reducible rfl | (simp [jf_lfL, jo, c_1]; done)) dd_I_leastFree_25
      · skip
        exact absurd c_1 (by omega)
    | succ n ih =>
      intro i hi  ht ls hl
      refine lv_iload_n hx hb dd_I_leastFree_2 rfl (lv_at hl 0 rfl) ?_
      refine lv_bipush (v := nI 12) hx hb dd_I_leastFree_3 (by decide) ?_
      refine jl_ge (tgt := 24) hx hb (by omega) (by omega) dd_I_leastFree_5 (by decide) (fun c_2 => ?_) (fun c_2 => ?_)
      · skip
        exact absurd c_2 (by omega)
      · skip
        refine lv_aload_n hx hb dd_I_leastFree_8 rfl (lv_at hl 1 rfl) ?_
        refine lv_iload_n hx hb dd_I_leastFree_9 rfl (lv_at hl 0 rfl) ?_
        refine jr_callV C (ct_I_kind l G qI qD qS qC cS cC s c i (by omega) (by first | assumption | (simp only [] ; assumption))) kl_I_29 ⟨Nat.le_of_ble_eq_true rfl, Nat.le_of_ble_eq_true rfl, rfl, rfl⟩ ⟨Nat.le_of_ble_eq_true rfl, Nat.le_of_ble_eq_true rfl⟩ (hP) (hK) (va_recv hK hP (ci := 2) (q0 := 3) rfl rfl) hl.1 rfl rfl (Nat.le_of_ble_eq_true rfl) dd_I_leastFree_10 ?_
        have hf_3 : jf_kind s i < 256 := jf_get_lt (by assumption) _
        refine jl_ifne (tgt := 18) hx hb (by omega) dd_I_leastFree_13 (by decide) (fun c_4 => ?_) (fun c_4 => ?_)
        · skip
          refine jl_iinc (lv' := [(1, .int (nI (i + 1))), (0, .ref qI)]) hx hb dd_I_leastFree_18 hl (k := 0) rfl (by decide) rfl (fun ls hl => ?_)
          refine lv_goto (tgt := 2) hx hb dd_I_leastFree_21 (by decide) ?_
          exact ih (i + 1) (by omega) (by simpa [jf_lfL, jo, c_2, c_4] using ht) ls (lv_sub hl [0, 1] rfl)
        · skip
          refine lv_iload_n hx hb dd_I_leastFree_16 rfl (lv_at hl 0 rfl) ?_
          exact jr_ret C (by rw [← ht]; first | with_reducible rfl | (simp [jf_lfL, jo, c_2, c_4]; done)) dd_I_leastFree_17
  exact loop 12 0 (by omega) (rfl) ls (lv_sub hl [0, 1] rfl)
set_option maxHeartbeats 4000000 in
set_option maxRecDepth 100000 in
theorem ct_I_occupy (l : Launch) (G : va_G) (qI qD qS qC : Nat) (cS cC : ClassId) (s c : Nat → Nat) (i : Nat) (k : Nat) (hi0 : i < 1000) (hk0 : k < 256) (hs : jf_ok s) : jm l yn_I_occupy (.code yn_I_occupy cd_I_occupy 3 none) { frames := 3, cells := 0, slots := 0, locals := 64 } G (tD cS cC) (wI qI qD qS qC cS cC s c) [.ref qI, .int (nI (i)), .int (nI (k))] none (wI qI qD qS qC cS cC (jf_occupy s i k) c) := by
  refine jm_of (by decide) (Nat.le_of_ble_eq_true rfl) ?_
  intro pr en σ mi bel met cd ls A hA C hP hK hD hS hl
  have hx := C.1
  have hb := C.2.1
  have hown := C.2.2.2.1
  have hts := C.2.2.2.2.1
  have hl : lv_has ls 3 [(0, .ref qI), (1, .int (nI (i))), (2, .int (nI (k)))] := hl
  refine lv_aload_n hx hb dd_I_occupy_0 rfl (lv_at hl 0 rfl) ?_
  refine lv_iload_n hx hb dd_I_occupy_1 rfl (lv_at hl 1 rfl) ?_
  refine lv_iconst (v := nI 0) hx hb dd_I_occupy_2 (by decide) ?_
  refine lv_iload_n hx hb dd_I_occupy_3 rfl (lv_at hl 2 rfl) ?_
  refine jm_callV (wr := []) C (ct_I_putField l G qI qD qS qC cS cC s c i 0 k (by omega) (by omega)) kl_I_35 ⟨Nat.le_of_ble_eq_true rfl, Nat.le_of_ble_eq_true rfl⟩ ⟨Nat.le_of_ble_eq_true rfl, Nat.le_of_ble_eq_true rfl⟩ hP hD hS hA (hK) (va_recv hK hP (ci := 2) (q0 := 3) rfl rfl) hl.1 rfl rfl (Nat.le_of_ble_eq_true rfl) dd_I_occupy_4 (fun H locs hP hD hS => ?_)
  have hP : va_P G jcl (wI qI qD qS qC cS cC (jf_putField s i 0 k) c) H := hP
  have hD : va_D A (wI qI qD qS qC cS cC (jf_putField s i 0 k) c) := hD
  have hf_1 : jf_ok (jf_putField s i 0 k) := jf_putField_ok (by assumption) _ _ (by omega)
  refine lv_aload_n hx hb dd_I_occupy_7 rfl (lv_at hl 0 rfl) ?_
  refine lv_iload_n hx hb dd_I_occupy_8 rfl (lv_at hl 1 rfl) ?_
  refine lv_iconst (v := nI 2) hx hb dd_I_occupy_9 (by decide) ?_
  refine lv_iconst (v := nI 1) hx hb dd_I_occupy_10 (by decide) ?_
  refine jm_callV (wr := []) C (ct_I_putField l G qI qD qS qC cS cC (jf_putField s i 0 k) c i 2 1 (by omega) (by omega)) kl_I_35 ⟨Nat.le_of_ble_eq_true rfl, Nat.le_of_ble_eq_true rfl⟩ ⟨Nat.le_of_ble_eq_true rfl, Nat.le_of_ble_eq_true rfl⟩ hP hD hS hA (hK) (va_recv hK hP (ci := 2) (q0 := 3) rfl rfl) hl.1 rfl rfl (Nat.le_of_ble_eq_true rfl) dd_I_occupy_11 (fun H locs hP hD hS => ?_)
  have hP : va_P G jcl (wI qI qD qS qC cS cC (jf_putField (jf_putField s i 0 k) i 2 1) c) H := hP
  have hD : va_D A (wI qI qD qS qC cS cC (jf_putField (jf_putField s i 0 k) i 2 1) c) := hD
  have hf_2 : jf_ok (jf_putField (jf_putField s i 0 k) i 2 1) := jf_putField_ok (by assumption) _ _ (by omega)
  refine lv_aload_n hx hb dd_I_occupy_14 rfl (lv_at hl 0 rfl) ?_
  refine lv_iload_n hx hb dd_I_occupy_15 rfl (lv_at hl 1 rfl) ?_
  refine lv_iconst (v := nI 3) hx hb dd_I_occupy_16 (by decide) ?_
  refine lv_aload_n hx hb dd_I_occupy_17 rfl (lv_at hl 0 rfl) ?_
  refine lv_iload_n hx hb dd_I_occupy_18 rfl (lv_at hl 1 rfl) ?_
  refine jr_callV C (ct_I_generation l G qI qD qS qC cS cC (jf_putField (jf_putField s i 0 k) i 2 1) c i (by omega) (by first | assumption | (simp only [] ; assumption))) kl_I_39 ⟨Nat.le_of_ble_eq_true rfl, Nat.le_of_ble_eq_true rfl, rfl, rfl⟩ ⟨Nat.le_of_ble_eq_true rfl, Nat.le_of_ble_eq_true rfl⟩ (hP) (hK) (va_recv hK hP (ci := 2) (q0 := 3) rfl rfl) hl.1 rfl rfl (Nat.le_of_ble_eq_true rfl) dd_I_occupy_19 ?_
  have hf_3 : jf_gen (jf_putField (jf_putField s i 0 k) i 2 1) i < 256 := jf_get_lt (by assumption) _
  refine lv_iconst (v := nI 1) hx hb dd_I_occupy_22 (by decide) ?_
  refine jl_iadd hx hb dd_I_occupy_23 ?_
  refine lv_sipush (v := nI 256) hx hb dd_I_occupy_24 (by decide) ?_
  refine jl_irem hx hb (by omega) (by decide) (by decide) dd_I_occupy_27 ?_
  refine jm_callV (wr := []) C (ct_I_putField l G qI qD qS qC cS cC (jf_putField (jf_putField s i 0 k) i 2 1) c i 3 (((jf_gen (jf_putField (jf_putField s i 0 k) i 2 1) i) + 1) % 256) (by omega) (by omega)) kl_I_35 ⟨Nat.le_of_ble_eq_true rfl, Nat.le_of_ble_eq_true rfl⟩ ⟨Nat.le_of_ble_eq_true rfl, Nat.le_of_ble_eq_true rfl⟩ hP hD hS hA (hK) (va_recv hK hP (ci := 2) (q0 := 3) rfl rfl) hl.1 rfl rfl (Nat.le_of_ble_eq_true rfl) dd_I_occupy_28 (fun H locs hP hD hS => ?_)
  have hP : va_P G jcl (wI qI qD qS qC cS cC (jf_putField (jf_putField (jf_putField s i 0 k) i 2 1) i 3 (((jf_gen (jf_putField (jf_putField s i 0 k) i 2 1) i) + 1) % 256)) c) H := hP
  have hD : va_D A (wI qI qD qS qC cS cC (jf_putField (jf_putField (jf_putField s i 0 k) i 2 1) i 3 (((jf_gen (jf_putField (jf_putField s i 0 k) i 2 1) i) + 1) % 256)) c) := hD
  have hf_4 : jf_ok (jf_putField (jf_putField (jf_putField s i 0 k) i 2 1) i 3 (((jf_gen (jf_putField (jf_putField s i 0 k) i 2 1) i) + 1) % 256)) := jf_putField_ok (by assumption) _ _ (by omega)
  have he : wI qI qD qS qC cS cC (jf_putField (jf_putField (jf_putField s i 0 k) i 2 1) i 3 (((jf_gen (jf_putField (jf_putField s i 0 k) i 2 1) i) + 1) % 256)) c = wI qI qD qS qC cS cC (jf_occupy s i k) c := by first | with_reducible rfl | (simp [jf_occupy]; done)
  rw [he] at hP hD
  exact jm_retv C hP hD hK hS ⟨Nat.le_of_ble_eq_true rfl, Nat.le_of_ble_eq_true rfl⟩ dd_I_occupy_31
set_option maxHeartbeats 4000000 in
set_option maxRecDepth 100000 in
theorem ct_I_placeOf (l : Launch) (G : va_G) (qI qD qS qC : Nat) (cS cC : ClassId) (s c : Nat → Nat) (i : Nat) (p : Nat) (hi0 : i < 1000) (hp0 : p < 1000000) (hs : jf_ok s) : jr l yn_I_placeOf (.code yn_I_placeOf cd_I_placeOf 4 (some .int)) { frames := 1, cells := 0, slots := 0, locals := 21 } G (tD cS cC) (wI qI qD qS qC cS cC s c) [.ref qI, .int (nI (i)), .int (nI (p))] (nI (jf_placeOf s i p)) := by
  refine jr_of (by decide) (Nat.le_of_ble_eq_true rfl) ?_
  intro pr en σ mi bel met cd ls C hP hK hl
  have hx := C.1
  have hb := C.2.1
  have hown := C.2.2.2.1
  have hts := C.2.2.2.2.1
  have hl : lv_has ls 4 [(0, .ref qI), (1, .int (nI (i))), (2, .int (nI (p)))] := hl
  refine lv_bipush (v := nI 16) hx hb dd_I_placeOf_0 (by decide) ?_
  refine lv_iload_n hx hb dd_I_placeOf_2 rfl (lv_at hl 1 rfl) ?_
  refine lv_bipush (v := nI 8) hx hb dd_I_placeOf_3 (by decide) ?_
  refine jl_imul hx hb dd_I_placeOf_5 ?_
  refine jl_iadd hx hb dd_I_placeOf_6 ?_
  refine lv_iconst (v := nI 4) hx hb dd_I_placeOf_7 (by decide) ?_
  refine jl_iadd hx hb dd_I_placeOf_8 ?_
  refine lv_iload_n hx hb dd_I_placeOf_9 rfl (lv_at hl 2 rfl) ?_
  refine lv_bipush (v := nI 16) hx hb dd_I_placeOf_10 (by decide) ?_
  refine jl_idiv hx hb (by omega) (by decide) (by decide) dd_I_placeOf_12 ?_
  refine jl_iadd hx hb dd_I_placeOf_13 ?_
  refine lv_istore_n (lv' := [(3, .int (nI (((16 + (i * 8)) + 4) + (p / 16)))), (0, .ref qI), (1, .int (nI (i))), (2, .int (nI (p)))]) hx hb dd_I_placeOf_14 rfl hl (by decide) rfl (fun ls hl => ?_)
  refine lv_aload_n hx hb dd_I_placeOf_15 rfl (lv_at hl 1 rfl) ?_
  refine va_get (D := G) (ci := 2) (v := .ref qD) (C := cn_I) (T := ft_I) (N := 1) hx hb hts uw_I hown hK hP 3 rfl rfl 0 (by decide) (hts _ tw_55) (fun _ h9 => h9) rfl dd_I_placeOf_16 ?_
  refine lv_iload_n hx hb dd_I_placeOf_19 rfl (lv_at hl 0 rfl) ?_
  refine jr_callV C (ct_D_get l G qD qS qC cS cC s c (((16 + (i * 8)) + 4) + (p / 16)) (by omega)) kl_I_15 ⟨Nat.le_of_ble_eq_true rfl, Nat.le_of_ble_eq_true rfl, rfl, rfl⟩ ⟨Nat.le_of_ble_eq_true rfl, Nat.le_of_ble_eq_true rfl⟩ (jw_left hP) (hK) (va_recv hK hP (ci := 0) (q0 := 0) rfl rfl) hl.1 rfl rfl (Nat.le_of_ble_eq_true rfl) dd_I_placeOf_20 ?_
  have hf_1 : jf_get s (((16 + (i * 8)) + 4) + (p / 16)) < 256 := jf_get_lt (by assumption) _
  refine lv_bipush (v := nI 16) hx hb dd_I_placeOf_23 (by decide) ?_
  refine jl_imul hx hb dd_I_placeOf_25 ?_
  refine lv_iload_n hx hb dd_I_placeOf_26 rfl (lv_at hl 3 rfl) ?_
  refine lv_bipush (v := nI 16) hx hb dd_I_placeOf_27 (by decide) ?_
  refine jl_irem hx hb (by omega) (by decide) (by decide) dd_I_placeOf_29 ?_
  refine jl_iadd hx hb dd_I_placeOf_30 ?_
  exact jr_ret C (by first | with_reducible rfl | (simp [jf_placeOf]; done) | (simp_all [jf_placeOf]; done)) dd_I_placeOf_31
set_option maxHeartbeats 4000000 in
set_option maxRecDepth 100000 in
theorem ct_I_byteOf (l : Launch) (G : va_G) (qI qD qS qC : Nat) (cS cC : ClassId) (s c : Nat → Nat) (i : Nat) (p : Nat) (hi0 : i < 1000) (hp0 : p < 1000000) (hs : jf_ok s) : jr l yn_I_byteOf (.code yn_I_byteOf cd_I_byteOf 3 (some .int)) { frames := 2, cells := 0, slots := 0, locals := 44 } G (tD cS cC) (wI qI qD qS qC cS cC s c) [.ref qI, .int (nI (i)), .int (nI (p))] (nI (jf_byteOf s i p)) := by
  refine jr_of (by decide) (Nat.le_of_ble_eq_true rfl) ?_
  intro pr en σ mi bel met cd ls C hP hK hl
  have hx := C.1
  have hb := C.2.1
  have hown := C.2.2.2.1
  have hts := C.2.2.2.2.1
  have hl : lv_has ls 3 [(0, .ref qI), (1, .int (nI (i))), (2, .int (nI (p)))] := hl
  refine lv_aload_n hx hb dd_I_byteOf_0 rfl (lv_at hl 0 rfl) ?_
  refine va_get (D := G) (ci := 2) (v := .ref qD) (C := cn_I) (T := ft_I) (N := 1) hx hb hts uw_I hown hK hP 3 rfl rfl 0 (by decide) (hts _ tw_55) (fun _ h9 => h9) rfl dd_I_byteOf_1 ?_
  refine lv_aload_n hx hb dd_I_byteOf_4 rfl (lv_at hl 0 rfl) ?_
  refine lv_iload_n hx hb dd_I_byteOf_5 rfl (lv_at hl 1 rfl) ?_
  refine lv_iload_n hx hb dd_I_byteOf_6 rfl (lv_at hl 2 rfl) ?_
  refine jr_callV C (ct_I_placeOf l G qI qD qS qC cS cC s c i p (by omega) (by omega) (by first | assumption | (simp only [] ; assumption))) kl_I_45 ⟨Nat.le_of_ble_eq_true rfl, Nat.le_of_ble_eq_true rfl, rfl, rfl⟩ ⟨Nat.le_of_ble_eq_true rfl, Nat.le_of_ble_eq_true rfl⟩ (hP) (hK) (va_recv hK hP (ci := 2) (q0 := 3) rfl rfl) hl.1 rfl rfl (Nat.le_of_ble_eq_true rfl) dd_I_byteOf_7 ?_
  have hf_1 : jf_placeOf s i p < 4096 := jf_placeOf_lt (by assumption) _ _
  refine jr_callV C (ct_D_get l G qD qS qC cS cC s c (jf_placeOf s i p) (by omega)) kl_I_15 ⟨Nat.le_of_ble_eq_true rfl, Nat.le_of_ble_eq_true rfl, rfl, rfl⟩ ⟨Nat.le_of_ble_eq_true rfl, Nat.le_of_ble_eq_true rfl⟩ (jw_left hP) (hK) (va_recv hK hP (ci := 0) (q0 := 0) rfl rfl) hl.1 rfl rfl (Nat.le_of_ble_eq_true rfl) dd_I_byteOf_10 ?_
  have hf_2 : jf_get s (jf_placeOf s i p) < 256 := jf_get_lt (by assumption) _
  exact jr_ret C (by first | with_reducible rfl | (simp [jf_byteOf]; done) | (simp_all [jf_byteOf]; done)) dd_I_byteOf_13
end
section
set_option maxHeartbeats 4000000 in
set_option maxRecDepth 100000 in
theorem ct_I_putByte (l : Launch) (G : va_G) (qI qD qS qC : Nat) (cS cC : ClassId) (s c : Nat → Nat) (i : Nat) (p : Nat) (v : Nat) (hi0 : i < 1000) (hp0 : p < 1000000) (hs : jf_ok s) : jm l yn_I_putByte (.code yn_I_putByte cd_I_putByte 4 none) { frames := 2, cells := 0, slots := 0, locals := 44 } G (tD cS cC) (wI qI qD qS qC cS cC s c) [.ref qI, .int (nI (i)), .int (nI (p)), .int (nI (v))] none (wI qI qD qS qC cS cC (jf_putByte s i p v) c) := by
  refine jm_of (by decide) (Nat.le_of_ble_eq_true rfl) ?_
  intro pr en σ mi bel met cd ls A hA C hP hK hD hS hl
  have hx := C.1
  have hb := C.2.1
  have hown := C.2.2.2.1
  have hts := C.2.2.2.2.1
  have hl : lv_has ls 4 [(0, .ref qI), (1, .int (nI (i))), (2, .int (nI (p))), (3, .int (nI (v)))] := hl
  refine lv_aload_n hx hb dd_I_putByte_0 rfl (lv_at hl 0 rfl) ?_
  refine va_get (D := G) (ci := 2) (v := .ref qD) (C := cn_I) (T := ft_I) (N := 1) hx hb hts uw_I hown hK hP 3 rfl rfl 0 (by decide) (hts _ tw_55) (fun _ h9 => h9) rfl dd_I_putByte_1 ?_
  refine lv_aload_n hx hb dd_I_putByte_4 rfl (lv_at hl 0 rfl) ?_
  refine lv_iload_n hx hb dd_I_putByte_5 rfl (lv_at hl 1 rfl) ?_
  refine lv_iload_n hx hb dd_I_putByte_6 rfl (lv_at hl 2 rfl) ?_
  refine jr_callV C (ct_I_placeOf l G qI qD qS qC cS cC s c i p (by omega) (by omega) (by first | assumption | (simp only [] ; assumption))) kl_I_45 ⟨Nat.le_of_ble_eq_true rfl, Nat.le_of_ble_eq_true rfl, rfl, rfl⟩ ⟨Nat.le_of_ble_eq_true rfl, Nat.le_of_ble_eq_true rfl⟩ (hP) (hK) (va_recv hK hP (ci := 2) (q0 := 3) rfl rfl) hl.1 rfl rfl (Nat.le_of_ble_eq_true rfl) dd_I_putByte_7 ?_
  have hf_1 : jf_placeOf s i p < 4096 := jf_placeOf_lt (by assumption) _ _
  refine lv_iload_n hx hb dd_I_putByte_10 rfl (lv_at hl 3 rfl) ?_
  refine jm_callV (wr := [(qI, .inr (2, [.ref qD]))]) C (ct_D_put l G qD qS qC cS cC s c (jf_placeOf s i p) v (by omega)) kl_I_21 ⟨Nat.le_of_ble_eq_true rfl, Nat.le_of_ble_eq_true rfl⟩ ⟨Nat.le_of_ble_eq_true rfl, Nat.le_of_ble_eq_true rfl⟩ hP hD hS hA (hK) (va_recv hK hP (ci := 0) (q0 := 0) rfl rfl) hl.1 rfl rfl (Nat.le_of_ble_eq_true rfl) dd_I_putByte_11 (fun H locs hP hD hS => ?_)
  have hP : va_P G jcl (wI qI qD qS qC cS cC (jf_put s (jf_placeOf s i p) v) c) H := hP
  have hD : va_D A (wI qI qD qS qC cS cC (jf_put s (jf_placeOf s i p) v) c) := hD
  have he : wI qI qD qS qC cS cC (jf_put s (jf_placeOf s i p) v) c = wI qI qD qS qC cS cC (jf_putByte s i p v) c := by first | with_reducible rfl | (simp [jf_putByte]; done)
  rw [he] at hP hD
  exact jm_retv C hP hD hK hS ⟨Nat.le_of_ble_eq_true rfl, Nat.le_of_ble_eq_true rfl⟩ dd_I_putByte_14
set_option maxHeartbeats 4000000 in
set_option maxRecDepth 100000 in
theorem ct_I_blocksFor (l : Launch) (G : va_G) (z : Nat) (hz0 : z < 1000000) : jr l yn_I_blocksFor (.code yn_I_blocksFor cd_I_blocksFor 1 (some .int)) { frames := 0, cells := 0, slots := 0, locals := 0 } G ([]) ([]) [.int (nI (z))] (nI (jf_blocksFor z)) := by
  refine jr_of (by decide) (Nat.le_of_ble_eq_true rfl) ?_
  intro pr en σ mi bel met cd ls C hP hK hl
  have hx := C.1
  have hb := C.2.1
  have hown := C.2.2.2.1
  have hts := C.2.2.2.2.1
  have hl : lv_has ls 1 [(0, .int (nI (z)))] := hl
  refine lv_iload_n hx hb dd_I_blocksFor_0 rfl (lv_at hl 0 rfl) ?_
  refine lv_bipush (v := nI 16) hx hb dd_I_blocksFor_1 (by decide) ?_
  refine jl_iadd hx hb dd_I_blocksFor_3 ?_
  refine lv_iconst (v := nI 1) hx hb dd_I_blocksFor_4 (by decide) ?_
  refine jl_isub hx hb (by omega) dd_I_blocksFor_5 ?_
  refine lv_bipush (v := nI 16) hx hb dd_I_blocksFor_6 (by decide) ?_
  refine jl_idiv hx hb (by omega) (by decide) (by decide) dd_I_blocksFor_8 ?_
  exact jr_ret C (by first | with_reducible rfl | (simp [jf_blocksFor]; done) | (simp_all [jf_blocksFor]; done)) dd_I_blocksFor_9
set_option maxHeartbeats 4000000 in
set_option maxRecDepth 100000 in
theorem ct_I_startsBlock (l : Launch) (G : va_G) (e : Nat) (he0 : e < 100000) : jr l yn_I_startsBlock (.code yn_I_startsBlock cd_I_startsBlock 1 (some .boolean)) { frames := 0, cells := 0, slots := 0, locals := 0 } G ([]) ([]) [.int (nI (e))] (nI (jf_startsBlock e)) := by
  refine jr_of (by decide) (Nat.le_of_ble_eq_true rfl) ?_
  intro pr en σ mi bel met cd ls C hP hK hl
  have hx := C.1
  have hb := C.2.1
  have hown := C.2.2.2.1
  have hts := C.2.2.2.2.1
  have hl : lv_has ls 1 [(0, .int (nI (e)))] := hl
  refine lv_iload_n hx hb dd_I_startsBlock_0 rfl (lv_at hl 0 rfl) ?_
  refine lv_iconst (v := nI 2) hx hb dd_I_startsBlock_1 (by decide) ?_
  refine jl_imul hx hb dd_I_startsBlock_2 ?_
  refine lv_bipush (v := nI 16) hx hb dd_I_startsBlock_3 (by decide) ?_
  refine jl_irem hx hb (by omega) (by decide) (by decide) dd_I_startsBlock_5 ?_
  refine jl_ifne (tgt := 13) hx hb (by omega) dd_I_startsBlock_6 (by decide) (fun c_1 => ?_) (fun c_1 => ?_)
  · skip
    refine lv_iconst (v := nI 0) hx hb dd_I_startsBlock_13 (by decide) ?_
    exact jr_retz C (by decide) (by first | with_reducible rfl | (simp [jf_startsBlock, c_1]; done) | (simp_all [jf_startsBlock]; done)) dd_I_startsBlock_14
  · skip
    refine lv_iconst (v := nI 1) hx hb dd_I_startsBlock_9 (by decide) ?_
    refine lv_goto (tgt := 14) hx hb dd_I_startsBlock_10 (by decide) ?_
    exact jr_retz C (by decide) (by first | with_reducible rfl | (simp [jf_startsBlock, c_1]; done) | (simp_all [jf_startsBlock]; done)) dd_I_startsBlock_14
set_option maxHeartbeats 4000000 in
set_option maxRecDepth 100000 in
theorem ct_I_hasRoomForSize (l : Launch) (G : va_G) (qI qD qS qC : Nat) (cS cC : ClassId) (s c : Nat → Nat) (i : Nat) (z : Nat) (hi0 : i < 1000) (hz0 : z < 1000000) (hs : jf_ok s) : jr l yn_I_hasRoomForSize (.code yn_I_hasRoomForSize cd_I_hasRoomForSize 3 (some .boolean)) { frames := 3, cells := 0, slots := 0, locals := 64 } G (tD cS cC) (wI qI qD qS qC cS cC s c) [.ref qI, .int (nI (i)), .int (nI (z))] (nI (jf_hasRoomForSize s i z)) := by
  refine jr_of (by decide) (Nat.le_of_ble_eq_true rfl) ?_
  intro pr en σ mi bel met cd ls C hP hK hl
  have hx := C.1
  have hb := C.2.1
  have hown := C.2.2.2.1
  have hts := C.2.2.2.2.1
  have hl : lv_has ls 3 [(0, .ref qI), (1, .int (nI (i))), (2, .int (nI (z)))] := hl
  refine lv_iload_n hx hb dd_I_hasRoomForSize_0 rfl (lv_at hl 2 rfl) ?_
  refine jr_callS0 C (ct_I_blocksFor l G z (by omega)) kl_I_48 ⟨Nat.le_of_ble_eq_true rfl, Nat.le_of_ble_eq_true rfl, rfl, rfl⟩ ⟨Nat.le_of_ble_eq_true rfl, Nat.le_of_ble_eq_true rfl⟩ hK hl.1 rfl rfl (Nat.le_of_ble_eq_true rfl) dd_I_hasRoomForSize_1 ?_
  have hf_1 : jf_blocksFor z * 16 ≤ z + 15 := jf_blocksFor_le _
  refine lv_aload_n hx hb dd_I_hasRoomForSize_4 rfl (lv_at hl 0 rfl) ?_
  refine lv_iload_n hx hb dd_I_hasRoomForSize_5 rfl (lv_at hl 1 rfl) ?_
  refine jr_callV C (ct_I_size l G qI qD qS qC cS cC s c i (by omega) (by first | assumption | (simp only [] ; assumption))) kl_I_32 ⟨Nat.le_of_ble_eq_true rfl, Nat.le_of_ble_eq_true rfl, rfl, rfl⟩ ⟨Nat.le_of_ble_eq_true rfl, Nat.le_of_ble_eq_true rfl⟩ (hP) (hK) (va_recv hK hP (ci := 2) (q0 := 3) rfl rfl) hl.1 rfl rfl (Nat.le_of_ble_eq_true rfl) dd_I_hasRoomForSize_6 ?_
  have hf_2 : jf_size s i < 256 := jf_get_lt (by assumption) _
  refine jr_callS0 C (ct_I_blocksFor l G (jf_size s i) (by omega)) kl_I_48 ⟨Nat.le_of_ble_eq_true rfl, Nat.le_of_ble_eq_true rfl, rfl, rfl⟩ ⟨Nat.le_of_ble_eq_true rfl, Nat.le_of_ble_eq_true rfl⟩ hK hl.1 rfl rfl (Nat.le_of_ble_eq_true rfl) dd_I_hasRoomForSize_9 ?_
  have hf_3 : jf_blocksFor (jf_size s i) * 16 ≤ (jf_size s i) + 15 := jf_blocksFor_le _
  refine lv_isub hx hb dd_I_hasRoomForSize_12 ?_
  refine lv_aload_n hx hb dd_I_hasRoomForSize_13 rfl (lv_at hl 0 rfl) ?_
  refine va_get (D := G) (ci := 2) (v := .ref qD) (C := cn_I) (T := ft_I) (N := 1) hx hb hts uw_I hown hK hP 3 rfl rfl 0 (by decide) (hts _ tw_55) (fun _ h9 => h9) rfl dd_I_hasRoomForSize_14 ?_
  refine jr_callV C (ct_D_freeBlocks l G qD qS qC cS cC s c  (by first | assumption | (simp only [] ; assumption))) kl_I_51 ⟨Nat.le_of_ble_eq_true rfl, Nat.le_of_ble_eq_true rfl, rfl, rfl⟩ ⟨Nat.le_of_ble_eq_true rfl, Nat.le_of_ble_eq_true rfl⟩ (jw_left hP) (hK) (va_recv hK hP (ci := 0) (q0 := 0) rfl rfl) hl.1 rfl rfl (Nat.le_of_ble_eq_true rfl) dd_I_hasRoomForSize_17 ?_
  have hf_4 : jf_free s < 32 := jf_free_lt _
  refine jl_gtD (tgt := 27) hx hb (by omega) (by omega) (by omega) dd_I_hasRoomForSize_20 (by decide) (fun c_5 => ?_) (fun c_5 => ?_)
  · skip
    refine lv_iconst (v := nI 0) hx hb dd_I_hasRoomForSize_27 (by decide) ?_
    exact jr_retz C (by decide) (by first | with_reducible rfl | (simp [jf_hasRoomForSize, c_5]; done) | (simp_all [jf_hasRoomForSize]; done)) dd_I_hasRoomForSize_28
  · skip
    refine lv_iconst (v := nI 1) hx hb dd_I_hasRoomForSize_23 (by decide) ?_
    refine lv_goto (tgt := 28) hx hb dd_I_hasRoomForSize_24 (by decide) ?_
    exact jr_retz C (by decide) (by first | with_reducible rfl | (simp [jf_hasRoomForSize, c_5]; done) | (simp_all [jf_hasRoomForSize]; done)) dd_I_hasRoomForSize_28
end
section
set_option maxHeartbeats 4000000 in
set_option maxRecDepth 100000 in
theorem ct_I_resize (l : Launch) (G : va_G) (qI qD qS qC : Nat) (cS cC : ClassId) (s c : Nat → Nat) (i : Nat) (z : Nat) (hi0 : i < 1000) (hz0 : z < 256) (hs : jf_ok s) : jm l yn_I_resize (.code yn_I_resize cd_I_resize 5 none) { frames := 3, cells := 0, slots := 0, locals := 67 } G (tD cS cC) (wI qI qD qS qC cS cC s c) [.ref qI, .int (nI (i)), .int (nI (z))] none (wI qI qD qS qC cS cC (jf_resize s i z) c) := by
  refine jm_of (by decide) (Nat.le_of_ble_eq_true rfl) ?_
  intro pr en σ mi bel met cd ls A hA C hP hK hD hS hl
  have hx := C.1
  have hb := C.2.1
  have hown := C.2.2.2.1
  have hts := C.2.2.2.2.1
  have hl : lv_has ls 5 [(0, .ref qI), (1, .int (nI (i))), (2, .int (nI (z)))] := hl
  refine lv_aload_n hx hb dd_I_resize_0 rfl (lv_at hl 0 rfl) ?_
  refine lv_iload_n hx hb dd_I_resize_1 rfl (lv_at hl 1 rfl) ?_
  refine jr_callV C (ct_I_size l G qI qD qS qC cS cC s c i (by omega) (by first | assumption | (simp only [] ; assumption))) kl_I_32 ⟨Nat.le_of_ble_eq_true rfl, Nat.le_of_ble_eq_true rfl, rfl, rfl⟩ ⟨Nat.le_of_ble_eq_true rfl, Nat.le_of_ble_eq_true rfl⟩ (hP) (hK) (va_recv hK hP (ci := 2) (q0 := 3) rfl rfl) hl.1 rfl rfl (Nat.le_of_ble_eq_true rfl) dd_I_resize_2 ?_
  have hf_1 : jf_size s i < 256 := jf_get_lt (by assumption) _
  refine lv_istore_n (lv' := [(3, .int (nI (jf_size s i))), (0, .ref qI), (1, .int (nI (i))), (2, .int (nI (z)))]) hx hb dd_I_resize_5 rfl hl (by decide) rfl (fun ls hl => ?_)
  refine lv_iload_n hx hb dd_I_resize_6 rfl (lv_at hl 3 rfl) ?_
  refine lv_istore (lv' := [(4, .int (nI (z))), (3, .int (nI (jf_size s i))), (0, .ref qI), (1, .int (nI (i))), (2, .int (nI (z)))]) hx hb dd_I_resize_7 hl (by decide) rfl (fun ls hl => ?_)
  have loop : ∀ (n : Nat) (p : Nat) (S9 : Nat → Nat), (n = jf_size s i - p ∧ p ≤ 256) → (jf_ok S9) → jf_putField (jf_rsC i (jf_blocksFor z - jf_blocksFor (jf_size s i)) (jf_blocksFor (jf_size s i)) (jf_rsB i (jf_blocksFor (jf_size s i) - jf_blocksFor z) (jf_blocksFor z) (jf_rsA i n p S9))) i 1 z = jf_resize s i z → ∀ (H : Heap) (locs : List Loc), va_P G jcl (wI qI qD qS qC cS cC S9 c) H → va_D A (wI qI qD qS qC cS cC S9 c) → va_S A σ.heap H locs → ∀ ls : Array Slot, lv_has ls 5 [(4, .int (nI (p))), (3, .int (nI (jf_size s i))), (0, .ref qI), (1, .int (nI (i))), (2, .int (nI (z)))] → W pr l en { frames := 3, cells := 0, slots := 0, locals := 67 } σ mi ([.ref qI, .int (nI (i)), .int (nI (z))] : List Value).toArray bel met cd H locs 0 0 (jm_Q bel { frames := 3, cells := 0, slots := 0, locals := 67 } G (tD cS cC) A [.ref qI, .int (nI (i)), .int (nI (z))] σ none (wI qI qD qS qC cS cC (jf_resize s i z) c)) (F0 mi 9 ls []) := by
    intro n
    induction n with
    | zero =>
      intro p S9 hi hs9 ht H locs hP hD hS ls hl
      refine lv_iload hx hb dd_I_resize_9 (lv_at hl 0 rfl) ?_
      refine lv_iload_n hx hb dd_I_resize_11 rfl (lv_at hl 1 rfl) ?_
      refine jl_ge (tgt := 29) hx hb (by omega) (by omega) dd_I_resize_12 (by decide) (fun c_2 => ?_) (fun c_2 => ?_)
      · skip
        refine lv_iload_n hx hb dd_I_resize_29 rfl (lv_at hl 4 rfl) ?_
        refine jr_callS0 C (ct_I_blocksFor l G z (by omega)) kl_I_48 ⟨Nat.le_of_ble_eq_true rfl, Nat.le_of_ble_eq_true rfl, rfl, rfl⟩ ⟨Nat.le_of_ble_eq_true rfl, Nat.le_of_ble_eq_true rfl⟩ hK hl.1 rfl rfl (Nat.le_of_ble_eq_true rfl) dd_I_resize_30 ?_
        have hf_3 : jf_blocksFor z * 16 ≤ z + 15 := jf_blocksFor_le _
        refine lv_istore (lv' := [(4, .int (nI (jf_blocksFor z))), (3, .int (nI (jf_size s i))), (0, .ref qI), (1, .int (nI (i))), (2, .int (nI (z)))]) hx hb dd_I_resize_33 hl (by decide) rfl (fun ls hl => ?_)
        have loop : ∀ (n : Nat) (k : Nat) (S9 : Nat → Nat), (n = jf_blocksFor (jf_size s i) - k ∧ k ≤ 32) → (jf_ok S9) → jf_putField (jf_rsC i (jf_blocksFor z - jf_blocksFor (jf_size s i)) (jf_blocksFor (jf_size s i)) (jf_rsB i n k S9)) i 1 z = jf_resize s i z → ∀ (H : Heap) (locs : List Loc), va_P G jcl (wI qI qD qS qC cS cC S9 c) H → va_D A (wI qI qD qS qC cS cC S9 c) → va_S A σ.heap H locs → ∀ ls : Array Slot, lv_has ls 5 [(4, .int (nI (k))), (3, .int (nI (jf_size s i))), (0, .ref qI), (1, .int (nI (i))), (2, .int (nI (z)))] → W pr l en { frames := 3, cells := 0, slots := 0, locals := 67 } σ mi ([.ref qI, .int (nI (i)), .int (nI (z))] : List Value).toArray bel met cd H locs 0 0 (jm_Q bel { frames := 3, cells := 0, slots := 0, locals := 67 } G (tD cS cC) A [.ref qI, .int (nI (i)), .int (nI (z))] σ none (wI qI qD qS qC cS cC (jf_resize s i z) c)) (F0 mi 35 ls []) := by
          intro n
          induction n with
          | zero =>
            intro k S9 hi hs9 ht H locs hP hD hS ls hl
            refine lv_iload hx hb dd_I_resize_35 (lv_at hl 0 rfl) ?_
            refine lv_iload_n hx hb dd_I_resize_37 rfl (lv_at hl 1 rfl) ?_
            refine jr_callS0 C (ct_I_blocksFor l G (jf_size s i) (by omega)) kl_I_48 ⟨Nat.le_of_ble_eq_true rfl, Nat.le_of_ble_eq_true rfl, rfl, rfl⟩ ⟨Nat.le_of_ble_eq_true rfl, Nat.le_of_ble_eq_true rfl⟩ hK hl.1 rfl rfl (Nat.le_of_ble_eq_true rfl) dd_I_resize_38 ?_
            have hf_4 : jf_blocksFor (jf_size s i) * 16 ≤ (jf_size s i) + 15 := jf_blocksFor_le _
            refine jl_ge (tgt := 76) hx hb (by omega) (by omega) dd_I_resize_41 (by decide) (fun c_5 => ?_) (fun c_5 => ?_)
            · skip
              refine lv_iload_n hx hb dd_I_resize_76 rfl (lv_at hl 1 rfl) ?_
              refine jr_callS0 C (ct_I_blocksFor l G (jf_size s i) (by omega)) kl_I_48 ⟨Nat.le_of_ble_eq_true rfl, Nat.le_of_ble_eq_true rfl, rfl, rfl⟩ ⟨Nat.le_of_ble_eq_true rfl, Nat.le_of_ble_eq_true rfl⟩ hK hl.1 rfl rfl (Nat.le_of_ble_eq_true rfl) dd_I_resize_77 ?_
              have hf_6 : jf_blocksFor (jf_size s i) * 16 ≤ (jf_size s i) + 15 := jf_blocksFor_le _
              refine lv_istore (lv' := [(4, .int (nI (jf_blocksFor (jf_size s i)))), (3, .int (nI (jf_size s i))), (0, .ref qI), (1, .int (nI (i))), (2, .int (nI (z)))]) hx hb dd_I_resize_80 hl (by decide) rfl (fun ls hl => ?_)
              have loop : ∀ (n : Nat) (k : Nat) (S9 : Nat → Nat), (n = jf_blocksFor z - k ∧ k ≤ 32) → (jf_ok S9) → jf_putField (jf_rsC i n k S9) i 1 z = jf_resize s i z → ∀ (H : Heap) (locs : List Loc), va_P G jcl (wI qI qD qS qC cS cC S9 c) H → va_D A (wI qI qD qS qC cS cC S9 c) → va_S A σ.heap H locs → ∀ ls : Array Slot, lv_has ls 5 [(4, .int (nI (k))), (3, .int (nI (jf_size s i))), (0, .ref qI), (1, .int (nI (i))), (2, .int (nI (z)))] → W pr l en { frames := 3, cells := 0, slots := 0, locals := 67 } σ mi ([.ref qI, .int (nI (i)), .int (nI (z))] : List Value).toArray bel met cd H locs 0 0 (jm_Q bel { frames := 3, cells := 0, slots := 0, locals := 67 } G (tD cS cC) A [.ref qI, .int (nI (i)), .int (nI (z))] σ none (wI qI qD qS qC cS cC (jf_resize s i z) c)) (F0 mi 82 ls []) := by
                intro n
                induction n with
                | zero =>
                  intro k S9 hi hs9 ht H locs hP hD hS ls hl
                  refine lv_iload hx hb dd_I_resize_82 (lv_at hl 0 rfl) ?_
                  refine lv_iload_n hx hb dd_I_resize_84 rfl (lv_at hl 4 rfl) ?_
                  refine jr_callS0 C (ct_I_blocksFor l G z (by omega)) kl_I_48 ⟨Nat.le_of_ble_eq_true rfl, Nat.le_of_ble_eq_true rfl, rfl, rfl⟩ ⟨Nat.le_of_ble_eq_true rfl, Nat.le_of_ble_eq_true rfl⟩ hK hl.1 rfl rfl (Nat.le_of_ble_eq_true rfl) dd_I_resize_85 ?_
                  have hf_7 : jf_blocksFor z * 16 ≤ z + 15 := jf_blocksFor_le _
                  refine jl_ge (tgt := 113) hx hb (by omega) (by omega) dd_I_resize_88 (by decide) (fun c_8 => ?_) (fun c_8 => ?_)
                  · skip
                    refine lv_aload_n hx hb dd_I_resize_113 rfl (lv_at hl 2 rfl) ?_
                    refine lv_iload_n hx hb dd_I_resize_114 rfl (lv_at hl 3 rfl) ?_
                    refine lv_iconst (v := nI 1) hx hb dd_I_resize_115 (by decide) ?_
                    refine lv_iload_n hx hb dd_I_resize_116 rfl (lv_at hl 4 rfl) ?_
                    refine jm_callV (wr := []) C (ct_I_putField l G qI qD qS qC cS cC S9 c i 1 z (by omega) (by omega)) kl_I_35 ⟨Nat.le_of_ble_eq_true rfl, Nat.le_of_ble_eq_true rfl⟩ ⟨Nat.le_of_ble_eq_true rfl, Nat.le_of_ble_eq_true rfl⟩ hP hD hS hA (hK) (va_recv hK hP (ci := 2) (q0 := 3) rfl rfl) hl.1 rfl rfl (Nat.le_of_ble_eq_true rfl) dd_I_resize_117 (fun H locs hP hD hS => ?_)
                    have hP : va_P G jcl (wI qI qD qS qC cS cC (jf_putField S9 i 1 z) c) H := hP
                    have hD : va_D A (wI qI qD qS qC cS cC (jf_putField S9 i 1 z) c) := hD
                    have hf_9 : jf_ok (jf_putField S9 i 1 z) := jf_putField_ok (by assumption) _ _ (by omega)
                    have he : wI qI qD qS qC cS cC (jf_putField S9 i 1 z) c = wI qI qD qS qC cS cC (jf_resize s i z) c := by rw [← ht]; first | with_reducible rfl | (simp [jf_rsC, c_8]; done)
                    rw [he] at hP hD
                    exact jm_retv C hP hD hK hS ⟨Nat.le_of_ble_eq_true rfl, Nat.le_of_ble_eq_true rfl⟩ dd_I_resize_120
                  · skip
                    exact absurd c_8 (by omega)
                | succ n ih =>
                  intro k S9 hi hs9 ht H locs hP hD hS ls hl
                  refine lv_iload hx hb dd_I_resize_82 (lv_at hl 0 rfl) ?_
                  refine lv_iload_n hx hb dd_I_resize_84 rfl (lv_at hl 4 rfl) ?_
                  refine jr_callS0 C (ct_I_blocksFor l G z (by omega)) kl_I_48 ⟨Nat.le_of_ble_eq_true rfl, Nat.le_of_ble_eq_true rfl, rfl, rfl⟩ ⟨Nat.le_of_ble_eq_true rfl, Nat.le_of_ble_eq_true rfl⟩ hK hl.1 rfl rfl (Nat.le_of_ble_eq_true rfl) dd_I_resize_85 ?_
                  have hf_10 : jf_blocksFor z * 16 ≤ z + 15 := jf_blocksFor_le _
                  refine jl_ge (tgt := 113) hx hb (by omega) (by omega) dd_I_resize_88 (by decide) (fun c_11 => ?_) (fun c_11 => ?_)
                  · skip
                    exact absurd c_11 (by omega)
                  · skip
                    refine lv_aload_n hx hb dd_I_resize_91 rfl (lv_at hl 2 rfl) ?_
                    refine lv_iload_n hx hb dd_I_resize_92 rfl (lv_at hl 3 rfl) ?_
                    refine lv_iconst (v := nI 4) hx hb dd_I_resize_93 (by decide) ?_
                    refine lv_iload hx hb dd_I_resize_94 (lv_at hl 0 rfl) ?_
                    refine jl_iadd hx hb dd_I_resize_96 ?_
                    refine lv_aload_n hx hb dd_I_resize_97 rfl (lv_at hl 2 rfl) ?_
                    refine va_get (D := G) (ci := 2) (v := .ref qD) (C := cn_I) (T := ft_I) (N := 1) hx hb hts uw_I hown hK hP 3 rfl rfl 0 (by decide) (hts _ tw_55) (fun _ h9 => h9) rfl dd_I_resize_98 ?_
                    refine jm_callV (wr := [(qI, .inr (2, [.ref qD]))]) C (ct_D_takeBlock l G qD qS qC cS cC S9 c  (by first | assumption | (simp only [] ; assumption))) kl_I_62 ⟨Nat.le_of_ble_eq_true rfl, Nat.le_of_ble_eq_true rfl⟩ ⟨Nat.le_of_ble_eq_true rfl, Nat.le_of_ble_eq_true rfl⟩ hP hD hS hA (hK) (va_recv hK hP (ci := 0) (q0 := 0) rfl rfl) hl.1 rfl rfl (Nat.le_of_ble_eq_true rfl) dd_I_resize_101 (fun H locs hP hD hS => ?_)
                    have hP : va_P G jcl (wI qI qD qS qC cS cC ((jf_take S9).2) c) H := hP
                    have hD : va_D A (wI qI qD qS qC cS cC ((jf_take S9).2) c) := hD
                    have hf_12 : (jf_take S9).1 < 256 := (jf_takeL_ok (by assumption) 31 9 rfl).1
                    have hf_13 : jf_ok (jf_take S9).2 := (jf_takeL_ok (by assumption) 31 9 rfl).2
                    refine jm_callV (wr := []) C (ct_I_putField l G qI qD qS qC cS cC ((jf_take S9).2) c i (4 + k) ((jf_take S9).1) (by omega) (by omega)) kl_I_35 ⟨Nat.le_of_ble_eq_true rfl, Nat.le_of_ble_eq_true rfl⟩ ⟨Nat.le_of_ble_eq_true rfl, Nat.le_of_ble_eq_true rfl⟩ hP hD hS hA (hK) (va_recv hK hP (ci := 2) (q0 := 3) rfl rfl) hl.1 rfl rfl (Nat.le_of_ble_eq_true rfl) dd_I_resize_104 (fun H locs hP hD hS => ?_)
                    have hP : va_P G jcl (wI qI qD qS qC cS cC (jf_putField ((jf_take S9).2) i (4 + k) ((jf_take S9).1)) c) H := hP
                    have hD : va_D A (wI qI qD qS qC cS cC (jf_putField ((jf_take S9).2) i (4 + k) ((jf_take S9).1)) c) := hD
                    have hf_14 : jf_ok (jf_putField ((jf_take S9).2) i (4 + k) ((jf_take S9).1)) := jf_putField_ok (by assumption) _ _ (by omega)
                    refine jl_iinc (lv' := [(4, .int (nI (k + 1))), (3, .int (nI (jf_size s i))), (0, .ref qI), (1, .int (nI (i))), (2, .int (nI (z)))]) hx hb dd_I_resize_107 hl (k := 0) rfl (by decide) rfl (fun ls hl => ?_)
                    refine lv_goto (tgt := 82) hx hb dd_I_resize_110 (by decide) ?_
                    exact ih (k + 1) (jf_putField ((jf_take S9).2) i (4 + k) ((jf_take S9).1)) (by omega) (by assumption) (by simpa [jf_rsC, c_11] using ht) _ _ hP hD hS ls (lv_sub hl [0, 1, 2, 3, 4] rfl)
              exact loop (jf_blocksFor z - jf_blocksFor (jf_size s i)) (jf_blocksFor (jf_size s i)) S9 (by omega) (by assumption) (by simpa [jf_rsB] using ht) _ _ hP hD hS ls (lv_sub hl [0, 1, 2, 3, 4] rfl)
            · skip
              exact absurd c_5 (by omega)
          | succ n ih =>
            intro k S9 hi hs9 ht H locs hP hD hS ls hl
            refine lv_iload hx hb dd_I_resize_35 (lv_at hl 0 rfl) ?_
            refine lv_iload_n hx hb dd_I_resize_37 rfl (lv_at hl 1 rfl) ?_
            refine jr_callS0 C (ct_I_blocksFor l G (jf_size s i) (by omega)) kl_I_48 ⟨Nat.le_of_ble_eq_true rfl, Nat.le_of_ble_eq_true rfl, rfl, rfl⟩ ⟨Nat.le_of_ble_eq_true rfl, Nat.le_of_ble_eq_true rfl⟩ hK hl.1 rfl rfl (Nat.le_of_ble_eq_true rfl) dd_I_resize_38 ?_
            have hf_15 : jf_blocksFor (jf_size s i) * 16 ≤ (jf_size s i) + 15 := jf_blocksFor_le _
            refine jl_ge (tgt := 76) hx hb (by omega) (by omega) dd_I_resize_41 (by decide) (fun c_16 => ?_) (fun c_16 => ?_)
            · skip
              exact absurd c_16 (by omega)
            · skip
              refine lv_aload_n hx hb dd_I_resize_44 rfl (lv_at hl 2 rfl) ?_
              refine va_get (D := G) (ci := 2) (v := .ref qD) (C := cn_I) (T := ft_I) (N := 1) hx hb hts uw_I hown hK hP 3 rfl rfl 0 (by decide) (hts _ tw_55) (fun _ h9 => h9) rfl dd_I_resize_45 ?_
              refine lv_aload_n hx hb dd_I_resize_48 rfl (lv_at hl 2 rfl) ?_
              refine lv_iload_n hx hb dd_I_resize_49 rfl (lv_at hl 3 rfl) ?_
              refine lv_iconst (v := nI 4) hx hb dd_I_resize_50 (by decide) ?_
              refine lv_iload hx hb dd_I_resize_51 (lv_at hl 0 rfl) ?_
              refine jl_iadd hx hb dd_I_resize_53 ?_
              refine jr_callV C (ct_I_field l G qI qD qS qC cS cC S9 c i (4 + k) (by omega) (by omega) (by first | assumption | (simp only [] ; assumption))) kl_I_25 ⟨Nat.le_of_ble_eq_true rfl, Nat.le_of_ble_eq_true rfl, rfl, rfl⟩ ⟨Nat.le_of_ble_eq_true rfl, Nat.le_of_ble_eq_true rfl⟩ (hP) (hK) (va_recv hK hP (ci := 2) (q0 := 3) rfl rfl) hl.1 rfl rfl (Nat.le_of_ble_eq_true rfl) dd_I_resize_54 ?_
              have hf_17 : jf_field S9 i (4 + k) < 256 := jf_get_lt (by assumption) _
              refine jm_callV (wr := [(qI, .inr (2, [.ref qD]))]) C (ct_D_giveBack l G qD qS qC cS cC S9 c (jf_field S9 i (4 + k)) (by omega) (by first | assumption | (simp only [] ; assumption))) kl_I_58 ⟨Nat.le_of_ble_eq_true rfl, Nat.le_of_ble_eq_true rfl⟩ ⟨Nat.le_of_ble_eq_true rfl, Nat.le_of_ble_eq_true rfl⟩ hP hD hS hA (hK) (va_recv hK hP (ci := 0) (q0 := 0) rfl rfl) hl.1 rfl rfl (Nat.le_of_ble_eq_true rfl) dd_I_resize_57 (fun H locs hP hD hS => ?_)
              have hP : va_P G jcl (wI qI qD qS qC cS cC (jf_mark S9 (jf_field S9 i (4 + k)) 0) c) H := hP
              have hD : va_D A (wI qI qD qS qC cS cC (jf_mark S9 (jf_field S9 i (4 + k)) 0) c) := hD
              have hf_18 : jf_ok (jf_mark S9 (jf_field S9 i (4 + k)) 0) := jf_mark_ok (by assumption) _ _
              refine lv_aload_n hx hb dd_I_resize_60 rfl (lv_at hl 2 rfl) ?_
              refine lv_iload_n hx hb dd_I_resize_61 rfl (lv_at hl 3 rfl) ?_
              refine lv_iconst (v := nI 4) hx hb dd_I_resize_62 (by decide) ?_
              refine lv_iload hx hb dd_I_resize_63 (lv_at hl 0 rfl) ?_
              refine jl_iadd hx hb dd_I_resize_65 ?_
              refine lv_iconst (v := nI 0) hx hb dd_I_resize_66 (by decide) ?_
              refine jm_callV (wr := []) C (ct_I_putField l G qI qD qS qC cS cC (jf_mark S9 (jf_field S9 i (4 + k)) 0) c i (4 + k) 0 (by omega) (by omega)) kl_I_35 ⟨Nat.le_of_ble_eq_true rfl, Nat.le_of_ble_eq_true rfl⟩ ⟨Nat.le_of_ble_eq_true rfl, Nat.le_of_ble_eq_true rfl⟩ hP hD hS hA (hK) (va_recv hK hP (ci := 2) (q0 := 3) rfl rfl) hl.1 rfl rfl (Nat.le_of_ble_eq_true rfl) dd_I_resize_67 (fun H locs hP hD hS => ?_)
              have hP : va_P G jcl (wI qI qD qS qC cS cC (jf_putField (jf_mark S9 (jf_field S9 i (4 + k)) 0) i (4 + k) 0) c) H := hP
              have hD : va_D A (wI qI qD qS qC cS cC (jf_putField (jf_mark S9 (jf_field S9 i (4 + k)) 0) i (4 + k) 0) c) := hD
              have hf_19 : jf_ok (jf_putField (jf_mark S9 (jf_field S9 i (4 + k)) 0) i (4 + k) 0) := jf_putField_ok (by assumption) _ _ (by omega)
              refine jl_iinc (lv' := [(4, .int (nI (k + 1))), (3, .int (nI (jf_size s i))), (0, .ref qI), (1, .int (nI (i))), (2, .int (nI (z)))]) hx hb dd_I_resize_70 hl (k := 0) rfl (by decide) rfl (fun ls hl => ?_)
              refine lv_goto (tgt := 35) hx hb dd_I_resize_73 (by decide) ?_
              exact ih (k + 1) (jf_putField (jf_mark S9 (jf_field S9 i (4 + k)) 0) i (4 + k) 0) (by omega) (by assumption) (by simpa [jf_rsB, c_16] using ht) _ _ hP hD hS ls (lv_sub hl [0, 1, 2, 3, 4] rfl)
        exact loop (jf_blocksFor (jf_size s i) - jf_blocksFor z) (jf_blocksFor z) S9 (by omega) (by assumption) (by simpa [jf_rsA] using ht) _ _ hP hD hS ls (lv_sub hl [0, 1, 2, 3, 4] rfl)
      · skip
        exact absurd c_2 (by omega)
    | succ n ih =>
      intro p S9 hi hs9 ht H locs hP hD hS ls hl
      refine lv_iload hx hb dd_I_resize_9 (lv_at hl 0 rfl) ?_
      refine lv_iload_n hx hb dd_I_resize_11 rfl (lv_at hl 1 rfl) ?_
      refine jl_ge (tgt := 29) hx hb (by omega) (by omega) dd_I_resize_12 (by decide) (fun c_20 => ?_) (fun c_20 => ?_)
      · skip
        exact absurd c_20 (by omega)
      · skip
        refine lv_aload_n hx hb dd_I_resize_15 rfl (lv_at hl 2 rfl) ?_
        refine lv_iload_n hx hb dd_I_resize_16 rfl (lv_at hl 3 rfl) ?_
        refine lv_iload hx hb dd_I_resize_17 (lv_at hl 0 rfl) ?_
        refine lv_iconst (v := nI 0) hx hb dd_I_resize_19 (by decide) ?_
        refine jm_callV (wr := []) C (ct_I_putByte l G qI qD qS qC cS cC S9 c i p 0 (by omega) (by omega) (by first | assumption | (simp only [] ; assumption))) kl_I_55 ⟨Nat.le_of_ble_eq_true rfl, Nat.le_of_ble_eq_true rfl⟩ ⟨Nat.le_of_ble_eq_true rfl, Nat.le_of_ble_eq_true rfl⟩ hP hD hS hA (hK) (va_recv hK hP (ci := 2) (q0 := 3) rfl rfl) hl.1 rfl rfl (Nat.le_of_ble_eq_true rfl) dd_I_resize_20 (fun H locs hP hD hS => ?_)
        have hP : va_P G jcl (wI qI qD qS qC cS cC (jf_putByte S9 i p 0) c) H := hP
        have hD : va_D A (wI qI qD qS qC cS cC (jf_putByte S9 i p 0) c) := hD
        have hf_21 : jf_ok (jf_putByte S9 i p 0) := jf_putByte_ok (by assumption) _ _ (by omega)
        refine jl_iinc (lv' := [(4, .int (nI (p + 1))), (3, .int (nI (jf_size s i))), (0, .ref qI), (1, .int (nI (i))), (2, .int (nI (z)))]) hx hb dd_I_resize_23 hl (k := 0) rfl (by decide) rfl (fun ls hl => ?_)
        refine lv_goto (tgt := 9) hx hb dd_I_resize_26 (by decide) ?_
        exact ih (p + 1) (jf_putByte S9 i p 0) (by omega) (by assumption) (by simpa [jf_rsA, c_20] using ht) _ _ hP hD hS ls (lv_sub hl [0, 1, 2, 3, 4] rfl)
  exact loop (jf_size s i - z) z s (by omega) (by assumption) (rfl) _ _ hP hD hS ls (lv_sub hl [0, 1, 2, 3, 4] rfl)
end
section
set_option maxHeartbeats 4000000 in
set_option maxRecDepth 100000 in
theorem ct_I_vacate (l : Launch) (G : va_G) (qI qD qS qC : Nat) (cS cC : ClassId) (s c : Nat → Nat) (i : Nat) (hi0 : i < 1000) (hs : jf_ok s) : jm l yn_I_vacate (.code yn_I_vacate cd_I_vacate 2 none) { frames := 4, cells := 0, slots := 0, locals := 91 } G (tD cS cC) (wI qI qD qS qC cS cC s c) [.ref qI, .int (nI (i))] none (wI qI qD qS qC cS cC (jf_vacate s i) c) := by
  refine jm_of (by decide) (Nat.le_of_ble_eq_true rfl) ?_
  intro pr en σ mi bel met cd ls A hA C hP hK hD hS hl
  have hx := C.1
  have hb := C.2.1
  have hown := C.2.2.2.1
  have hts := C.2.2.2.2.1
  have hl : lv_has ls 2 [(0, .ref qI), (1, .int (nI (i)))] := hl
  refine lv_aload_n hx hb dd_I_vacate_0 rfl (lv_at hl 0 rfl) ?_
  refine lv_iload_n hx hb dd_I_vacate_1 rfl (lv_at hl 1 rfl) ?_
  refine lv_iconst (v := nI 0) hx hb dd_I_vacate_2 (by decide) ?_
  refine jm_callV (wr := []) C (ct_I_resize l G qI qD qS qC cS cC s c i 0 (by omega) (by omega) (by first | assumption | (simp only [] ; assumption))) kl_I_42 ⟨Nat.le_of_ble_eq_true rfl, Nat.le_of_ble_eq_true rfl⟩ ⟨Nat.le_of_ble_eq_true rfl, Nat.le_of_ble_eq_true rfl⟩ hP hD hS hA (hK) (va_recv hK hP (ci := 2) (q0 := 3) rfl rfl) hl.1 rfl rfl (Nat.le_of_ble_eq_true rfl) dd_I_vacate_3 (fun H locs hP hD hS => ?_)
  have hP : va_P G jcl (wI qI qD qS qC cS cC (jf_resize s i 0) c) H := hP
  have hD : va_D A (wI qI qD qS qC cS cC (jf_resize s i 0) c) := hD
  have hf_1 : jf_ok (jf_resize s i 0) := jf_resize_ok (by assumption) _ (by omega)
  refine lv_aload_n hx hb dd_I_vacate_6 rfl (lv_at hl 0 rfl) ?_
  refine lv_iload_n hx hb dd_I_vacate_7 rfl (lv_at hl 1 rfl) ?_
  refine lv_iconst (v := nI 0) hx hb dd_I_vacate_8 (by decide) ?_
  refine lv_iconst (v := nI 0) hx hb dd_I_vacate_9 (by decide) ?_
  refine jm_callV (wr := []) C (ct_I_putField l G qI qD qS qC cS cC (jf_resize s i 0) c i 0 0 (by omega) (by omega)) kl_I_35 ⟨Nat.le_of_ble_eq_true rfl, Nat.le_of_ble_eq_true rfl⟩ ⟨Nat.le_of_ble_eq_true rfl, Nat.le_of_ble_eq_true rfl⟩ hP hD hS hA (hK) (va_recv hK hP (ci := 2) (q0 := 3) rfl rfl) hl.1 rfl rfl (Nat.le_of_ble_eq_true rfl) dd_I_vacate_10 (fun H locs hP hD hS => ?_)
  have hP : va_P G jcl (wI qI qD qS qC cS cC (jf_putField (jf_resize s i 0) i 0 0) c) H := hP
  have hD : va_D A (wI qI qD qS qC cS cC (jf_putField (jf_resize s i 0) i 0 0) c) := hD
  have hf_2 : jf_ok (jf_putField (jf_resize s i 0) i 0 0) := jf_putField_ok (by assumption) _ _ (by omega)
  refine lv_aload_n hx hb dd_I_vacate_13 rfl (lv_at hl 0 rfl) ?_
  refine lv_iload_n hx hb dd_I_vacate_14 rfl (lv_at hl 1 rfl) ?_
  refine lv_iconst (v := nI 2) hx hb dd_I_vacate_15 (by decide) ?_
  refine lv_iconst (v := nI 0) hx hb dd_I_vacate_16 (by decide) ?_
  refine jm_callV (wr := []) C (ct_I_putField l G qI qD qS qC cS cC (jf_putField (jf_resize s i 0) i 0 0) c i 2 0 (by omega) (by omega)) kl_I_35 ⟨Nat.le_of_ble_eq_true rfl, Nat.le_of_ble_eq_true rfl⟩ ⟨Nat.le_of_ble_eq_true rfl, Nat.le_of_ble_eq_true rfl⟩ hP hD hS hA (hK) (va_recv hK hP (ci := 2) (q0 := 3) rfl rfl) hl.1 rfl rfl (Nat.le_of_ble_eq_true rfl) dd_I_vacate_17 (fun H locs hP hD hS => ?_)
  have hP : va_P G jcl (wI qI qD qS qC cS cC (jf_putField (jf_putField (jf_resize s i 0) i 0 0) i 2 0) c) H := hP
  have hD : va_D A (wI qI qD qS qC cS cC (jf_putField (jf_putField (jf_resize s i 0) i 0 0) i 2 0) c) := hD
  have hf_3 : jf_ok (jf_putField (jf_putField (jf_resize s i 0) i 0 0) i 2 0) := jf_putField_ok (by assumption) _ _ (by omega)
  have he : wI qI qD qS qC cS cC (jf_putField (jf_putField (jf_resize s i 0) i 0 0) i 2 0) c = wI qI qD qS qC cS cC (jf_vacate s i) c := by first | with_reducible rfl | (simp [jf_vacate]; done)
  rw [he] at hP hD
  exact jm_retv C hP hD hK hS ⟨Nat.le_of_ble_eq_true rfl, Nat.le_of_ble_eq_true rfl⟩ dd_I_vacate_20
set_option maxHeartbeats 4000000 in
set_option maxRecDepth 100000 in
theorem ct_I_entryName (l : Launch) (G : va_G) (qI qD qS qC : Nat) (cS cC : ClassId) (s c : Nat → Nat) (d : Nat) (e : Nat) (hd0 : d < 1000) (he0 : e < 100000) (hs : jf_ok s) : jr l yn_I_entryName (.code yn_I_entryName cd_I_entryName 3 (some .int)) { frames := 3, cells := 0, slots := 0, locals := 66 } G (tD cS cC) (wI qI qD qS qC cS cC s c) [.ref qI, .int (nI (d)), .int (nI (e))] (nI (jf_entryName s d e)) := by
  refine jr_of (by decide) (Nat.le_of_ble_eq_true rfl) ?_
  intro pr en σ mi bel met cd ls C hP hK hl
  have hx := C.1
  have hb := C.2.1
  have hown := C.2.2.2.1
  have hts := C.2.2.2.2.1
  have hl : lv_has ls 3 [(0, .ref qI), (1, .int (nI (d))), (2, .int (nI (e)))] := hl
  refine lv_aload_n hx hb dd_I_entryName_0 rfl (lv_at hl 0 rfl) ?_
  refine lv_iload_n hx hb dd_I_entryName_1 rfl (lv_at hl 1 rfl) ?_
  refine lv_iload_n hx hb dd_I_entryName_2 rfl (lv_at hl 2 rfl) ?_
  refine lv_iconst (v := nI 2) hx hb dd_I_entryName_3 (by decide) ?_
  refine jl_imul hx hb dd_I_entryName_4 ?_
  refine jr_callV C (ct_I_byteOf l G qI qD qS qC cS cC s c d (e * 2) (by omega) (by omega) (by first | assumption | (simp only [] ; assumption))) kl_I_65 ⟨Nat.le_of_ble_eq_true rfl, Nat.le_of_ble_eq_true rfl, rfl, rfl⟩ ⟨Nat.le_of_ble_eq_true rfl, Nat.le_of_ble_eq_true rfl⟩ (hP) (hK) (va_recv hK hP (ci := 2) (q0 := 3) rfl rfl) hl.1 rfl rfl (Nat.le_of_ble_eq_true rfl) dd_I_entryName_5 ?_
  have hf_1 : jf_byteOf s d (e * 2) < 256 := jf_get_lt (by assumption) _
  exact jr_ret C (by first | with_reducible rfl | (simp [jf_entryName]; done) | (simp_all [jf_entryName]; done)) dd_I_entryName_8
set_option maxHeartbeats 4000000 in
set_option maxRecDepth 100000 in
theorem ct_I_entryInode (l : Launch) (G : va_G) (qI qD qS qC : Nat) (cS cC : ClassId) (s c : Nat → Nat) (d : Nat) (e : Nat) (hd0 : d < 1000) (he0 : e < 100000) (hs : jf_ok s) : jr l yn_I_entryInode (.code yn_I_entryInode cd_I_entryInode 3 (some .int)) { frames := 3, cells := 0, slots := 0, locals := 66 } G (tD cS cC) (wI qI qD qS qC cS cC s c) [.ref qI, .int (nI (d)), .int (nI (e))] (nI (jf_entryInode s d e)) := by
  refine jr_of (by decide) (Nat.le_of_ble_eq_true rfl) ?_
  intro pr en σ mi bel met cd ls C hP hK hl
  have hx := C.1
  have hb := C.2.1
  have hown := C.2.2.2.1
  have hts := C.2.2.2.2.1
  have hl : lv_has ls 3 [(0, .ref qI), (1, .int (nI (d))), (2, .int (nI (e)))] := hl
  refine lv_aload_n hx hb dd_I_entryInode_0 rfl (lv_at hl 0 rfl) ?_
  refine lv_iload_n hx hb dd_I_entryInode_1 rfl (lv_at hl 1 rfl) ?_
  refine lv_iload_n hx hb dd_I_entryInode_2 rfl (lv_at hl 2 rfl) ?_
  refine lv_iconst (v := nI 2) hx hb dd_I_entryInode_3 (by decide) ?_
  refine jl_imul hx hb dd_I_entryInode_4 ?_
  refine lv_iconst (v := nI 1) hx hb dd_I_entryInode_5 (by decide) ?_
  refine jl_iadd hx hb dd_I_entryInode_6 ?_
  refine jr_callV C (ct_I_byteOf l G qI qD qS qC cS cC s c d ((e * 2) + 1) (by omega) (by omega) (by first | assumption | (simp only [] ; assumption))) kl_I_65 ⟨Nat.le_of_ble_eq_true rfl, Nat.le_of_ble_eq_true rfl, rfl, rfl⟩ ⟨Nat.le_of_ble_eq_true rfl, Nat.le_of_ble_eq_true rfl⟩ (hP) (hK) (va_recv hK hP (ci := 2) (q0 := 3) rfl rfl) hl.1 rfl rfl (Nat.le_of_ble_eq_true rfl) dd_I_entryInode_7 ?_
  have hf_1 : jf_byteOf s d ((e * 2) + 1) < 256 := jf_get_lt (by assumption) _
  exact jr_ret C (by first | with_reducible rfl | (simp [jf_entryInode]; done) | (simp_all [jf_entryInode]; done)) dd_I_entryInode_10
set_option maxHeartbeats 4000000 in
set_option maxRecDepth 100000 in
theorem ct_I_putEntry (l : Launch) (G : va_G) (qI qD qS qC : Nat) (cS cC : ClassId) (s c : Nat → Nat) (d : Nat) (e : Nat) (nm : Nat) (i : Nat) (hd0 : d < 1000) (he0 : e < 100000) (hn0 : nm < 256) (hi0 : i < 256) (hs : jf_ok s) : jm l yn_I_putEntry (.code yn_I_putEntry cd_I_putEntry 5 none) { frames := 3, cells := 0, slots := 0, locals := 67 } G (tD cS cC) (wI qI qD qS qC cS cC s c) [.ref qI, .int (nI (d)), .int (nI (e)), .int (nI (nm)), .int (nI (i))] none (wI qI qD qS qC cS cC (jf_putEntry s d e nm i) c) := by
  refine jm_of (by decide) (Nat.le_of_ble_eq_true rfl) ?_
  intro pr en σ mi bel met cd ls A hA C hP hK hD hS hl
  have hx := C.1
  have hb := C.2.1
  have hown := C.2.2.2.1
  have hts := C.2.2.2.2.1
  have hl : lv_has ls 5 [(0, .ref qI), (1, .int (nI (d))), (2, .int (nI (e))), (3, .int (nI (nm))), (4, .int (nI (i)))] := hl
  refine lv_aload_n hx hb dd_I_putEntry_0 rfl (lv_at hl 0 rfl) ?_
  refine lv_iload_n hx hb dd_I_putEntry_1 rfl (lv_at hl 1 rfl) ?_
  refine lv_iload_n hx hb dd_I_putEntry_2 rfl (lv_at hl 2 rfl) ?_
  refine lv_iconst (v := nI 2) hx hb dd_I_putEntry_3 (by decide) ?_
  refine jl_imul hx hb dd_I_putEntry_4 ?_
  refine lv_iload_n hx hb dd_I_putEntry_5 rfl (lv_at hl 3 rfl) ?_
  refine jm_callV (wr := []) C (ct_I_putByte l G qI qD qS qC cS cC s c d (e * 2) nm (by omega) (by omega) (by first | assumption | (simp only [] ; assumption))) kl_I_55 ⟨Nat.le_of_ble_eq_true rfl, Nat.le_of_ble_eq_true rfl⟩ ⟨Nat.le_of_ble_eq_true rfl, Nat.le_of_ble_eq_true rfl⟩ hP hD hS hA (hK) (va_recv hK hP (ci := 2) (q0 := 3) rfl rfl) hl.1 rfl rfl (Nat.le_of_ble_eq_true rfl) dd_I_putEntry_6 (fun H locs hP hD hS => ?_)
  have hP : va_P G jcl (wI qI qD qS qC cS cC (jf_putByte s d (e * 2) nm) c) H := hP
  have hD : va_D A (wI qI qD qS qC cS cC (jf_putByte s d (e * 2) nm) c) := hD
  have hf_1 : jf_ok (jf_putByte s d (e * 2) nm) := jf_putByte_ok (by assumption) _ _ (by omega)
  refine lv_aload_n hx hb dd_I_putEntry_9 rfl (lv_at hl 0 rfl) ?_
  refine lv_iload_n hx hb dd_I_putEntry_10 rfl (lv_at hl 1 rfl) ?_
  refine lv_iload_n hx hb dd_I_putEntry_11 rfl (lv_at hl 2 rfl) ?_
  refine lv_iconst (v := nI 2) hx hb dd_I_putEntry_12 (by decide) ?_
  refine jl_imul hx hb dd_I_putEntry_13 ?_
  refine lv_iconst (v := nI 1) hx hb dd_I_putEntry_14 (by decide) ?_
  refine jl_iadd hx hb dd_I_putEntry_15 ?_
  refine lv_iload hx hb dd_I_putEntry_16 (lv_at hl 4 rfl) ?_
  refine jm_callV (wr := []) C (ct_I_putByte l G qI qD qS qC cS cC (jf_putByte s d (e * 2) nm) c d ((e * 2) + 1) i (by omega) (by omega) (by first | assumption | (simp only [] ; assumption))) kl_I_55 ⟨Nat.le_of_ble_eq_true rfl, Nat.le_of_ble_eq_true rfl⟩ ⟨Nat.le_of_ble_eq_true rfl, Nat.le_of_ble_eq_true rfl⟩ hP hD hS hA (hK) (va_recv hK hP (ci := 2) (q0 := 3) rfl rfl) hl.1 rfl rfl (Nat.le_of_ble_eq_true rfl) dd_I_putEntry_18 (fun H locs hP hD hS => ?_)
  have hP : va_P G jcl (wI qI qD qS qC cS cC (jf_putByte (jf_putByte s d (e * 2) nm) d ((e * 2) + 1) i) c) H := hP
  have hD : va_D A (wI qI qD qS qC cS cC (jf_putByte (jf_putByte s d (e * 2) nm) d ((e * 2) + 1) i) c) := hD
  have hf_2 : jf_ok (jf_putByte (jf_putByte s d (e * 2) nm) d ((e * 2) + 1) i) := jf_putByte_ok (by assumption) _ _ (by omega)
  have he : wI qI qD qS qC cS cC (jf_putByte (jf_putByte s d (e * 2) nm) d ((e * 2) + 1) i) c = wI qI qD qS qC cS cC (jf_putEntry s d e nm i) c := by first | with_reducible rfl | (simp [jf_putEntry]; done)
  rw [he] at hP hD
  exact jm_retv C hP hD hK hS ⟨Nat.le_of_ble_eq_true rfl, Nat.le_of_ble_eq_true rfl⟩ dd_I_putEntry_21
end
section
set_option maxHeartbeats 4000000 in
set_option maxRecDepth 100000 in
theorem ct_I_findEntry (l : Launch) (G : va_G) (qI qD qS qC : Nat) (cS cC : ClassId) (s c : Nat → Nat) (d : Nat) (nm : Nat) (hd0 : d < 1000) (hn0 : nm < 256) (hs : jf_ok s) : jr l yn_I_findEntry (.code yn_I_findEntry cd_I_findEntry 5 (some .int)) { frames := 4, cells := 0, slots := 0, locals := 85 } G (tD cS cC) (wI qI qD qS qC cS cC s c) [.ref qI, .int (nI (d)), .int (nI (nm))] (jo (jf_findEntry s d nm)) := by
  refine jr_of (by decide) (Nat.le_of_ble_eq_true rfl) ?_
  intro pr en σ mi bel met cd ls C hP hK hl
  have hx := C.1
  have hb := C.2.1
  have hown := C.2.2.2.1
  have hts := C.2.2.2.2.1
  have hl : lv_has ls 5 [(0, .ref qI), (1, .int (nI (d))), (2, .int (nI (nm)))] := hl
  refine lv_aload_n hx hb dd_I_findEntry_0 rfl (lv_at hl 0 rfl) ?_
  refine lv_iload_n hx hb dd_I_findEntry_1 rfl (lv_at hl 1 rfl) ?_
  refine jr_callV C (ct_I_entries l G qI qD qS qC cS cC s c d (by omega) (by first | assumption | (simp only [] ; assumption))) kl_I_68 ⟨Nat.le_of_ble_eq_true rfl, Nat.le_of_ble_eq_true rfl, rfl, rfl⟩ ⟨Nat.le_of_ble_eq_true rfl, Nat.le_of_ble_eq_true rfl⟩ (hP) (hK) (va_recv hK hP (ci := 2) (q0 := 3) rfl rfl) hl.1 rfl rfl (Nat.le_of_ble_eq_true rfl) dd_I_findEntry_2 ?_
  have hf_1 : jf_entries s d < 128 := jf_entries_lt (by assumption) _
  refine lv_istore_n (lv' := [(3, .int (nI (jf_entries s d))), (0, .ref qI), (1, .int (nI (d))), (2, .int (nI (nm)))]) hx hb dd_I_findEntry_5 rfl hl (by decide) rfl (fun ls hl => ?_)
  refine lv_iconst (v := nI 0) hx hb dd_I_findEntry_6 (by decide) ?_
  refine lv_istore (lv' := [(4, .int (nI (0))), (3, .int (nI (jf_entries s d))), (0, .ref qI), (1, .int (nI (d))), (2, .int (nI (nm)))]) hx hb dd_I_findEntry_7 hl (by decide) rfl (fun ls hl => ?_)
  have loop : ∀ (n : Nat) (e : Nat), (e + n = jf_entries s d) → jf_feL s d nm n e = jf_findEntry s d nm → ∀ ls : Array Slot, lv_has ls 5 [(4, .int (nI (e))), (3, .int (nI (jf_entries s d))), (0, .ref qI), (1, .int (nI (d))), (2, .int (nI (nm)))] → W pr l en { frames := 4, cells := 0, slots := 0, locals := 85 } σ mi ([.ref qI, .int (nI (d)), .int (nI (nm))] : List Value).toArray bel met cd σ.heap [] 0 0 (jr_Q bel [.ref qI, .int (nI (d)), .int (nI (nm))] σ (jo (jf_findEntry s d nm))) (F0 mi 9 ls []) := by
    intro n
    induction n with
    | zero =>
      intro e hi  ht ls hl
      refine lv_iload hx hb dd_I_findEntry_9 (lv_at hl 0 rfl) ?_
      refine lv_iload_n hx hb dd_I_findEntry_11 rfl (lv_at hl 1 rfl) ?_
      refine jl_ge (tgt := 37) hx hb (by omega) (by omega) dd_I_findEntry_12 (by decide) (fun c_2 => ?_) (fun c_2 => ?_)
      · skip
        refine lv_iconst (v := -1) hx hb dd_I_findEntry_37 (by decide) ?_
        exact jr_ret C (by rw [← ht]; first | with_reducible rfl | (simp [jf_feL, jo, c_2]; done)) dd_I_findEntry_38
      · skip
        exact absurd c_2 (by omega)
    | succ n ih =>
      intro e hi  ht ls hl
      refine lv_iload hx hb dd_I_findEntry_9 (lv_at hl 0 rfl) ?_
      refine lv_iload_n hx hb dd_I_findEntry_11 rfl (lv_at hl 1 rfl) ?_
      refine jl_ge (tgt := 37) hx hb (by omega) (by omega) dd_I_findEntry_12 (by decide) (fun c_3 => ?_) (fun c_3 => ?_)
      · skip
        exact absurd c_3 (by omega)
      · skip
        refine lv_aload_n hx hb dd_I_findEntry_15 rfl (lv_at hl 2 rfl) ?_
        refine lv_iload_n hx hb dd_I_findEntry_16 rfl (lv_at hl 3 rfl) ?_
        refine lv_iload hx hb dd_I_findEntry_17 (lv_at hl 0 rfl) ?_
        refine lv_iconst (v := nI 2) hx hb dd_I_findEntry_19 (by decide) ?_
        refine jl_imul hx hb dd_I_findEntry_20 ?_
        refine jr_callV C (ct_I_byteOf l G qI qD qS qC cS cC s c d (e * 2) (by omega) (by omega) (by first | assumption | (simp only [] ; assumption))) kl_I_65 ⟨Nat.le_of_ble_eq_true rfl, Nat.le_of_ble_eq_true rfl, rfl, rfl⟩ ⟨Nat.le_of_ble_eq_true rfl, Nat.le_of_ble_eq_true rfl⟩ (hP) (hK) (va_recv hK hP (ci := 2) (q0 := 3) rfl rfl) hl.1 rfl rfl (Nat.le_of_ble_eq_true rfl) dd_I_findEntry_21 ?_
        have hf_4 : jf_byteOf s d (e * 2) < 256 := jf_get_lt (by assumption) _
        refine lv_iload_n hx hb dd_I_findEntry_24 rfl (lv_at hl 4 rfl) ?_
        refine jl_ne (tgt := 31) hx hb (by omega) (by omega) dd_I_findEntry_25 (by decide) (fun c_5 => ?_) (fun c_5 => ?_)
        · skip
          refine jl_iinc (lv' := [(4, .int (nI (e + 1))), (3, .int (nI (jf_entries s d))), (0, .ref qI), (1, .int (nI (d))), (2, .int (nI (nm)))]) hx hb dd_I_findEntry_31 hl (k := 0) rfl (by decide) rfl (fun ls hl => ?_)
          refine lv_goto (tgt := 9) hx hb dd_I_findEntry_34 (by decide) ?_
          exact ih (e + 1) (by omega) (by simpa [jf_feL, jo, c_3, c_5] using ht) ls (lv_sub hl [0, 1, 2, 3, 4] rfl)
        · skip
          refine lv_iload hx hb dd_I_findEntry_28 (lv_at hl 0 rfl) ?_
          exact jr_ret C (by rw [← ht]; first | with_reducible rfl | (simp [jf_feL, jo, c_3, c_5]; done)) dd_I_findEntry_30
  exact loop (jf_entries s d) 0 (by omega) (rfl) ls (lv_sub hl [0, 1, 2, 3, 4] rfl)
set_option maxHeartbeats 4000000 in
set_option maxRecDepth 100000 in
theorem ct_I_hasRoomForEntry (l : Launch) (G : va_G) (qI qD qS qC : Nat) (cS cC : ClassId) (s c : Nat → Nat) (d : Nat) (hd0 : d < 1000) (hs : jf_ok s) : jr l yn_I_hasRoomForEntry (.code yn_I_hasRoomForEntry cd_I_hasRoomForEntry 3 (some .boolean)) { frames := 4, cells := 0, slots := 0, locals := 85 } G (tD cS cC) (wI qI qD qS qC cS cC s c) [.ref qI, .int (nI (d))] (nI (jf_hasRoomForEntry s d)) := by
  refine jr_of (by decide) (Nat.le_of_ble_eq_true rfl) ?_
  intro pr en σ mi bel met cd ls C hP hK hl
  have hx := C.1
  have hb := C.2.1
  have hown := C.2.2.2.1
  have hts := C.2.2.2.2.1
  have hl : lv_has ls 3 [(0, .ref qI), (1, .int (nI (d)))] := hl
  refine lv_aload_n hx hb dd_I_hasRoomForEntry_0 rfl (lv_at hl 0 rfl) ?_
  refine lv_iload_n hx hb dd_I_hasRoomForEntry_1 rfl (lv_at hl 1 rfl) ?_
  refine jr_callV C (ct_I_entries l G qI qD qS qC cS cC s c d (by omega) (by first | assumption | (simp only [] ; assumption))) kl_I_68 ⟨Nat.le_of_ble_eq_true rfl, Nat.le_of_ble_eq_true rfl, rfl, rfl⟩ ⟨Nat.le_of_ble_eq_true rfl, Nat.le_of_ble_eq_true rfl⟩ (hP) (hK) (va_recv hK hP (ci := 2) (q0 := 3) rfl rfl) hl.1 rfl rfl (Nat.le_of_ble_eq_true rfl) dd_I_hasRoomForEntry_2 ?_
  have hf_1 : jf_entries s d < 128 := jf_entries_lt (by assumption) _
  refine lv_istore_n (lv' := [(2, .int (nI (jf_entries s d))), (0, .ref qI), (1, .int (nI (d)))]) hx hb dd_I_hasRoomForEntry_5 rfl hl (by decide) rfl (fun ls hl => ?_)
  refine lv_iload_n hx hb dd_I_hasRoomForEntry_6 rfl (lv_at hl 0 rfl) ?_
  refine lv_bipush (v := nI 16) hx hb dd_I_hasRoomForEntry_7 (by decide) ?_
  refine jl_ge (tgt := 33) hx hb (by omega) (by omega) dd_I_hasRoomForEntry_9 (by decide) (fun c_2 => ?_) (fun c_2 => ?_)
  · skip
    refine lv_iconst (v := nI 0) hx hb dd_I_hasRoomForEntry_33 (by decide) ?_
    exact jr_retz C (by decide) (by first | with_reducible rfl | (simp [jf_hasRoomForEntry, c_2]; done) | (simp_all [jf_hasRoomForEntry]; done)) dd_I_hasRoomForEntry_34
  · skip
    refine lv_iload_n hx hb dd_I_hasRoomForEntry_12 rfl (lv_at hl 0 rfl) ?_
    refine jr_callS0 C (ct_I_startsBlock l G (jf_entries s d) (by omega)) kl_I_71 ⟨Nat.le_of_ble_eq_true rfl, Nat.le_of_ble_eq_true rfl, rfl, rfl⟩ ⟨Nat.le_of_ble_eq_true rfl, Nat.le_of_ble_eq_true rfl⟩ hK hl.1 rfl rfl (Nat.le_of_ble_eq_true rfl) dd_I_hasRoomForEntry_13 ?_
    have hf_3 : jf_startsBlock (jf_entries s d) < 2 := by unfold jf_startsBlock; split <;> decide
    refine jl_ifeq (tgt := 29) hx hb (by omega) dd_I_hasRoomForEntry_16 (by decide) (fun c_4 => ?_) (fun c_4 => ?_)
    · skip
      refine lv_iconst (v := nI 1) hx hb dd_I_hasRoomForEntry_29 (by decide) ?_
      refine lv_goto (tgt := 34) hx hb dd_I_hasRoomForEntry_30 (by decide) ?_
      exact jr_retz C (by decide) (by first | with_reducible rfl | (simp [jf_hasRoomForEntry, c_2, c_4]; done) | (simp_all [jf_hasRoomForEntry]; done)) dd_I_hasRoomForEntry_34
    · skip
      refine lv_aload_n hx hb dd_I_hasRoomForEntry_19 rfl (lv_at hl 1 rfl) ?_
      refine va_get (D := G) (ci := 2) (v := .ref qD) (C := cn_I) (T := ft_I) (N := 1) hx hb hts uw_I hown hK hP 3 rfl rfl 0 (by decide) (hts _ tw_55) (fun _ h9 => h9) rfl dd_I_hasRoomForEntry_20 ?_
      refine jr_callV C (ct_D_freeBlocks l G qD qS qC cS cC s c  (by first | assumption | (simp only [] ; assumption))) kl_I_51 ⟨Nat.le_of_ble_eq_true rfl, Nat.le_of_ble_eq_true rfl, rfl, rfl⟩ ⟨Nat.le_of_ble_eq_true rfl, Nat.le_of_ble_eq_true rfl⟩ (jw_left hP) (hK) (va_recv hK hP (ci := 0) (q0 := 0) rfl rfl) hl.1 rfl rfl (Nat.le_of_ble_eq_true rfl) dd_I_hasRoomForEntry_23 ?_
      have hf_5 : jf_free s < 32 := jf_free_lt _
      refine jl_ifle (tgt := 33) hx hb (by omega) dd_I_hasRoomForEntry_26 (by decide) (fun c_6 => ?_) (fun c_6 => ?_)
      · skip
        refine lv_iconst (v := nI 0) hx hb dd_I_hasRoomForEntry_33 (by decide) ?_
        exact jr_retz C (by decide) (by first | with_reducible rfl | (simp [jf_hasRoomForEntry, c_2, c_4, c_6]; done) | (simp_all [jf_hasRoomForEntry]; done)) dd_I_hasRoomForEntry_34
      · skip
        refine lv_iconst (v := nI 1) hx hb dd_I_hasRoomForEntry_29 (by decide) ?_
        refine lv_goto (tgt := 34) hx hb dd_I_hasRoomForEntry_30 (by decide) ?_
        exact jr_retz C (by decide) (by first | with_reducible rfl | (simp [jf_hasRoomForEntry, c_2, c_4, c_6]; done) | (simp_all [jf_hasRoomForEntry]; done)) dd_I_hasRoomForEntry_34
set_option maxHeartbeats 4000000 in
set_option maxRecDepth 100000 in
theorem ct_I_addEntry (l : Launch) (G : va_G) (qI qD qS qC : Nat) (cS cC : ClassId) (s c : Nat → Nat) (d : Nat) (nm : Nat) (i : Nat) (hd0 : d < 1000) (hn0 : nm < 256) (hi0 : i < 256) (he0 : jf_entries s d < 127) (hs : jf_ok s) : jm l yn_I_addEntry (.code yn_I_addEntry cd_I_addEntry 5 none) { frames := 4, cells := 0, slots := 0, locals := 91 } G (tD cS cC) (wI qI qD qS qC cS cC s c) [.ref qI, .int (nI (d)), .int (nI (nm)), .int (nI (i))] none (wI qI qD qS qC cS cC (jf_addEntry s d nm i) c) := by
  refine jm_of (by decide) (Nat.le_of_ble_eq_true rfl) ?_
  intro pr en σ mi bel met cd ls A hA C hP hK hD hS hl
  have hx := C.1
  have hb := C.2.1
  have hown := C.2.2.2.1
  have hts := C.2.2.2.2.1
  have hl : lv_has ls 5 [(0, .ref qI), (1, .int (nI (d))), (2, .int (nI (nm))), (3, .int (nI (i)))] := hl
  refine lv_aload_n hx hb dd_I_addEntry_0 rfl (lv_at hl 0 rfl) ?_
  refine lv_iload_n hx hb dd_I_addEntry_1 rfl (lv_at hl 1 rfl) ?_
  refine jr_callV C (ct_I_entries l G qI qD qS qC cS cC s c d (by omega) (by first | assumption | (simp only [] ; assumption))) kl_I_68 ⟨Nat.le_of_ble_eq_true rfl, Nat.le_of_ble_eq_true rfl, rfl, rfl⟩ ⟨Nat.le_of_ble_eq_true rfl, Nat.le_of_ble_eq_true rfl⟩ (hP) (hK) (va_recv hK hP (ci := 2) (q0 := 3) rfl rfl) hl.1 rfl rfl (Nat.le_of_ble_eq_true rfl) dd_I_addEntry_2 ?_
  have hf_1 : jf_entries s d < 128 := jf_entries_lt (by assumption) _
  refine lv_istore (lv' := [(4, .int (nI (jf_entries s d))), (0, .ref qI), (1, .int (nI (d))), (2, .int (nI (nm))), (3, .int (nI (i)))]) hx hb dd_I_addEntry_5 hl (by decide) rfl (fun ls hl => ?_)
  refine lv_aload_n hx hb dd_I_addEntry_7 rfl (lv_at hl 1 rfl) ?_
  refine lv_iload_n hx hb dd_I_addEntry_8 rfl (lv_at hl 2 rfl) ?_
  refine lv_iload hx hb dd_I_addEntry_9 (lv_at hl 0 rfl) ?_
  refine lv_iconst (v := nI 1) hx hb dd_I_addEntry_11 (by decide) ?_
  refine jl_iadd hx hb dd_I_addEntry_12 ?_
  refine lv_iconst (v := nI 2) hx hb dd_I_addEntry_13 (by decide) ?_
  refine jl_imul hx hb dd_I_addEntry_14 ?_
  refine jm_callV (wr := []) C (ct_I_resize l G qI qD qS qC cS cC s c d (((jf_entries s d) + 1) * 2) (by omega) (by omega) (by first | assumption | (simp only [] ; assumption))) kl_I_42 ⟨Nat.le_of_ble_eq_true rfl, Nat.le_of_ble_eq_true rfl⟩ ⟨Nat.le_of_ble_eq_true rfl, Nat.le_of_ble_eq_true rfl⟩ hP hD hS hA (hK) (va_recv hK hP (ci := 2) (q0 := 3) rfl rfl) hl.1 rfl rfl (Nat.le_of_ble_eq_true rfl) dd_I_addEntry_15 (fun H locs hP hD hS => ?_)
  have hP : va_P G jcl (wI qI qD qS qC cS cC (jf_resize s d (((jf_entries s d) + 1) * 2)) c) H := hP
  have hD : va_D A (wI qI qD qS qC cS cC (jf_resize s d (((jf_entries s d) + 1) * 2)) c) := hD
  have hf_2 : jf_ok (jf_resize s d (((jf_entries s d) + 1) * 2)) := jf_resize_ok (by assumption) _ (by omega)
  refine lv_aload_n hx hb dd_I_addEntry_18 rfl (lv_at hl 1 rfl) ?_
  refine lv_iload_n hx hb dd_I_addEntry_19 rfl (lv_at hl 2 rfl) ?_
  refine lv_iload hx hb dd_I_addEntry_20 (lv_at hl 0 rfl) ?_
  refine lv_iload_n hx hb dd_I_addEntry_22 rfl (lv_at hl 3 rfl) ?_
  refine lv_iload_n hx hb dd_I_addEntry_23 rfl (lv_at hl 4 rfl) ?_
  refine jm_callV (wr := []) C (ct_I_putEntry l G qI qD qS qC cS cC (jf_resize s d (((jf_entries s d) + 1) * 2)) c d (jf_entries s d) nm i (by omega) (by omega) (by omega) (by omega) (by first | assumption | (simp only [] ; assumption))) kl_I_75 ⟨Nat.le_of_ble_eq_true rfl, Nat.le_of_ble_eq_true rfl⟩ ⟨Nat.le_of_ble_eq_true rfl, Nat.le_of_ble_eq_true rfl⟩ hP hD hS hA (hK) (va_recv hK hP (ci := 2) (q0 := 3) rfl rfl) hl.1 rfl rfl (Nat.le_of_ble_eq_true rfl) dd_I_addEntry_24 (fun H locs hP hD hS => ?_)
  have hP : va_P G jcl (wI qI qD qS qC cS cC (jf_putEntry (jf_resize s d (((jf_entries s d) + 1) * 2)) d (jf_entries s d) nm i) c) H := hP
  have hD : va_D A (wI qI qD qS qC cS cC (jf_putEntry (jf_resize s d (((jf_entries s d) + 1) * 2)) d (jf_entries s d) nm i) c) := hD
  have hf_3 : jf_ok (jf_putEntry (jf_resize s d (((jf_entries s d) + 1) * 2)) d (jf_entries s d) nm i) := jf_putEntry_ok (by assumption) _ _ (by omega) (by omega)
  have he : wI qI qD qS qC cS cC (jf_putEntry (jf_resize s d (((jf_entries s d) + 1) * 2)) d (jf_entries s d) nm i) c = wI qI qD qS qC cS cC (jf_addEntry s d nm i) c := by first | with_reducible rfl | (simp [jf_addEntry]; done)
  rw [he] at hP hD
  exact jm_retv C hP hD hK hS ⟨Nat.le_of_ble_eq_true rfl, Nat.le_of_ble_eq_true rfl⟩ dd_I_addEntry_27
set_option maxHeartbeats 4000000 in
set_option maxRecDepth 100000 in
theorem ct_I_redirectEntry (l : Launch) (G : va_G) (qI qD qS qC : Nat) (cS cC : ClassId) (s c : Nat → Nat) (d : Nat) (nm : Nat) (i : Nat) (hd0 : d < 1000) (hn0 : nm < 256) (hi0 : i < 256) (hs : jf_ok s) : jm l yn_I_redirectEntry (.code yn_I_redirectEntry cd_I_redirectEntry 5 none) { frames := 5, cells := 0, slots := 0, locals := 109 } G (tD cS cC) (wI qI qD qS qC cS cC s c) [.ref qI, .int (nI (d)), .int (nI (nm)), .int (nI (i))] none (wI qI qD qS qC cS cC (jf_redirect s d nm i) c) := by
  refine jm_of (by decide) (Nat.le_of_ble_eq_true rfl) ?_
  intro pr en σ mi bel met cd ls A hA C hP hK hD hS hl
  have hx := C.1
  have hb := C.2.1
  have hown := C.2.2.2.1
  have hts := C.2.2.2.2.1
  have hl : lv_has ls 5 [(0, .ref qI), (1, .int (nI (d))), (2, .int (nI (nm))), (3, .int (nI (i)))] := hl
  refine lv_aload_n hx hb dd_I_redirectEntry_0 rfl (lv_at hl 0 rfl) ?_
  refine lv_iload_n hx hb dd_I_redirectEntry_1 rfl (lv_at hl 1 rfl) ?_
  refine lv_iload_n hx hb dd_I_redirectEntry_2 rfl (lv_at hl 2 rfl) ?_
  refine jr_callV C (ct_I_findEntry l G qI qD qS qC cS cC s c d nm (by omega) (by omega) (by first | assumption | (simp only [] ; assumption))) kl_I_79 ⟨Nat.le_of_ble_eq_true rfl, Nat.le_of_ble_eq_true rfl, rfl, rfl⟩ ⟨Nat.le_of_ble_eq_true rfl, Nat.le_of_ble_eq_true rfl⟩ (hP) (hK) (va_recv hK hP (ci := 2) (q0 := 3) rfl rfl) hl.1 rfl rfl (Nat.le_of_ble_eq_true rfl) dd_I_redirectEntry_3 ?_
  have hf_1 : jf_entries s d < 128 := jf_entries_lt (by assumption) _
  refine lv_istore (lv' := [(4, .int (jo (jf_findEntry s d nm))), (0, .ref qI), (1, .int (nI (d))), (2, .int (nI (nm))), (3, .int (nI (i)))]) hx hb dd_I_redirectEntry_6 hl (by decide) rfl (fun ls hl => ?_)
  refine lv_iload hx hb dd_I_redirectEntry_8 (lv_at hl 0 rfl) ?_
  refine lv_iconst (v := -1) hx hb dd_I_redirectEntry_10 (by decide) ?_
  refine jl_eqO (tgt := 23) hx hb (fun j h => Nat.lt_of_lt_of_le (jf_findEntry_lt h) (by omega)) dd_I_redirectEntry_11 (by decide) (fun hj_3 => ?_) (fun j_3 hj_3 => ?_)
  · skip
    have he : wI qI qD qS qC cS cC s c = wI qI qD qS qC cS cC (jf_redirect s d nm i) c := by first | with_reducible rfl | (simp [jf_redirect, hj_3]; done)
    rw [he] at hP hD
    exact jm_retv C hP hD hK hS ⟨Nat.le_of_ble_eq_true rfl, Nat.le_of_ble_eq_true rfl⟩ dd_I_redirectEntry_23
  · skip
    have ho_4 := jf_findEntry_lt hj_3
    have hl : lv_has ls 5 [(4, .int (nI (j_3))), (0, .ref qI), (1, .int (nI (d))), (2, .int (nI (nm))), (3, .int (nI (i)))] := by rw [hj_3] at hl; exact hl
    refine lv_aload_n hx hb dd_I_redirectEntry_14 rfl (lv_at hl 1 rfl) ?_
    refine lv_iload_n hx hb dd_I_redirectEntry_15 rfl (lv_at hl 2 rfl) ?_
    refine lv_iload hx hb dd_I_redirectEntry_16 (lv_at hl 0 rfl) ?_
    refine lv_iload_n hx hb dd_I_redirectEntry_18 rfl (lv_at hl 3 rfl) ?_
    refine lv_iload_n hx hb dd_I_redirectEntry_19 rfl (lv_at hl 4 rfl) ?_
    refine jm_callV (wr := []) C (ct_I_putEntry l G qI qD qS qC cS cC s c d j_3 nm i (by omega) (by omega) (by omega) (by omega) (by first | assumption | (simp only [] ; assumption))) kl_I_75 ⟨Nat.le_of_ble_eq_true rfl, Nat.le_of_ble_eq_true rfl⟩ ⟨Nat.le_of_ble_eq_true rfl, Nat.le_of_ble_eq_true rfl⟩ hP hD hS hA (hK) (va_recv hK hP (ci := 2) (q0 := 3) rfl rfl) hl.1 rfl rfl (Nat.le_of_ble_eq_true rfl) dd_I_redirectEntry_20 (fun H locs hP hD hS => ?_)
    have hP : va_P G jcl (wI qI qD qS qC cS cC (jf_putEntry s d j_3 nm i) c) H := hP
    have hD : va_D A (wI qI qD qS qC cS cC (jf_putEntry s d j_3 nm i) c) := hD
    have hf_5 : jf_ok (jf_putEntry s d j_3 nm i) := jf_putEntry_ok (by assumption) _ _ (by omega) (by omega)
    have he : wI qI qD qS qC cS cC (jf_putEntry s d j_3 nm i) c = wI qI qD qS qC cS cC (jf_redirect s d nm i) c := by first | with_reducible rfl | (simp [jf_redirect, hj_3]; done)
    rw [he] at hP hD
    exact jm_retv C hP hD hK hS ⟨Nat.le_of_ble_eq_true rfl, Nat.le_of_ble_eq_true rfl⟩ dd_I_redirectEntry_23
set_option maxHeartbeats 4000000 in
set_option maxRecDepth 100000 in
theorem ct_I_dropEntry (l : Launch) (G : va_G) (qI qD qS qC : Nat) (cS cC : ClassId) (s c : Nat → Nat) (d : Nat) (nm : Nat) (hd0 : d < 1000) (hn0 : nm < 256) (hs : jf_ok s) : jm l yn_I_dropEntry (.code yn_I_dropEntry cd_I_dropEntry 5 none) { frames := 5, cells := 0, slots := 0, locals := 109 } G (tD cS cC) (wI qI qD qS qC cS cC s c) [.ref qI, .int (nI (d)), .int (nI (nm))] none (wI qI qD qS qC cS cC (jf_dropEntry s d nm) c) := by
  refine jm_of (by decide) (Nat.le_of_ble_eq_true rfl) ?_
  intro pr en σ mi bel met cd ls A hA C hP hK hD hS hl
  have hx := C.1
  have hb := C.2.1
  have hown := C.2.2.2.1
  have hts := C.2.2.2.2.1
  have hl : lv_has ls 5 [(0, .ref qI), (1, .int (nI (d))), (2, .int (nI (nm)))] := hl
  refine lv_aload_n hx hb dd_I_dropEntry_0 rfl (lv_at hl 0 rfl) ?_
  refine lv_iload_n hx hb dd_I_dropEntry_1 rfl (lv_at hl 1 rfl) ?_
  refine lv_iload_n hx hb dd_I_dropEntry_2 rfl (lv_at hl 2 rfl) ?_
  refine jr_callV C (ct_I_findEntry l G qI qD qS qC cS cC s c d nm (by omega) (by omega) (by first | assumption | (simp only [] ; assumption))) kl_I_79 ⟨Nat.le_of_ble_eq_true rfl, Nat.le_of_ble_eq_true rfl, rfl, rfl⟩ ⟨Nat.le_of_ble_eq_true rfl, Nat.le_of_ble_eq_true rfl⟩ (hP) (hK) (va_recv hK hP (ci := 2) (q0 := 3) rfl rfl) hl.1 rfl rfl (Nat.le_of_ble_eq_true rfl) dd_I_dropEntry_3 ?_
  have hf_1 : jf_entries s d < 128 := jf_entries_lt (by assumption) _
  refine lv_istore_n (lv' := [(3, .int (jo (jf_findEntry s d nm))), (0, .ref qI), (1, .int (nI (d))), (2, .int (nI (nm)))]) hx hb dd_I_dropEntry_6 rfl hl (by decide) rfl (fun ls hl => ?_)
  refine lv_iload_n hx hb dd_I_dropEntry_7 rfl (lv_at hl 0 rfl) ?_
  refine lv_iconst (v := -1) hx hb dd_I_dropEntry_8 (by decide) ?_
  refine jl_neO (tgt := 13) hx hb (fun j h => Nat.lt_of_lt_of_le (jf_findEntry_lt h) (by omega)) dd_I_dropEntry_9 (by decide) (fun j_3 hj_3 => ?_) (fun hj_3 => ?_)
  · skip
    have ho_4 := jf_findEntry_lt hj_3
    have hl : lv_has ls 5 [(3, .int (nI (j_3))), (0, .ref qI), (1, .int (nI (d))), (2, .int (nI (nm)))] := by rw [hj_3] at hl; exact hl
    refine lv_aload_n hx hb dd_I_dropEntry_13 rfl (lv_at hl 1 rfl) ?_
    refine lv_iload_n hx hb dd_I_dropEntry_14 rfl (lv_at hl 2 rfl) ?_
    refine jr_callV C (ct_I_entries l G qI qD qS qC cS cC s c d (by omega) (by first | assumption | (simp only [] ; assumption))) kl_I_68 ⟨Nat.le_of_ble_eq_true rfl, Nat.le_of_ble_eq_true rfl, rfl, rfl⟩ ⟨Nat.le_of_ble_eq_true rfl, Nat.le_of_ble_eq_true rfl⟩ (hP) (hK) (va_recv hK hP (ci := 2) (q0 := 3) rfl rfl) hl.1 rfl rfl (Nat.le_of_ble_eq_true rfl) dd_I_dropEntry_15 ?_
    have hf_5 : jf_entries s d < 128 := jf_entries_lt (by assumption) _
    refine lv_iconst (v := nI 1) hx hb dd_I_dropEntry_18 (by decide) ?_
    refine jl_isub hx hb (by omega) dd_I_dropEntry_19 ?_
    refine lv_istore (lv' := [(4, .int (nI ((jf_entries s d) - 1))), (3, .int (nI (j_3))), (0, .ref qI), (1, .int (nI (d))), (2, .int (nI (nm)))]) hx hb dd_I_dropEntry_20 hl (by decide) rfl (fun ls hl => ?_)
    refine lv_aload_n hx hb dd_I_dropEntry_22 rfl (lv_at hl 2 rfl) ?_
    refine lv_iload_n hx hb dd_I_dropEntry_23 rfl (lv_at hl 3 rfl) ?_
    refine lv_iload_n hx hb dd_I_dropEntry_24 rfl (lv_at hl 1 rfl) ?_
    refine lv_aload_n hx hb dd_I_dropEntry_25 rfl (lv_at hl 2 rfl) ?_
    refine lv_iload_n hx hb dd_I_dropEntry_26 rfl (lv_at hl 3 rfl) ?_
    refine lv_iload hx hb dd_I_dropEntry_27 (lv_at hl 0 rfl) ?_
    refine jr_callV C (ct_I_entryName l G qI qD qS qC cS cC s c d ((jf_entries s d) - 1) (by omega) (by omega) (by first | assumption | (simp only [] ; assumption))) kl_I_82 ⟨Nat.le_of_ble_eq_true rfl, Nat.le_of_ble_eq_true rfl, rfl, rfl⟩ ⟨Nat.le_of_ble_eq_true rfl, Nat.le_of_ble_eq_true rfl⟩ (hP) (hK) (va_recv hK hP (ci := 2) (q0 := 3) rfl rfl) hl.1 rfl rfl (Nat.le_of_ble_eq_true rfl) dd_I_dropEntry_29 ?_
    have hf_6 : jf_entryName s d ((jf_entries s d) - 1) < 256 := jf_get_lt (by assumption) _
    refine lv_aload_n hx hb dd_I_dropEntry_32 rfl (lv_at hl 2 rfl) ?_
    refine lv_iload_n hx hb dd_I_dropEntry_33 rfl (lv_at hl 3 rfl) ?_
    refine lv_iload hx hb dd_I_dropEntry_34 (lv_at hl 0 rfl) ?_
    refine jr_callV C (ct_I_entryInode l G qI qD qS qC cS cC s c d ((jf_entries s d) - 1) (by omega) (by omega) (by first | assumption | (simp only [] ; assumption))) kl_I_85 ⟨Nat.le_of_ble_eq_true rfl, Nat.le_of_ble_eq_true rfl, rfl, rfl⟩ ⟨Nat.le_of_ble_eq_true rfl, Nat.le_of_ble_eq_true rfl⟩ (hP) (hK) (va_recv hK hP (ci := 2) (q0 := 3) rfl rfl) hl.1 rfl rfl (Nat.le_of_ble_eq_true rfl) dd_I_dropEntry_36 ?_
    have hf_7 : jf_entryInode s d ((jf_entries s d) - 1) < 256 := jf_get_lt (by assumption) _
    refine jm_callV (wr := []) C (ct_I_putEntry l G qI qD qS qC cS cC s c d j_3 (jf_entryName s d ((jf_entries s d) - 1)) (jf_entryInode s d ((jf_entries s d) - 1)) (by omega) (by omega) (by omega) (by omega) (by first | assumption | (simp only [] ; assumption))) kl_I_75 ⟨Nat.le_of_ble_eq_true rfl, Nat.le_of_ble_eq_true rfl⟩ ⟨Nat.le_of_ble_eq_true rfl, Nat.le_of_ble_eq_true rfl⟩ hP hD hS hA (hK) (va_recv hK hP (ci := 2) (q0 := 3) rfl rfl) hl.1 rfl rfl (Nat.le_of_ble_eq_true rfl) dd_I_dropEntry_39 (fun H locs hP hD hS => ?_)
    have hP : va_P G jcl (wI qI qD qS qC cS cC (jf_putEntry s d j_3 (jf_entryName s d ((jf_entries s d) - 1)) (jf_entryInode s d ((jf_entries s d) - 1))) c) H := hP
    have hD : va_D A (wI qI qD qS qC cS cC (jf_putEntry s d j_3 (jf_entryName s d ((jf_entries s d) - 1)) (jf_entryInode s d ((jf_entries s d) - 1))) c) := hD
    have hf_8 : jf_ok (jf_putEntry s d j_3 (jf_entryName s d ((jf_entries s d) - 1)) (jf_entryInode s d ((jf_entries s d) - 1))) := jf_putEntry_ok (by assumption) _ _ (by omega) (by omega)
    refine lv_aload_n hx hb dd_I_dropEntry_42 rfl (lv_at hl 2 rfl) ?_
    refine lv_iload_n hx hb dd_I_dropEntry_43 rfl (lv_at hl 3 rfl) ?_
    refine lv_iload hx hb dd_I_dropEntry_44 (lv_at hl 0 rfl) ?_
    refine lv_iconst (v := nI 2) hx hb dd_I_dropEntry_46 (by decide) ?_
    refine jl_imul hx hb dd_I_dropEntry_47 ?_
    refine jm_callV (wr := []) C (ct_I_resize l G qI qD qS qC cS cC (jf_putEntry s d j_3 (jf_entryName s d ((jf_entries s d) - 1)) (jf_entryInode s d ((jf_entries s d) - 1))) c d (((jf_entries s d) - 1) * 2) (by omega) (by omega) (by first | assumption | (simp only [] ; assumption))) kl_I_42 ⟨Nat.le_of_ble_eq_true rfl, Nat.le_of_ble_eq_true rfl⟩ ⟨Nat.le_of_ble_eq_true rfl, Nat.le_of_ble_eq_true rfl⟩ hP hD hS hA (hK) (va_recv hK hP (ci := 2) (q0 := 3) rfl rfl) hl.1 rfl rfl (Nat.le_of_ble_eq_true rfl) dd_I_dropEntry_48 (fun H locs hP hD hS => ?_)
    have hP : va_P G jcl (wI qI qD qS qC cS cC (jf_resize (jf_putEntry s d j_3 (jf_entryName s d ((jf_entries s d) - 1)) (jf_entryInode s d ((jf_entries s d) - 1))) d (((jf_entries s d) - 1) * 2)) c) H := hP
    have hD : va_D A (wI qI qD qS qC cS cC (jf_resize (jf_putEntry s d j_3 (jf_entryName s d ((jf_entries s d) - 1)) (jf_entryInode s d ((jf_entries s d) - 1))) d (((jf_entries s d) - 1) * 2)) c) := hD
    have hf_9 : jf_ok (jf_resize (jf_putEntry s d j_3 (jf_entryName s d ((jf_entries s d) - 1)) (jf_entryInode s d ((jf_entries s d) - 1))) d (((jf_entries s d) - 1) * 2)) := jf_resize_ok (by assumption) _ (by omega)
    have he : wI qI qD qS qC cS cC (jf_resize (jf_putEntry s d j_3 (jf_entryName s d ((jf_entries s d) - 1)) (jf_entryInode s d ((jf_entries s d) - 1))) d (((jf_entries s d) - 1) * 2)) c = wI qI qD qS qC cS cC (jf_dropEntry s d nm) c := by first | with_reducible rfl | (simp [jf_dropEntry, hj_3]; done)
    rw [he] at hP hD
    exact jm_retv C hP hD hK hS ⟨Nat.le_of_ble_eq_true rfl, Nat.le_of_ble_eq_true rfl⟩ dd_I_dropEntry_51
  · skip
    have he : wI qI qD qS qC cS cC s c = wI qI qD qS qC cS cC (jf_dropEntry s d nm) c := by first | with_reducible rfl | (simp [jf_dropEntry, hj_3]; done)
    rw [he] at hP hD
    exact jm_retv C hP hD hK hS ⟨Nat.le_of_ble_eq_true rfl, Nat.le_of_ble_eq_true rfl⟩ dd_I_dropEntry_12
end
section
theorem dd_M_init_0 : decode cd_M_init 0 = .ok (.aload_n 0, 1) := by decide +kernel
theorem dd_M_init_1 : decode cd_M_init 1 = .ok (.invokespecial 1, 3) := by decide +kernel
theorem dd_M_init_4 : decode cd_M_init 4 = .ok (.aload_n 0, 1) := by decide +kernel
theorem dd_M_init_5 : decode cd_M_init 5 = .ok (.bipush 24, 2) := by decide +kernel
theorem dd_M_init_7 : decode cd_M_init 7 = .ok (.newarray .int, 2) := by decide +kernel
theorem dd_M_init_9 : decode cd_M_init 9 = .ok (.putfield 7, 3) := by decide +kernel
theorem dd_M_init_12 : decode cd_M_init 12 = .ok (.aload_n 0, 1) := by decide +kernel
theorem dd_M_init_13 : decode cd_M_init 13 = .ok (.bipush 24, 2) := by decide +kernel
theorem dd_M_init_15 : decode cd_M_init 15 = .ok (.newarray .int, 2) := by decide +kernel
theorem dd_M_init_17 : decode cd_M_init 17 = .ok (.putfield 13, 3) := by decide +kernel
theorem dd_M_init_20 : decode cd_M_init 20 = .ok (.aload_n 0, 1) := by decide +kernel
theorem dd_M_init_21 : decode cd_M_init 21 = .ok (.bipush 24, 2) := by decide +kernel
theorem dd_M_init_23 : decode cd_M_init 23 = .ok (.newarray .int, 2) := by decide +kernel
theorem dd_M_init_25 : decode cd_M_init 25 = .ok (.putfield 16, 3) := by decide +kernel
theorem dd_M_init_28 : decode cd_M_init 28 = .ok (.aload_n 0, 1) := by decide +kernel
theorem dd_M_init_29 : decode cd_M_init 29 = .ok (.bipush 96, 2) := by decide +kernel
theorem dd_M_init_31 : decode cd_M_init 31 = .ok (.newarray .int, 2) := by decide +kernel
theorem dd_M_init_33 : decode cd_M_init 33 = .ok (.putfield 19, 3) := by decide +kernel
theorem dd_M_init_36 : decode cd_M_init 36 = .ok (.aload_n 0, 1) := by decide +kernel
theorem dd_M_init_37 : decode cd_M_init 37 = .ok (.sipush 1536, 3) := by decide +kernel
theorem dd_M_init_40 : decode cd_M_init 40 = .ok (.newarray .int, 2) := by decide +kernel
theorem dd_M_init_42 : decode cd_M_init 42 = .ok (.putfield 22, 3) := by decide +kernel
theorem dd_M_init_45 : decode cd_M_init 45 = .ok (.aload_n 0, 1) := by decide +kernel
theorem dd_M_init_46 : decode cd_M_init 46 = .ok (.bipush 6, 2) := by decide +kernel
theorem dd_M_init_48 : decode cd_M_init 48 = .ok (.newarray .int, 2) := by decide +kernel
theorem dd_M_init_50 : decode cd_M_init 50 = .ok (.putfield 25, 3) := by decide +kernel
theorem dd_M_init_53 : decode cd_M_init 53 = .ok (.aload_n 0, 1) := by decide +kernel
theorem dd_M_init_54 : decode cd_M_init 54 = .ok (.bipush 6, 2) := by decide +kernel
theorem dd_M_init_56 : decode cd_M_init 56 = .ok (.newarray .int, 2) := by decide +kernel
theorem dd_M_init_58 : decode cd_M_init 58 = .ok (.putfield 28, 3) := by decide +kernel
theorem dd_M_init_61 : decode cd_M_init 61 = .ok (.aload_n 0, 1) := by decide +kernel
theorem dd_M_init_62 : decode cd_M_init 62 = .ok (.bipush 6, 2) := by decide +kernel
theorem dd_M_init_64 : decode cd_M_init 64 = .ok (.newarray .int, 2) := by decide +kernel
theorem dd_M_init_66 : decode cd_M_init 66 = .ok (.putfield 31, 3) := by decide +kernel
theorem dd_M_init_69 : decode cd_M_init 69 = .ok (.aload_n 0, 1) := by decide +kernel
theorem dd_M_init_70 : decode cd_M_init 70 = .ok (.bipush 6, 2) := by decide +kernel
theorem dd_M_init_72 : decode cd_M_init 72 = .ok (.newarray .int, 2) := by decide +kernel
theorem dd_M_init_74 : decode cd_M_init 74 = .ok (.putfield 34, 3) := by decide +kernel
theorem dd_M_init_77 : decode cd_M_init 77 = .ok (.iconst 0, 1) := by decide +kernel
theorem dd_M_init_78 : decode cd_M_init 78 = .ok (.istore_n 1, 1) := by decide +kernel
theorem dd_M_init_79 : decode cd_M_init 79 = .ok (.iload_n 1, 1) := by decide +kernel
theorem dd_M_init_80 : decode cd_M_init 80 = .ok (.bipush 24, 2) := by decide +kernel
theorem dd_M_init_82 : decode cd_M_init 82 = .ok (.if_icmp .ge 23, 3) := by decide +kernel
theorem dd_M_init_85 : decode cd_M_init 85 = .ok (.aload_n 0, 1) := by decide +kernel
theorem dd_M_init_86 : decode cd_M_init 86 = .ok (.getfield 7, 3) := by decide +kernel
theorem dd_M_init_89 : decode cd_M_init 89 = .ok (.iload_n 1, 1) := by decide +kernel
theorem dd_M_init_90 : decode cd_M_init 90 = .ok (.iconst 2, 1) := by decide +kernel
theorem dd_M_init_91 : decode cd_M_init 91 = .ok (.iastore, 1) := by decide +kernel
theorem dd_M_init_92 : decode cd_M_init 92 = .ok (.aload_n 0, 1) := by decide +kernel
theorem dd_M_init_93 : decode cd_M_init 93 = .ok (.getfield 16, 3) := by decide +kernel
theorem dd_M_init_96 : decode cd_M_init 96 = .ok (.iload_n 1, 1) := by decide +kernel
theorem dd_M_init_97 : decode cd_M_init 97 = .ok (.iconst 1, 1) := by decide +kernel
theorem dd_M_init_98 : decode cd_M_init 98 = .ok (.iastore, 1) := by decide +kernel
theorem dd_M_init_99 : decode cd_M_init 99 = .ok (.iinc 1 12, 3) := by decide +kernel
theorem dd_M_init_102 : decode cd_M_init 102 = .ok (.goto (-23), 3) := by decide +kernel
theorem dd_M_init_105 : decode cd_M_init 105 = .ok (.return_, 1) := by decide +kernel
theorem dd_M_thrown_0 : decode cd_M_thrown 0 = .ok (.aload_n 0, 1) := by decide +kernel
theorem dd_M_thrown_1 : decode cd_M_thrown 1 = .ok (.getfield 37, 3) := by decide +kernel
theorem dd_M_thrown_4 : decode cd_M_thrown 4 = .ok (.ireturn, 1) := by decide +kernel
theorem dd_M_directory_0 : decode cd_M_directory 0 = .ok (.aload_n 0, 1) := by decide +kernel
theorem dd_M_directory_1 : decode cd_M_directory 1 = .ok (.aload_n 0, 1) := by decide +kernel
theorem dd_M_directory_2 : decode cd_M_directory 2 = .ok (.iload_n 1, 1) := by decide +kernel
theorem dd_M_directory_3 : decode cd_M_directory 3 = .ok (.invokevirtual 79, 3) := by decide +kernel
theorem dd_M_directory_6 : decode cd_M_directory 6 = .ok (.ifCond .eq 7, 3) := by decide +kernel
theorem dd_M_directory_9 : decode cd_M_directory 9 = .ok (.iconst 1, 1) := by decide +kernel
theorem dd_M_directory_10 : decode cd_M_directory 10 = .ok (.goto 52, 3) := by decide +kernel
theorem dd_M_directory_13 : decode cd_M_directory 13 = .ok (.aload_n 0, 1) := by decide +kernel
theorem dd_M_directory_14 : decode cd_M_directory 14 = .ok (.iload_n 1, 1) := by decide +kernel
theorem dd_M_directory_15 : decode cd_M_directory 15 = .ok (.invokevirtual 83, 3) := by decide +kernel
theorem dd_M_directory_18 : decode cd_M_directory 18 = .ok (.ifCond .ne 7, 3) := by decide +kernel
theorem dd_M_directory_21 : decode cd_M_directory 21 = .ok (.iconst 2, 1) := by decide +kernel
theorem dd_M_directory_22 : decode cd_M_directory 22 = .ok (.goto 40, 3) := by decide +kernel
theorem dd_M_directory_25 : decode cd_M_directory 25 = .ok (.aload_n 0, 1) := by decide +kernel
theorem dd_M_directory_26 : decode cd_M_directory 26 = .ok (.getfield 69, 3) := by decide +kernel
theorem dd_M_directory_29 : decode cd_M_directory 29 = .ok (.ifCond .lt 7, 3) := by decide +kernel
theorem dd_M_directory_32 : decode cd_M_directory 32 = .ok (.iconst 3, 1) := by decide +kernel
theorem dd_M_directory_33 : decode cd_M_directory 33 = .ok (.goto 29, 3) := by decide +kernel
theorem dd_M_directory_36 : decode cd_M_directory 36 = .ok (.aload_n 0, 1) := by decide +kernel
theorem dd_M_directory_37 : decode cd_M_directory 37 = .ok (.invokevirtual 60, 3) := by decide +kernel
theorem dd_M_directory_40 : decode cd_M_directory 40 = .ok (.bipush 12, 2) := by decide +kernel
theorem dd_M_directory_42 : decode cd_M_directory 42 = .ok (.if_icmp .eq 15, 3) := by decide +kernel
theorem dd_M_directory_45 : decode cd_M_directory 45 = .ok (.aload_n 0, 1) := by decide +kernel
theorem dd_M_directory_46 : decode cd_M_directory 46 = .ok (.aload_n 0, 1) := by decide +kernel
theorem dd_M_directory_47 : decode cd_M_directory 47 = .ok (.getfield 63, 3) := by decide +kernel
theorem dd_M_directory_50 : decode cd_M_directory 50 = .ok (.iconst 0, 1) := by decide +kernel
theorem dd_M_directory_51 : decode cd_M_directory 51 = .ok (.invokevirtual 86, 3) := by decide +kernel
theorem dd_M_directory_54 : decode cd_M_directory 54 = .ok (.ifCond .ne 7, 3) := by decide +kernel
theorem dd_M_directory_57 : decode cd_M_directory 57 = .ok (.iconst 4, 1) := by decide +kernel
theorem dd_M_directory_58 : decode cd_M_directory 58 = .ok (.goto 4, 3) := by decide +kernel
theorem dd_M_directory_61 : decode cd_M_directory 61 = .ok (.iconst 0, 1) := by decide +kernel
theorem dd_M_directory_62 : decode cd_M_directory 62 = .ok (.putfield 37, 3) := by decide +kernel
theorem dd_M_directory_65 : decode cd_M_directory 65 = .ok (.aload_n 0, 1) := by decide +kernel
theorem dd_M_directory_66 : decode cd_M_directory 66 = .ok (.getfield 37, 3) := by decide +kernel
theorem dd_M_directory_69 : decode cd_M_directory 69 = .ok (.ifCond .eq 5, 3) := by decide +kernel
theorem dd_M_directory_72 : decode cd_M_directory 72 = .ok (.iconst 0, 1) := by decide +kernel
theorem dd_M_directory_73 : decode cd_M_directory 73 = .ok (.ireturn, 1) := by decide +kernel
theorem dd_M_directory_74 : decode cd_M_directory 74 = .ok (.aload_n 0, 1) := by decide +kernel
theorem dd_M_directory_75 : decode cd_M_directory 75 = .ok (.iconst 2, 1) := by decide +kernel
theorem dd_M_directory_76 : decode cd_M_directory 76 = .ok (.invokevirtual 89, 3) := by decide +kernel
theorem dd_M_directory_79 : decode cd_M_directory 79 = .ok (.istore_n 2, 1) := by decide +kernel
theorem dd_M_directory_80 : decode cd_M_directory 80 = .ok (.aload_n 0, 1) := by decide +kernel
theorem dd_M_directory_81 : decode cd_M_directory 81 = .ok (.aload_n 0, 1) := by decide +kernel
theorem dd_M_directory_82 : decode cd_M_directory 82 = .ok (.getfield 63, 3) := by decide +kernel
theorem dd_M_directory_85 : decode cd_M_directory 85 = .ok (.aload_n 0, 1) := by decide +kernel
theorem dd_M_directory_86 : decode cd_M_directory 86 = .ok (.getfield 72, 3) := by decide +kernel
theorem dd_M_directory_89 : decode cd_M_directory 89 = .ok (.iload_n 2, 1) := by decide +kernel
theorem dd_M_directory_90 : decode cd_M_directory 90 = .ok (.invokevirtual 92, 3) := by decide +kernel
theorem dd_M_directory_93 : decode cd_M_directory 93 = .ok (.iload_n 2, 1) := by decide +kernel
theorem dd_M_directory_94 : decode cd_M_directory 94 = .ok (.ireturn, 1) := by decide +kernel
theorem dd_M_badPath_0 : decode cd_M_badPath 0 = .ok (.iconst 0, 1) := by decide +kernel
theorem dd_M_badPath_1 : decode cd_M_badPath 1 = .ok (.istore_n 2, 1) := by decide +kernel
theorem dd_M_badPath_2 : decode cd_M_badPath 2 = .ok (.bipush 24, 2) := by decide +kernel
theorem dd_M_badPath_4 : decode cd_M_badPath 4 = .ok (.istore_n 3, 1) := by decide +kernel
theorem dd_M_badPath_5 : decode cd_M_badPath 5 = .ok (.iload_n 3, 1) := by decide +kernel
theorem dd_M_badPath_6 : decode cd_M_badPath 6 = .ok (.ifCond .lt 36, 3) := by decide +kernel
theorem dd_M_badPath_9 : decode cd_M_badPath 9 = .ok (.iload_n 1, 1) := by decide +kernel
theorem dd_M_badPath_10 : decode cd_M_badPath 10 = .ok (.iload_n 3, 1) := by decide +kernel
theorem dd_M_badPath_11 : decode cd_M_badPath 11 = .ok (.iushr, 1) := by decide +kernel
theorem dd_M_badPath_12 : decode cd_M_badPath 12 = .ok (.sipush 255, 3) := by decide +kernel
theorem dd_M_badPath_15 : decode cd_M_badPath 15 = .ok (.iand, 1) := by decide +kernel
theorem dd_M_badPath_16 : decode cd_M_badPath 16 = .ok (.istore 4, 2) := by decide +kernel
theorem dd_M_badPath_18 : decode cd_M_badPath 18 = .ok (.iload_n 2, 1) := by decide +kernel
theorem dd_M_badPath_19 : decode cd_M_badPath 19 = .ok (.ifCond .eq 10, 3) := by decide +kernel
theorem dd_M_badPath_22 : decode cd_M_badPath 22 = .ok (.iload 4, 2) := by decide +kernel
theorem dd_M_badPath_24 : decode cd_M_badPath 24 = .ok (.ifCond .ne 5, 3) := by decide +kernel
theorem dd_M_badPath_27 : decode cd_M_badPath 27 = .ok (.iconst 1, 1) := by decide +kernel
theorem dd_M_badPath_28 : decode cd_M_badPath 28 = .ok (.ireturn, 1) := by decide +kernel
theorem dd_M_badPath_29 : decode cd_M_badPath 29 = .ok (.iload 4, 2) := by decide +kernel
theorem dd_M_badPath_31 : decode cd_M_badPath 31 = .ok (.ifCond .eq 5, 3) := by decide +kernel
theorem dd_M_badPath_34 : decode cd_M_badPath 34 = .ok (.iconst 1, 1) := by decide +kernel
theorem dd_M_badPath_35 : decode cd_M_badPath 35 = .ok (.istore_n 2, 1) := by decide +kernel
theorem dd_M_badPath_36 : decode cd_M_badPath 36 = .ok (.iinc 3 (-8), 3) := by decide +kernel
theorem dd_M_badPath_39 : decode cd_M_badPath 39 = .ok (.goto (-34), 3) := by decide +kernel
theorem dd_M_badPath_42 : decode cd_M_badPath 42 = .ok (.iconst 0, 1) := by decide +kernel
theorem dd_M_badPath_43 : decode cd_M_badPath 43 = .ok (.ireturn, 1) := by decide +kernel
theorem dd_M_lead_0 : decode cd_M_lead 0 = .ok (.aload_n 0, 1) := by decide +kernel
theorem dd_M_lead_1 : decode cd_M_lead 1 = .ok (.iconst (-1), 1) := by decide +kernel
theorem dd_M_lead_2 : decode cd_M_lead 2 = .ok (.putfield 63, 3) := by decide +kernel
theorem dd_M_lead_5 : decode cd_M_lead 5 = .ok (.aload_n 0, 1) := by decide +kernel
theorem dd_M_lead_6 : decode cd_M_lead 6 = .ok (.iconst (-1), 1) := by decide +kernel
theorem dd_M_lead_7 : decode cd_M_lead 7 = .ok (.putfield 66, 3) := by decide +kernel
theorem dd_M_lead_10 : decode cd_M_lead 10 = .ok (.aload_n 0, 1) := by decide +kernel
theorem dd_M_lead_11 : decode cd_M_lead 11 = .ok (.iconst 0, 1) := by decide +kernel
theorem dd_M_lead_12 : decode cd_M_lead 12 = .ok (.putfield 69, 3) := by decide +kernel
theorem dd_M_lead_15 : decode cd_M_lead 15 = .ok (.aload_n 0, 1) := by decide +kernel
theorem dd_M_lead_16 : decode cd_M_lead 16 = .ok (.iconst 0, 1) := by decide +kernel
theorem dd_M_lead_17 : decode cd_M_lead 17 = .ok (.putfield 72, 3) := by decide +kernel
theorem dd_M_lead_20 : decode cd_M_lead 20 = .ok (.bipush 24, 2) := by decide +kernel
theorem dd_M_lead_22 : decode cd_M_lead 22 = .ok (.istore_n 2, 1) := by decide +kernel
theorem dd_M_lead_23 : decode cd_M_lead 23 = .ok (.iload_n 2, 1) := by decide +kernel
theorem dd_M_lead_24 : decode cd_M_lead 24 = .ok (.ifCond .lt 105, 3) := by decide +kernel
theorem dd_M_lead_27 : decode cd_M_lead 27 = .ok (.iload_n 1, 1) := by decide +kernel
theorem dd_M_lead_28 : decode cd_M_lead 28 = .ok (.iload_n 2, 1) := by decide +kernel
theorem dd_M_lead_29 : decode cd_M_lead 29 = .ok (.iushr, 1) := by decide +kernel
theorem dd_M_lead_30 : decode cd_M_lead 30 = .ok (.sipush 255, 3) := by decide +kernel
theorem dd_M_lead_33 : decode cd_M_lead 33 = .ok (.iand, 1) := by decide +kernel
theorem dd_M_lead_34 : decode cd_M_lead 34 = .ok (.istore_n 3, 1) := by decide +kernel
theorem dd_M_lead_35 : decode cd_M_lead 35 = .ok (.iload_n 3, 1) := by decide +kernel
theorem dd_M_lead_36 : decode cd_M_lead 36 = .ok (.ifCond .eq 87, 3) := by decide +kernel
theorem dd_M_lead_39 : decode cd_M_lead 39 = .ok (.aload_n 0, 1) := by decide +kernel
theorem dd_M_lead_40 : decode cd_M_lead 40 = .ok (.getfield 69, 3) := by decide +kernel
theorem dd_M_lead_43 : decode cd_M_lead 43 = .ok (.ifCond .lt 16, 3) := by decide +kernel
theorem dd_M_lead_46 : decode cd_M_lead 46 = .ok (.aload_n 0, 1) := by decide +kernel
theorem dd_M_lead_47 : decode cd_M_lead 47 = .ok (.getfield 7, 3) := by decide +kernel
theorem dd_M_lead_50 : decode cd_M_lead 50 = .ok (.aload_n 0, 1) := by decide +kernel
theorem dd_M_lead_51 : decode cd_M_lead 51 = .ok (.getfield 69, 3) := by decide +kernel
theorem dd_M_lead_54 : decode cd_M_lead 54 = .ok (.iaload, 1) := by decide +kernel
theorem dd_M_lead_55 : decode cd_M_lead 55 = .ok (.iconst 2, 1) := by decide +kernel
theorem dd_M_lead_56 : decode cd_M_lead 56 = .ok (.if_icmp .eq 5, 3) := by decide +kernel
theorem dd_M_lead_59 : decode cd_M_lead 59 = .ok (.iconst 0, 1) := by decide +kernel
theorem dd_M_lead_60 : decode cd_M_lead 60 = .ok (.ireturn, 1) := by decide +kernel
theorem dd_M_lead_61 : decode cd_M_lead 61 = .ok (.aload_n 0, 1) := by decide +kernel
theorem dd_M_lead_62 : decode cd_M_lead 62 = .ok (.aload_n 0, 1) := by decide +kernel
theorem dd_M_lead_63 : decode cd_M_lead 63 = .ok (.getfield 69, 3) := by decide +kernel
theorem dd_M_lead_66 : decode cd_M_lead 66 = .ok (.putfield 63, 3) := by decide +kernel
theorem dd_M_lead_69 : decode cd_M_lead 69 = .ok (.aload_n 0, 1) := by decide +kernel
theorem dd_M_lead_70 : decode cd_M_lead 70 = .ok (.iload_n 3, 1) := by decide +kernel
theorem dd_M_lead_71 : decode cd_M_lead 71 = .ok (.putfield 72, 3) := by decide +kernel
theorem dd_M_lead_74 : decode cd_M_lead 74 = .ok (.aload_n 0, 1) := by decide +kernel
theorem dd_M_lead_75 : decode cd_M_lead 75 = .ok (.aload_n 0, 1) := by decide +kernel
theorem dd_M_lead_76 : decode cd_M_lead 76 = .ok (.aload_n 0, 1) := by decide +kernel
theorem dd_M_lead_77 : decode cd_M_lead 77 = .ok (.getfield 63, 3) := by decide +kernel
theorem dd_M_lead_80 : decode cd_M_lead 80 = .ok (.iload_n 3, 1) := by decide +kernel
theorem dd_M_lead_81 : decode cd_M_lead 81 = .ok (.invokevirtual 75, 3) := by decide +kernel
theorem dd_M_lead_84 : decode cd_M_lead 84 = .ok (.putfield 66, 3) := by decide +kernel
theorem dd_M_lead_87 : decode cd_M_lead 87 = .ok (.aload_n 0, 1) := by decide +kernel
theorem dd_M_lead_88 : decode cd_M_lead 88 = .ok (.aload_n 0, 1) := by decide +kernel
theorem dd_M_lead_89 : decode cd_M_lead 89 = .ok (.getfield 66, 3) := by decide +kernel
theorem dd_M_lead_92 : decode cd_M_lead 92 = .ok (.ifCond .ge 7, 3) := by decide +kernel
theorem dd_M_lead_95 : decode cd_M_lead 95 = .ok (.iconst (-1), 1) := by decide +kernel
theorem dd_M_lead_96 : decode cd_M_lead 96 = .ok (.goto 24, 3) := by decide +kernel
theorem dd_M_lead_99 : decode cd_M_lead 99 = .ok (.aload_n 0, 1) := by decide +kernel
theorem dd_M_lead_100 : decode cd_M_lead 100 = .ok (.getfield 22, 3) := by decide +kernel
theorem dd_M_lead_103 : decode cd_M_lead 103 = .ok (.aload_n 0, 1) := by decide +kernel
theorem dd_M_lead_104 : decode cd_M_lead 104 = .ok (.getfield 63, 3) := by decide +kernel
theorem dd_M_lead_107 : decode cd_M_lead 107 = .ok (.bipush 64, 2) := by decide +kernel
theorem dd_M_lead_109 : decode cd_M_lead 109 = .ok (.imul, 1) := by decide +kernel
theorem dd_M_lead_110 : decode cd_M_lead 110 = .ok (.aload_n 0, 1) := by decide +kernel
theorem dd_M_lead_111 : decode cd_M_lead 111 = .ok (.getfield 66, 3) := by decide +kernel
theorem dd_M_lead_114 : decode cd_M_lead 114 = .ok (.iconst 2, 1) := by decide +kernel
theorem dd_M_lead_115 : decode cd_M_lead 115 = .ok (.imul, 1) := by decide +kernel
theorem dd_M_lead_116 : decode cd_M_lead 116 = .ok (.iadd, 1) := by decide +kernel
theorem dd_M_lead_117 : decode cd_M_lead 117 = .ok (.iconst 1, 1) := by decide +kernel
theorem dd_M_lead_118 : decode cd_M_lead 118 = .ok (.iadd, 1) := by decide +kernel
theorem dd_M_lead_119 : decode cd_M_lead 119 = .ok (.iaload, 1) := by decide +kernel
theorem dd_M_lead_120 : decode cd_M_lead 120 = .ok (.putfield 69, 3) := by decide +kernel
theorem dd_M_lead_123 : decode cd_M_lead 123 = .ok (.iinc 2 (-8), 3) := by decide +kernel
theorem dd_M_lead_126 : decode cd_M_lead 126 = .ok (.goto (-103), 3) := by decide +kernel
theorem dd_M_lead_129 : decode cd_M_lead 129 = .ok (.iconst 1, 1) := by decide +kernel
theorem dd_M_lead_130 : decode cd_M_lead 130 = .ok (.ireturn, 1) := by decide +kernel
theorem dd_M_entryOf_0 : decode cd_M_entryOf 0 = .ok (.iconst 0, 1) := by decide +kernel
theorem dd_M_entryOf_1 : decode cd_M_entryOf 1 = .ok (.istore_n 3, 1) := by decide +kernel
theorem dd_M_entryOf_2 : decode cd_M_entryOf 2 = .ok (.iload_n 3, 1) := by decide +kernel
theorem dd_M_entryOf_3 : decode cd_M_entryOf 3 = .ok (.aload_n 0, 1) := by decide +kernel
theorem dd_M_entryOf_4 : decode cd_M_entryOf 4 = .ok (.getfield 13, 3) := by decide +kernel
theorem dd_M_entryOf_7 : decode cd_M_entryOf 7 = .ok (.iload_n 1, 1) := by decide +kernel
theorem dd_M_entryOf_8 : decode cd_M_entryOf 8 = .ok (.iaload, 1) := by decide +kernel
theorem dd_M_entryOf_9 : decode cd_M_entryOf 9 = .ok (.iconst 2, 1) := by decide +kernel
theorem dd_M_entryOf_10 : decode cd_M_entryOf 10 = .ok (.idiv, 1) := by decide +kernel
theorem dd_M_entryOf_11 : decode cd_M_entryOf 11 = .ok (.if_icmp .ge 28, 3) := by decide +kernel
theorem dd_M_entryOf_14 : decode cd_M_entryOf 14 = .ok (.aload_n 0, 1) := by decide +kernel
theorem dd_M_entryOf_15 : decode cd_M_entryOf 15 = .ok (.getfield 22, 3) := by decide +kernel
theorem dd_M_entryOf_18 : decode cd_M_entryOf 18 = .ok (.iload_n 1, 1) := by decide +kernel
theorem dd_M_entryOf_19 : decode cd_M_entryOf 19 = .ok (.bipush 64, 2) := by decide +kernel
theorem dd_M_entryOf_21 : decode cd_M_entryOf 21 = .ok (.imul, 1) := by decide +kernel
theorem dd_M_entryOf_22 : decode cd_M_entryOf 22 = .ok (.iload_n 3, 1) := by decide +kernel
theorem dd_M_entryOf_23 : decode cd_M_entryOf 23 = .ok (.iconst 2, 1) := by decide +kernel
theorem dd_M_entryOf_24 : decode cd_M_entryOf 24 = .ok (.imul, 1) := by decide +kernel
theorem dd_M_entryOf_25 : decode cd_M_entryOf 25 = .ok (.iadd, 1) := by decide +kernel
theorem dd_M_entryOf_26 : decode cd_M_entryOf 26 = .ok (.iaload, 1) := by decide +kernel
theorem dd_M_entryOf_27 : decode cd_M_entryOf 27 = .ok (.iload_n 2, 1) := by decide +kernel
theorem dd_M_entryOf_28 : decode cd_M_entryOf 28 = .ok (.if_icmp .ne 5, 3) := by decide +kernel
theorem dd_M_entryOf_31 : decode cd_M_entryOf 31 = .ok (.iload_n 3, 1) := by decide +kernel
theorem dd_M_entryOf_32 : decode cd_M_entryOf 32 = .ok (.ireturn, 1) := by decide +kernel
theorem dd_M_entryOf_33 : decode cd_M_entryOf 33 = .ok (.iinc 3 1, 3) := by decide +kernel
theorem dd_M_entryOf_36 : decode cd_M_entryOf 36 = .ok (.goto (-34), 3) := by decide +kernel
theorem dd_M_entryOf_39 : decode cd_M_entryOf 39 = .ok (.iconst (-1), 1) := by decide +kernel
theorem dd_M_entryOf_40 : decode cd_M_entryOf 40 = .ok (.ireturn, 1) := by decide +kernel
theorem dd_M_newInode_0 : decode cd_M_newInode 0 = .ok (.iconst 0, 1) := by decide +kernel
theorem dd_M_newInode_1 : decode cd_M_newInode 1 = .ok (.istore_n 1, 1) := by decide +kernel
theorem dd_M_newInode_2 : decode cd_M_newInode 2 = .ok (.iload_n 1, 1) := by decide +kernel
theorem dd_M_newInode_3 : decode cd_M_newInode 3 = .ok (.bipush 12, 2) := by decide +kernel
theorem dd_M_newInode_5 : decode cd_M_newInode 5 = .ok (.if_icmp .ge 18, 3) := by decide +kernel
theorem dd_M_newInode_8 : decode cd_M_newInode 8 = .ok (.aload_n 0, 1) := by decide +kernel
theorem dd_M_newInode_9 : decode cd_M_newInode 9 = .ok (.getfield 7, 3) := by decide +kernel
theorem dd_M_newInode_12 : decode cd_M_newInode 12 = .ok (.iload_n 1, 1) := by decide +kernel
theorem dd_M_newInode_13 : decode cd_M_newInode 13 = .ok (.iaload, 1) := by decide +kernel
theorem dd_M_newInode_14 : decode cd_M_newInode 14 = .ok (.ifCond .eq 9, 3) := by decide +kernel
theorem dd_M_newInode_17 : decode cd_M_newInode 17 = .ok (.iinc 1 1, 3) := by decide +kernel
theorem dd_M_newInode_20 : decode cd_M_newInode 20 = .ok (.goto (-18), 3) := by decide +kernel
theorem dd_M_newInode_23 : decode cd_M_newInode 23 = .ok (.iload_n 1, 1) := by decide +kernel
theorem dd_M_newInode_24 : decode cd_M_newInode 24 = .ok (.ireturn, 1) := by decide +kernel
theorem dd_M_entryRoom_0 : decode cd_M_entryRoom 0 = .ok (.aload_n 0, 1) := by decide +kernel
theorem dd_M_entryRoom_1 : decode cd_M_entryRoom 1 = .ok (.getfield 13, 3) := by decide +kernel
theorem dd_M_entryRoom_4 : decode cd_M_entryRoom 4 = .ok (.iload_n 1, 1) := by decide +kernel
theorem dd_M_entryRoom_5 : decode cd_M_entryRoom 5 = .ok (.iaload, 1) := by decide +kernel
theorem dd_M_entryRoom_6 : decode cd_M_entryRoom 6 = .ok (.bipush 32, 2) := by decide +kernel
theorem dd_M_entryRoom_8 : decode cd_M_entryRoom 8 = .ok (.if_icmp .ge 39, 3) := by decide +kernel
theorem dd_M_entryRoom_11 : decode cd_M_entryRoom 11 = .ok (.aload_n 0, 1) := by decide +kernel
theorem dd_M_entryRoom_12 : decode cd_M_entryRoom 12 = .ok (.aload_n 0, 1) := by decide +kernel
theorem dd_M_entryRoom_13 : decode cd_M_entryRoom 13 = .ok (.getfield 13, 3) := by decide +kernel
theorem dd_M_entryRoom_16 : decode cd_M_entryRoom 16 = .ok (.iload_n 1, 1) := by decide +kernel
theorem dd_M_entryRoom_17 : decode cd_M_entryRoom 17 = .ok (.iaload, 1) := by decide +kernel
theorem dd_M_entryRoom_18 : decode cd_M_entryRoom 18 = .ok (.iconst 2, 1) := by decide +kernel
theorem dd_M_entryRoom_19 : decode cd_M_entryRoom 19 = .ok (.iadd, 1) := by decide +kernel
theorem dd_M_entryRoom_20 : decode cd_M_entryRoom 20 = .ok (.invokevirtual 45, 3) := by decide +kernel
theorem dd_M_entryRoom_23 : decode cd_M_entryRoom 23 = .ok (.aload_n 0, 1) := by decide +kernel
theorem dd_M_entryRoom_24 : decode cd_M_entryRoom 24 = .ok (.aload_n 0, 1) := by decide +kernel
theorem dd_M_entryRoom_25 : decode cd_M_entryRoom 25 = .ok (.getfield 13, 3) := by decide +kernel
theorem dd_M_entryRoom_28 : decode cd_M_entryRoom 28 = .ok (.iload_n 1, 1) := by decide +kernel
theorem dd_M_entryRoom_29 : decode cd_M_entryRoom 29 = .ok (.iaload, 1) := by decide +kernel
theorem dd_M_entryRoom_30 : decode cd_M_entryRoom 30 = .ok (.invokevirtual 45, 3) := by decide +kernel
theorem dd_M_entryRoom_33 : decode cd_M_entryRoom 33 = .ok (.isub, 1) := by decide +kernel
theorem dd_M_entryRoom_34 : decode cd_M_entryRoom 34 = .ok (.aload_n 0, 1) := by decide +kernel
theorem dd_M_entryRoom_35 : decode cd_M_entryRoom 35 = .ok (.invokevirtual 49, 3) := by decide +kernel
theorem dd_M_entryRoom_38 : decode cd_M_entryRoom 38 = .ok (.iload_n 2, 1) := by decide +kernel
theorem dd_M_entryRoom_39 : decode cd_M_entryRoom 39 = .ok (.iadd, 1) := by decide +kernel
theorem dd_M_entryRoom_40 : decode cd_M_entryRoom 40 = .ok (.if_icmp .gt 7, 3) := by decide +kernel
theorem dd_M_entryRoom_43 : decode cd_M_entryRoom 43 = .ok (.iconst 1, 1) := by decide +kernel
theorem dd_M_entryRoom_44 : decode cd_M_entryRoom 44 = .ok (.goto 4, 3) := by decide +kernel
theorem dd_M_entryRoom_47 : decode cd_M_entryRoom 47 = .ok (.iconst 0, 1) := by decide +kernel
theorem dd_M_entryRoom_48 : decode cd_M_entryRoom 48 = .ok (.ireturn, 1) := by decide +kernel
theorem dd_M_needed_0 : decode cd_M_needed 0 = .ok (.iload_n 1, 1) := by decide +kernel
theorem dd_M_needed_1 : decode cd_M_needed 1 = .ok (.bipush 15, 2) := by decide +kernel
theorem dd_M_needed_3 : decode cd_M_needed 3 = .ok (.iadd, 1) := by decide +kernel
theorem dd_M_needed_4 : decode cd_M_needed 4 = .ok (.bipush 16, 2) := by decide +kernel
theorem dd_M_needed_6 : decode cd_M_needed 6 = .ok (.idiv, 1) := by decide +kernel
theorem dd_M_needed_7 : decode cd_M_needed 7 = .ok (.ireturn, 1) := by decide +kernel
theorem dd_M_freeBlocks_0 : decode cd_M_freeBlocks 0 = .ok (.iconst 0, 1) := by decide +kernel
theorem dd_M_freeBlocks_1 : decode cd_M_freeBlocks 1 = .ok (.istore_n 1, 1) := by decide +kernel
theorem dd_M_freeBlocks_2 : decode cd_M_freeBlocks 2 = .ok (.bipush 9, 2) := by decide +kernel
theorem dd_M_freeBlocks_4 : decode cd_M_freeBlocks 4 = .ok (.istore_n 2, 1) := by decide +kernel
theorem dd_M_freeBlocks_5 : decode cd_M_freeBlocks 5 = .ok (.iload_n 2, 1) := by decide +kernel
theorem dd_M_freeBlocks_6 : decode cd_M_freeBlocks 6 = .ok (.bipush 40, 2) := by decide +kernel
theorem dd_M_freeBlocks_8 : decode cd_M_freeBlocks 8 = .ok (.if_icmp .ge 21, 3) := by decide +kernel
theorem dd_M_freeBlocks_11 : decode cd_M_freeBlocks 11 = .ok (.aload_n 0, 1) := by decide +kernel
theorem dd_M_freeBlocks_12 : decode cd_M_freeBlocks 12 = .ok (.iconst 0, 1) := by decide +kernel
theorem dd_M_freeBlocks_13 : decode cd_M_freeBlocks 13 = .ok (.iload_n 2, 1) := by decide +kernel
theorem dd_M_freeBlocks_14 : decode cd_M_freeBlocks 14 = .ok (.invokevirtual 41, 3) := by decide +kernel
theorem dd_M_freeBlocks_17 : decode cd_M_freeBlocks 17 = .ok (.ifCond .ne 6, 3) := by decide +kernel
theorem dd_M_freeBlocks_20 : decode cd_M_freeBlocks 20 = .ok (.iinc 1 1, 3) := by decide +kernel
theorem dd_M_freeBlocks_23 : decode cd_M_freeBlocks 23 = .ok (.iinc 2 1, 3) := by decide +kernel
theorem dd_M_freeBlocks_26 : decode cd_M_freeBlocks 26 = .ok (.goto (-21), 3) := by decide +kernel
theorem dd_M_freeBlocks_29 : decode cd_M_freeBlocks 29 = .ok (.iload_n 1, 1) := by decide +kernel
theorem dd_M_freeBlocks_30 : decode cd_M_freeBlocks 30 = .ok (.ireturn, 1) := by decide +kernel
theorem dd_M_isUsed_0 : decode cd_M_isUsed 0 = .ok (.iload_n 2, 1) := by decide +kernel
theorem dd_M_isUsed_1 : decode cd_M_isUsed 1 = .ok (.bipush 9, 2) := by decide +kernel
theorem dd_M_isUsed_3 : decode cd_M_isUsed 3 = .ok (.if_icmp .ge 5, 3) := by decide +kernel
theorem dd_M_isUsed_6 : decode cd_M_isUsed 6 = .ok (.iconst 1, 1) := by decide +kernel
theorem dd_M_isUsed_7 : decode cd_M_isUsed 7 = .ok (.ireturn, 1) := by decide +kernel
theorem dd_M_isUsed_8 : decode cd_M_isUsed 8 = .ok (.iload_n 1, 1) := by decide +kernel
theorem dd_M_isUsed_9 : decode cd_M_isUsed 9 = .ok (.iconst 4, 1) := by decide +kernel
theorem dd_M_isUsed_10 : decode cd_M_isUsed 10 = .ok (.imul, 1) := by decide +kernel
theorem dd_M_isUsed_11 : decode cd_M_isUsed 11 = .ok (.istore_n 3, 1) := by decide +kernel
theorem dd_M_isUsed_12 : decode cd_M_isUsed 12 = .ok (.iload_n 3, 1) := by decide +kernel
theorem dd_M_isUsed_13 : decode cd_M_isUsed 13 = .ok (.iload_n 1, 1) := by decide +kernel
theorem dd_M_isUsed_14 : decode cd_M_isUsed 14 = .ok (.iconst 4, 1) := by decide +kernel
theorem dd_M_isUsed_15 : decode cd_M_isUsed 15 = .ok (.imul, 1) := by decide +kernel
theorem dd_M_isUsed_16 : decode cd_M_isUsed 16 = .ok (.bipush 48, 2) := by decide +kernel
theorem dd_M_isUsed_18 : decode cd_M_isUsed 18 = .ok (.iadd, 1) := by decide +kernel
theorem dd_M_isUsed_19 : decode cd_M_isUsed 19 = .ok (.if_icmp .ge 21, 3) := by decide +kernel
theorem dd_M_isUsed_22 : decode cd_M_isUsed 22 = .ok (.aload_n 0, 1) := by decide +kernel
theorem dd_M_isUsed_23 : decode cd_M_isUsed 23 = .ok (.getfield 19, 3) := by decide +kernel
theorem dd_M_isUsed_26 : decode cd_M_isUsed 26 = .ok (.iload_n 3, 1) := by decide +kernel
theorem dd_M_isUsed_27 : decode cd_M_isUsed 27 = .ok (.iaload, 1) := by decide +kernel
theorem dd_M_isUsed_28 : decode cd_M_isUsed 28 = .ok (.iload_n 2, 1) := by decide +kernel
theorem dd_M_isUsed_29 : decode cd_M_isUsed 29 = .ok (.if_icmp .ne 5, 3) := by decide +kernel
theorem dd_M_isUsed_32 : decode cd_M_isUsed 32 = .ok (.iconst 1, 1) := by decide +kernel
theorem dd_M_isUsed_33 : decode cd_M_isUsed 33 = .ok (.ireturn, 1) := by decide +kernel
theorem dd_M_isUsed_34 : decode cd_M_isUsed 34 = .ok (.iinc 3 1, 3) := by decide +kernel
theorem dd_M_isUsed_37 : decode cd_M_isUsed 37 = .ok (.goto (-25), 3) := by decide +kernel
theorem dd_M_isUsed_40 : decode cd_M_isUsed 40 = .ok (.iconst 0, 1) := by decide +kernel
theorem dd_M_isUsed_41 : decode cd_M_isUsed 41 = .ok (.ireturn, 1) := by decide +kernel
theorem dd_M_create_0 : decode cd_M_create 0 = .ok (.aload_n 0, 1) := by decide +kernel
theorem dd_M_create_1 : decode cd_M_create 1 = .ok (.invokevirtual 60, 3) := by decide +kernel
theorem dd_M_create_4 : decode cd_M_create 4 = .ok (.istore_n 2, 1) := by decide +kernel
theorem dd_M_create_5 : decode cd_M_create 5 = .ok (.aload_n 0, 1) := by decide +kernel
theorem dd_M_create_6 : decode cd_M_create 6 = .ok (.getfield 7, 3) := by decide +kernel
theorem dd_M_create_9 : decode cd_M_create 9 = .ok (.iload_n 2, 1) := by decide +kernel
theorem dd_M_create_10 : decode cd_M_create 10 = .ok (.iload_n 1, 1) := by decide +kernel
theorem dd_M_create_11 : decode cd_M_create 11 = .ok (.iastore, 1) := by decide +kernel
theorem dd_M_create_12 : decode cd_M_create 12 = .ok (.aload_n 0, 1) := by decide +kernel
theorem dd_M_create_13 : decode cd_M_create 13 = .ok (.getfield 16, 3) := by decide +kernel
theorem dd_M_create_16 : decode cd_M_create 16 = .ok (.iload_n 2, 1) := by decide +kernel
theorem dd_M_create_17 : decode cd_M_create 17 = .ok (.aload_n 0, 1) := by decide +kernel
theorem dd_M_create_18 : decode cd_M_create 18 = .ok (.getfield 16, 3) := by decide +kernel
theorem dd_M_create_21 : decode cd_M_create 21 = .ok (.iload_n 2, 1) := by decide +kernel
theorem dd_M_create_22 : decode cd_M_create 22 = .ok (.iaload, 1) := by decide +kernel
theorem dd_M_create_23 : decode cd_M_create 23 = .ok (.iconst 1, 1) := by decide +kernel
theorem dd_M_create_24 : decode cd_M_create 24 = .ok (.iadd, 1) := by decide +kernel
theorem dd_M_create_25 : decode cd_M_create 25 = .ok (.sipush 256, 3) := by decide +kernel
theorem dd_M_create_28 : decode cd_M_create 28 = .ok (.irem, 1) := by decide +kernel
theorem dd_M_create_29 : decode cd_M_create 29 = .ok (.iastore, 1) := by decide +kernel
theorem dd_M_create_30 : decode cd_M_create 30 = .ok (.iload_n 2, 1) := by decide +kernel
theorem dd_M_create_31 : decode cd_M_create 31 = .ok (.ireturn, 1) := by decide +kernel
theorem dd_M_addEntry_0 : decode cd_M_addEntry 0 = .ok (.aload_n 0, 1) := by decide +kernel
theorem dd_M_addEntry_1 : decode cd_M_addEntry 1 = .ok (.getfield 13, 3) := by decide +kernel
theorem dd_M_addEntry_4 : decode cd_M_addEntry 4 = .ok (.iload_n 1, 1) := by decide +kernel
theorem dd_M_addEntry_5 : decode cd_M_addEntry 5 = .ok (.iaload, 1) := by decide +kernel
theorem dd_M_addEntry_6 : decode cd_M_addEntry 6 = .ok (.istore 4, 2) := by decide +kernel
theorem dd_M_addEntry_8 : decode cd_M_addEntry 8 = .ok (.aload_n 0, 1) := by decide +kernel
theorem dd_M_addEntry_9 : decode cd_M_addEntry 9 = .ok (.iload_n 1, 1) := by decide +kernel
theorem dd_M_addEntry_10 : decode cd_M_addEntry 10 = .ok (.iload 4, 2) := by decide +kernel
theorem dd_M_addEntry_12 : decode cd_M_addEntry 12 = .ok (.iconst 2, 1) := by decide +kernel
theorem dd_M_addEntry_13 : decode cd_M_addEntry 13 = .ok (.iadd, 1) := by decide +kernel
theorem dd_M_addEntry_14 : decode cd_M_addEntry 14 = .ok (.invokevirtual 56, 3) := by decide +kernel
theorem dd_M_addEntry_17 : decode cd_M_addEntry 17 = .ok (.aload_n 0, 1) := by decide +kernel
theorem dd_M_addEntry_18 : decode cd_M_addEntry 18 = .ok (.getfield 22, 3) := by decide +kernel
theorem dd_M_addEntry_21 : decode cd_M_addEntry 21 = .ok (.iload_n 1, 1) := by decide +kernel
theorem dd_M_addEntry_22 : decode cd_M_addEntry 22 = .ok (.bipush 64, 2) := by decide +kernel
theorem dd_M_addEntry_24 : decode cd_M_addEntry 24 = .ok (.imul, 1) := by decide +kernel
theorem dd_M_addEntry_25 : decode cd_M_addEntry 25 = .ok (.iload 4, 2) := by decide +kernel
theorem dd_M_addEntry_27 : decode cd_M_addEntry 27 = .ok (.iadd, 1) := by decide +kernel
theorem dd_M_addEntry_28 : decode cd_M_addEntry 28 = .ok (.iload_n 2, 1) := by decide +kernel
theorem dd_M_addEntry_29 : decode cd_M_addEntry 29 = .ok (.iastore, 1) := by decide +kernel
theorem dd_M_addEntry_30 : decode cd_M_addEntry 30 = .ok (.aload_n 0, 1) := by decide +kernel
theorem dd_M_addEntry_31 : decode cd_M_addEntry 31 = .ok (.getfield 22, 3) := by decide +kernel
theorem dd_M_addEntry_34 : decode cd_M_addEntry 34 = .ok (.iload_n 1, 1) := by decide +kernel
theorem dd_M_addEntry_35 : decode cd_M_addEntry 35 = .ok (.bipush 64, 2) := by decide +kernel
theorem dd_M_addEntry_37 : decode cd_M_addEntry 37 = .ok (.imul, 1) := by decide +kernel
theorem dd_M_addEntry_38 : decode cd_M_addEntry 38 = .ok (.iload 4, 2) := by decide +kernel
theorem dd_M_addEntry_40 : decode cd_M_addEntry 40 = .ok (.iadd, 1) := by decide +kernel
theorem dd_M_addEntry_41 : decode cd_M_addEntry 41 = .ok (.iconst 1, 1) := by decide +kernel
theorem dd_M_addEntry_42 : decode cd_M_addEntry 42 = .ok (.iadd, 1) := by decide +kernel
theorem dd_M_addEntry_43 : decode cd_M_addEntry 43 = .ok (.iload_n 3, 1) := by decide +kernel
theorem dd_M_addEntry_44 : decode cd_M_addEntry 44 = .ok (.iastore, 1) := by decide +kernel
theorem dd_M_addEntry_45 : decode cd_M_addEntry 45 = .ok (.return_, 1) := by decide +kernel
theorem dd_M_resize_0 : decode cd_M_resize 0 = .ok (.iconst 0, 1) := by decide +kernel
theorem dd_M_resize_1 : decode cd_M_resize 1 = .ok (.istore_n 3, 1) := by decide +kernel
theorem dd_M_resize_2 : decode cd_M_resize 2 = .ok (.iload_n 3, 1) := by decide +kernel
theorem dd_M_resize_3 : decode cd_M_resize 3 = .ok (.iconst 4, 1) := by decide +kernel
theorem dd_M_resize_4 : decode cd_M_resize 4 = .ok (.if_icmp .ge 65, 3) := by decide +kernel
theorem dd_M_resize_7 : decode cd_M_resize 7 = .ok (.iload_n 3, 1) := by decide +kernel
theorem dd_M_resize_8 : decode cd_M_resize 8 = .ok (.aload_n 0, 1) := by decide +kernel
theorem dd_M_resize_9 : decode cd_M_resize 9 = .ok (.iload_n 2, 1) := by decide +kernel
theorem dd_M_resize_10 : decode cd_M_resize 10 = .ok (.invokevirtual 45, 3) := by decide +kernel
theorem dd_M_resize_13 : decode cd_M_resize 13 = .ok (.if_icmp .ge 30, 3) := by decide +kernel
theorem dd_M_resize_16 : decode cd_M_resize 16 = .ok (.aload_n 0, 1) := by decide +kernel
theorem dd_M_resize_17 : decode cd_M_resize 17 = .ok (.getfield 19, 3) := by decide +kernel
theorem dd_M_resize_20 : decode cd_M_resize 20 = .ok (.iload_n 1, 1) := by decide +kernel
theorem dd_M_resize_21 : decode cd_M_resize 21 = .ok (.iconst 4, 1) := by decide +kernel
theorem dd_M_resize_22 : decode cd_M_resize 22 = .ok (.imul, 1) := by decide +kernel
theorem dd_M_resize_23 : decode cd_M_resize 23 = .ok (.iload_n 3, 1) := by decide +kernel
theorem dd_M_resize_24 : decode cd_M_resize 24 = .ok (.iadd, 1) := by decide +kernel
theorem dd_M_resize_25 : decode cd_M_resize 25 = .ok (.iaload, 1) := by decide +kernel
theorem dd_M_resize_26 : decode cd_M_resize 26 = .ok (.ifCond .ne 17, 3) := by decide +kernel
theorem dd_M_resize_29 : decode cd_M_resize 29 = .ok (.aload_n 0, 1) := by decide +kernel
theorem dd_M_resize_30 : decode cd_M_resize 30 = .ok (.getfield 19, 3) := by decide +kernel
theorem dd_M_resize_33 : decode cd_M_resize 33 = .ok (.iload_n 1, 1) := by decide +kernel
theorem dd_M_resize_34 : decode cd_M_resize 34 = .ok (.iconst 4, 1) := by decide +kernel
theorem dd_M_resize_35 : decode cd_M_resize 35 = .ok (.imul, 1) := by decide +kernel
theorem dd_M_resize_36 : decode cd_M_resize 36 = .ok (.iload_n 3, 1) := by decide +kernel
theorem dd_M_resize_37 : decode cd_M_resize 37 = .ok (.iadd, 1) := by decide +kernel
theorem dd_M_resize_38 : decode cd_M_resize 38 = .ok (.aload_n 0, 1) := by decide +kernel
theorem dd_M_resize_39 : decode cd_M_resize 39 = .ok (.invokevirtual 53, 3) := by decide +kernel
theorem dd_M_resize_42 : decode cd_M_resize 42 = .ok (.iastore, 1) := by decide +kernel
theorem dd_M_resize_43 : decode cd_M_resize 43 = .ok (.iload_n 3, 1) := by decide +kernel
theorem dd_M_resize_44 : decode cd_M_resize 44 = .ok (.aload_n 0, 1) := by decide +kernel
theorem dd_M_resize_45 : decode cd_M_resize 45 = .ok (.iload_n 2, 1) := by decide +kernel
theorem dd_M_resize_46 : decode cd_M_resize 46 = .ok (.invokevirtual 45, 3) := by decide +kernel
theorem dd_M_resize_49 : decode cd_M_resize 49 = .ok (.if_icmp .lt 14, 3) := by decide +kernel
theorem dd_M_resize_52 : decode cd_M_resize 52 = .ok (.aload_n 0, 1) := by decide +kernel
theorem dd_M_resize_53 : decode cd_M_resize 53 = .ok (.getfield 19, 3) := by decide +kernel
theorem dd_M_resize_56 : decode cd_M_resize 56 = .ok (.iload_n 1, 1) := by decide +kernel
theorem dd_M_resize_57 : decode cd_M_resize 57 = .ok (.iconst 4, 1) := by decide +kernel
theorem dd_M_resize_58 : decode cd_M_resize 58 = .ok (.imul, 1) := by decide +kernel
theorem dd_M_resize_59 : decode cd_M_resize 59 = .ok (.iload_n 3, 1) := by decide +kernel
theorem dd_M_resize_60 : decode cd_M_resize 60 = .ok (.iadd, 1) := by decide +kernel
theorem dd_M_resize_61 : decode cd_M_resize 61 = .ok (.iconst 0, 1) := by decide +kernel
theorem dd_M_resize_62 : decode cd_M_resize 62 = .ok (.iastore, 1) := by decide +kernel
theorem dd_M_resize_63 : decode cd_M_resize 63 = .ok (.iinc 3 1, 3) := by decide +kernel
theorem dd_M_resize_66 : decode cd_M_resize 66 = .ok (.goto (-64), 3) := by decide +kernel
theorem dd_M_resize_69 : decode cd_M_resize 69 = .ok (.iload_n 2, 1) := by decide +kernel
theorem dd_M_resize_70 : decode cd_M_resize 70 = .ok (.istore_n 3, 1) := by decide +kernel
theorem dd_M_resize_71 : decode cd_M_resize 71 = .ok (.iload_n 3, 1) := by decide +kernel
theorem dd_M_resize_72 : decode cd_M_resize 72 = .ok (.bipush 64, 2) := by decide +kernel
theorem dd_M_resize_74 : decode cd_M_resize 74 = .ok (.if_icmp .ge 21, 3) := by decide +kernel
theorem dd_M_resize_77 : decode cd_M_resize 77 = .ok (.aload_n 0, 1) := by decide +kernel
theorem dd_M_resize_78 : decode cd_M_resize 78 = .ok (.getfield 22, 3) := by decide +kernel
theorem dd_M_resize_81 : decode cd_M_resize 81 = .ok (.iload_n 1, 1) := by decide +kernel
theorem dd_M_resize_82 : decode cd_M_resize 82 = .ok (.bipush 64, 2) := by decide +kernel
theorem dd_M_resize_84 : decode cd_M_resize 84 = .ok (.imul, 1) := by decide +kernel
theorem dd_M_resize_85 : decode cd_M_resize 85 = .ok (.iload_n 3, 1) := by decide +kernel
theorem dd_M_resize_86 : decode cd_M_resize 86 = .ok (.iadd, 1) := by decide +kernel
theorem dd_M_resize_87 : decode cd_M_resize 87 = .ok (.iconst 0, 1) := by decide +kernel
theorem dd_M_resize_88 : decode cd_M_resize 88 = .ok (.iastore, 1) := by decide +kernel
theorem dd_M_resize_89 : decode cd_M_resize 89 = .ok (.iinc 3 1, 3) := by decide +kernel
theorem dd_M_resize_92 : decode cd_M_resize 92 = .ok (.goto (-21), 3) := by decide +kernel
theorem dd_M_resize_95 : decode cd_M_resize 95 = .ok (.aload_n 0, 1) := by decide +kernel
theorem dd_M_resize_96 : decode cd_M_resize 96 = .ok (.getfield 13, 3) := by decide +kernel
theorem dd_M_resize_99 : decode cd_M_resize 99 = .ok (.iload_n 1, 1) := by decide +kernel
theorem dd_M_resize_100 : decode cd_M_resize 100 = .ok (.iload_n 2, 1) := by decide +kernel
theorem dd_M_resize_101 : decode cd_M_resize 101 = .ok (.iastore, 1) := by decide +kernel
theorem dd_M_resize_102 : decode cd_M_resize 102 = .ok (.return_, 1) := by decide +kernel
theorem dd_M_newBlock_0 : decode cd_M_newBlock 0 = .ok (.bipush 9, 2) := by decide +kernel
theorem dd_M_newBlock_2 : decode cd_M_newBlock 2 = .ok (.istore_n 1, 1) := by decide +kernel
theorem dd_M_newBlock_3 : decode cd_M_newBlock 3 = .ok (.aload_n 0, 1) := by decide +kernel
theorem dd_M_newBlock_4 : decode cd_M_newBlock 4 = .ok (.iconst 0, 1) := by decide +kernel
theorem dd_M_newBlock_5 : decode cd_M_newBlock 5 = .ok (.iload_n 1, 1) := by decide +kernel
theorem dd_M_newBlock_6 : decode cd_M_newBlock 6 = .ok (.invokevirtual 41, 3) := by decide +kernel
theorem dd_M_newBlock_9 : decode cd_M_newBlock 9 = .ok (.ifCond .eq 9, 3) := by decide +kernel
theorem dd_M_newBlock_12 : decode cd_M_newBlock 12 = .ok (.iinc 1 1, 3) := by decide +kernel
theorem dd_M_newBlock_15 : decode cd_M_newBlock 15 = .ok (.goto (-12), 3) := by decide +kernel
theorem dd_M_newBlock_18 : decode cd_M_newBlock 18 = .ok (.iload_n 1, 1) := by decide +kernel
theorem dd_M_newBlock_19 : decode cd_M_newBlock 19 = .ok (.ireturn, 1) := by decide +kernel
theorem dd_M_open_0 : decode cd_M_open 0 = .ok (.iload_n 2, 1) := by decide +kernel
theorem dd_M_open_1 : decode cd_M_open 1 = .ok (.iconst 2, 1) := by decide +kernel
theorem dd_M_open_2 : decode cd_M_open 2 = .ok (.if_icmp .eq 8, 3) := by decide +kernel
theorem dd_M_open_5 : decode cd_M_open 5 = .ok (.iload_n 2, 1) := by decide +kernel
theorem dd_M_open_6 : decode cd_M_open 6 = .ok (.iconst 3, 1) := by decide +kernel
theorem dd_M_open_7 : decode cd_M_open 7 = .ok (.if_icmp .ne 7, 3) := by decide +kernel
theorem dd_M_open_10 : decode cd_M_open 10 = .ok (.iconst 1, 1) := by decide +kernel
theorem dd_M_open_11 : decode cd_M_open 11 = .ok (.goto 4, 3) := by decide +kernel
theorem dd_M_open_14 : decode cd_M_open 14 = .ok (.iconst 0, 1) := by decide +kernel
theorem dd_M_open_15 : decode cd_M_open 15 = .ok (.istore 6, 2) := by decide +kernel
theorem dd_M_open_17 : decode cd_M_open 17 = .ok (.aload_n 0, 1) := by decide +kernel
theorem dd_M_open_18 : decode cd_M_open 18 = .ok (.aload_n 0, 1) := by decide +kernel
theorem dd_M_open_19 : decode cd_M_open 19 = .ok (.iload_n 1, 1) := by decide +kernel
theorem dd_M_open_20 : decode cd_M_open 20 = .ok (.invokevirtual 79, 3) := by decide +kernel
theorem dd_M_open_23 : decode cd_M_open 23 = .ok (.ifCond .ne 13, 3) := by decide +kernel
theorem dd_M_open_26 : decode cd_M_open 26 = .ok (.iload_n 2, 1) := by decide +kernel
theorem dd_M_open_27 : decode cd_M_open 27 = .ok (.iconst 1, 1) := by decide +kernel
theorem dd_M_open_28 : decode cd_M_open 28 = .ok (.if_icmp .lt 8, 3) := by decide +kernel
theorem dd_M_open_31 : decode cd_M_open 31 = .ok (.iload_n 2, 1) := by decide +kernel
theorem dd_M_open_32 : decode cd_M_open 32 = .ok (.iconst 4, 1) := by decide +kernel
theorem dd_M_open_33 : decode cd_M_open 33 = .ok (.if_icmp .le 7, 3) := by decide +kernel
theorem dd_M_open_36 : decode cd_M_open 36 = .ok (.iconst 1, 1) := by decide +kernel
theorem dd_M_open_37 : decode cd_M_open 37 = .ok (.goto 32, 3) := by decide +kernel
theorem dd_M_open_40 : decode cd_M_open 40 = .ok (.aload_n 0, 1) := by decide +kernel
theorem dd_M_open_41 : decode cd_M_open 41 = .ok (.iload_n 1, 1) := by decide +kernel
theorem dd_M_open_42 : decode cd_M_open 42 = .ok (.invokevirtual 83, 3) := by decide +kernel
theorem dd_M_open_45 : decode cd_M_open 45 = .ok (.ifCond .eq 19, 3) := by decide +kernel
theorem dd_M_open_48 : decode cd_M_open 48 = .ok (.aload_n 0, 1) := by decide +kernel
theorem dd_M_open_49 : decode cd_M_open 49 = .ok (.getfield 69, 3) := by decide +kernel
theorem dd_M_open_52 : decode cd_M_open 52 = .ok (.ifCond .ge 16, 3) := by decide +kernel
theorem dd_M_open_55 : decode cd_M_open 55 = .ok (.iload_n 3, 1) := by decide +kernel
theorem dd_M_open_56 : decode cd_M_open 56 = .ok (.ifCond .eq 8, 3) := by decide +kernel
theorem dd_M_open_59 : decode cd_M_open 59 = .ok (.iload 6, 2) := by decide +kernel
theorem dd_M_open_61 : decode cd_M_open 61 = .ok (.ifCond .ne 7, 3) := by decide +kernel
theorem dd_M_open_64 : decode cd_M_open 64 = .ok (.iconst 2, 1) := by decide +kernel
theorem dd_M_open_65 : decode cd_M_open 65 = .ok (.goto 4, 3) := by decide +kernel
theorem dd_M_open_68 : decode cd_M_open 68 = .ok (.iconst 0, 1) := by decide +kernel
theorem dd_M_open_69 : decode cd_M_open 69 = .ok (.putfield 37, 3) := by decide +kernel
theorem dd_M_open_72 : decode cd_M_open 72 = .ok (.aload_n 0, 1) := by decide +kernel
theorem dd_M_open_73 : decode cd_M_open 73 = .ok (.getfield 37, 3) := by decide +kernel
theorem dd_M_open_76 : decode cd_M_open 76 = .ok (.ifCond .ne 37, 3) := by decide +kernel
theorem dd_M_open_79 : decode cd_M_open 79 = .ok (.aload_n 0, 1) := by decide +kernel
theorem dd_M_open_80 : decode cd_M_open 80 = .ok (.getfield 69, 3) := by decide +kernel
theorem dd_M_open_83 : decode cd_M_open 83 = .ok (.ifCond .lt 30, 3) := by decide +kernel
theorem dd_M_open_86 : decode cd_M_open 86 = .ok (.aload_n 0, 1) := by decide +kernel
theorem dd_M_open_87 : decode cd_M_open 87 = .ok (.getfield 7, 3) := by decide +kernel
theorem dd_M_open_90 : decode cd_M_open 90 = .ok (.aload_n 0, 1) := by decide +kernel
theorem dd_M_open_91 : decode cd_M_open 91 = .ok (.getfield 69, 3) := by decide +kernel
theorem dd_M_open_94 : decode cd_M_open 94 = .ok (.iaload, 1) := by decide +kernel
theorem dd_M_open_95 : decode cd_M_open 95 = .ok (.iload_n 2, 1) := by decide +kernel
theorem dd_M_open_96 : decode cd_M_open 96 = .ok (.iconst 4, 1) := by decide +kernel
theorem dd_M_open_97 : decode cd_M_open 97 = .ok (.if_icmp .ne 7, 3) := by decide +kernel
theorem dd_M_open_100 : decode cd_M_open 100 = .ok (.iconst 2, 1) := by decide +kernel
theorem dd_M_open_101 : decode cd_M_open 101 = .ok (.goto 4, 3) := by decide +kernel
theorem dd_M_open_104 : decode cd_M_open 104 = .ok (.iconst 1, 1) := by decide +kernel
theorem dd_M_open_105 : decode cd_M_open 105 = .ok (.if_icmp .eq 8, 3) := by decide +kernel
theorem dd_M_open_108 : decode cd_M_open 108 = .ok (.aload_n 0, 1) := by decide +kernel
theorem dd_M_open_109 : decode cd_M_open 109 = .ok (.iconst 3, 1) := by decide +kernel
theorem dd_M_open_110 : decode cd_M_open 110 = .ok (.putfield 37, 3) := by decide +kernel
theorem dd_M_open_113 : decode cd_M_open 113 = .ok (.aload_n 0, 1) := by decide +kernel
theorem dd_M_open_114 : decode cd_M_open 114 = .ok (.invokevirtual 96, 3) := by decide +kernel
theorem dd_M_open_117 : decode cd_M_open 117 = .ok (.istore 7, 2) := by decide +kernel
theorem dd_M_open_119 : decode cd_M_open 119 = .ok (.aload_n 0, 1) := by decide +kernel
theorem dd_M_open_120 : decode cd_M_open 120 = .ok (.getfield 37, 3) := by decide +kernel
theorem dd_M_open_123 : decode cd_M_open 123 = .ok (.ifCond .ne 43, 3) := by decide +kernel
theorem dd_M_open_126 : decode cd_M_open 126 = .ok (.iload 7, 2) := by decide +kernel
theorem dd_M_open_128 : decode cd_M_open 128 = .ok (.bipush 6, 2) := by decide +kernel
theorem dd_M_open_130 : decode cd_M_open 130 = .ok (.if_icmp .eq 31, 3) := by decide +kernel
theorem dd_M_open_133 : decode cd_M_open 133 = .ok (.aload_n 0, 1) := by decide +kernel
theorem dd_M_open_134 : decode cd_M_open 134 = .ok (.getfield 69, 3) := by decide +kernel
theorem dd_M_open_137 : decode cd_M_open 137 = .ok (.ifCond .ge 29, 3) := by decide +kernel
theorem dd_M_open_140 : decode cd_M_open 140 = .ok (.aload_n 0, 1) := by decide +kernel
theorem dd_M_open_141 : decode cd_M_open 141 = .ok (.invokevirtual 60, 3) := by decide +kernel
theorem dd_M_open_144 : decode cd_M_open 144 = .ok (.bipush 12, 2) := by decide +kernel
theorem dd_M_open_146 : decode cd_M_open 146 = .ok (.if_icmp .eq 15, 3) := by decide +kernel
theorem dd_M_open_149 : decode cd_M_open 149 = .ok (.aload_n 0, 1) := by decide +kernel
theorem dd_M_open_150 : decode cd_M_open 150 = .ok (.aload_n 0, 1) := by decide +kernel
theorem dd_M_open_151 : decode cd_M_open 151 = .ok (.getfield 63, 3) := by decide +kernel
theorem dd_M_open_154 : decode cd_M_open 154 = .ok (.iconst 0, 1) := by decide +kernel
theorem dd_M_open_155 : decode cd_M_open 155 = .ok (.invokevirtual 86, 3) := by decide +kernel
theorem dd_M_open_158 : decode cd_M_open 158 = .ok (.ifCond .ne 8, 3) := by decide +kernel
theorem dd_M_open_161 : decode cd_M_open 161 = .ok (.aload_n 0, 1) := by decide +kernel
theorem dd_M_open_162 : decode cd_M_open 162 = .ok (.iconst 4, 1) := by decide +kernel
theorem dd_M_open_163 : decode cd_M_open 163 = .ok (.putfield 37, 3) := by decide +kernel
theorem dd_M_open_166 : decode cd_M_open 166 = .ok (.aload_n 0, 1) := by decide +kernel
theorem dd_M_open_167 : decode cd_M_open 167 = .ok (.getfield 37, 3) := by decide +kernel
theorem dd_M_open_170 : decode cd_M_open 170 = .ok (.ifCond .eq 5, 3) := by decide +kernel
theorem dd_M_open_173 : decode cd_M_open 173 = .ok (.iconst 0, 1) := by decide +kernel
theorem dd_M_open_174 : decode cd_M_open 174 = .ok (.ireturn, 1) := by decide +kernel
theorem dd_M_open_175 : decode cd_M_open 175 = .ok (.aload_n 0, 1) := by decide +kernel
theorem dd_M_open_176 : decode cd_M_open 176 = .ok (.getfield 69, 3) := by decide +kernel
theorem dd_M_open_179 : decode cd_M_open 179 = .ok (.istore 8, 2) := by decide +kernel
theorem dd_M_open_181 : decode cd_M_open 181 = .ok (.iload 8, 2) := by decide +kernel
theorem dd_M_open_183 : decode cd_M_open 183 = .ok (.ifCond .ge 24, 3) := by decide +kernel
theorem dd_M_open_186 : decode cd_M_open 186 = .ok (.aload_n 0, 1) := by decide +kernel
theorem dd_M_open_187 : decode cd_M_open 187 = .ok (.iconst 1, 1) := by decide +kernel
theorem dd_M_open_188 : decode cd_M_open 188 = .ok (.invokevirtual 89, 3) := by decide +kernel
theorem dd_M_open_191 : decode cd_M_open 191 = .ok (.istore 8, 2) := by decide +kernel
theorem dd_M_open_193 : decode cd_M_open 193 = .ok (.aload_n 0, 1) := by decide +kernel
theorem dd_M_open_194 : decode cd_M_open 194 = .ok (.aload_n 0, 1) := by decide +kernel
theorem dd_M_open_195 : decode cd_M_open 195 = .ok (.getfield 63, 3) := by decide +kernel
theorem dd_M_open_198 : decode cd_M_open 198 = .ok (.aload_n 0, 1) := by decide +kernel
theorem dd_M_open_199 : decode cd_M_open 199 = .ok (.getfield 72, 3) := by decide +kernel
theorem dd_M_open_202 : decode cd_M_open 202 = .ok (.iload 8, 2) := by decide +kernel
theorem dd_M_open_204 : decode cd_M_open 204 = .ok (.invokevirtual 92, 3) := by decide +kernel
theorem dd_M_open_207 : decode cd_M_open 207 = .ok (.iload 5, 2) := by decide +kernel
theorem dd_M_open_209 : decode cd_M_open 209 = .ok (.ifCond .eq 15, 3) := by decide +kernel
theorem dd_M_open_212 : decode cd_M_open 212 = .ok (.iload 6, 2) := by decide +kernel
theorem dd_M_open_214 : decode cd_M_open 214 = .ok (.ifCond .eq 10, 3) := by decide +kernel
theorem dd_M_open_217 : decode cd_M_open 217 = .ok (.aload_n 0, 1) := by decide +kernel
theorem dd_M_open_218 : decode cd_M_open 218 = .ok (.iload 8, 2) := by decide +kernel
theorem dd_M_open_220 : decode cd_M_open 220 = .ok (.iconst 0, 1) := by decide +kernel
theorem dd_M_open_221 : decode cd_M_open 221 = .ok (.invokevirtual 56, 3) := by decide +kernel
theorem dd_M_open_224 : decode cd_M_open 224 = .ok (.aload_n 0, 1) := by decide +kernel
theorem dd_M_open_225 : decode cd_M_open 225 = .ok (.getfield 25, 3) := by decide +kernel
theorem dd_M_open_228 : decode cd_M_open 228 = .ok (.iload 7, 2) := by decide +kernel
theorem dd_M_open_230 : decode cd_M_open 230 = .ok (.iload 8, 2) := by decide +kernel
theorem dd_M_open_232 : decode cd_M_open 232 = .ok (.iconst 1, 1) := by decide +kernel
theorem dd_M_open_233 : decode cd_M_open 233 = .ok (.iadd, 1) := by decide +kernel
theorem dd_M_open_234 : decode cd_M_open 234 = .ok (.iastore, 1) := by decide +kernel
theorem dd_M_open_235 : decode cd_M_open 235 = .ok (.aload_n 0, 1) := by decide +kernel
theorem dd_M_open_236 : decode cd_M_open 236 = .ok (.getfield 28, 3) := by decide +kernel
theorem dd_M_open_239 : decode cd_M_open 239 = .ok (.iload 7, 2) := by decide +kernel
theorem dd_M_open_241 : decode cd_M_open 241 = .ok (.aload_n 0, 1) := by decide +kernel
theorem dd_M_open_242 : decode cd_M_open 242 = .ok (.getfield 16, 3) := by decide +kernel
theorem dd_M_open_245 : decode cd_M_open 245 = .ok (.iload 8, 2) := by decide +kernel
theorem dd_M_open_247 : decode cd_M_open 247 = .ok (.iaload, 1) := by decide +kernel
theorem dd_M_open_248 : decode cd_M_open 248 = .ok (.iastore, 1) := by decide +kernel
theorem dd_M_open_249 : decode cd_M_open 249 = .ok (.aload_n 0, 1) := by decide +kernel
theorem dd_M_open_250 : decode cd_M_open 250 = .ok (.getfield 31, 3) := by decide +kernel
theorem dd_M_open_253 : decode cd_M_open 253 = .ok (.iload 7, 2) := by decide +kernel
theorem dd_M_open_255 : decode cd_M_open 255 = .ok (.iload_n 2, 1) := by decide +kernel
theorem dd_M_open_256 : decode cd_M_open 256 = .ok (.iastore, 1) := by decide +kernel
theorem dd_M_open_257 : decode cd_M_open 257 = .ok (.aload_n 0, 1) := by decide +kernel
theorem dd_M_open_258 : decode cd_M_open 258 = .ok (.getfield 34, 3) := by decide +kernel
theorem dd_M_open_261 : decode cd_M_open 261 = .ok (.iload 7, 2) := by decide +kernel
theorem dd_M_open_263 : decode cd_M_open 263 = .ok (.iload 4, 2) := by decide +kernel
theorem dd_M_open_265 : decode cd_M_open 265 = .ok (.ifCond .eq 18, 3) := by decide +kernel
theorem dd_M_open_268 : decode cd_M_open 268 = .ok (.iload_n 2, 1) := by decide +kernel
theorem dd_M_open_269 : decode cd_M_open 269 = .ok (.iconst 4, 1) := by decide +kernel
theorem dd_M_open_270 : decode cd_M_open 270 = .ok (.if_icmp .ge 13, 3) := by decide +kernel
theorem dd_M_open_273 : decode cd_M_open 273 = .ok (.aload_n 0, 1) := by decide +kernel
theorem dd_M_open_274 : decode cd_M_open 274 = .ok (.getfield 13, 3) := by decide +kernel
theorem dd_M_open_277 : decode cd_M_open 277 = .ok (.iload 8, 2) := by decide +kernel
theorem dd_M_open_279 : decode cd_M_open 279 = .ok (.iaload, 1) := by decide +kernel
theorem dd_M_open_280 : decode cd_M_open 280 = .ok (.goto 4, 3) := by decide +kernel
theorem dd_M_open_283 : decode cd_M_open 283 = .ok (.iconst 0, 1) := by decide +kernel
theorem dd_M_open_284 : decode cd_M_open 284 = .ok (.iastore, 1) := by decide +kernel
theorem dd_M_open_285 : decode cd_M_open 285 = .ok (.iload 7, 2) := by decide +kernel
theorem dd_M_open_287 : decode cd_M_open 287 = .ok (.ireturn, 1) := by decide +kernel
theorem dd_M_closedHandle_0 : decode cd_M_closedHandle 0 = .ok (.iconst 0, 1) := by decide +kernel
theorem dd_M_closedHandle_1 : decode cd_M_closedHandle 1 = .ok (.istore_n 1, 1) := by decide +kernel
theorem dd_M_closedHandle_2 : decode cd_M_closedHandle 2 = .ok (.iload_n 1, 1) := by decide +kernel
theorem dd_M_closedHandle_3 : decode cd_M_closedHandle 3 = .ok (.bipush 6, 2) := by decide +kernel
theorem dd_M_closedHandle_5 : decode cd_M_closedHandle 5 = .ok (.if_icmp .ge 18, 3) := by decide +kernel
theorem dd_M_closedHandle_8 : decode cd_M_closedHandle 8 = .ok (.aload_n 0, 1) := by decide +kernel
theorem dd_M_closedHandle_9 : decode cd_M_closedHandle 9 = .ok (.getfield 25, 3) := by decide +kernel
theorem dd_M_closedHandle_12 : decode cd_M_closedHandle 12 = .ok (.iload_n 1, 1) := by decide +kernel
theorem dd_M_closedHandle_13 : decode cd_M_closedHandle 13 = .ok (.iaload, 1) := by decide +kernel
theorem dd_M_closedHandle_14 : decode cd_M_closedHandle 14 = .ok (.ifCond .eq 9, 3) := by decide +kernel
theorem dd_M_closedHandle_17 : decode cd_M_closedHandle 17 = .ok (.iinc 1 1, 3) := by decide +kernel
theorem dd_M_closedHandle_20 : decode cd_M_closedHandle 20 = .ok (.goto (-18), 3) := by decide +kernel
theorem dd_M_closedHandle_23 : decode cd_M_closedHandle 23 = .ok (.iload_n 1, 1) := by decide +kernel
theorem dd_M_closedHandle_24 : decode cd_M_closedHandle 24 = .ok (.ireturn, 1) := by decide +kernel
theorem dd_M_close_0 : decode cd_M_close 0 = .ok (.aload_n 0, 1) := by decide +kernel
theorem dd_M_close_1 : decode cd_M_close 1 = .ok (.iload_n 1, 1) := by decide +kernel
theorem dd_M_close_2 : decode cd_M_close 2 = .ok (.ifCond .lt 8, 3) := by decide +kernel
theorem dd_M_close_5 : decode cd_M_close 5 = .ok (.iload_n 1, 1) := by decide +kernel
theorem dd_M_close_6 : decode cd_M_close 6 = .ok (.iconst 5, 1) := by decide +kernel
theorem dd_M_close_7 : decode cd_M_close 7 = .ok (.if_icmp .le 7, 3) := by decide +kernel
theorem dd_M_close_10 : decode cd_M_close 10 = .ok (.iconst 1, 1) := by decide +kernel
theorem dd_M_close_11 : decode cd_M_close 11 = .ok (.goto 17, 3) := by decide +kernel
theorem dd_M_close_14 : decode cd_M_close 14 = .ok (.aload_n 0, 1) := by decide +kernel
theorem dd_M_close_15 : decode cd_M_close 15 = .ok (.getfield 25, 3) := by decide +kernel
theorem dd_M_close_18 : decode cd_M_close 18 = .ok (.iload_n 1, 1) := by decide +kernel
theorem dd_M_close_19 : decode cd_M_close 19 = .ok (.iaload, 1) := by decide +kernel
theorem dd_M_close_20 : decode cd_M_close 20 = .ok (.ifCond .ne 7, 3) := by decide +kernel
theorem dd_M_close_23 : decode cd_M_close 23 = .ok (.iconst 2, 1) := by decide +kernel
theorem dd_M_close_24 : decode cd_M_close 24 = .ok (.goto 4, 3) := by decide +kernel
theorem dd_M_close_27 : decode cd_M_close 27 = .ok (.iconst 0, 1) := by decide +kernel
theorem dd_M_close_28 : decode cd_M_close 28 = .ok (.putfield 37, 3) := by decide +kernel
theorem dd_M_close_31 : decode cd_M_close 31 = .ok (.aload_n 0, 1) := by decide +kernel
theorem dd_M_close_32 : decode cd_M_close 32 = .ok (.getfield 37, 3) := by decide +kernel
theorem dd_M_close_35 : decode cd_M_close 35 = .ok (.ifCond .ne 10, 3) := by decide +kernel
theorem dd_M_close_38 : decode cd_M_close 38 = .ok (.aload_n 0, 1) := by decide +kernel
theorem dd_M_close_39 : decode cd_M_close 39 = .ok (.getfield 25, 3) := by decide +kernel
theorem dd_M_close_42 : decode cd_M_close 42 = .ok (.iload_n 1, 1) := by decide +kernel
theorem dd_M_close_43 : decode cd_M_close 43 = .ok (.iconst 0, 1) := by decide +kernel
theorem dd_M_close_44 : decode cd_M_close 44 = .ok (.iastore, 1) := by decide +kernel
theorem dd_M_close_45 : decode cd_M_close 45 = .ok (.return_, 1) := by decide +kernel
theorem dd_M_write_0 : decode cd_M_write 0 = .ok (.aload_n 0, 1) := by decide +kernel
theorem dd_M_write_1 : decode cd_M_write 1 = .ok (.iload_n 1, 1) := by decide +kernel
theorem dd_M_write_2 : decode cd_M_write 2 = .ok (.ifCond .lt 20, 3) := by decide +kernel
theorem dd_M_write_5 : decode cd_M_write 5 = .ok (.iload_n 1, 1) := by decide +kernel
theorem dd_M_write_6 : decode cd_M_write 6 = .ok (.iconst 5, 1) := by decide +kernel
theorem dd_M_write_7 : decode cd_M_write 7 = .ok (.if_icmp .gt 15, 3) := by decide +kernel
theorem dd_M_write_10 : decode cd_M_write 10 = .ok (.iload 4, 2) := by decide +kernel
theorem dd_M_write_12 : decode cd_M_write 12 = .ok (.ifCond .lt 10, 3) := by decide +kernel
theorem dd_M_write_15 : decode cd_M_write 15 = .ok (.iload 4, 2) := by decide +kernel
theorem dd_M_write_17 : decode cd_M_write 17 = .ok (.bipush 8, 2) := by decide +kernel
theorem dd_M_write_19 : decode cd_M_write 19 = .ok (.if_icmp .le 7, 3) := by decide +kernel
theorem dd_M_write_22 : decode cd_M_write 22 = .ok (.iconst 1, 1) := by decide +kernel
theorem dd_M_write_23 : decode cd_M_write 23 = .ok (.goto 10, 3) := by decide +kernel
theorem dd_M_write_26 : decode cd_M_write 26 = .ok (.aload_n 0, 1) := by decide +kernel
theorem dd_M_write_27 : decode cd_M_write 27 = .ok (.iload_n 1, 1) := by decide +kernel
theorem dd_M_write_28 : decode cd_M_write 28 = .ok (.iconst 2, 1) := by decide +kernel
theorem dd_M_write_29 : decode cd_M_write 29 = .ok (.iconst 2, 1) := by decide +kernel
theorem dd_M_write_30 : decode cd_M_write 30 = .ok (.invokevirtual 102, 3) := by decide +kernel
theorem dd_M_write_33 : decode cd_M_write 33 = .ok (.putfield 37, 3) := by decide +kernel
theorem dd_M_write_36 : decode cd_M_write 36 = .ok (.aload_n 0, 1) := by decide +kernel
theorem dd_M_write_37 : decode cd_M_write 37 = .ok (.getfield 37, 3) := by decide +kernel
theorem dd_M_write_40 : decode cd_M_write 40 = .ok (.ifCond .ne 8, 3) := by decide +kernel
theorem dd_M_write_43 : decode cd_M_write 43 = .ok (.iload 4, 2) := by decide +kernel
theorem dd_M_write_45 : decode cd_M_write 45 = .ok (.ifCond .ne 4, 3) := by decide +kernel
theorem dd_M_write_48 : decode cd_M_write 48 = .ok (.return_, 1) := by decide +kernel
theorem dd_M_write_49 : decode cd_M_write 49 = .ok (.aload_n 0, 1) := by decide +kernel
theorem dd_M_write_50 : decode cd_M_write 50 = .ok (.getfield 25, 3) := by decide +kernel
theorem dd_M_write_53 : decode cd_M_write 53 = .ok (.iload_n 1, 1) := by decide +kernel
theorem dd_M_write_54 : decode cd_M_write 54 = .ok (.iaload, 1) := by decide +kernel
theorem dd_M_write_55 : decode cd_M_write 55 = .ok (.iconst 1, 1) := by decide +kernel
theorem dd_M_write_56 : decode cd_M_write 56 = .ok (.isub, 1) := by decide +kernel
theorem dd_M_write_57 : decode cd_M_write 57 = .ok (.istore 5, 2) := by decide +kernel
theorem dd_M_write_59 : decode cd_M_write 59 = .ok (.aload_n 0, 1) := by decide +kernel
theorem dd_M_write_60 : decode cd_M_write 60 = .ok (.getfield 34, 3) := by decide +kernel
theorem dd_M_write_63 : decode cd_M_write 63 = .ok (.iload_n 1, 1) := by decide +kernel
theorem dd_M_write_64 : decode cd_M_write 64 = .ok (.iaload, 1) := by decide +kernel
theorem dd_M_write_65 : decode cd_M_write 65 = .ok (.iload 4, 2) := by decide +kernel
theorem dd_M_write_67 : decode cd_M_write 67 = .ok (.iadd, 1) := by decide +kernel
theorem dd_M_write_68 : decode cd_M_write 68 = .ok (.istore 6, 2) := by decide +kernel
theorem dd_M_write_70 : decode cd_M_write 70 = .ok (.iload 6, 2) := by decide +kernel
theorem dd_M_write_72 : decode cd_M_write 72 = .ok (.aload_n 0, 1) := by decide +kernel
theorem dd_M_write_73 : decode cd_M_write 73 = .ok (.getfield 13, 3) := by decide +kernel
theorem dd_M_write_76 : decode cd_M_write 76 = .ok (.iload 5, 2) := by decide +kernel
theorem dd_M_write_78 : decode cd_M_write 78 = .ok (.iaload, 1) := by decide +kernel
theorem dd_M_write_79 : decode cd_M_write 79 = .ok (.if_icmp .le 8, 3) := by decide +kernel
theorem dd_M_write_82 : decode cd_M_write 82 = .ok (.iload 6, 2) := by decide +kernel
theorem dd_M_write_84 : decode cd_M_write 84 = .ok (.goto 10, 3) := by decide +kernel
theorem dd_M_write_87 : decode cd_M_write 87 = .ok (.aload_n 0, 1) := by decide +kernel
theorem dd_M_write_88 : decode cd_M_write 88 = .ok (.getfield 13, 3) := by decide +kernel
theorem dd_M_write_91 : decode cd_M_write 91 = .ok (.iload 5, 2) := by decide +kernel
theorem dd_M_write_93 : decode cd_M_write 93 = .ok (.iaload, 1) := by decide +kernel
theorem dd_M_write_94 : decode cd_M_write 94 = .ok (.istore 7, 2) := by decide +kernel
theorem dd_M_write_96 : decode cd_M_write 96 = .ok (.iload 6, 2) := by decide +kernel
theorem dd_M_write_98 : decode cd_M_write 98 = .ok (.bipush 64, 2) := by decide +kernel
theorem dd_M_write_100 : decode cd_M_write 100 = .ok (.if_icmp .gt 14, 3) := by decide +kernel
theorem dd_M_write_103 : decode cd_M_write 103 = .ok (.aload_n 0, 1) := by decide +kernel
theorem dd_M_write_104 : decode cd_M_write 104 = .ok (.iload 5, 2) := by decide +kernel
theorem dd_M_write_106 : decode cd_M_write 106 = .ok (.iload 7, 2) := by decide +kernel
theorem dd_M_write_108 : decode cd_M_write 108 = .ok (.invokevirtual 106, 3) := by decide +kernel
theorem dd_M_write_111 : decode cd_M_write 111 = .ok (.ifCond .ne 9, 3) := by decide +kernel
theorem dd_M_write_114 : decode cd_M_write 114 = .ok (.aload_n 0, 1) := by decide +kernel
theorem dd_M_write_115 : decode cd_M_write 115 = .ok (.iconst 3, 1) := by decide +kernel
theorem dd_M_write_116 : decode cd_M_write 116 = .ok (.putfield 37, 3) := by decide +kernel
theorem dd_M_write_119 : decode cd_M_write 119 = .ok (.return_, 1) := by decide +kernel
theorem dd_M_write_120 : decode cd_M_write 120 = .ok (.aload_n 0, 1) := by decide +kernel
theorem dd_M_write_121 : decode cd_M_write 121 = .ok (.iload 5, 2) := by decide +kernel
theorem dd_M_write_123 : decode cd_M_write 123 = .ok (.iload 7, 2) := by decide +kernel
theorem dd_M_write_125 : decode cd_M_write 125 = .ok (.invokevirtual 56, 3) := by decide +kernel
theorem dd_M_write_128 : decode cd_M_write 128 = .ok (.iconst 0, 1) := by decide +kernel
theorem dd_M_write_129 : decode cd_M_write 129 = .ok (.istore 8, 2) := by decide +kernel
theorem dd_M_write_131 : decode cd_M_write 131 = .ok (.iload 8, 2) := by decide +kernel
theorem dd_M_write_133 : decode cd_M_write 133 = .ok (.iload 4, 2) := by decide +kernel
theorem dd_M_write_135 : decode cd_M_write 135 = .ok (.if_icmp .ge 41, 3) := by decide +kernel
theorem dd_M_write_138 : decode cd_M_write 138 = .ok (.aload_n 0, 1) := by decide +kernel
theorem dd_M_write_139 : decode cd_M_write 139 = .ok (.getfield 22, 3) := by decide +kernel
theorem dd_M_write_142 : decode cd_M_write 142 = .ok (.iload 5, 2) := by decide +kernel
theorem dd_M_write_144 : decode cd_M_write 144 = .ok (.bipush 64, 2) := by decide +kernel
theorem dd_M_write_146 : decode cd_M_write 146 = .ok (.imul, 1) := by decide +kernel
theorem dd_M_write_147 : decode cd_M_write 147 = .ok (.aload_n 0, 1) := by decide +kernel
theorem dd_M_write_148 : decode cd_M_write 148 = .ok (.getfield 34, 3) := by decide +kernel
theorem dd_M_write_151 : decode cd_M_write 151 = .ok (.iload_n 1, 1) := by decide +kernel
theorem dd_M_write_152 : decode cd_M_write 152 = .ok (.iaload, 1) := by decide +kernel
theorem dd_M_write_153 : decode cd_M_write 153 = .ok (.iadd, 1) := by decide +kernel
theorem dd_M_write_154 : decode cd_M_write 154 = .ok (.iload 8, 2) := by decide +kernel
theorem dd_M_write_156 : decode cd_M_write 156 = .ok (.iadd, 1) := by decide +kernel
theorem dd_M_write_157 : decode cd_M_write 157 = .ok (.lload_n 2, 1) := by decide +kernel
theorem dd_M_write_158 : decode cd_M_write 158 = .ok (.bipush 8, 2) := by decide +kernel
theorem dd_M_write_160 : decode cd_M_write 160 = .ok (.iload 8, 2) := by decide +kernel
theorem dd_M_write_162 : decode cd_M_write 162 = .ok (.imul, 1) := by decide +kernel
theorem dd_M_write_163 : decode cd_M_write 163 = .ok (.lushr, 1) := by decide +kernel
theorem dd_M_write_164 : decode cd_M_write 164 = .ok (.ldc2_w 109, 3) := by decide +kernel
theorem dd_M_write_167 : decode cd_M_write 167 = .ok (.land, 1) := by decide +kernel
theorem dd_M_write_168 : decode cd_M_write 168 = .ok (.l2i, 1) := by decide +kernel
theorem dd_M_write_169 : decode cd_M_write 169 = .ok (.iastore, 1) := by decide +kernel
theorem dd_M_write_170 : decode cd_M_write 170 = .ok (.iinc 8 1, 3) := by decide +kernel
theorem dd_M_write_173 : decode cd_M_write 173 = .ok (.goto (-42), 3) := by decide +kernel
theorem dd_M_write_176 : decode cd_M_write 176 = .ok (.aload_n 0, 1) := by decide +kernel
theorem dd_M_write_177 : decode cd_M_write 177 = .ok (.getfield 34, 3) := by decide +kernel
theorem dd_M_write_180 : decode cd_M_write 180 = .ok (.iload_n 1, 1) := by decide +kernel
theorem dd_M_write_181 : decode cd_M_write 181 = .ok (.iload 6, 2) := by decide +kernel
theorem dd_M_write_183 : decode cd_M_write 183 = .ok (.iastore, 1) := by decide +kernel
theorem dd_M_write_184 : decode cd_M_write 184 = .ok (.return_, 1) := by decide +kernel
theorem dd_M_wrong_0 : decode cd_M_wrong 0 = .ok (.iload_n 1, 1) := by decide +kernel
theorem dd_M_wrong_1 : decode cd_M_wrong 1 = .ok (.ifCond .lt 8, 3) := by decide +kernel
theorem dd_M_wrong_4 : decode cd_M_wrong 4 = .ok (.iload_n 1, 1) := by decide +kernel
theorem dd_M_wrong_5 : decode cd_M_wrong 5 = .ok (.iconst 5, 1) := by decide +kernel
theorem dd_M_wrong_6 : decode cd_M_wrong 6 = .ok (.if_icmp .le 5, 3) := by decide +kernel
theorem dd_M_wrong_9 : decode cd_M_wrong 9 = .ok (.iconst 1, 1) := by decide +kernel
theorem dd_M_wrong_10 : decode cd_M_wrong 10 = .ok (.ireturn, 1) := by decide +kernel
theorem dd_M_wrong_11 : decode cd_M_wrong 11 = .ok (.aload_n 0, 1) := by decide +kernel
theorem dd_M_wrong_12 : decode cd_M_wrong 12 = .ok (.getfield 25, 3) := by decide +kernel
theorem dd_M_wrong_15 : decode cd_M_wrong 15 = .ok (.iload_n 1, 1) := by decide +kernel
theorem dd_M_wrong_16 : decode cd_M_wrong 16 = .ok (.iaload, 1) := by decide +kernel
theorem dd_M_wrong_17 : decode cd_M_wrong 17 = .ok (.ifCond .eq 46, 3) := by decide +kernel
theorem dd_M_wrong_20 : decode cd_M_wrong 20 = .ok (.aload_n 0, 1) := by decide +kernel
theorem dd_M_wrong_21 : decode cd_M_wrong 21 = .ok (.iload_n 1, 1) := by decide +kernel
theorem dd_M_wrong_22 : decode cd_M_wrong 22 = .ok (.invokevirtual 99, 3) := by decide +kernel
theorem dd_M_wrong_25 : decode cd_M_wrong 25 = .ok (.ifCond .ne 38, 3) := by decide +kernel
theorem dd_M_wrong_28 : decode cd_M_wrong 28 = .ok (.aload_n 0, 1) := by decide +kernel
theorem dd_M_wrong_29 : decode cd_M_wrong 29 = .ok (.getfield 31, 3) := by decide +kernel
theorem dd_M_wrong_32 : decode cd_M_wrong 32 = .ok (.iload_n 1, 1) := by decide +kernel
theorem dd_M_wrong_33 : decode cd_M_wrong 33 = .ok (.iaload, 1) := by decide +kernel
theorem dd_M_wrong_34 : decode cd_M_wrong 34 = .ok (.iload_n 2, 1) := by decide +kernel
theorem dd_M_wrong_35 : decode cd_M_wrong 35 = .ok (.if_icmp .eq 32, 3) := by decide +kernel
theorem dd_M_wrong_38 : decode cd_M_wrong 38 = .ok (.aload_n 0, 1) := by decide +kernel
theorem dd_M_wrong_39 : decode cd_M_wrong 39 = .ok (.getfield 31, 3) := by decide +kernel
theorem dd_M_wrong_42 : decode cd_M_wrong 42 = .ok (.iload_n 1, 1) := by decide +kernel
theorem dd_M_wrong_43 : decode cd_M_wrong 43 = .ok (.iaload, 1) := by decide +kernel
theorem dd_M_wrong_44 : decode cd_M_wrong 44 = .ok (.iload_n 3, 1) := by decide +kernel
theorem dd_M_wrong_45 : decode cd_M_wrong 45 = .ok (.if_icmp .eq 22, 3) := by decide +kernel
theorem dd_M_wrong_48 : decode cd_M_wrong 48 = .ok (.aload_n 0, 1) := by decide +kernel
theorem dd_M_wrong_49 : decode cd_M_wrong 49 = .ok (.getfield 31, 3) := by decide +kernel
theorem dd_M_wrong_52 : decode cd_M_wrong 52 = .ok (.iload_n 1, 1) := by decide +kernel
theorem dd_M_wrong_53 : decode cd_M_wrong 53 = .ok (.iaload, 1) := by decide +kernel
theorem dd_M_wrong_54 : decode cd_M_wrong 54 = .ok (.iconst 3, 1) := by decide +kernel
theorem dd_M_wrong_55 : decode cd_M_wrong 55 = .ok (.if_icmp .ne 8, 3) := by decide +kernel
theorem dd_M_wrong_58 : decode cd_M_wrong 58 = .ok (.iload_n 2, 1) := by decide +kernel
theorem dd_M_wrong_59 : decode cd_M_wrong 59 = .ok (.iconst 4, 1) := by decide +kernel
theorem dd_M_wrong_60 : decode cd_M_wrong 60 = .ok (.if_icmp .lt 7, 3) := by decide +kernel
theorem dd_M_wrong_63 : decode cd_M_wrong 63 = .ok (.iconst 2, 1) := by decide +kernel
theorem dd_M_wrong_64 : decode cd_M_wrong 64 = .ok (.goto 4, 3) := by decide +kernel
theorem dd_M_wrong_67 : decode cd_M_wrong 67 = .ok (.iconst 0, 1) := by decide +kernel
theorem dd_M_wrong_68 : decode cd_M_wrong 68 = .ok (.ireturn, 1) := by decide +kernel
theorem dd_M_stale_0 : decode cd_M_stale 0 = .ok (.aload_n 0, 1) := by decide +kernel
theorem dd_M_stale_1 : decode cd_M_stale 1 = .ok (.getfield 25, 3) := by decide +kernel
theorem dd_M_stale_4 : decode cd_M_stale 4 = .ok (.iload_n 1, 1) := by decide +kernel
theorem dd_M_stale_5 : decode cd_M_stale 5 = .ok (.iaload, 1) := by decide +kernel
theorem dd_M_stale_6 : decode cd_M_stale 6 = .ok (.iconst 1, 1) := by decide +kernel
theorem dd_M_stale_7 : decode cd_M_stale 7 = .ok (.isub, 1) := by decide +kernel
theorem dd_M_stale_8 : decode cd_M_stale 8 = .ok (.istore_n 2, 1) := by decide +kernel
theorem dd_M_stale_9 : decode cd_M_stale 9 = .ok (.aload_n 0, 1) := by decide +kernel
theorem dd_M_stale_10 : decode cd_M_stale 10 = .ok (.getfield 16, 3) := by decide +kernel
theorem dd_M_stale_13 : decode cd_M_stale 13 = .ok (.iload_n 2, 1) := by decide +kernel
theorem dd_M_stale_14 : decode cd_M_stale 14 = .ok (.iaload, 1) := by decide +kernel
theorem dd_M_stale_15 : decode cd_M_stale 15 = .ok (.aload_n 0, 1) := by decide +kernel
theorem dd_M_stale_16 : decode cd_M_stale 16 = .ok (.getfield 28, 3) := by decide +kernel
theorem dd_M_stale_19 : decode cd_M_stale 19 = .ok (.iload_n 1, 1) := by decide +kernel
theorem dd_M_stale_20 : decode cd_M_stale 20 = .ok (.iaload, 1) := by decide +kernel
theorem dd_M_stale_21 : decode cd_M_stale 21 = .ok (.if_icmp .ne 27, 3) := by decide +kernel
theorem dd_M_stale_24 : decode cd_M_stale 24 = .ok (.aload_n 0, 1) := by decide +kernel
theorem dd_M_stale_25 : decode cd_M_stale 25 = .ok (.getfield 7, 3) := by decide +kernel
theorem dd_M_stale_28 : decode cd_M_stale 28 = .ok (.iload_n 2, 1) := by decide +kernel
theorem dd_M_stale_29 : decode cd_M_stale 29 = .ok (.iaload, 1) := by decide +kernel
theorem dd_M_stale_30 : decode cd_M_stale 30 = .ok (.aload_n 0, 1) := by decide +kernel
theorem dd_M_stale_31 : decode cd_M_stale 31 = .ok (.getfield 31, 3) := by decide +kernel
theorem dd_M_stale_34 : decode cd_M_stale 34 = .ok (.iload_n 1, 1) := by decide +kernel
theorem dd_M_stale_35 : decode cd_M_stale 35 = .ok (.iaload, 1) := by decide +kernel
theorem dd_M_stale_36 : decode cd_M_stale 36 = .ok (.iconst 4, 1) := by decide +kernel
theorem dd_M_stale_37 : decode cd_M_stale 37 = .ok (.if_icmp .ne 7, 3) := by decide +kernel
theorem dd_M_stale_40 : decode cd_M_stale 40 = .ok (.iconst 2, 1) := by decide +kernel
theorem dd_M_stale_41 : decode cd_M_stale 41 = .ok (.goto 4, 3) := by decide +kernel
theorem dd_M_stale_44 : decode cd_M_stale 44 = .ok (.iconst 1, 1) := by decide +kernel
theorem dd_M_stale_45 : decode cd_M_stale 45 = .ok (.if_icmp .eq 7, 3) := by decide +kernel
theorem dd_M_stale_48 : decode cd_M_stale 48 = .ok (.iconst 1, 1) := by decide +kernel
theorem dd_M_stale_49 : decode cd_M_stale 49 = .ok (.goto 4, 3) := by decide +kernel
theorem dd_M_stale_52 : decode cd_M_stale 52 = .ok (.iconst 0, 1) := by decide +kernel
theorem dd_M_stale_53 : decode cd_M_stale 53 = .ok (.ireturn, 1) := by decide +kernel
theorem dd_M_roomFor_0 : decode cd_M_roomFor 0 = .ok (.aload_n 0, 1) := by decide +kernel
theorem dd_M_roomFor_1 : decode cd_M_roomFor 1 = .ok (.iload_n 2, 1) := by decide +kernel
theorem dd_M_roomFor_2 : decode cd_M_roomFor 2 = .ok (.invokevirtual 45, 3) := by decide +kernel
theorem dd_M_roomFor_5 : decode cd_M_roomFor 5 = .ok (.aload_n 0, 1) := by decide +kernel
theorem dd_M_roomFor_6 : decode cd_M_roomFor 6 = .ok (.aload_n 0, 1) := by decide +kernel
theorem dd_M_roomFor_7 : decode cd_M_roomFor 7 = .ok (.getfield 13, 3) := by decide +kernel
theorem dd_M_roomFor_10 : decode cd_M_roomFor 10 = .ok (.iload_n 1, 1) := by decide +kernel
theorem dd_M_roomFor_11 : decode cd_M_roomFor 11 = .ok (.iaload, 1) := by decide +kernel
theorem dd_M_roomFor_12 : decode cd_M_roomFor 12 = .ok (.invokevirtual 45, 3) := by decide +kernel
theorem dd_M_roomFor_15 : decode cd_M_roomFor 15 = .ok (.isub, 1) := by decide +kernel
theorem dd_M_roomFor_16 : decode cd_M_roomFor 16 = .ok (.aload_n 0, 1) := by decide +kernel
theorem dd_M_roomFor_17 : decode cd_M_roomFor 17 = .ok (.invokevirtual 49, 3) := by decide +kernel
theorem dd_M_roomFor_20 : decode cd_M_roomFor 20 = .ok (.if_icmp .gt 7, 3) := by decide +kernel
theorem dd_M_roomFor_23 : decode cd_M_roomFor 23 = .ok (.iconst 1, 1) := by decide +kernel
theorem dd_M_roomFor_24 : decode cd_M_roomFor 24 = .ok (.goto 4, 3) := by decide +kernel
theorem dd_M_roomFor_27 : decode cd_M_roomFor 27 = .ok (.iconst 0, 1) := by decide +kernel
theorem dd_M_roomFor_28 : decode cd_M_roomFor 28 = .ok (.ireturn, 1) := by decide +kernel
theorem dd_M_read_0 : decode cd_M_read 0 = .ok (.aload_n 0, 1) := by decide +kernel
theorem dd_M_read_1 : decode cd_M_read 1 = .ok (.iload_n 1, 1) := by decide +kernel
theorem dd_M_read_2 : decode cd_M_read 2 = .ok (.ifCond .lt 18, 3) := by decide +kernel
theorem dd_M_read_5 : decode cd_M_read 5 = .ok (.iload_n 1, 1) := by decide +kernel
theorem dd_M_read_6 : decode cd_M_read 6 = .ok (.iconst 5, 1) := by decide +kernel
theorem dd_M_read_7 : decode cd_M_read 7 = .ok (.if_icmp .gt 13, 3) := by decide +kernel
theorem dd_M_read_10 : decode cd_M_read 10 = .ok (.iload_n 2, 1) := by decide +kernel
theorem dd_M_read_11 : decode cd_M_read 11 = .ok (.ifCond .lt 9, 3) := by decide +kernel
theorem dd_M_read_14 : decode cd_M_read 14 = .ok (.iload_n 2, 1) := by decide +kernel
theorem dd_M_read_15 : decode cd_M_read 15 = .ok (.bipush 8, 2) := by decide +kernel
theorem dd_M_read_17 : decode cd_M_read 17 = .ok (.if_icmp .le 7, 3) := by decide +kernel
theorem dd_M_read_20 : decode cd_M_read 20 = .ok (.iconst 1, 1) := by decide +kernel
theorem dd_M_read_21 : decode cd_M_read 21 = .ok (.goto 10, 3) := by decide +kernel
theorem dd_M_read_24 : decode cd_M_read 24 = .ok (.aload_n 0, 1) := by decide +kernel
theorem dd_M_read_25 : decode cd_M_read 25 = .ok (.iload_n 1, 1) := by decide +kernel
theorem dd_M_read_26 : decode cd_M_read 26 = .ok (.iconst 1, 1) := by decide +kernel
theorem dd_M_read_27 : decode cd_M_read 27 = .ok (.iconst 1, 1) := by decide +kernel
theorem dd_M_read_28 : decode cd_M_read 28 = .ok (.invokevirtual 102, 3) := by decide +kernel
theorem dd_M_read_31 : decode cd_M_read 31 = .ok (.putfield 37, 3) := by decide +kernel
theorem dd_M_read_34 : decode cd_M_read 34 = .ok (.aload_n 0, 1) := by decide +kernel
theorem dd_M_read_35 : decode cd_M_read 35 = .ok (.getfield 37, 3) := by decide +kernel
theorem dd_M_read_38 : decode cd_M_read 38 = .ok (.ifCond .eq 5, 3) := by decide +kernel
theorem dd_M_read_41 : decode cd_M_read 41 = .ok (.lconst 0, 1) := by decide +kernel
theorem dd_M_read_42 : decode cd_M_read 42 = .ok (.lreturn, 1) := by decide +kernel
theorem dd_M_read_43 : decode cd_M_read 43 = .ok (.aload_n 0, 1) := by decide +kernel
theorem dd_M_read_44 : decode cd_M_read 44 = .ok (.getfield 25, 3) := by decide +kernel
theorem dd_M_read_47 : decode cd_M_read 47 = .ok (.iload_n 1, 1) := by decide +kernel
theorem dd_M_read_48 : decode cd_M_read 48 = .ok (.iaload, 1) := by decide +kernel
theorem dd_M_read_49 : decode cd_M_read 49 = .ok (.iconst 1, 1) := by decide +kernel
theorem dd_M_read_50 : decode cd_M_read 50 = .ok (.isub, 1) := by decide +kernel
theorem dd_M_read_51 : decode cd_M_read 51 = .ok (.istore_n 3, 1) := by decide +kernel
theorem dd_M_read_52 : decode cd_M_read 52 = .ok (.lconst 0, 1) := by decide +kernel
theorem dd_M_read_53 : decode cd_M_read 53 = .ok (.lstore 4, 2) := by decide +kernel
theorem dd_M_read_55 : decode cd_M_read 55 = .ok (.iconst 0, 1) := by decide +kernel
theorem dd_M_read_56 : decode cd_M_read 56 = .ok (.istore 6, 2) := by decide +kernel
theorem dd_M_read_58 : decode cd_M_read 58 = .ok (.iload 6, 2) := by decide +kernel
theorem dd_M_read_60 : decode cd_M_read 60 = .ok (.iload_n 2, 1) := by decide +kernel
theorem dd_M_read_61 : decode cd_M_read 61 = .ok (.if_icmp .ge 62, 3) := by decide +kernel
theorem dd_M_read_64 : decode cd_M_read 64 = .ok (.aload_n 0, 1) := by decide +kernel
theorem dd_M_read_65 : decode cd_M_read 65 = .ok (.getfield 34, 3) := by decide +kernel
theorem dd_M_read_68 : decode cd_M_read 68 = .ok (.iload_n 1, 1) := by decide +kernel
theorem dd_M_read_69 : decode cd_M_read 69 = .ok (.iaload, 1) := by decide +kernel
theorem dd_M_read_70 : decode cd_M_read 70 = .ok (.aload_n 0, 1) := by decide +kernel
theorem dd_M_read_71 : decode cd_M_read 71 = .ok (.getfield 13, 3) := by decide +kernel
theorem dd_M_read_74 : decode cd_M_read 74 = .ok (.iload_n 3, 1) := by decide +kernel
theorem dd_M_read_75 : decode cd_M_read 75 = .ok (.iaload, 1) := by decide +kernel
theorem dd_M_read_76 : decode cd_M_read 76 = .ok (.if_icmp .ge 47, 3) := by decide +kernel
theorem dd_M_read_79 : decode cd_M_read 79 = .ok (.lload 4, 2) := by decide +kernel
theorem dd_M_read_81 : decode cd_M_read 81 = .ok (.aload_n 0, 1) := by decide +kernel
theorem dd_M_read_82 : decode cd_M_read 82 = .ok (.getfield 22, 3) := by decide +kernel
theorem dd_M_read_85 : decode cd_M_read 85 = .ok (.iload_n 3, 1) := by decide +kernel
theorem dd_M_read_86 : decode cd_M_read 86 = .ok (.bipush 64, 2) := by decide +kernel
theorem dd_M_read_88 : decode cd_M_read 88 = .ok (.imul, 1) := by decide +kernel
theorem dd_M_read_89 : decode cd_M_read 89 = .ok (.aload_n 0, 1) := by decide +kernel
theorem dd_M_read_90 : decode cd_M_read 90 = .ok (.getfield 34, 3) := by decide +kernel
theorem dd_M_read_93 : decode cd_M_read 93 = .ok (.iload_n 1, 1) := by decide +kernel
theorem dd_M_read_94 : decode cd_M_read 94 = .ok (.iaload, 1) := by decide +kernel
theorem dd_M_read_95 : decode cd_M_read 95 = .ok (.iadd, 1) := by decide +kernel
theorem dd_M_read_96 : decode cd_M_read 96 = .ok (.iaload, 1) := by decide +kernel
theorem dd_M_read_97 : decode cd_M_read 97 = .ok (.i2l, 1) := by decide +kernel
theorem dd_M_read_98 : decode cd_M_read 98 = .ok (.bipush 8, 2) := by decide +kernel
theorem dd_M_read_100 : decode cd_M_read 100 = .ok (.iload 6, 2) := by decide +kernel
theorem dd_M_read_102 : decode cd_M_read 102 = .ok (.imul, 1) := by decide +kernel
theorem dd_M_read_103 : decode cd_M_read 103 = .ok (.lshl, 1) := by decide +kernel
theorem dd_M_read_104 : decode cd_M_read 104 = .ok (.lor, 1) := by decide +kernel
theorem dd_M_read_105 : decode cd_M_read 105 = .ok (.lstore 4, 2) := by decide +kernel
theorem dd_M_read_107 : decode cd_M_read 107 = .ok (.aload_n 0, 1) := by decide +kernel
theorem dd_M_read_108 : decode cd_M_read 108 = .ok (.getfield 34, 3) := by decide +kernel
theorem dd_M_read_111 : decode cd_M_read 111 = .ok (.iload_n 1, 1) := by decide +kernel
theorem dd_M_read_112 : decode cd_M_read 112 = .ok (.dup2, 1) := by decide +kernel
theorem dd_M_read_113 : decode cd_M_read 113 = .ok (.iaload, 1) := by decide +kernel
theorem dd_M_read_114 : decode cd_M_read 114 = .ok (.iconst 1, 1) := by decide +kernel
theorem dd_M_read_115 : decode cd_M_read 115 = .ok (.iadd, 1) := by decide +kernel
theorem dd_M_read_116 : decode cd_M_read 116 = .ok (.iastore, 1) := by decide +kernel
theorem dd_M_read_117 : decode cd_M_read 117 = .ok (.iinc 6 1, 3) := by decide +kernel
theorem dd_M_read_120 : decode cd_M_read 120 = .ok (.goto (-62), 3) := by decide +kernel
theorem dd_M_read_123 : decode cd_M_read 123 = .ok (.lload 4, 2) := by decide +kernel
theorem dd_M_read_125 : decode cd_M_read 125 = .ok (.lreturn, 1) := by decide +kernel
theorem dd_M_seek_0 : decode cd_M_seek 0 = .ok (.aload_n 0, 1) := by decide +kernel
theorem dd_M_seek_1 : decode cd_M_seek 1 = .ok (.iload_n 1, 1) := by decide +kernel
theorem dd_M_seek_2 : decode cd_M_seek 2 = .ok (.ifCond .lt 18, 3) := by decide +kernel
theorem dd_M_seek_5 : decode cd_M_seek 5 = .ok (.iload_n 1, 1) := by decide +kernel
theorem dd_M_seek_6 : decode cd_M_seek 6 = .ok (.iconst 5, 1) := by decide +kernel
theorem dd_M_seek_7 : decode cd_M_seek 7 = .ok (.if_icmp .gt 13, 3) := by decide +kernel
theorem dd_M_seek_10 : decode cd_M_seek 10 = .ok (.iload_n 2, 1) := by decide +kernel
theorem dd_M_seek_11 : decode cd_M_seek 11 = .ok (.ifCond .lt 9, 3) := by decide +kernel
theorem dd_M_seek_14 : decode cd_M_seek 14 = .ok (.iload_n 2, 1) := by decide +kernel
theorem dd_M_seek_15 : decode cd_M_seek 15 = .ok (.bipush 64, 2) := by decide +kernel
theorem dd_M_seek_17 : decode cd_M_seek 17 = .ok (.if_icmp .le 7, 3) := by decide +kernel
theorem dd_M_seek_20 : decode cd_M_seek 20 = .ok (.iconst 1, 1) := by decide +kernel
theorem dd_M_seek_21 : decode cd_M_seek 21 = .ok (.goto 10, 3) := by decide +kernel
theorem dd_M_seek_24 : decode cd_M_seek 24 = .ok (.aload_n 0, 1) := by decide +kernel
theorem dd_M_seek_25 : decode cd_M_seek 25 = .ok (.iload_n 1, 1) := by decide +kernel
theorem dd_M_seek_26 : decode cd_M_seek 26 = .ok (.iconst 1, 1) := by decide +kernel
theorem dd_M_seek_27 : decode cd_M_seek 27 = .ok (.iconst 2, 1) := by decide +kernel
theorem dd_M_seek_28 : decode cd_M_seek 28 = .ok (.invokevirtual 102, 3) := by decide +kernel
theorem dd_M_seek_31 : decode cd_M_seek 31 = .ok (.putfield 37, 3) := by decide +kernel
theorem dd_M_seek_34 : decode cd_M_seek 34 = .ok (.aload_n 0, 1) := by decide +kernel
theorem dd_M_seek_35 : decode cd_M_seek 35 = .ok (.getfield 37, 3) := by decide +kernel
theorem dd_M_seek_38 : decode cd_M_seek 38 = .ok (.ifCond .ne 10, 3) := by decide +kernel
theorem dd_M_seek_41 : decode cd_M_seek 41 = .ok (.aload_n 0, 1) := by decide +kernel
theorem dd_M_seek_42 : decode cd_M_seek 42 = .ok (.getfield 34, 3) := by decide +kernel
theorem dd_M_seek_45 : decode cd_M_seek 45 = .ok (.iload_n 1, 1) := by decide +kernel
theorem dd_M_seek_46 : decode cd_M_seek 46 = .ok (.iload_n 2, 1) := by decide +kernel
theorem dd_M_seek_47 : decode cd_M_seek 47 = .ok (.iastore, 1) := by decide +kernel
theorem dd_M_seek_48 : decode cd_M_seek 48 = .ok (.return_, 1) := by decide +kernel
theorem dd_M_next_0 : decode cd_M_next 0 = .ok (.aload_n 0, 1) := by decide +kernel
theorem dd_M_next_1 : decode cd_M_next 1 = .ok (.aload_n 0, 1) := by decide +kernel
theorem dd_M_next_2 : decode cd_M_next 2 = .ok (.iload_n 1, 1) := by decide +kernel
theorem dd_M_next_3 : decode cd_M_next 3 = .ok (.iconst 4, 1) := by decide +kernel
theorem dd_M_next_4 : decode cd_M_next 4 = .ok (.iconst 4, 1) := by decide +kernel
theorem dd_M_next_5 : decode cd_M_next 5 = .ok (.invokevirtual 102, 3) := by decide +kernel
theorem dd_M_next_8 : decode cd_M_next 8 = .ok (.putfield 37, 3) := by decide +kernel
theorem dd_M_next_11 : decode cd_M_next 11 = .ok (.aload_n 0, 1) := by decide +kernel
theorem dd_M_next_12 : decode cd_M_next 12 = .ok (.getfield 37, 3) := by decide +kernel
theorem dd_M_next_15 : decode cd_M_next 15 = .ok (.ifCond .eq 5, 3) := by decide +kernel
theorem dd_M_next_18 : decode cd_M_next 18 = .ok (.iconst 0, 1) := by decide +kernel
theorem dd_M_next_19 : decode cd_M_next 19 = .ok (.ireturn, 1) := by decide +kernel
theorem dd_M_next_20 : decode cd_M_next 20 = .ok (.aload_n 0, 1) := by decide +kernel
theorem dd_M_next_21 : decode cd_M_next 21 = .ok (.getfield 25, 3) := by decide +kernel
theorem dd_M_next_24 : decode cd_M_next 24 = .ok (.iload_n 1, 1) := by decide +kernel
theorem dd_M_next_25 : decode cd_M_next 25 = .ok (.iaload, 1) := by decide +kernel
theorem dd_M_next_26 : decode cd_M_next 26 = .ok (.iconst 1, 1) := by decide +kernel
theorem dd_M_next_27 : decode cd_M_next 27 = .ok (.isub, 1) := by decide +kernel
theorem dd_M_next_28 : decode cd_M_next 28 = .ok (.istore_n 2, 1) := by decide +kernel
theorem dd_M_next_29 : decode cd_M_next 29 = .ok (.aload_n 0, 1) := by decide +kernel
theorem dd_M_next_30 : decode cd_M_next 30 = .ok (.getfield 34, 3) := by decide +kernel
theorem dd_M_next_33 : decode cd_M_next 33 = .ok (.iload_n 1, 1) := by decide +kernel
theorem dd_M_next_34 : decode cd_M_next 34 = .ok (.iaload, 1) := by decide +kernel
theorem dd_M_next_35 : decode cd_M_next 35 = .ok (.aload_n 0, 1) := by decide +kernel
theorem dd_M_next_36 : decode cd_M_next 36 = .ok (.getfield 13, 3) := by decide +kernel
theorem dd_M_next_39 : decode cd_M_next 39 = .ok (.iload_n 2, 1) := by decide +kernel
theorem dd_M_next_40 : decode cd_M_next 40 = .ok (.iaload, 1) := by decide +kernel
theorem dd_M_next_41 : decode cd_M_next 41 = .ok (.iconst 2, 1) := by decide +kernel
theorem dd_M_next_42 : decode cd_M_next 42 = .ok (.idiv, 1) := by decide +kernel
theorem dd_M_next_43 : decode cd_M_next 43 = .ok (.if_icmp .lt 5, 3) := by decide +kernel
theorem dd_M_next_46 : decode cd_M_next 46 = .ok (.iconst 0, 1) := by decide +kernel
theorem dd_M_next_47 : decode cd_M_next 47 = .ok (.ireturn, 1) := by decide +kernel
theorem dd_M_next_48 : decode cd_M_next 48 = .ok (.aload_n 0, 1) := by decide +kernel
theorem dd_M_next_49 : decode cd_M_next 49 = .ok (.getfield 34, 3) := by decide +kernel
theorem dd_M_next_52 : decode cd_M_next 52 = .ok (.iload_n 1, 1) := by decide +kernel
theorem dd_M_next_53 : decode cd_M_next 53 = .ok (.dup2, 1) := by decide +kernel
theorem dd_M_next_54 : decode cd_M_next 54 = .ok (.iaload, 1) := by decide +kernel
theorem dd_M_next_55 : decode cd_M_next 55 = .ok (.iconst 1, 1) := by decide +kernel
theorem dd_M_next_56 : decode cd_M_next 56 = .ok (.iadd, 1) := by decide +kernel
theorem dd_M_next_57 : decode cd_M_next 57 = .ok (.iastore, 1) := by decide +kernel
theorem dd_M_next_58 : decode cd_M_next 58 = .ok (.aload_n 0, 1) := by decide +kernel
theorem dd_M_next_59 : decode cd_M_next 59 = .ok (.getfield 22, 3) := by decide +kernel
theorem dd_M_next_62 : decode cd_M_next 62 = .ok (.iload_n 2, 1) := by decide +kernel
theorem dd_M_next_63 : decode cd_M_next 63 = .ok (.bipush 64, 2) := by decide +kernel
theorem dd_M_next_65 : decode cd_M_next 65 = .ok (.imul, 1) := by decide +kernel
theorem dd_M_next_66 : decode cd_M_next 66 = .ok (.aload_n 0, 1) := by decide +kernel
theorem dd_M_next_67 : decode cd_M_next 67 = .ok (.getfield 34, 3) := by decide +kernel
theorem dd_M_next_70 : decode cd_M_next 70 = .ok (.iload_n 1, 1) := by decide +kernel
theorem dd_M_next_71 : decode cd_M_next 71 = .ok (.iaload, 1) := by decide +kernel
theorem dd_M_next_72 : decode cd_M_next 72 = .ok (.iconst 2, 1) := by decide +kernel
theorem dd_M_next_73 : decode cd_M_next 73 = .ok (.imul, 1) := by decide +kernel
theorem dd_M_next_74 : decode cd_M_next 74 = .ok (.iadd, 1) := by decide +kernel
theorem dd_M_next_75 : decode cd_M_next 75 = .ok (.iconst 2, 1) := by decide +kernel
theorem dd_M_next_76 : decode cd_M_next 76 = .ok (.isub, 1) := by decide +kernel
theorem dd_M_next_77 : decode cd_M_next 77 = .ok (.iaload, 1) := by decide +kernel
theorem dd_M_next_78 : decode cd_M_next 78 = .ok (.ireturn, 1) := by decide +kernel
theorem dd_M_remove_0 : decode cd_M_remove 0 = .ok (.aload_n 0, 1) := by decide +kernel
theorem dd_M_remove_1 : decode cd_M_remove 1 = .ok (.aload_n 0, 1) := by decide +kernel
theorem dd_M_remove_2 : decode cd_M_remove 2 = .ok (.iload_n 1, 1) := by decide +kernel
theorem dd_M_remove_3 : decode cd_M_remove 3 = .ok (.invokevirtual 79, 3) := by decide +kernel
theorem dd_M_remove_6 : decode cd_M_remove 6 = .ok (.ifCond .eq 7, 3) := by decide +kernel
theorem dd_M_remove_9 : decode cd_M_remove 9 = .ok (.iconst 1, 1) := by decide +kernel
theorem dd_M_remove_10 : decode cd_M_remove 10 = .ok (.goto 59, 3) := by decide +kernel
theorem dd_M_remove_13 : decode cd_M_remove 13 = .ok (.aload_n 0, 1) := by decide +kernel
theorem dd_M_remove_14 : decode cd_M_remove 14 = .ok (.iload_n 1, 1) := by decide +kernel
theorem dd_M_remove_15 : decode cd_M_remove 15 = .ok (.invokevirtual 83, 3) := by decide +kernel
theorem dd_M_remove_18 : decode cd_M_remove 18 = .ok (.ifCond .eq 10, 3) := by decide +kernel
theorem dd_M_remove_21 : decode cd_M_remove 21 = .ok (.aload_n 0, 1) := by decide +kernel
theorem dd_M_remove_22 : decode cd_M_remove 22 = .ok (.getfield 69, 3) := by decide +kernel
theorem dd_M_remove_25 : decode cd_M_remove 25 = .ok (.ifCond .ge 7, 3) := by decide +kernel
theorem dd_M_remove_28 : decode cd_M_remove 28 = .ok (.iconst 2, 1) := by decide +kernel
theorem dd_M_remove_29 : decode cd_M_remove 29 = .ok (.goto 40, 3) := by decide +kernel
theorem dd_M_remove_32 : decode cd_M_remove 32 = .ok (.aload_n 0, 1) := by decide +kernel
theorem dd_M_remove_33 : decode cd_M_remove 33 = .ok (.getfield 63, 3) := by decide +kernel
theorem dd_M_remove_36 : decode cd_M_remove 36 = .ok (.ifCond .lt 28, 3) := by decide +kernel
theorem dd_M_remove_39 : decode cd_M_remove 39 = .ok (.aload_n 0, 1) := by decide +kernel
theorem dd_M_remove_40 : decode cd_M_remove 40 = .ok (.getfield 7, 3) := by decide +kernel
theorem dd_M_remove_43 : decode cd_M_remove 43 = .ok (.aload_n 0, 1) := by decide +kernel
theorem dd_M_remove_44 : decode cd_M_remove 44 = .ok (.getfield 69, 3) := by decide +kernel
theorem dd_M_remove_47 : decode cd_M_remove 47 = .ok (.iaload, 1) := by decide +kernel
theorem dd_M_remove_48 : decode cd_M_remove 48 = .ok (.iconst 2, 1) := by decide +kernel
theorem dd_M_remove_49 : decode cd_M_remove 49 = .ok (.if_icmp .ne 19, 3) := by decide +kernel
theorem dd_M_remove_52 : decode cd_M_remove 52 = .ok (.aload_n 0, 1) := by decide +kernel
theorem dd_M_remove_53 : decode cd_M_remove 53 = .ok (.getfield 13, 3) := by decide +kernel
theorem dd_M_remove_56 : decode cd_M_remove 56 = .ok (.aload_n 0, 1) := by decide +kernel
theorem dd_M_remove_57 : decode cd_M_remove 57 = .ok (.getfield 69, 3) := by decide +kernel
theorem dd_M_remove_60 : decode cd_M_remove 60 = .ok (.iaload, 1) := by decide +kernel
theorem dd_M_remove_61 : decode cd_M_remove 61 = .ok (.ifCond .le 7, 3) := by decide +kernel
theorem dd_M_remove_64 : decode cd_M_remove 64 = .ok (.iconst 3, 1) := by decide +kernel
theorem dd_M_remove_65 : decode cd_M_remove 65 = .ok (.goto 4, 3) := by decide +kernel
theorem dd_M_remove_68 : decode cd_M_remove 68 = .ok (.iconst 0, 1) := by decide +kernel
theorem dd_M_remove_69 : decode cd_M_remove 69 = .ok (.putfield 37, 3) := by decide +kernel
theorem dd_M_remove_72 : decode cd_M_remove 72 = .ok (.aload_n 0, 1) := by decide +kernel
theorem dd_M_remove_73 : decode cd_M_remove 73 = .ok (.getfield 37, 3) := by decide +kernel
theorem dd_M_remove_76 : decode cd_M_remove 76 = .ok (.ifCond .eq 4, 3) := by decide +kernel
theorem dd_M_remove_79 : decode cd_M_remove 79 = .ok (.return_, 1) := by decide +kernel
theorem dd_M_remove_80 : decode cd_M_remove 80 = .ok (.aload_n 0, 1) := by decide +kernel
theorem dd_M_remove_81 : decode cd_M_remove 81 = .ok (.getfield 69, 3) := by decide +kernel
theorem dd_M_remove_84 : decode cd_M_remove 84 = .ok (.istore_n 2, 1) := by decide +kernel
theorem dd_M_remove_85 : decode cd_M_remove 85 = .ok (.aload_n 0, 1) := by decide +kernel
theorem dd_M_remove_86 : decode cd_M_remove 86 = .ok (.aload_n 0, 1) := by decide +kernel
theorem dd_M_remove_87 : decode cd_M_remove 87 = .ok (.getfield 63, 3) := by decide +kernel
theorem dd_M_remove_90 : decode cd_M_remove 90 = .ok (.aload_n 0, 1) := by decide +kernel
theorem dd_M_remove_91 : decode cd_M_remove 91 = .ok (.getfield 66, 3) := by decide +kernel
theorem dd_M_remove_94 : decode cd_M_remove 94 = .ok (.invokevirtual 111, 3) := by decide +kernel
theorem dd_M_remove_97 : decode cd_M_remove 97 = .ok (.aload_n 0, 1) := by decide +kernel
theorem dd_M_remove_98 : decode cd_M_remove 98 = .ok (.iload_n 2, 1) := by decide +kernel
theorem dd_M_remove_99 : decode cd_M_remove 99 = .ok (.invokevirtual 114, 3) := by decide +kernel
theorem dd_M_remove_102 : decode cd_M_remove 102 = .ok (.return_, 1) := by decide +kernel
theorem dd_M_dropEntry_0 : decode cd_M_dropEntry 0 = .ok (.aload_n 0, 1) := by decide +kernel
theorem dd_M_dropEntry_1 : decode cd_M_dropEntry 1 = .ok (.getfield 13, 3) := by decide +kernel
theorem dd_M_dropEntry_4 : decode cd_M_dropEntry 4 = .ok (.iload_n 1, 1) := by decide +kernel
theorem dd_M_dropEntry_5 : decode cd_M_dropEntry 5 = .ok (.iaload, 1) := by decide +kernel
theorem dd_M_dropEntry_6 : decode cd_M_dropEntry 6 = .ok (.iconst 2, 1) := by decide +kernel
theorem dd_M_dropEntry_7 : decode cd_M_dropEntry 7 = .ok (.isub, 1) := by decide +kernel
theorem dd_M_dropEntry_8 : decode cd_M_dropEntry 8 = .ok (.istore_n 3, 1) := by decide +kernel
theorem dd_M_dropEntry_9 : decode cd_M_dropEntry 9 = .ok (.aload_n 0, 1) := by decide +kernel
theorem dd_M_dropEntry_10 : decode cd_M_dropEntry 10 = .ok (.getfield 22, 3) := by decide +kernel
theorem dd_M_dropEntry_13 : decode cd_M_dropEntry 13 = .ok (.iload_n 1, 1) := by decide +kernel
theorem dd_M_dropEntry_14 : decode cd_M_dropEntry 14 = .ok (.bipush 64, 2) := by decide +kernel
theorem dd_M_dropEntry_16 : decode cd_M_dropEntry 16 = .ok (.imul, 1) := by decide +kernel
theorem dd_M_dropEntry_17 : decode cd_M_dropEntry 17 = .ok (.iload_n 2, 1) := by decide +kernel
theorem dd_M_dropEntry_18 : decode cd_M_dropEntry 18 = .ok (.iconst 2, 1) := by decide +kernel
theorem dd_M_dropEntry_19 : decode cd_M_dropEntry 19 = .ok (.imul, 1) := by decide +kernel
theorem dd_M_dropEntry_20 : decode cd_M_dropEntry 20 = .ok (.iadd, 1) := by decide +kernel
theorem dd_M_dropEntry_21 : decode cd_M_dropEntry 21 = .ok (.aload_n 0, 1) := by decide +kernel
theorem dd_M_dropEntry_22 : decode cd_M_dropEntry 22 = .ok (.getfield 22, 3) := by decide +kernel
theorem dd_M_dropEntry_25 : decode cd_M_dropEntry 25 = .ok (.iload_n 1, 1) := by decide +kernel
theorem dd_M_dropEntry_26 : decode cd_M_dropEntry 26 = .ok (.bipush 64, 2) := by decide +kernel
theorem dd_M_dropEntry_28 : decode cd_M_dropEntry 28 = .ok (.imul, 1) := by decide +kernel
theorem dd_M_dropEntry_29 : decode cd_M_dropEntry 29 = .ok (.iload_n 3, 1) := by decide +kernel
theorem dd_M_dropEntry_30 : decode cd_M_dropEntry 30 = .ok (.iadd, 1) := by decide +kernel
theorem dd_M_dropEntry_31 : decode cd_M_dropEntry 31 = .ok (.iaload, 1) := by decide +kernel
theorem dd_M_dropEntry_32 : decode cd_M_dropEntry 32 = .ok (.iastore, 1) := by decide +kernel
theorem dd_M_dropEntry_33 : decode cd_M_dropEntry 33 = .ok (.aload_n 0, 1) := by decide +kernel
theorem dd_M_dropEntry_34 : decode cd_M_dropEntry 34 = .ok (.getfield 22, 3) := by decide +kernel
theorem dd_M_dropEntry_37 : decode cd_M_dropEntry 37 = .ok (.iload_n 1, 1) := by decide +kernel
theorem dd_M_dropEntry_38 : decode cd_M_dropEntry 38 = .ok (.bipush 64, 2) := by decide +kernel
theorem dd_M_dropEntry_40 : decode cd_M_dropEntry 40 = .ok (.imul, 1) := by decide +kernel
theorem dd_M_dropEntry_41 : decode cd_M_dropEntry 41 = .ok (.iload_n 2, 1) := by decide +kernel
theorem dd_M_dropEntry_42 : decode cd_M_dropEntry 42 = .ok (.iconst 2, 1) := by decide +kernel
theorem dd_M_dropEntry_43 : decode cd_M_dropEntry 43 = .ok (.imul, 1) := by decide +kernel
theorem dd_M_dropEntry_44 : decode cd_M_dropEntry 44 = .ok (.iadd, 1) := by decide +kernel
theorem dd_M_dropEntry_45 : decode cd_M_dropEntry 45 = .ok (.iconst 1, 1) := by decide +kernel
theorem dd_M_dropEntry_46 : decode cd_M_dropEntry 46 = .ok (.iadd, 1) := by decide +kernel
theorem dd_M_dropEntry_47 : decode cd_M_dropEntry 47 = .ok (.aload_n 0, 1) := by decide +kernel
theorem dd_M_dropEntry_48 : decode cd_M_dropEntry 48 = .ok (.getfield 22, 3) := by decide +kernel
theorem dd_M_dropEntry_51 : decode cd_M_dropEntry 51 = .ok (.iload_n 1, 1) := by decide +kernel
theorem dd_M_dropEntry_52 : decode cd_M_dropEntry 52 = .ok (.bipush 64, 2) := by decide +kernel
theorem dd_M_dropEntry_54 : decode cd_M_dropEntry 54 = .ok (.imul, 1) := by decide +kernel
theorem dd_M_dropEntry_55 : decode cd_M_dropEntry 55 = .ok (.iload_n 3, 1) := by decide +kernel
theorem dd_M_dropEntry_56 : decode cd_M_dropEntry 56 = .ok (.iadd, 1) := by decide +kernel
theorem dd_M_dropEntry_57 : decode cd_M_dropEntry 57 = .ok (.iconst 1, 1) := by decide +kernel
theorem dd_M_dropEntry_58 : decode cd_M_dropEntry 58 = .ok (.iadd, 1) := by decide +kernel
theorem dd_M_dropEntry_59 : decode cd_M_dropEntry 59 = .ok (.iaload, 1) := by decide +kernel
theorem dd_M_dropEntry_60 : decode cd_M_dropEntry 60 = .ok (.iastore, 1) := by decide +kernel
theorem dd_M_dropEntry_61 : decode cd_M_dropEntry 61 = .ok (.aload_n 0, 1) := by decide +kernel
theorem dd_M_dropEntry_62 : decode cd_M_dropEntry 62 = .ok (.iload_n 1, 1) := by decide +kernel
theorem dd_M_dropEntry_63 : decode cd_M_dropEntry 63 = .ok (.iload_n 3, 1) := by decide +kernel
theorem dd_M_dropEntry_64 : decode cd_M_dropEntry 64 = .ok (.invokevirtual 56, 3) := by decide +kernel
theorem dd_M_dropEntry_67 : decode cd_M_dropEntry 67 = .ok (.return_, 1) := by decide +kernel
theorem dd_M_release_0 : decode cd_M_release 0 = .ok (.aload_n 0, 1) := by decide +kernel
theorem dd_M_release_1 : decode cd_M_release 1 = .ok (.iload_n 1, 1) := by decide +kernel
theorem dd_M_release_2 : decode cd_M_release 2 = .ok (.iconst 0, 1) := by decide +kernel
theorem dd_M_release_3 : decode cd_M_release 3 = .ok (.invokevirtual 56, 3) := by decide +kernel
theorem dd_M_release_6 : decode cd_M_release 6 = .ok (.aload_n 0, 1) := by decide +kernel
theorem dd_M_release_7 : decode cd_M_release 7 = .ok (.getfield 7, 3) := by decide +kernel
theorem dd_M_release_10 : decode cd_M_release 10 = .ok (.iload_n 1, 1) := by decide +kernel
theorem dd_M_release_11 : decode cd_M_release 11 = .ok (.iconst 0, 1) := by decide +kernel
theorem dd_M_release_12 : decode cd_M_release 12 = .ok (.iastore, 1) := by decide +kernel
theorem dd_M_release_13 : decode cd_M_release 13 = .ok (.return_, 1) := by decide +kernel
theorem dd_M_rename_0 : decode cd_M_rename 0 = .ok (.aload_n 0, 1) := by decide +kernel
theorem dd_M_rename_1 : decode cd_M_rename 1 = .ok (.aload_n 0, 1) := by decide +kernel
theorem dd_M_rename_2 : decode cd_M_rename 2 = .ok (.iload_n 1, 1) := by decide +kernel
theorem dd_M_rename_3 : decode cd_M_rename 3 = .ok (.invokevirtual 79, 3) := by decide +kernel
theorem dd_M_rename_6 : decode cd_M_rename 6 = .ok (.ifCond .ne 11, 3) := by decide +kernel
theorem dd_M_rename_9 : decode cd_M_rename 9 = .ok (.aload_n 0, 1) := by decide +kernel
theorem dd_M_rename_10 : decode cd_M_rename 10 = .ok (.iload_n 2, 1) := by decide +kernel
theorem dd_M_rename_11 : decode cd_M_rename 11 = .ok (.invokevirtual 79, 3) := by decide +kernel
theorem dd_M_rename_14 : decode cd_M_rename 14 = .ok (.ifCond .eq 7, 3) := by decide +kernel
theorem dd_M_rename_17 : decode cd_M_rename 17 = .ok (.iconst 1, 1) := by decide +kernel
theorem dd_M_rename_18 : decode cd_M_rename 18 = .ok (.goto 23, 3) := by decide +kernel
theorem dd_M_rename_21 : decode cd_M_rename 21 = .ok (.aload_n 0, 1) := by decide +kernel
theorem dd_M_rename_22 : decode cd_M_rename 22 = .ok (.iload_n 1, 1) := by decide +kernel
theorem dd_M_rename_23 : decode cd_M_rename 23 = .ok (.invokevirtual 83, 3) := by decide +kernel
theorem dd_M_rename_26 : decode cd_M_rename 26 = .ok (.ifCond .eq 10, 3) := by decide +kernel
theorem dd_M_rename_29 : decode cd_M_rename 29 = .ok (.aload_n 0, 1) := by decide +kernel
theorem dd_M_rename_30 : decode cd_M_rename 30 = .ok (.getfield 69, 3) := by decide +kernel
theorem dd_M_rename_33 : decode cd_M_rename 33 = .ok (.ifCond .ge 7, 3) := by decide +kernel
theorem dd_M_rename_36 : decode cd_M_rename 36 = .ok (.iconst 2, 1) := by decide +kernel
theorem dd_M_rename_37 : decode cd_M_rename 37 = .ok (.goto 4, 3) := by decide +kernel
theorem dd_M_rename_40 : decode cd_M_rename 40 = .ok (.iconst 0, 1) := by decide +kernel
theorem dd_M_rename_41 : decode cd_M_rename 41 = .ok (.putfield 37, 3) := by decide +kernel
theorem dd_M_rename_44 : decode cd_M_rename 44 = .ok (.aload_n 0, 1) := by decide +kernel
theorem dd_M_rename_45 : decode cd_M_rename 45 = .ok (.getfield 37, 3) := by decide +kernel
theorem dd_M_rename_48 : decode cd_M_rename 48 = .ok (.ifCond .eq 4, 3) := by decide +kernel
theorem dd_M_rename_51 : decode cd_M_rename 51 = .ok (.return_, 1) := by decide +kernel
theorem dd_M_rename_52 : decode cd_M_rename 52 = .ok (.aload_n 0, 1) := by decide +kernel
theorem dd_M_rename_53 : decode cd_M_rename 53 = .ok (.getfield 69, 3) := by decide +kernel
theorem dd_M_rename_56 : decode cd_M_rename 56 = .ok (.istore_n 3, 1) := by decide +kernel
theorem dd_M_rename_57 : decode cd_M_rename 57 = .ok (.aload_n 0, 1) := by decide +kernel
theorem dd_M_rename_58 : decode cd_M_rename 58 = .ok (.getfield 63, 3) := by decide +kernel
theorem dd_M_rename_61 : decode cd_M_rename 61 = .ok (.istore 4, 2) := by decide +kernel
theorem dd_M_rename_63 : decode cd_M_rename 63 = .ok (.aload_n 0, 1) := by decide +kernel
theorem dd_M_rename_64 : decode cd_M_rename 64 = .ok (.getfield 66, 3) := by decide +kernel
theorem dd_M_rename_67 : decode cd_M_rename 67 = .ok (.istore 5, 2) := by decide +kernel
theorem dd_M_rename_69 : decode cd_M_rename 69 = .ok (.aload_n 0, 1) := by decide +kernel
theorem dd_M_rename_70 : decode cd_M_rename 70 = .ok (.iload_n 2, 1) := by decide +kernel
theorem dd_M_rename_71 : decode cd_M_rename 71 = .ok (.invokevirtual 83, 3) := by decide +kernel
theorem dd_M_rename_74 : decode cd_M_rename 74 = .ok (.ifCond .ne 9, 3) := by decide +kernel
theorem dd_M_rename_77 : decode cd_M_rename 77 = .ok (.aload_n 0, 1) := by decide +kernel
theorem dd_M_rename_78 : decode cd_M_rename 78 = .ok (.iconst 2, 1) := by decide +kernel
theorem dd_M_rename_79 : decode cd_M_rename 79 = .ok (.putfield 37, 3) := by decide +kernel
theorem dd_M_rename_82 : decode cd_M_rename 82 = .ok (.return_, 1) := by decide +kernel
theorem dd_M_rename_83 : decode cd_M_rename 83 = .ok (.iload_n 1, 1) := by decide +kernel
theorem dd_M_rename_84 : decode cd_M_rename 84 = .ok (.ifCond .eq 46, 3) := by decide +kernel
theorem dd_M_rename_87 : decode cd_M_rename 87 = .ok (.iload_n 2, 1) := by decide +kernel
theorem dd_M_rename_88 : decode cd_M_rename 88 = .ok (.ifCond .eq 42, 3) := by decide +kernel
theorem dd_M_rename_91 : decode cd_M_rename 91 = .ok (.aload_n 0, 1) := by decide +kernel
theorem dd_M_rename_92 : decode cd_M_rename 92 = .ok (.iload_n 2, 1) := by decide +kernel
theorem dd_M_rename_93 : decode cd_M_rename 93 = .ok (.iload_n 1, 1) := by decide +kernel
theorem dd_M_rename_94 : decode cd_M_rename 94 = .ok (.invokevirtual 118, 3) := by decide +kernel
theorem dd_M_rename_97 : decode cd_M_rename 97 = .ok (.ifCond .ne 33, 3) := by decide +kernel
theorem dd_M_rename_100 : decode cd_M_rename 100 = .ok (.aload_n 0, 1) := by decide +kernel
theorem dd_M_rename_101 : decode cd_M_rename 101 = .ok (.getfield 69, 3) := by decide +kernel
theorem dd_M_rename_104 : decode cd_M_rename 104 = .ok (.ifCond .lt 32, 3) := by decide +kernel
theorem dd_M_rename_107 : decode cd_M_rename 107 = .ok (.aload_n 0, 1) := by decide +kernel
theorem dd_M_rename_108 : decode cd_M_rename 108 = .ok (.getfield 7, 3) := by decide +kernel
theorem dd_M_rename_111 : decode cd_M_rename 111 = .ok (.aload_n 0, 1) := by decide +kernel
theorem dd_M_rename_112 : decode cd_M_rename 112 = .ok (.getfield 69, 3) := by decide +kernel
theorem dd_M_rename_115 : decode cd_M_rename 115 = .ok (.iaload, 1) := by decide +kernel
theorem dd_M_rename_116 : decode cd_M_rename 116 = .ok (.iconst 1, 1) := by decide +kernel
theorem dd_M_rename_117 : decode cd_M_rename 117 = .ok (.if_icmp .ne 13, 3) := by decide +kernel
theorem dd_M_rename_120 : decode cd_M_rename 120 = .ok (.aload_n 0, 1) := by decide +kernel
theorem dd_M_rename_121 : decode cd_M_rename 121 = .ok (.getfield 7, 3) := by decide +kernel
theorem dd_M_rename_124 : decode cd_M_rename 124 = .ok (.iload_n 3, 1) := by decide +kernel
theorem dd_M_rename_125 : decode cd_M_rename 125 = .ok (.iaload, 1) := by decide +kernel
theorem dd_M_rename_126 : decode cd_M_rename 126 = .ok (.iconst 1, 1) := by decide +kernel
theorem dd_M_rename_127 : decode cd_M_rename 127 = .ok (.if_icmp .eq 9, 3) := by decide +kernel
theorem dd_M_rename_130 : decode cd_M_rename 130 = .ok (.aload_n 0, 1) := by decide +kernel
theorem dd_M_rename_131 : decode cd_M_rename 131 = .ok (.iconst 3, 1) := by decide +kernel
theorem dd_M_rename_132 : decode cd_M_rename 132 = .ok (.putfield 37, 3) := by decide +kernel
theorem dd_M_rename_135 : decode cd_M_rename 135 = .ok (.return_, 1) := by decide +kernel
theorem dd_M_rename_136 : decode cd_M_rename 136 = .ok (.aload_n 0, 1) := by decide +kernel
theorem dd_M_rename_137 : decode cd_M_rename 137 = .ok (.getfield 69, 3) := by decide +kernel
theorem dd_M_rename_140 : decode cd_M_rename 140 = .ok (.istore 6, 2) := by decide +kernel
theorem dd_M_rename_142 : decode cd_M_rename 142 = .ok (.aload_n 0, 1) := by decide +kernel
theorem dd_M_rename_143 : decode cd_M_rename 143 = .ok (.getfield 63, 3) := by decide +kernel
theorem dd_M_rename_146 : decode cd_M_rename 146 = .ok (.istore 7, 2) := by decide +kernel
theorem dd_M_rename_148 : decode cd_M_rename 148 = .ok (.aload_n 0, 1) := by decide +kernel
theorem dd_M_rename_149 : decode cd_M_rename 149 = .ok (.getfield 72, 3) := by decide +kernel
theorem dd_M_rename_152 : decode cd_M_rename 152 = .ok (.istore 8, 2) := by decide +kernel
theorem dd_M_rename_154 : decode cd_M_rename 154 = .ok (.iload 6, 2) := by decide +kernel
theorem dd_M_rename_156 : decode cd_M_rename 156 = .ok (.ifCond .ge 54, 3) := by decide +kernel
theorem dd_M_rename_159 : decode cd_M_rename 159 = .ok (.iload 4, 2) := by decide +kernel
theorem dd_M_rename_161 : decode cd_M_rename 161 = .ok (.iload 7, 2) := by decide +kernel
theorem dd_M_rename_163 : decode cd_M_rename 163 = .ok (.if_icmp .eq 47, 3) := by decide +kernel
theorem dd_M_rename_166 : decode cd_M_rename 166 = .ok (.aload_n 0, 1) := by decide +kernel
theorem dd_M_rename_167 : decode cd_M_rename 167 = .ok (.aload_n 0, 1) := by decide +kernel
theorem dd_M_rename_168 : decode cd_M_rename 168 = .ok (.getfield 13, 3) := by decide +kernel
theorem dd_M_rename_171 : decode cd_M_rename 171 = .ok (.iload 4, 2) := by decide +kernel
theorem dd_M_rename_173 : decode cd_M_rename 173 = .ok (.iaload, 1) := by decide +kernel
theorem dd_M_rename_174 : decode cd_M_rename 174 = .ok (.invokevirtual 45, 3) := by decide +kernel
theorem dd_M_rename_177 : decode cd_M_rename 177 = .ok (.aload_n 0, 1) := by decide +kernel
theorem dd_M_rename_178 : decode cd_M_rename 178 = .ok (.aload_n 0, 1) := by decide +kernel
theorem dd_M_rename_179 : decode cd_M_rename 179 = .ok (.getfield 13, 3) := by decide +kernel
theorem dd_M_rename_182 : decode cd_M_rename 182 = .ok (.iload 4, 2) := by decide +kernel
theorem dd_M_rename_184 : decode cd_M_rename 184 = .ok (.iaload, 1) := by decide +kernel
theorem dd_M_rename_185 : decode cd_M_rename 185 = .ok (.iconst 2, 1) := by decide +kernel
theorem dd_M_rename_186 : decode cd_M_rename 186 = .ok (.isub, 1) := by decide +kernel
theorem dd_M_rename_187 : decode cd_M_rename 187 = .ok (.invokevirtual 45, 3) := by decide +kernel
theorem dd_M_rename_190 : decode cd_M_rename 190 = .ok (.isub, 1) := by decide +kernel
theorem dd_M_rename_191 : decode cd_M_rename 191 = .ok (.istore 9, 2) := by decide +kernel
theorem dd_M_rename_193 : decode cd_M_rename 193 = .ok (.aload_n 0, 1) := by decide +kernel
theorem dd_M_rename_194 : decode cd_M_rename 194 = .ok (.iload 7, 2) := by decide +kernel
theorem dd_M_rename_196 : decode cd_M_rename 196 = .ok (.iload 9, 2) := by decide +kernel
theorem dd_M_rename_198 : decode cd_M_rename 198 = .ok (.invokevirtual 86, 3) := by decide +kernel
theorem dd_M_rename_201 : decode cd_M_rename 201 = .ok (.ifCond .ne 9, 3) := by decide +kernel
theorem dd_M_rename_204 : decode cd_M_rename 204 = .ok (.aload_n 0, 1) := by decide +kernel
theorem dd_M_rename_205 : decode cd_M_rename 205 = .ok (.iconst 4, 1) := by decide +kernel
theorem dd_M_rename_206 : decode cd_M_rename 206 = .ok (.putfield 37, 3) := by decide +kernel
theorem dd_M_rename_209 : decode cd_M_rename 209 = .ok (.return_, 1) := by decide +kernel
theorem dd_M_rename_210 : decode cd_M_rename 210 = .ok (.aload_n 0, 1) := by decide +kernel
theorem dd_M_rename_211 : decode cd_M_rename 211 = .ok (.iload 4, 2) := by decide +kernel
theorem dd_M_rename_213 : decode cd_M_rename 213 = .ok (.iload 5, 2) := by decide +kernel
theorem dd_M_rename_215 : decode cd_M_rename 215 = .ok (.invokevirtual 111, 3) := by decide +kernel
theorem dd_M_rename_218 : decode cd_M_rename 218 = .ok (.iload 6, 2) := by decide +kernel
theorem dd_M_rename_220 : decode cd_M_rename 220 = .ok (.ifCond .ge 15, 3) := by decide +kernel
theorem dd_M_rename_223 : decode cd_M_rename 223 = .ok (.aload_n 0, 1) := by decide +kernel
theorem dd_M_rename_224 : decode cd_M_rename 224 = .ok (.iload 7, 2) := by decide +kernel
theorem dd_M_rename_226 : decode cd_M_rename 226 = .ok (.iload 8, 2) := by decide +kernel
theorem dd_M_rename_228 : decode cd_M_rename 228 = .ok (.iload_n 3, 1) := by decide +kernel
theorem dd_M_rename_229 : decode cd_M_rename 229 = .ok (.invokevirtual 92, 3) := by decide +kernel
theorem dd_M_rename_232 : decode cd_M_rename 232 = .ok (.goto 33, 3) := by decide +kernel
theorem dd_M_rename_235 : decode cd_M_rename 235 = .ok (.aload_n 0, 1) := by decide +kernel
theorem dd_M_rename_236 : decode cd_M_rename 236 = .ok (.getfield 22, 3) := by decide +kernel
theorem dd_M_rename_239 : decode cd_M_rename 239 = .ok (.iload 7, 2) := by decide +kernel
theorem dd_M_rename_241 : decode cd_M_rename 241 = .ok (.bipush 64, 2) := by decide +kernel
theorem dd_M_rename_243 : decode cd_M_rename 243 = .ok (.imul, 1) := by decide +kernel
theorem dd_M_rename_244 : decode cd_M_rename 244 = .ok (.aload_n 0, 1) := by decide +kernel
theorem dd_M_rename_245 : decode cd_M_rename 245 = .ok (.iload 7, 2) := by decide +kernel
theorem dd_M_rename_247 : decode cd_M_rename 247 = .ok (.iload 8, 2) := by decide +kernel
theorem dd_M_rename_249 : decode cd_M_rename 249 = .ok (.invokevirtual 75, 3) := by decide +kernel
theorem dd_M_rename_252 : decode cd_M_rename 252 = .ok (.iconst 2, 1) := by decide +kernel
theorem dd_M_rename_253 : decode cd_M_rename 253 = .ok (.imul, 1) := by decide +kernel
theorem dd_M_rename_254 : decode cd_M_rename 254 = .ok (.iadd, 1) := by decide +kernel
theorem dd_M_rename_255 : decode cd_M_rename 255 = .ok (.iconst 1, 1) := by decide +kernel
theorem dd_M_rename_256 : decode cd_M_rename 256 = .ok (.iadd, 1) := by decide +kernel
theorem dd_M_rename_257 : decode cd_M_rename 257 = .ok (.iload_n 3, 1) := by decide +kernel
theorem dd_M_rename_258 : decode cd_M_rename 258 = .ok (.iastore, 1) := by decide +kernel
theorem dd_M_rename_259 : decode cd_M_rename 259 = .ok (.aload_n 0, 1) := by decide +kernel
theorem dd_M_rename_260 : decode cd_M_rename 260 = .ok (.iload 6, 2) := by decide +kernel
theorem dd_M_rename_262 : decode cd_M_rename 262 = .ok (.invokevirtual 114, 3) := by decide +kernel
theorem dd_M_rename_265 : decode cd_M_rename 265 = .ok (.return_, 1) := by decide +kernel
theorem dd_M_within_0 : decode cd_M_within 0 = .ok (.iconst 0, 1) := by decide +kernel
theorem dd_M_within_1 : decode cd_M_within 1 = .ok (.istore_n 3, 1) := by decide +kernel
theorem dd_M_within_2 : decode cd_M_within 2 = .ok (.iload_n 3, 1) := by decide +kernel
theorem dd_M_within_3 : decode cd_M_within 3 = .ok (.bipush 24, 2) := by decide +kernel
theorem dd_M_within_5 : decode cd_M_within 5 = .ok (.if_icmp .gt 18, 3) := by decide +kernel
theorem dd_M_within_8 : decode cd_M_within 8 = .ok (.iload_n 1, 1) := by decide +kernel
theorem dd_M_within_9 : decode cd_M_within 9 = .ok (.iload_n 3, 1) := by decide +kernel
theorem dd_M_within_10 : decode cd_M_within 10 = .ok (.iushr, 1) := by decide +kernel
theorem dd_M_within_11 : decode cd_M_within 11 = .ok (.iload_n 2, 1) := by decide +kernel
theorem dd_M_within_12 : decode cd_M_within 12 = .ok (.if_icmp .ne 5, 3) := by decide +kernel
theorem dd_M_within_15 : decode cd_M_within 15 = .ok (.iconst 1, 1) := by decide +kernel
theorem dd_M_within_16 : decode cd_M_within 16 = .ok (.ireturn, 1) := by decide +kernel
theorem dd_M_within_17 : decode cd_M_within 17 = .ok (.iinc 3 8, 3) := by decide +kernel
theorem dd_M_within_20 : decode cd_M_within 20 = .ok (.goto (-18), 3) := by decide +kernel
theorem dd_M_within_23 : decode cd_M_within 23 = .ok (.iconst 0, 1) := by decide +kernel
theorem dd_M_within_24 : decode cd_M_within 24 = .ok (.ireturn, 1) := by decide +kernel
theorem dd_M_truncate_0 : decode cd_M_truncate 0 = .ok (.aload_n 0, 1) := by decide +kernel
theorem dd_M_truncate_1 : decode cd_M_truncate 1 = .ok (.aload_n 0, 1) := by decide +kernel
theorem dd_M_truncate_2 : decode cd_M_truncate 2 = .ok (.iload_n 1, 1) := by decide +kernel
theorem dd_M_truncate_3 : decode cd_M_truncate 3 = .ok (.invokevirtual 79, 3) := by decide +kernel
theorem dd_M_truncate_6 : decode cd_M_truncate 6 = .ok (.ifCond .ne 13, 3) := by decide +kernel
theorem dd_M_truncate_9 : decode cd_M_truncate 9 = .ok (.iload_n 2, 1) := by decide +kernel
theorem dd_M_truncate_10 : decode cd_M_truncate 10 = .ok (.ifCond .lt 9, 3) := by decide +kernel
theorem dd_M_truncate_13 : decode cd_M_truncate 13 = .ok (.iload_n 2, 1) := by decide +kernel
theorem dd_M_truncate_14 : decode cd_M_truncate 14 = .ok (.bipush 64, 2) := by decide +kernel
theorem dd_M_truncate_16 : decode cd_M_truncate 16 = .ok (.if_icmp .le 7, 3) := by decide +kernel
theorem dd_M_truncate_19 : decode cd_M_truncate 19 = .ok (.iconst 1, 1) := by decide +kernel
theorem dd_M_truncate_20 : decode cd_M_truncate 20 = .ok (.goto 56, 3) := by decide +kernel
theorem dd_M_truncate_23 : decode cd_M_truncate 23 = .ok (.aload_n 0, 1) := by decide +kernel
theorem dd_M_truncate_24 : decode cd_M_truncate 24 = .ok (.iload_n 1, 1) := by decide +kernel
theorem dd_M_truncate_25 : decode cd_M_truncate 25 = .ok (.invokevirtual 83, 3) := by decide +kernel
theorem dd_M_truncate_28 : decode cd_M_truncate 28 = .ok (.ifCond .eq 10, 3) := by decide +kernel
theorem dd_M_truncate_31 : decode cd_M_truncate 31 = .ok (.aload_n 0, 1) := by decide +kernel
theorem dd_M_truncate_32 : decode cd_M_truncate 32 = .ok (.getfield 69, 3) := by decide +kernel
theorem dd_M_truncate_35 : decode cd_M_truncate 35 = .ok (.ifCond .ge 7, 3) := by decide +kernel
theorem dd_M_truncate_38 : decode cd_M_truncate 38 = .ok (.iconst 2, 1) := by decide +kernel
theorem dd_M_truncate_39 : decode cd_M_truncate 39 = .ok (.goto 37, 3) := by decide +kernel
theorem dd_M_truncate_42 : decode cd_M_truncate 42 = .ok (.aload_n 0, 1) := by decide +kernel
theorem dd_M_truncate_43 : decode cd_M_truncate 43 = .ok (.getfield 7, 3) := by decide +kernel
theorem dd_M_truncate_46 : decode cd_M_truncate 46 = .ok (.aload_n 0, 1) := by decide +kernel
theorem dd_M_truncate_47 : decode cd_M_truncate 47 = .ok (.getfield 69, 3) := by decide +kernel
theorem dd_M_truncate_50 : decode cd_M_truncate 50 = .ok (.iaload, 1) := by decide +kernel
theorem dd_M_truncate_51 : decode cd_M_truncate 51 = .ok (.iconst 1, 1) := by decide +kernel
theorem dd_M_truncate_52 : decode cd_M_truncate 52 = .ok (.if_icmp .eq 7, 3) := by decide +kernel
theorem dd_M_truncate_55 : decode cd_M_truncate 55 = .ok (.iconst 3, 1) := by decide +kernel
theorem dd_M_truncate_56 : decode cd_M_truncate 56 = .ok (.goto 20, 3) := by decide +kernel
theorem dd_M_truncate_59 : decode cd_M_truncate 59 = .ok (.aload_n 0, 1) := by decide +kernel
theorem dd_M_truncate_60 : decode cd_M_truncate 60 = .ok (.aload_n 0, 1) := by decide +kernel
theorem dd_M_truncate_61 : decode cd_M_truncate 61 = .ok (.getfield 69, 3) := by decide +kernel
theorem dd_M_truncate_64 : decode cd_M_truncate 64 = .ok (.iload_n 2, 1) := by decide +kernel
theorem dd_M_truncate_65 : decode cd_M_truncate 65 = .ok (.invokevirtual 106, 3) := by decide +kernel
theorem dd_M_truncate_68 : decode cd_M_truncate 68 = .ok (.ifCond .ne 7, 3) := by decide +kernel
theorem dd_M_truncate_71 : decode cd_M_truncate 71 = .ok (.iconst 4, 1) := by decide +kernel
theorem dd_M_truncate_72 : decode cd_M_truncate 72 = .ok (.goto 4, 3) := by decide +kernel
theorem dd_M_truncate_75 : decode cd_M_truncate 75 = .ok (.iconst 0, 1) := by decide +kernel
theorem dd_M_truncate_76 : decode cd_M_truncate 76 = .ok (.putfield 37, 3) := by decide +kernel
theorem dd_M_truncate_79 : decode cd_M_truncate 79 = .ok (.aload_n 0, 1) := by decide +kernel
theorem dd_M_truncate_80 : decode cd_M_truncate 80 = .ok (.getfield 37, 3) := by decide +kernel
theorem dd_M_truncate_83 : decode cd_M_truncate 83 = .ok (.ifCond .ne 12, 3) := by decide +kernel
theorem dd_M_truncate_86 : decode cd_M_truncate 86 = .ok (.aload_n 0, 1) := by decide +kernel
theorem dd_M_truncate_87 : decode cd_M_truncate 87 = .ok (.aload_n 0, 1) := by decide +kernel
theorem dd_M_truncate_88 : decode cd_M_truncate 88 = .ok (.getfield 69, 3) := by decide +kernel
theorem dd_M_truncate_91 : decode cd_M_truncate 91 = .ok (.iload_n 2, 1) := by decide +kernel
theorem dd_M_truncate_92 : decode cd_M_truncate 92 = .ok (.invokevirtual 56, 3) := by decide +kernel
theorem dd_M_truncate_95 : decode cd_M_truncate 95 = .ok (.return_, 1) := by decide +kernel
theorem dd_M_stat_0 : decode cd_M_stat 0 = .ok (.aload_n 0, 1) := by decide +kernel
theorem dd_M_stat_1 : decode cd_M_stat 1 = .ok (.aload_n 0, 1) := by decide +kernel
theorem dd_M_stat_2 : decode cd_M_stat 2 = .ok (.iload_n 1, 1) := by decide +kernel
theorem dd_M_stat_3 : decode cd_M_stat 3 = .ok (.invokevirtual 79, 3) := by decide +kernel
theorem dd_M_stat_6 : decode cd_M_stat 6 = .ok (.ifCond .ne 12, 3) := by decide +kernel
theorem dd_M_stat_9 : decode cd_M_stat 9 = .ok (.iload_n 2, 1) := by decide +kernel
theorem dd_M_stat_10 : decode cd_M_stat 10 = .ok (.ifCond .lt 8, 3) := by decide +kernel
theorem dd_M_stat_13 : decode cd_M_stat 13 = .ok (.iload_n 2, 1) := by decide +kernel
theorem dd_M_stat_14 : decode cd_M_stat 14 = .ok (.iconst 4, 1) := by decide +kernel
theorem dd_M_stat_15 : decode cd_M_stat 15 = .ok (.if_icmp .le 7, 3) := by decide +kernel
theorem dd_M_stat_18 : decode cd_M_stat 18 = .ok (.iconst 1, 1) := by decide +kernel
theorem dd_M_stat_19 : decode cd_M_stat 19 = .ok (.goto 23, 3) := by decide +kernel
theorem dd_M_stat_22 : decode cd_M_stat 22 = .ok (.aload_n 0, 1) := by decide +kernel
theorem dd_M_stat_23 : decode cd_M_stat 23 = .ok (.iload_n 1, 1) := by decide +kernel
theorem dd_M_stat_24 : decode cd_M_stat 24 = .ok (.invokevirtual 83, 3) := by decide +kernel
theorem dd_M_stat_27 : decode cd_M_stat 27 = .ok (.ifCond .eq 10, 3) := by decide +kernel
theorem dd_M_stat_30 : decode cd_M_stat 30 = .ok (.aload_n 0, 1) := by decide +kernel
theorem dd_M_stat_31 : decode cd_M_stat 31 = .ok (.getfield 69, 3) := by decide +kernel
theorem dd_M_stat_34 : decode cd_M_stat 34 = .ok (.ifCond .ge 7, 3) := by decide +kernel
theorem dd_M_stat_37 : decode cd_M_stat 37 = .ok (.iconst 2, 1) := by decide +kernel
theorem dd_M_stat_38 : decode cd_M_stat 38 = .ok (.goto 4, 3) := by decide +kernel
theorem dd_M_stat_41 : decode cd_M_stat 41 = .ok (.iconst 0, 1) := by decide +kernel
theorem dd_M_stat_42 : decode cd_M_stat 42 = .ok (.putfield 37, 3) := by decide +kernel
theorem dd_M_stat_45 : decode cd_M_stat 45 = .ok (.aload_n 0, 1) := by decide +kernel
theorem dd_M_stat_46 : decode cd_M_stat 46 = .ok (.getfield 37, 3) := by decide +kernel
theorem dd_M_stat_49 : decode cd_M_stat 49 = .ok (.ifCond .eq 5, 3) := by decide +kernel
theorem dd_M_stat_52 : decode cd_M_stat 52 = .ok (.iconst 0, 1) := by decide +kernel
theorem dd_M_stat_53 : decode cd_M_stat 53 = .ok (.ireturn, 1) := by decide +kernel
theorem dd_M_stat_54 : decode cd_M_stat 54 = .ok (.iload_n 2, 1) := by decide +kernel
theorem dd_M_stat_55 : decode cd_M_stat 55 = .ok (.ifCond .ne 13, 3) := by decide +kernel
theorem dd_M_stat_58 : decode cd_M_stat 58 = .ok (.aload_n 0, 1) := by decide +kernel
theorem dd_M_stat_59 : decode cd_M_stat 59 = .ok (.getfield 7, 3) := by decide +kernel
theorem dd_M_stat_62 : decode cd_M_stat 62 = .ok (.aload_n 0, 1) := by decide +kernel
theorem dd_M_stat_63 : decode cd_M_stat 63 = .ok (.getfield 69, 3) := by decide +kernel
theorem dd_M_stat_66 : decode cd_M_stat 66 = .ok (.iaload, 1) := by decide +kernel
theorem dd_M_stat_67 : decode cd_M_stat 67 = .ok (.ireturn, 1) := by decide +kernel
theorem dd_M_stat_68 : decode cd_M_stat 68 = .ok (.iload_n 2, 1) := by decide +kernel
theorem dd_M_stat_69 : decode cd_M_stat 69 = .ok (.iconst 1, 1) := by decide +kernel
theorem dd_M_stat_70 : decode cd_M_stat 70 = .ok (.if_icmp .ne 13, 3) := by decide +kernel
theorem dd_M_stat_73 : decode cd_M_stat 73 = .ok (.aload_n 0, 1) := by decide +kernel
theorem dd_M_stat_74 : decode cd_M_stat 74 = .ok (.getfield 13, 3) := by decide +kernel
theorem dd_M_stat_77 : decode cd_M_stat 77 = .ok (.aload_n 0, 1) := by decide +kernel
theorem dd_M_stat_78 : decode cd_M_stat 78 = .ok (.getfield 69, 3) := by decide +kernel
theorem dd_M_stat_81 : decode cd_M_stat 81 = .ok (.iaload, 1) := by decide +kernel
theorem dd_M_stat_82 : decode cd_M_stat 82 = .ok (.ireturn, 1) := by decide +kernel
theorem dd_M_stat_83 : decode cd_M_stat 83 = .ok (.iload_n 2, 1) := by decide +kernel
theorem dd_M_stat_84 : decode cd_M_stat 84 = .ok (.iconst 2, 1) := by decide +kernel
theorem dd_M_stat_85 : decode cd_M_stat 85 = .ok (.if_icmp .ne 8, 3) := by decide +kernel
theorem dd_M_stat_88 : decode cd_M_stat 88 = .ok (.aload_n 0, 1) := by decide +kernel
theorem dd_M_stat_89 : decode cd_M_stat 89 = .ok (.getfield 69, 3) := by decide +kernel
theorem dd_M_stat_92 : decode cd_M_stat 92 = .ok (.ireturn, 1) := by decide +kernel
theorem dd_M_stat_93 : decode cd_M_stat 93 = .ok (.iload_n 2, 1) := by decide +kernel
theorem dd_M_stat_94 : decode cd_M_stat 94 = .ok (.iconst 3, 1) := by decide +kernel
theorem dd_M_stat_95 : decode cd_M_stat 95 = .ok (.if_icmp .ne 13, 3) := by decide +kernel
theorem dd_M_stat_98 : decode cd_M_stat 98 = .ok (.aload_n 0, 1) := by decide +kernel
theorem dd_M_stat_99 : decode cd_M_stat 99 = .ok (.getfield 16, 3) := by decide +kernel
theorem dd_M_stat_102 : decode cd_M_stat 102 = .ok (.aload_n 0, 1) := by decide +kernel
theorem dd_M_stat_103 : decode cd_M_stat 103 = .ok (.getfield 69, 3) := by decide +kernel
theorem dd_M_stat_106 : decode cd_M_stat 106 = .ok (.iaload, 1) := by decide +kernel
theorem dd_M_stat_107 : decode cd_M_stat 107 = .ok (.ireturn, 1) := by decide +kernel
theorem dd_M_stat_108 : decode cd_M_stat 108 = .ok (.aload_n 0, 1) := by decide +kernel
theorem dd_M_stat_109 : decode cd_M_stat 109 = .ok (.getfield 7, 3) := by decide +kernel
theorem dd_M_stat_112 : decode cd_M_stat 112 = .ok (.aload_n 0, 1) := by decide +kernel
theorem dd_M_stat_113 : decode cd_M_stat 113 = .ok (.getfield 69, 3) := by decide +kernel
theorem dd_M_stat_116 : decode cd_M_stat 116 = .ok (.iaload, 1) := by decide +kernel
theorem dd_M_stat_117 : decode cd_M_stat 117 = .ok (.iconst 2, 1) := by decide +kernel
theorem dd_M_stat_118 : decode cd_M_stat 118 = .ok (.if_icmp .ne 17, 3) := by decide +kernel
theorem dd_M_stat_121 : decode cd_M_stat 121 = .ok (.aload_n 0, 1) := by decide +kernel
theorem dd_M_stat_122 : decode cd_M_stat 122 = .ok (.getfield 13, 3) := by decide +kernel
theorem dd_M_stat_125 : decode cd_M_stat 125 = .ok (.aload_n 0, 1) := by decide +kernel
theorem dd_M_stat_126 : decode cd_M_stat 126 = .ok (.getfield 69, 3) := by decide +kernel
theorem dd_M_stat_129 : decode cd_M_stat 129 = .ok (.iaload, 1) := by decide +kernel
theorem dd_M_stat_130 : decode cd_M_stat 130 = .ok (.iconst 2, 1) := by decide +kernel
theorem dd_M_stat_131 : decode cd_M_stat 131 = .ok (.idiv, 1) := by decide +kernel
theorem dd_M_stat_132 : decode cd_M_stat 132 = .ok (.goto 4, 3) := by decide +kernel
theorem dd_M_stat_135 : decode cd_M_stat 135 = .ok (.iconst 0, 1) := by decide +kernel
theorem dd_M_stat_136 : decode cd_M_stat 136 = .ok (.ireturn, 1) := by decide +kernel
theorem dd_M_commit_0 : decode cd_M_commit 0 = .ok (.aload_n 0, 1) := by decide +kernel
theorem dd_M_commit_1 : decode cd_M_commit 1 = .ok (.invokevirtual 130, 3) := by decide +kernel
theorem dd_M_commit_4 : decode cd_M_commit 4 = .ok (.istore_n 1, 1) := by decide +kernel
theorem dd_M_commit_5 : decode cd_M_commit 5 = .ok (.aload_n 0, 1) := by decide +kernel
theorem dd_M_commit_6 : decode cd_M_commit 6 = .ok (.iconst 0, 1) := by decide +kernel
theorem dd_M_commit_7 : decode cd_M_commit 7 = .ok (.putfield 37, 3) := by decide +kernel
theorem dd_M_commit_10 : decode cd_M_commit 10 = .ok (.iload_n 1, 1) := by decide +kernel
theorem dd_M_commit_11 : decode cd_M_commit 11 = .ok (.ifCond .ne 5, 3) := by decide +kernel
theorem dd_M_commit_14 : decode cd_M_commit 14 = .ok (.iconst 0, 1) := by decide +kernel
theorem dd_M_commit_15 : decode cd_M_commit 15 = .ok (.ireturn, 1) := by decide +kernel
theorem dd_M_commit_16 : decode cd_M_commit 16 = .ok (.iconst 2, 1) := by decide +kernel
theorem dd_M_commit_17 : decode cd_M_commit 17 = .ok (.iload_n 1, 1) := by decide +kernel
theorem dd_M_commit_18 : decode cd_M_commit 18 = .ok (.imul, 1) := by decide +kernel
theorem dd_M_commit_19 : decode cd_M_commit 19 = .ok (.iconst 1, 1) := by decide +kernel
theorem dd_M_commit_20 : decode cd_M_commit 20 = .ok (.iadd, 1) := by decide +kernel
theorem dd_M_commit_21 : decode cd_M_commit 21 = .ok (.istore_n 2, 1) := by decide +kernel
theorem dd_M_commit_22 : decode cd_M_commit 22 = .ok (.aload_n 0, 1) := by decide +kernel
theorem dd_M_commit_23 : decode cd_M_commit 23 = .ok (.getfield 133, 3) := by decide +kernel
theorem dd_M_commit_26 : decode cd_M_commit 26 = .ok (.ifCond .eq 11, 3) := by decide +kernel
theorem dd_M_commit_29 : decode cd_M_commit 29 = .ok (.aload_n 0, 1) := by decide +kernel
theorem dd_M_commit_30 : decode cd_M_commit 30 = .ok (.getfield 133, 3) := by decide +kernel
theorem dd_M_commit_33 : decode cd_M_commit 33 = .ok (.iload_n 2, 1) := by decide +kernel
theorem dd_M_commit_34 : decode cd_M_commit 34 = .ok (.if_icmp .le 39, 3) := by decide +kernel
theorem dd_M_commit_37 : decode cd_M_commit 37 = .ok (.aload_n 0, 1) := by decide +kernel
theorem dd_M_commit_38 : decode cd_M_commit 38 = .ok (.getfield 133, 3) := by decide +kernel
theorem dd_M_commit_41 : decode cd_M_commit 41 = .ok (.ifCond .le 13, 3) := by decide +kernel
theorem dd_M_commit_44 : decode cd_M_commit 44 = .ok (.aload_n 0, 1) := by decide +kernel
theorem dd_M_commit_45 : decode cd_M_commit 45 = .ok (.dup, 1) := by decide +kernel
theorem dd_M_commit_46 : decode cd_M_commit 46 = .ok (.getfield 133, 3) := by decide +kernel
theorem dd_M_commit_49 : decode cd_M_commit 49 = .ok (.iload_n 2, 1) := by decide +kernel
theorem dd_M_commit_50 : decode cd_M_commit 50 = .ok (.isub, 1) := by decide +kernel
theorem dd_M_commit_51 : decode cd_M_commit 51 = .ok (.putfield 133, 3) := by decide +kernel
theorem dd_M_commit_54 : decode cd_M_commit 54 = .ok (.aload_n 0, 1) := by decide +kernel
theorem dd_M_commit_55 : decode cd_M_commit 55 = .ok (.dup, 1) := by decide +kernel
theorem dd_M_commit_56 : decode cd_M_commit 56 = .ok (.getfield 136, 3) := by decide +kernel
theorem dd_M_commit_59 : decode cd_M_commit 59 = .ok (.iload_n 2, 1) := by decide +kernel
theorem dd_M_commit_60 : decode cd_M_commit 60 = .ok (.iadd, 1) := by decide +kernel
theorem dd_M_commit_61 : decode cd_M_commit 61 = .ok (.putfield 136, 3) := by decide +kernel
theorem dd_M_commit_64 : decode cd_M_commit 64 = .ok (.aload_n 0, 1) := by decide +kernel
theorem dd_M_commit_65 : decode cd_M_commit 65 = .ok (.iconst 0, 1) := by decide +kernel
theorem dd_M_commit_66 : decode cd_M_commit 66 = .ok (.bipush 12, 2) := by decide +kernel
theorem dd_M_commit_68 : decode cd_M_commit 68 = .ok (.invokevirtual 139, 3) := by decide +kernel
theorem dd_M_commit_71 : decode cd_M_commit 71 = .ok (.iload_n 2, 1) := by decide +kernel
theorem dd_M_commit_72 : decode cd_M_commit 72 = .ok (.ireturn, 1) := by decide +kernel
theorem dd_M_commit_73 : decode cd_M_commit 73 = .ok (.aload_n 0, 1) := by decide +kernel
theorem dd_M_commit_74 : decode cd_M_commit 74 = .ok (.dup, 1) := by decide +kernel
theorem dd_M_commit_75 : decode cd_M_commit 75 = .ok (.getfield 136, 3) := by decide +kernel
theorem dd_M_commit_78 : decode cd_M_commit 78 = .ok (.aload_n 0, 1) := by decide +kernel
theorem dd_M_commit_79 : decode cd_M_commit 79 = .ok (.getfield 133, 3) := by decide +kernel
theorem dd_M_commit_82 : decode cd_M_commit 82 = .ok (.iconst 1, 1) := by decide +kernel
theorem dd_M_commit_83 : decode cd_M_commit 83 = .ok (.isub, 1) := by decide +kernel
theorem dd_M_commit_84 : decode cd_M_commit 84 = .ok (.iadd, 1) := by decide +kernel
theorem dd_M_commit_85 : decode cd_M_commit 85 = .ok (.putfield 136, 3) := by decide +kernel
theorem dd_M_commit_88 : decode cd_M_commit 88 = .ok (.aload_n 0, 1) := by decide +kernel
theorem dd_M_commit_89 : decode cd_M_commit 89 = .ok (.getfield 133, 3) := by decide +kernel
theorem dd_M_commit_92 : decode cd_M_commit 92 = .ok (.iload_n 1, 1) := by decide +kernel
theorem dd_M_commit_93 : decode cd_M_commit 93 = .ok (.iconst 1, 1) := by decide +kernel
theorem dd_M_commit_94 : decode cd_M_commit 94 = .ok (.iadd, 1) := by decide +kernel
theorem dd_M_commit_95 : decode cd_M_commit 95 = .ok (.if_icmp .le 10, 3) := by decide +kernel
theorem dd_M_commit_98 : decode cd_M_commit 98 = .ok (.aload_n 0, 1) := by decide +kernel
theorem dd_M_commit_99 : decode cd_M_commit 99 = .ok (.iconst 0, 1) := by decide +kernel
theorem dd_M_commit_100 : decode cd_M_commit 100 = .ok (.bipush 12, 2) := by decide +kernel
theorem dd_M_commit_102 : decode cd_M_commit 102 = .ok (.invokevirtual 139, 3) := by decide +kernel
theorem dd_M_commit_105 : decode cd_M_commit 105 = .ok (.aload_n 0, 1) := by decide +kernel
theorem dd_M_commit_106 : decode cd_M_commit 106 = .ok (.iconst 0, 1) := by decide +kernel
theorem dd_M_commit_107 : decode cd_M_commit 107 = .ok (.putfield 133, 3) := by decide +kernel
theorem dd_M_commit_110 : decode cd_M_commit 110 = .ok (.aload_n 0, 1) := by decide +kernel
theorem dd_M_commit_111 : decode cd_M_commit 111 = .ok (.invokevirtual 142, 3) := by decide +kernel
theorem dd_M_commit_114 : decode cd_M_commit 114 = .ok (.aload_n 0, 1) := by decide +kernel
theorem dd_M_commit_115 : decode cd_M_commit 115 = .ok (.iconst 1, 1) := by decide +kernel
theorem dd_M_commit_116 : decode cd_M_commit 116 = .ok (.putfield 37, 3) := by decide +kernel
theorem dd_M_commit_119 : decode cd_M_commit 119 = .ok (.iconst 0, 1) := by decide +kernel
theorem dd_M_commit_120 : decode cd_M_commit 120 = .ok (.ireturn, 1) := by decide +kernel
theorem dd_M_differing_0 : decode cd_M_differing 0 = .ok (.iconst 0, 1) := by decide +kernel
theorem dd_M_differing_1 : decode cd_M_differing 1 = .ok (.istore_n 1, 1) := by decide +kernel
theorem dd_M_differing_2 : decode cd_M_differing 2 = .ok (.iconst 0, 1) := by decide +kernel
theorem dd_M_differing_3 : decode cd_M_differing 3 = .ok (.istore_n 2, 1) := by decide +kernel
theorem dd_M_differing_4 : decode cd_M_differing 4 = .ok (.iload_n 2, 1) := by decide +kernel
theorem dd_M_differing_5 : decode cd_M_differing 5 = .ok (.bipush 40, 2) := by decide +kernel
theorem dd_M_differing_7 : decode cd_M_differing 7 = .ok (.if_icmp .ge 56, 3) := by decide +kernel
theorem dd_M_differing_10 : decode cd_M_differing 10 = .ok (.iconst 0, 1) := by decide +kernel
theorem dd_M_differing_11 : decode cd_M_differing 11 = .ok (.istore_n 3, 1) := by decide +kernel
theorem dd_M_differing_12 : decode cd_M_differing 12 = .ok (.iconst 0, 1) := by decide +kernel
theorem dd_M_differing_13 : decode cd_M_differing 13 = .ok (.istore 4, 2) := by decide +kernel
theorem dd_M_differing_15 : decode cd_M_differing 15 = .ok (.iload 4, 2) := by decide +kernel
theorem dd_M_differing_17 : decode cd_M_differing 17 = .ok (.bipush 16, 2) := by decide +kernel
theorem dd_M_differing_19 : decode cd_M_differing 19 = .ok (.if_icmp .ge 31, 3) := by decide +kernel
theorem dd_M_differing_22 : decode cd_M_differing 22 = .ok (.aload_n 0, 1) := by decide +kernel
theorem dd_M_differing_23 : decode cd_M_differing 23 = .ok (.iconst 0, 1) := by decide +kernel
theorem dd_M_differing_24 : decode cd_M_differing 24 = .ok (.iload_n 2, 1) := by decide +kernel
theorem dd_M_differing_25 : decode cd_M_differing 25 = .ok (.iload 4, 2) := by decide +kernel
theorem dd_M_differing_27 : decode cd_M_differing 27 = .ok (.invokevirtual 127, 3) := by decide +kernel
theorem dd_M_differing_30 : decode cd_M_differing 30 = .ok (.aload_n 0, 1) := by decide +kernel
theorem dd_M_differing_31 : decode cd_M_differing 31 = .ok (.bipush 12, 2) := by decide +kernel
theorem dd_M_differing_33 : decode cd_M_differing 33 = .ok (.iload_n 2, 1) := by decide +kernel
theorem dd_M_differing_34 : decode cd_M_differing 34 = .ok (.iload 4, 2) := by decide +kernel
theorem dd_M_differing_36 : decode cd_M_differing 36 = .ok (.invokevirtual 127, 3) := by decide +kernel
theorem dd_M_differing_39 : decode cd_M_differing 39 = .ok (.if_icmp .eq 5, 3) := by decide +kernel
theorem dd_M_differing_42 : decode cd_M_differing 42 = .ok (.iconst 1, 1) := by decide +kernel
theorem dd_M_differing_43 : decode cd_M_differing 43 = .ok (.istore_n 3, 1) := by decide +kernel
theorem dd_M_differing_44 : decode cd_M_differing 44 = .ok (.iinc 4 1, 3) := by decide +kernel
theorem dd_M_differing_47 : decode cd_M_differing 47 = .ok (.goto (-32), 3) := by decide +kernel
theorem dd_M_differing_50 : decode cd_M_differing 50 = .ok (.iload_n 3, 1) := by decide +kernel
theorem dd_M_differing_51 : decode cd_M_differing 51 = .ok (.ifCond .eq 6, 3) := by decide +kernel
theorem dd_M_differing_54 : decode cd_M_differing 54 = .ok (.iinc 1 1, 3) := by decide +kernel
theorem dd_M_differing_57 : decode cd_M_differing 57 = .ok (.iinc 2 1, 3) := by decide +kernel
theorem dd_M_differing_60 : decode cd_M_differing 60 = .ok (.goto (-56), 3) := by decide +kernel
theorem dd_M_differing_63 : decode cd_M_differing 63 = .ok (.iload_n 1, 1) := by decide +kernel
theorem dd_M_differing_64 : decode cd_M_differing 64 = .ok (.ireturn, 1) := by decide +kernel
theorem dd_M_byteOf_0 : decode cd_M_byteOf 0 = .ok (.iload_n 2, 1) := by decide +kernel
theorem dd_M_byteOf_1 : decode cd_M_byteOf 1 = .ok (.ifCond .ne 19, 3) := by decide +kernel
theorem dd_M_byteOf_4 : decode cd_M_byteOf 4 = .ok (.iload_n 3, 1) := by decide +kernel
theorem dd_M_byteOf_5 : decode cd_M_byteOf 5 = .ok (.iconst 5, 1) := by decide +kernel
theorem dd_M_byteOf_6 : decode cd_M_byteOf 6 = .ok (.if_icmp .ge 12, 3) := by decide +kernel
theorem dd_M_byteOf_9 : decode cd_M_byteOf 9 = .ok (.aload_n 0, 1) := by decide +kernel
theorem dd_M_byteOf_10 : decode cd_M_byteOf 10 = .ok (.iload_n 1, 1) := by decide +kernel
theorem dd_M_byteOf_11 : decode cd_M_byteOf 11 = .ok (.iload_n 3, 1) := by decide +kernel
theorem dd_M_byteOf_12 : decode cd_M_byteOf 12 = .ok (.invokevirtual 121, 3) := by decide +kernel
theorem dd_M_byteOf_15 : decode cd_M_byteOf 15 = .ok (.goto 4, 3) := by decide +kernel
theorem dd_M_byteOf_18 : decode cd_M_byteOf 18 = .ok (.iconst 0, 1) := by decide +kernel
theorem dd_M_byteOf_19 : decode cd_M_byteOf 19 = .ok (.ireturn, 1) := by decide +kernel
theorem dd_M_byteOf_20 : decode cd_M_byteOf 20 = .ok (.iload_n 2, 1) := by decide +kernel
theorem dd_M_byteOf_21 : decode cd_M_byteOf 21 = .ok (.bipush 7, 2) := by decide +kernel
theorem dd_M_byteOf_23 : decode cd_M_byteOf 23 = .ok (.if_icmp .ge 24, 3) := by decide +kernel
theorem dd_M_byteOf_26 : decode cd_M_byteOf 26 = .ok (.aload_n 0, 1) := by decide +kernel
theorem dd_M_byteOf_27 : decode cd_M_byteOf 27 = .ok (.iload_n 1, 1) := by decide +kernel
theorem dd_M_byteOf_28 : decode cd_M_byteOf 28 = .ok (.iload_n 2, 1) := by decide +kernel
theorem dd_M_byteOf_29 : decode cd_M_byteOf 29 = .ok (.iconst 1, 1) := by decide +kernel
theorem dd_M_byteOf_30 : decode cd_M_byteOf 30 = .ok (.isub, 1) := by decide +kernel
theorem dd_M_byteOf_31 : decode cd_M_byteOf 31 = .ok (.iconst 2, 1) := by decide +kernel
theorem dd_M_byteOf_32 : decode cd_M_byteOf 32 = .ok (.imul, 1) := by decide +kernel
theorem dd_M_byteOf_33 : decode cd_M_byteOf 33 = .ok (.iadd, 1) := by decide +kernel
theorem dd_M_byteOf_34 : decode cd_M_byteOf 34 = .ok (.iload_n 3, 1) := by decide +kernel
theorem dd_M_byteOf_35 : decode cd_M_byteOf 35 = .ok (.bipush 8, 2) := by decide +kernel
theorem dd_M_byteOf_37 : decode cd_M_byteOf 37 = .ok (.idiv, 1) := by decide +kernel
theorem dd_M_byteOf_38 : decode cd_M_byteOf 38 = .ok (.iadd, 1) := by decide +kernel
theorem dd_M_byteOf_39 : decode cd_M_byteOf 39 = .ok (.iload_n 3, 1) := by decide +kernel
theorem dd_M_byteOf_40 : decode cd_M_byteOf 40 = .ok (.bipush 8, 2) := by decide +kernel
theorem dd_M_byteOf_42 : decode cd_M_byteOf 42 = .ok (.irem, 1) := by decide +kernel
theorem dd_M_byteOf_43 : decode cd_M_byteOf 43 = .ok (.invokevirtual 124, 3) := by decide +kernel
theorem dd_M_byteOf_46 : decode cd_M_byteOf 46 = .ok (.ireturn, 1) := by decide +kernel
theorem dd_M_byteOf_47 : decode cd_M_byteOf 47 = .ok (.iload_n 1, 1) := by decide +kernel
theorem dd_M_byteOf_48 : decode cd_M_byteOf 48 = .ok (.iconst 4, 1) := by decide +kernel
theorem dd_M_byteOf_49 : decode cd_M_byteOf 49 = .ok (.imul, 1) := by decide +kernel
theorem dd_M_byteOf_50 : decode cd_M_byteOf 50 = .ok (.istore 4, 2) := by decide +kernel
theorem dd_M_byteOf_52 : decode cd_M_byteOf 52 = .ok (.iload 4, 2) := by decide +kernel
theorem dd_M_byteOf_54 : decode cd_M_byteOf 54 = .ok (.iload_n 1, 1) := by decide +kernel
theorem dd_M_byteOf_55 : decode cd_M_byteOf 55 = .ok (.iconst 4, 1) := by decide +kernel
theorem dd_M_byteOf_56 : decode cd_M_byteOf 56 = .ok (.imul, 1) := by decide +kernel
theorem dd_M_byteOf_57 : decode cd_M_byteOf 57 = .ok (.bipush 48, 2) := by decide +kernel
theorem dd_M_byteOf_59 : decode cd_M_byteOf 59 = .ok (.iadd, 1) := by decide +kernel
theorem dd_M_byteOf_60 : decode cd_M_byteOf 60 = .ok (.if_icmp .ge 49, 3) := by decide +kernel
theorem dd_M_byteOf_63 : decode cd_M_byteOf 63 = .ok (.iload_n 2, 1) := by decide +kernel
theorem dd_M_byteOf_64 : decode cd_M_byteOf 64 = .ok (.bipush 8, 2) := by decide +kernel
theorem dd_M_byteOf_66 : decode cd_M_byteOf 66 = .ok (.if_icmp .le 43, 3) := by decide +kernel
theorem dd_M_byteOf_69 : decode cd_M_byteOf 69 = .ok (.aload_n 0, 1) := by decide +kernel
theorem dd_M_byteOf_70 : decode cd_M_byteOf 70 = .ok (.getfield 19, 3) := by decide +kernel
theorem dd_M_byteOf_73 : decode cd_M_byteOf 73 = .ok (.iload 4, 2) := by decide +kernel
theorem dd_M_byteOf_75 : decode cd_M_byteOf 75 = .ok (.iaload, 1) := by decide +kernel
theorem dd_M_byteOf_76 : decode cd_M_byteOf 76 = .ok (.iload_n 2, 1) := by decide +kernel
theorem dd_M_byteOf_77 : decode cd_M_byteOf 77 = .ok (.if_icmp .ne 26, 3) := by decide +kernel
theorem dd_M_byteOf_80 : decode cd_M_byteOf 80 = .ok (.aload_n 0, 1) := by decide +kernel
theorem dd_M_byteOf_81 : decode cd_M_byteOf 81 = .ok (.getfield 22, 3) := by decide +kernel
theorem dd_M_byteOf_84 : decode cd_M_byteOf 84 = .ok (.iload 4, 2) := by decide +kernel
theorem dd_M_byteOf_86 : decode cd_M_byteOf 86 = .ok (.iconst 4, 1) := by decide +kernel
theorem dd_M_byteOf_87 : decode cd_M_byteOf 87 = .ok (.idiv, 1) := by decide +kernel
theorem dd_M_byteOf_88 : decode cd_M_byteOf 88 = .ok (.bipush 64, 2) := by decide +kernel
theorem dd_M_byteOf_90 : decode cd_M_byteOf 90 = .ok (.imul, 1) := by decide +kernel
theorem dd_M_byteOf_91 : decode cd_M_byteOf 91 = .ok (.iload 4, 2) := by decide +kernel
theorem dd_M_byteOf_93 : decode cd_M_byteOf 93 = .ok (.iconst 4, 1) := by decide +kernel
theorem dd_M_byteOf_94 : decode cd_M_byteOf 94 = .ok (.irem, 1) := by decide +kernel
theorem dd_M_byteOf_95 : decode cd_M_byteOf 95 = .ok (.bipush 16, 2) := by decide +kernel
theorem dd_M_byteOf_97 : decode cd_M_byteOf 97 = .ok (.imul, 1) := by decide +kernel
theorem dd_M_byteOf_98 : decode cd_M_byteOf 98 = .ok (.iadd, 1) := by decide +kernel
theorem dd_M_byteOf_99 : decode cd_M_byteOf 99 = .ok (.iload_n 3, 1) := by decide +kernel
theorem dd_M_byteOf_100 : decode cd_M_byteOf 100 = .ok (.iadd, 1) := by decide +kernel
theorem dd_M_byteOf_101 : decode cd_M_byteOf 101 = .ok (.iaload, 1) := by decide +kernel
theorem dd_M_byteOf_102 : decode cd_M_byteOf 102 = .ok (.ireturn, 1) := by decide +kernel
theorem dd_M_byteOf_103 : decode cd_M_byteOf 103 = .ok (.iinc 4 1, 3) := by decide +kernel
theorem dd_M_byteOf_106 : decode cd_M_byteOf 106 = .ok (.goto (-54), 3) := by decide +kernel
theorem dd_M_byteOf_109 : decode cd_M_byteOf 109 = .ok (.iconst 0, 1) := by decide +kernel
theorem dd_M_byteOf_110 : decode cd_M_byteOf 110 = .ok (.ireturn, 1) := by decide +kernel
theorem dd_M_mapByte_0 : decode cd_M_mapByte 0 = .ok (.iconst 0, 1) := by decide +kernel
theorem dd_M_mapByte_1 : decode cd_M_mapByte 1 = .ok (.istore_n 3, 1) := by decide +kernel
theorem dd_M_mapByte_2 : decode cd_M_mapByte 2 = .ok (.iload_n 2, 1) := by decide +kernel
theorem dd_M_mapByte_3 : decode cd_M_mapByte 3 = .ok (.bipush 8, 2) := by decide +kernel
theorem dd_M_mapByte_5 : decode cd_M_mapByte 5 = .ok (.imul, 1) := by decide +kernel
theorem dd_M_mapByte_6 : decode cd_M_mapByte 6 = .ok (.istore 4, 2) := by decide +kernel
theorem dd_M_mapByte_8 : decode cd_M_mapByte 8 = .ok (.iload 4, 2) := by decide +kernel
theorem dd_M_mapByte_10 : decode cd_M_mapByte 10 = .ok (.iload_n 2, 1) := by decide +kernel
theorem dd_M_mapByte_11 : decode cd_M_mapByte 11 = .ok (.bipush 8, 2) := by decide +kernel
theorem dd_M_mapByte_13 : decode cd_M_mapByte 13 = .ok (.imul, 1) := by decide +kernel
theorem dd_M_mapByte_14 : decode cd_M_mapByte 14 = .ok (.bipush 8, 2) := by decide +kernel
theorem dd_M_mapByte_16 : decode cd_M_mapByte 16 = .ok (.iadd, 1) := by decide +kernel
theorem dd_M_mapByte_17 : decode cd_M_mapByte 17 = .ok (.if_icmp .ge 36, 3) := by decide +kernel
theorem dd_M_mapByte_20 : decode cd_M_mapByte 20 = .ok (.iload 4, 2) := by decide +kernel
theorem dd_M_mapByte_22 : decode cd_M_mapByte 22 = .ok (.bipush 40, 2) := by decide +kernel
theorem dd_M_mapByte_24 : decode cd_M_mapByte 24 = .ok (.if_icmp .ge 29, 3) := by decide +kernel
theorem dd_M_mapByte_27 : decode cd_M_mapByte 27 = .ok (.aload_n 0, 1) := by decide +kernel
theorem dd_M_mapByte_28 : decode cd_M_mapByte 28 = .ok (.iload_n 1, 1) := by decide +kernel
theorem dd_M_mapByte_29 : decode cd_M_mapByte 29 = .ok (.iload 4, 2) := by decide +kernel
theorem dd_M_mapByte_31 : decode cd_M_mapByte 31 = .ok (.invokevirtual 41, 3) := by decide +kernel
theorem dd_M_mapByte_34 : decode cd_M_mapByte 34 = .ok (.ifCond .eq 13, 3) := by decide +kernel
theorem dd_M_mapByte_37 : decode cd_M_mapByte 37 = .ok (.iload_n 3, 1) := by decide +kernel
theorem dd_M_mapByte_38 : decode cd_M_mapByte 38 = .ok (.iconst 1, 1) := by decide +kernel
theorem dd_M_mapByte_39 : decode cd_M_mapByte 39 = .ok (.iload 4, 2) := by decide +kernel
theorem dd_M_mapByte_41 : decode cd_M_mapByte 41 = .ok (.bipush 8, 2) := by decide +kernel
theorem dd_M_mapByte_43 : decode cd_M_mapByte 43 = .ok (.irem, 1) := by decide +kernel
theorem dd_M_mapByte_44 : decode cd_M_mapByte 44 = .ok (.ishl, 1) := by decide +kernel
theorem dd_M_mapByte_45 : decode cd_M_mapByte 45 = .ok (.ior, 1) := by decide +kernel
theorem dd_M_mapByte_46 : decode cd_M_mapByte 46 = .ok (.istore_n 3, 1) := by decide +kernel
theorem dd_M_mapByte_47 : decode cd_M_mapByte 47 = .ok (.iinc 4 1, 3) := by decide +kernel
theorem dd_M_mapByte_50 : decode cd_M_mapByte 50 = .ok (.goto (-42), 3) := by decide +kernel
theorem dd_M_mapByte_53 : decode cd_M_mapByte 53 = .ok (.iload_n 3, 1) := by decide +kernel
theorem dd_M_mapByte_54 : decode cd_M_mapByte 54 = .ok (.ireturn, 1) := by decide +kernel
theorem dd_M_inodeByte_0 : decode cd_M_inodeByte 0 = .ok (.iload_n 2, 1) := by decide +kernel
theorem dd_M_inodeByte_1 : decode cd_M_inodeByte 1 = .ok (.tableswitch 67 0 3 #[31, 38, 45, 60], 31) := by decide +kernel
theorem dd_M_inodeByte_32 : decode cd_M_inodeByte 32 = .ok (.aload_n 0, 1) := by decide +kernel
theorem dd_M_inodeByte_33 : decode cd_M_inodeByte 33 = .ok (.getfield 7, 3) := by decide +kernel
theorem dd_M_inodeByte_36 : decode cd_M_inodeByte 36 = .ok (.iload_n 1, 1) := by decide +kernel
theorem dd_M_inodeByte_37 : decode cd_M_inodeByte 37 = .ok (.iaload, 1) := by decide +kernel
theorem dd_M_inodeByte_38 : decode cd_M_inodeByte 38 = .ok (.ireturn, 1) := by decide +kernel
theorem dd_M_inodeByte_39 : decode cd_M_inodeByte 39 = .ok (.aload_n 0, 1) := by decide +kernel
theorem dd_M_inodeByte_40 : decode cd_M_inodeByte 40 = .ok (.getfield 13, 3) := by decide +kernel
theorem dd_M_inodeByte_43 : decode cd_M_inodeByte 43 = .ok (.iload_n 1, 1) := by decide +kernel
theorem dd_M_inodeByte_44 : decode cd_M_inodeByte 44 = .ok (.iaload, 1) := by decide +kernel
theorem dd_M_inodeByte_45 : decode cd_M_inodeByte 45 = .ok (.ireturn, 1) := by decide +kernel
theorem dd_M_inodeByte_46 : decode cd_M_inodeByte 46 = .ok (.aload_n 0, 1) := by decide +kernel
theorem dd_M_inodeByte_47 : decode cd_M_inodeByte 47 = .ok (.getfield 7, 3) := by decide +kernel
theorem dd_M_inodeByte_50 : decode cd_M_inodeByte 50 = .ok (.iload_n 1, 1) := by decide +kernel
theorem dd_M_inodeByte_51 : decode cd_M_inodeByte 51 = .ok (.iaload, 1) := by decide +kernel
theorem dd_M_inodeByte_52 : decode cd_M_inodeByte 52 = .ok (.ifCond .ne 7, 3) := by decide +kernel
theorem dd_M_inodeByte_55 : decode cd_M_inodeByte 55 = .ok (.iconst 0, 1) := by decide +kernel
theorem dd_M_inodeByte_56 : decode cd_M_inodeByte 56 = .ok (.goto 4, 3) := by decide +kernel
theorem dd_M_inodeByte_59 : decode cd_M_inodeByte 59 = .ok (.iconst 1, 1) := by decide +kernel
theorem dd_M_inodeByte_60 : decode cd_M_inodeByte 60 = .ok (.ireturn, 1) := by decide +kernel
theorem dd_M_inodeByte_61 : decode cd_M_inodeByte 61 = .ok (.aload_n 0, 1) := by decide +kernel
theorem dd_M_inodeByte_62 : decode cd_M_inodeByte 62 = .ok (.getfield 16, 3) := by decide +kernel
theorem dd_M_inodeByte_65 : decode cd_M_inodeByte 65 = .ok (.iload_n 1, 1) := by decide +kernel
theorem dd_M_inodeByte_66 : decode cd_M_inodeByte 66 = .ok (.iaload, 1) := by decide +kernel
theorem dd_M_inodeByte_67 : decode cd_M_inodeByte 67 = .ok (.ireturn, 1) := by decide +kernel
theorem dd_M_inodeByte_68 : decode cd_M_inodeByte 68 = .ok (.aload_n 0, 1) := by decide +kernel
theorem dd_M_inodeByte_69 : decode cd_M_inodeByte 69 = .ok (.getfield 19, 3) := by decide +kernel
theorem dd_M_inodeByte_72 : decode cd_M_inodeByte 72 = .ok (.iload_n 1, 1) := by decide +kernel
theorem dd_M_inodeByte_73 : decode cd_M_inodeByte 73 = .ok (.iconst 4, 1) := by decide +kernel
theorem dd_M_inodeByte_74 : decode cd_M_inodeByte 74 = .ok (.imul, 1) := by decide +kernel
theorem dd_M_inodeByte_75 : decode cd_M_inodeByte 75 = .ok (.iload_n 2, 1) := by decide +kernel
theorem dd_M_inodeByte_76 : decode cd_M_inodeByte 76 = .ok (.iadd, 1) := by decide +kernel
theorem dd_M_inodeByte_77 : decode cd_M_inodeByte 77 = .ok (.iconst 4, 1) := by decide +kernel
theorem dd_M_inodeByte_78 : decode cd_M_inodeByte 78 = .ok (.isub, 1) := by decide +kernel
theorem dd_M_inodeByte_79 : decode cd_M_inodeByte 79 = .ok (.iaload, 1) := by decide +kernel
theorem dd_M_inodeByte_80 : decode cd_M_inodeByte 80 = .ok (.ireturn, 1) := by decide +kernel
theorem dd_M_copyTables_0 : decode cd_M_copyTables 0 = .ok (.iconst 0, 1) := by decide +kernel
theorem dd_M_copyTables_1 : decode cd_M_copyTables 1 = .ok (.istore_n 3, 1) := by decide +kernel
theorem dd_M_copyTables_2 : decode cd_M_copyTables 2 = .ok (.iload_n 3, 1) := by decide +kernel
theorem dd_M_copyTables_3 : decode cd_M_copyTables 3 = .ok (.bipush 12, 2) := by decide +kernel
theorem dd_M_copyTables_5 : decode cd_M_copyTables 5 = .ok (.if_icmp .ge 57, 3) := by decide +kernel
theorem dd_M_copyTables_8 : decode cd_M_copyTables 8 = .ok (.aload_n 0, 1) := by decide +kernel
theorem dd_M_copyTables_9 : decode cd_M_copyTables 9 = .ok (.getfield 7, 3) := by decide +kernel
theorem dd_M_copyTables_12 : decode cd_M_copyTables 12 = .ok (.iload_n 2, 1) := by decide +kernel
theorem dd_M_copyTables_13 : decode cd_M_copyTables 13 = .ok (.iload_n 3, 1) := by decide +kernel
theorem dd_M_copyTables_14 : decode cd_M_copyTables 14 = .ok (.iadd, 1) := by decide +kernel
theorem dd_M_copyTables_15 : decode cd_M_copyTables 15 = .ok (.aload_n 0, 1) := by decide +kernel
theorem dd_M_copyTables_16 : decode cd_M_copyTables 16 = .ok (.getfield 7, 3) := by decide +kernel
theorem dd_M_copyTables_19 : decode cd_M_copyTables 19 = .ok (.iload_n 1, 1) := by decide +kernel
theorem dd_M_copyTables_20 : decode cd_M_copyTables 20 = .ok (.iload_n 3, 1) := by decide +kernel
theorem dd_M_copyTables_21 : decode cd_M_copyTables 21 = .ok (.iadd, 1) := by decide +kernel
theorem dd_M_copyTables_22 : decode cd_M_copyTables 22 = .ok (.iaload, 1) := by decide +kernel
theorem dd_M_copyTables_23 : decode cd_M_copyTables 23 = .ok (.iastore, 1) := by decide +kernel
theorem dd_M_copyTables_24 : decode cd_M_copyTables 24 = .ok (.aload_n 0, 1) := by decide +kernel
theorem dd_M_copyTables_25 : decode cd_M_copyTables 25 = .ok (.getfield 13, 3) := by decide +kernel
theorem dd_M_copyTables_28 : decode cd_M_copyTables 28 = .ok (.iload_n 2, 1) := by decide +kernel
theorem dd_M_copyTables_29 : decode cd_M_copyTables 29 = .ok (.iload_n 3, 1) := by decide +kernel
theorem dd_M_copyTables_30 : decode cd_M_copyTables 30 = .ok (.iadd, 1) := by decide +kernel
theorem dd_M_copyTables_31 : decode cd_M_copyTables 31 = .ok (.aload_n 0, 1) := by decide +kernel
theorem dd_M_copyTables_32 : decode cd_M_copyTables 32 = .ok (.getfield 13, 3) := by decide +kernel
theorem dd_M_copyTables_35 : decode cd_M_copyTables 35 = .ok (.iload_n 1, 1) := by decide +kernel
theorem dd_M_copyTables_36 : decode cd_M_copyTables 36 = .ok (.iload_n 3, 1) := by decide +kernel
theorem dd_M_copyTables_37 : decode cd_M_copyTables 37 = .ok (.iadd, 1) := by decide +kernel
theorem dd_M_copyTables_38 : decode cd_M_copyTables 38 = .ok (.iaload, 1) := by decide +kernel
theorem dd_M_copyTables_39 : decode cd_M_copyTables 39 = .ok (.iastore, 1) := by decide +kernel
theorem dd_M_copyTables_40 : decode cd_M_copyTables 40 = .ok (.aload_n 0, 1) := by decide +kernel
theorem dd_M_copyTables_41 : decode cd_M_copyTables 41 = .ok (.getfield 16, 3) := by decide +kernel
theorem dd_M_copyTables_44 : decode cd_M_copyTables 44 = .ok (.iload_n 2, 1) := by decide +kernel
theorem dd_M_copyTables_45 : decode cd_M_copyTables 45 = .ok (.iload_n 3, 1) := by decide +kernel
theorem dd_M_copyTables_46 : decode cd_M_copyTables 46 = .ok (.iadd, 1) := by decide +kernel
theorem dd_M_copyTables_47 : decode cd_M_copyTables 47 = .ok (.aload_n 0, 1) := by decide +kernel
theorem dd_M_copyTables_48 : decode cd_M_copyTables 48 = .ok (.getfield 16, 3) := by decide +kernel
theorem dd_M_copyTables_51 : decode cd_M_copyTables 51 = .ok (.iload_n 1, 1) := by decide +kernel
theorem dd_M_copyTables_52 : decode cd_M_copyTables 52 = .ok (.iload_n 3, 1) := by decide +kernel
theorem dd_M_copyTables_53 : decode cd_M_copyTables 53 = .ok (.iadd, 1) := by decide +kernel
theorem dd_M_copyTables_54 : decode cd_M_copyTables 54 = .ok (.iaload, 1) := by decide +kernel
theorem dd_M_copyTables_55 : decode cd_M_copyTables 55 = .ok (.iastore, 1) := by decide +kernel
theorem dd_M_copyTables_56 : decode cd_M_copyTables 56 = .ok (.iinc 3 1, 3) := by decide +kernel
theorem dd_M_copyTables_59 : decode cd_M_copyTables 59 = .ok (.goto (-57), 3) := by decide +kernel
theorem dd_M_copyTables_62 : decode cd_M_copyTables 62 = .ok (.iconst 0, 1) := by decide +kernel
theorem dd_M_copyTables_63 : decode cd_M_copyTables 63 = .ok (.istore_n 3, 1) := by decide +kernel
theorem dd_M_copyTables_64 : decode cd_M_copyTables 64 = .ok (.iload_n 3, 1) := by decide +kernel
theorem dd_M_copyTables_65 : decode cd_M_copyTables 65 = .ok (.bipush 48, 2) := by decide +kernel
theorem dd_M_copyTables_67 : decode cd_M_copyTables 67 = .ok (.if_icmp .ge 29, 3) := by decide +kernel
theorem dd_M_copyTables_70 : decode cd_M_copyTables 70 = .ok (.aload_n 0, 1) := by decide +kernel
theorem dd_M_copyTables_71 : decode cd_M_copyTables 71 = .ok (.getfield 19, 3) := by decide +kernel
theorem dd_M_copyTables_74 : decode cd_M_copyTables 74 = .ok (.iload_n 2, 1) := by decide +kernel
theorem dd_M_copyTables_75 : decode cd_M_copyTables 75 = .ok (.iconst 4, 1) := by decide +kernel
theorem dd_M_copyTables_76 : decode cd_M_copyTables 76 = .ok (.imul, 1) := by decide +kernel
theorem dd_M_copyTables_77 : decode cd_M_copyTables 77 = .ok (.iload_n 3, 1) := by decide +kernel
theorem dd_M_copyTables_78 : decode cd_M_copyTables 78 = .ok (.iadd, 1) := by decide +kernel
theorem dd_M_copyTables_79 : decode cd_M_copyTables 79 = .ok (.aload_n 0, 1) := by decide +kernel
theorem dd_M_copyTables_80 : decode cd_M_copyTables 80 = .ok (.getfield 19, 3) := by decide +kernel
theorem dd_M_copyTables_83 : decode cd_M_copyTables 83 = .ok (.iload_n 1, 1) := by decide +kernel
theorem dd_M_copyTables_84 : decode cd_M_copyTables 84 = .ok (.iconst 4, 1) := by decide +kernel
theorem dd_M_copyTables_85 : decode cd_M_copyTables 85 = .ok (.imul, 1) := by decide +kernel
theorem dd_M_copyTables_86 : decode cd_M_copyTables 86 = .ok (.iload_n 3, 1) := by decide +kernel
theorem dd_M_copyTables_87 : decode cd_M_copyTables 87 = .ok (.iadd, 1) := by decide +kernel
theorem dd_M_copyTables_88 : decode cd_M_copyTables 88 = .ok (.iaload, 1) := by decide +kernel
theorem dd_M_copyTables_89 : decode cd_M_copyTables 89 = .ok (.iastore, 1) := by decide +kernel
theorem dd_M_copyTables_90 : decode cd_M_copyTables 90 = .ok (.iinc 3 1, 3) := by decide +kernel
theorem dd_M_copyTables_93 : decode cd_M_copyTables 93 = .ok (.goto (-29), 3) := by decide +kernel
theorem dd_M_copyTables_96 : decode cd_M_copyTables 96 = .ok (.iconst 0, 1) := by decide +kernel
theorem dd_M_copyTables_97 : decode cd_M_copyTables 97 = .ok (.istore_n 3, 1) := by decide +kernel
theorem dd_M_copyTables_98 : decode cd_M_copyTables 98 = .ok (.iload_n 3, 1) := by decide +kernel
theorem dd_M_copyTables_99 : decode cd_M_copyTables 99 = .ok (.sipush 768, 3) := by decide +kernel
theorem dd_M_copyTables_102 : decode cd_M_copyTables 102 = .ok (.if_icmp .ge 31, 3) := by decide +kernel
theorem dd_M_copyTables_105 : decode cd_M_copyTables 105 = .ok (.aload_n 0, 1) := by decide +kernel
theorem dd_M_copyTables_106 : decode cd_M_copyTables 106 = .ok (.getfield 22, 3) := by decide +kernel
theorem dd_M_copyTables_109 : decode cd_M_copyTables 109 = .ok (.iload_n 2, 1) := by decide +kernel
theorem dd_M_copyTables_110 : decode cd_M_copyTables 110 = .ok (.bipush 64, 2) := by decide +kernel
theorem dd_M_copyTables_112 : decode cd_M_copyTables 112 = .ok (.imul, 1) := by decide +kernel
theorem dd_M_copyTables_113 : decode cd_M_copyTables 113 = .ok (.iload_n 3, 1) := by decide +kernel
theorem dd_M_copyTables_114 : decode cd_M_copyTables 114 = .ok (.iadd, 1) := by decide +kernel
theorem dd_M_copyTables_115 : decode cd_M_copyTables 115 = .ok (.aload_n 0, 1) := by decide +kernel
theorem dd_M_copyTables_116 : decode cd_M_copyTables 116 = .ok (.getfield 22, 3) := by decide +kernel
theorem dd_M_copyTables_119 : decode cd_M_copyTables 119 = .ok (.iload_n 1, 1) := by decide +kernel
theorem dd_M_copyTables_120 : decode cd_M_copyTables 120 = .ok (.bipush 64, 2) := by decide +kernel
theorem dd_M_copyTables_122 : decode cd_M_copyTables 122 = .ok (.imul, 1) := by decide +kernel
theorem dd_M_copyTables_123 : decode cd_M_copyTables 123 = .ok (.iload_n 3, 1) := by decide +kernel
theorem dd_M_copyTables_124 : decode cd_M_copyTables 124 = .ok (.iadd, 1) := by decide +kernel
theorem dd_M_copyTables_125 : decode cd_M_copyTables 125 = .ok (.iaload, 1) := by decide +kernel
theorem dd_M_copyTables_126 : decode cd_M_copyTables 126 = .ok (.iastore, 1) := by decide +kernel
theorem dd_M_copyTables_127 : decode cd_M_copyTables 127 = .ok (.iinc 3 1, 3) := by decide +kernel
theorem dd_M_copyTables_130 : decode cd_M_copyTables 130 = .ok (.goto (-32), 3) := by decide +kernel
theorem dd_M_copyTables_133 : decode cd_M_copyTables 133 = .ok (.return_, 1) := by decide +kernel
theorem dd_M_crash_0 : decode cd_M_crash 0 = .ok (.aload_n 0, 1) := by decide +kernel
theorem dd_M_crash_1 : decode cd_M_crash 1 = .ok (.iconst 0, 1) := by decide +kernel
theorem dd_M_crash_2 : decode cd_M_crash 2 = .ok (.putfield 37, 3) := by decide +kernel
theorem dd_M_crash_5 : decode cd_M_crash 5 = .ok (.aload_n 0, 1) := by decide +kernel
theorem dd_M_crash_6 : decode cd_M_crash 6 = .ok (.bipush 12, 2) := by decide +kernel
theorem dd_M_crash_8 : decode cd_M_crash 8 = .ok (.iconst 0, 1) := by decide +kernel
theorem dd_M_crash_9 : decode cd_M_crash 9 = .ok (.invokevirtual 139, 3) := by decide +kernel
theorem dd_M_crash_12 : decode cd_M_crash 12 = .ok (.iconst 0, 1) := by decide +kernel
theorem dd_M_crash_13 : decode cd_M_crash 13 = .ok (.istore_n 1, 1) := by decide +kernel
theorem dd_M_crash_14 : decode cd_M_crash 14 = .ok (.iload_n 1, 1) := by decide +kernel
theorem dd_M_crash_15 : decode cd_M_crash 15 = .ok (.bipush 6, 2) := by decide +kernel
theorem dd_M_crash_17 : decode cd_M_crash 17 = .ok (.if_icmp .ge 16, 3) := by decide +kernel
theorem dd_M_crash_20 : decode cd_M_crash 20 = .ok (.aload_n 0, 1) := by decide +kernel
theorem dd_M_crash_21 : decode cd_M_crash 21 = .ok (.getfield 25, 3) := by decide +kernel
theorem dd_M_crash_24 : decode cd_M_crash 24 = .ok (.iload_n 1, 1) := by decide +kernel
theorem dd_M_crash_25 : decode cd_M_crash 25 = .ok (.iconst 0, 1) := by decide +kernel
theorem dd_M_crash_26 : decode cd_M_crash 26 = .ok (.iastore, 1) := by decide +kernel
theorem dd_M_crash_27 : decode cd_M_crash 27 = .ok (.iinc 1 1, 3) := by decide +kernel
theorem dd_M_crash_30 : decode cd_M_crash 30 = .ok (.goto (-16), 3) := by decide +kernel
theorem dd_M_crash_33 : decode cd_M_crash 33 = .ok (.aload_n 0, 1) := by decide +kernel
theorem dd_M_crash_34 : decode cd_M_crash 34 = .ok (.dup, 1) := by decide +kernel
theorem dd_M_crash_35 : decode cd_M_crash 35 = .ok (.getfield 145, 3) := by decide +kernel
theorem dd_M_crash_38 : decode cd_M_crash 38 = .ok (.iconst 1, 1) := by decide +kernel
theorem dd_M_crash_39 : decode cd_M_crash 39 = .ok (.iadd, 1) := by decide +kernel
theorem dd_M_crash_40 : decode cd_M_crash 40 = .ok (.putfield 145, 3) := by decide +kernel
theorem dd_M_crash_43 : decode cd_M_crash 43 = .ok (.return_, 1) := by decide +kernel
theorem dd_M_cutPower_0 : decode cd_M_cutPower 0 = .ok (.aload_n 0, 1) := by decide +kernel
theorem dd_M_cutPower_1 : decode cd_M_cutPower 1 = .ok (.iload_n 1, 1) := by decide +kernel
theorem dd_M_cutPower_2 : decode cd_M_cutPower 2 = .ok (.ifCond .lt 9, 3) := by decide +kernel
theorem dd_M_cutPower_5 : decode cd_M_cutPower 5 = .ok (.iload_n 1, 1) := by decide +kernel
theorem dd_M_cutPower_6 : decode cd_M_cutPower 6 = .ok (.bipush 100, 2) := by decide +kernel
theorem dd_M_cutPower_8 : decode cd_M_cutPower 8 = .ok (.if_icmp .le 7, 3) := by decide +kernel
theorem dd_M_cutPower_11 : decode cd_M_cutPower 11 = .ok (.iconst 1, 1) := by decide +kernel
theorem dd_M_cutPower_12 : decode cd_M_cutPower 12 = .ok (.goto 4, 3) := by decide +kernel
theorem dd_M_cutPower_15 : decode cd_M_cutPower 15 = .ok (.iconst 0, 1) := by decide +kernel
theorem dd_M_cutPower_16 : decode cd_M_cutPower 16 = .ok (.putfield 37, 3) := by decide +kernel
theorem dd_M_cutPower_19 : decode cd_M_cutPower 19 = .ok (.aload_n 0, 1) := by decide +kernel
theorem dd_M_cutPower_20 : decode cd_M_cutPower 20 = .ok (.getfield 37, 3) := by decide +kernel
theorem dd_M_cutPower_23 : decode cd_M_cutPower 23 = .ok (.ifCond .ne 8, 3) := by decide +kernel
theorem dd_M_cutPower_26 : decode cd_M_cutPower 26 = .ok (.aload_n 0, 1) := by decide +kernel
theorem dd_M_cutPower_27 : decode cd_M_cutPower 27 = .ok (.iload_n 1, 1) := by decide +kernel
theorem dd_M_cutPower_28 : decode cd_M_cutPower 28 = .ok (.putfield 133, 3) := by decide +kernel
theorem dd_M_cutPower_31 : decode cd_M_cutPower 31 = .ok (.return_, 1) := by decide +kernel
theorem dd_M_block_0 : decode cd_M_block 0 = .ok (.aload_n 0, 1) := by decide +kernel
theorem dd_M_block_1 : decode cd_M_block 1 = .ok (.iload_n 1, 1) := by decide +kernel
theorem dd_M_block_2 : decode cd_M_block 2 = .ok (.ifCond .lt 19, 3) := by decide +kernel
theorem dd_M_block_5 : decode cd_M_block 5 = .ok (.iload_n 1, 1) := by decide +kernel
theorem dd_M_block_6 : decode cd_M_block 6 = .ok (.bipush 39, 2) := by decide +kernel
theorem dd_M_block_8 : decode cd_M_block 8 = .ok (.if_icmp .gt 13, 3) := by decide +kernel
theorem dd_M_block_11 : decode cd_M_block 11 = .ok (.iload_n 2, 1) := by decide +kernel
theorem dd_M_block_12 : decode cd_M_block 12 = .ok (.ifCond .lt 9, 3) := by decide +kernel
theorem dd_M_block_15 : decode cd_M_block 15 = .ok (.iload_n 2, 1) := by decide +kernel
theorem dd_M_block_16 : decode cd_M_block 16 = .ok (.bipush 15, 2) := by decide +kernel
theorem dd_M_block_18 : decode cd_M_block 18 = .ok (.if_icmp .le 7, 3) := by decide +kernel
theorem dd_M_block_21 : decode cd_M_block 21 = .ok (.iconst 1, 1) := by decide +kernel
theorem dd_M_block_22 : decode cd_M_block 22 = .ok (.goto 4, 3) := by decide +kernel
theorem dd_M_block_25 : decode cd_M_block 25 = .ok (.iconst 0, 1) := by decide +kernel
theorem dd_M_block_26 : decode cd_M_block 26 = .ok (.putfield 37, 3) := by decide +kernel
theorem dd_M_block_29 : decode cd_M_block 29 = .ok (.aload_n 0, 1) := by decide +kernel
theorem dd_M_block_30 : decode cd_M_block 30 = .ok (.getfield 37, 3) := by decide +kernel
theorem dd_M_block_33 : decode cd_M_block 33 = .ok (.ifCond .ne 22, 3) := by decide +kernel
theorem dd_M_block_36 : decode cd_M_block 36 = .ok (.aload_n 0, 1) := by decide +kernel
theorem dd_M_block_37 : decode cd_M_block 37 = .ok (.iload_n 3, 1) := by decide +kernel
theorem dd_M_block_38 : decode cd_M_block 38 = .ok (.ifCond .eq 8, 3) := by decide +kernel
theorem dd_M_block_41 : decode cd_M_block 41 = .ok (.bipush 12, 2) := by decide +kernel
theorem dd_M_block_43 : decode cd_M_block 43 = .ok (.goto 4, 3) := by decide +kernel
theorem dd_M_block_46 : decode cd_M_block 46 = .ok (.iconst 0, 1) := by decide +kernel
theorem dd_M_block_47 : decode cd_M_block 47 = .ok (.iload_n 1, 1) := by decide +kernel
theorem dd_M_block_48 : decode cd_M_block 48 = .ok (.iload_n 2, 1) := by decide +kernel
theorem dd_M_block_49 : decode cd_M_block 49 = .ok (.invokevirtual 127, 3) := by decide +kernel
theorem dd_M_block_52 : decode cd_M_block 52 = .ok (.goto 4, 3) := by decide +kernel
theorem dd_M_block_55 : decode cd_M_block 55 = .ok (.iconst 0, 1) := by decide +kernel
theorem dd_M_block_56 : decode cd_M_block 56 = .ok (.ireturn, 1) := by decide +kernel
theorem dd_M_count_0 : decode cd_M_count 0 = .ok (.aload_n 0, 1) := by decide +kernel
theorem dd_M_count_1 : decode cd_M_count 1 = .ok (.iconst 0, 1) := by decide +kernel
theorem dd_M_count_2 : decode cd_M_count 2 = .ok (.putfield 37, 3) := by decide +kernel
theorem dd_M_count_5 : decode cd_M_count 5 = .ok (.iload_n 1, 1) := by decide +kernel
theorem dd_M_count_6 : decode cd_M_count 6 = .ok (.ifCond .ne 8, 3) := by decide +kernel
theorem dd_M_count_9 : decode cd_M_count 9 = .ok (.aload_n 0, 1) := by decide +kernel
theorem dd_M_count_10 : decode cd_M_count 10 = .ok (.invokevirtual 49, 3) := by decide +kernel
theorem dd_M_count_13 : decode cd_M_count 13 = .ok (.ireturn, 1) := by decide +kernel
theorem dd_M_count_14 : decode cd_M_count 14 = .ok (.iload_n 1, 1) := by decide +kernel
theorem dd_M_count_15 : decode cd_M_count 15 = .ok (.iconst 3, 1) := by decide +kernel
theorem dd_M_count_16 : decode cd_M_count 16 = .ok (.if_icmp .ne 8, 3) := by decide +kernel
theorem dd_M_count_19 : decode cd_M_count 19 = .ok (.aload_n 0, 1) := by decide +kernel
theorem dd_M_count_20 : decode cd_M_count 20 = .ok (.invokevirtual 130, 3) := by decide +kernel
theorem dd_M_count_23 : decode cd_M_count 23 = .ok (.ireturn, 1) := by decide +kernel
theorem dd_M_count_24 : decode cd_M_count 24 = .ok (.iload_n 1, 1) := by decide +kernel
theorem dd_M_count_25 : decode cd_M_count 25 = .ok (.iconst 4, 1) := by decide +kernel
theorem dd_M_count_26 : decode cd_M_count 26 = .ok (.if_icmp .ne 8, 3) := by decide +kernel
theorem dd_M_count_29 : decode cd_M_count 29 = .ok (.aload_n 0, 1) := by decide +kernel
theorem dd_M_count_30 : decode cd_M_count 30 = .ok (.getfield 136, 3) := by decide +kernel
theorem dd_M_count_33 : decode cd_M_count 33 = .ok (.ireturn, 1) := by decide +kernel
theorem dd_M_count_34 : decode cd_M_count 34 = .ok (.iload_n 1, 1) := by decide +kernel
theorem dd_M_count_35 : decode cd_M_count 35 = .ok (.iconst 5, 1) := by decide +kernel
theorem dd_M_count_36 : decode cd_M_count 36 = .ok (.if_icmp .ne 8, 3) := by decide +kernel
theorem dd_M_count_39 : decode cd_M_count 39 = .ok (.aload_n 0, 1) := by decide +kernel
theorem dd_M_count_40 : decode cd_M_count 40 = .ok (.getfield 145, 3) := by decide +kernel
theorem dd_M_count_43 : decode cd_M_count 43 = .ok (.ireturn, 1) := by decide +kernel
theorem dd_M_count_44 : decode cd_M_count 44 = .ok (.iload_n 1, 1) := by decide +kernel
theorem dd_M_count_45 : decode cd_M_count 45 = .ok (.iconst 1, 1) := by decide +kernel
theorem dd_M_count_46 : decode cd_M_count 46 = .ok (.if_icmp .eq 16, 3) := by decide +kernel
theorem dd_M_count_49 : decode cd_M_count 49 = .ok (.iload_n 1, 1) := by decide +kernel
theorem dd_M_count_50 : decode cd_M_count 50 = .ok (.iconst 2, 1) := by decide +kernel
theorem dd_M_count_51 : decode cd_M_count 51 = .ok (.if_icmp .eq 11, 3) := by decide +kernel
theorem dd_M_count_54 : decode cd_M_count 54 = .ok (.iload_n 1, 1) := by decide +kernel
theorem dd_M_count_55 : decode cd_M_count 55 = .ok (.bipush 6, 2) := by decide +kernel
theorem dd_M_count_57 : decode cd_M_count 57 = .ok (.if_icmp .eq 5, 3) := by decide +kernel
theorem dd_M_count_60 : decode cd_M_count 60 = .ok (.iconst (-1), 1) := by decide +kernel
theorem dd_M_count_61 : decode cd_M_count 61 = .ok (.ireturn, 1) := by decide +kernel
theorem dd_M_count_62 : decode cd_M_count 62 = .ok (.iconst 0, 1) := by decide +kernel
theorem dd_M_count_63 : decode cd_M_count 63 = .ok (.istore_n 2, 1) := by decide +kernel
theorem dd_M_count_64 : decode cd_M_count 64 = .ok (.iconst 0, 1) := by decide +kernel
theorem dd_M_count_65 : decode cd_M_count 65 = .ok (.istore_n 3, 1) := by decide +kernel
theorem dd_M_count_66 : decode cd_M_count 66 = .ok (.iload_n 3, 1) := by decide +kernel
theorem dd_M_count_67 : decode cd_M_count 67 = .ok (.bipush 12, 2) := by decide +kernel
theorem dd_M_count_69 : decode cd_M_count 69 = .ok (.if_icmp .ge 26, 3) := by decide +kernel
theorem dd_M_count_72 : decode cd_M_count 72 = .ok (.iload_n 1, 1) := by decide +kernel
theorem dd_M_count_73 : decode cd_M_count 73 = .ok (.iconst 1, 1) := by decide +kernel
theorem dd_M_count_74 : decode cd_M_count 74 = .ok (.if_icmp .ne 21, 3) := by decide +kernel
theorem dd_M_count_77 : decode cd_M_count 77 = .ok (.aload_n 0, 1) := by decide +kernel
theorem dd_M_count_78 : decode cd_M_count 78 = .ok (.getfield 7, 3) := by decide +kernel
theorem dd_M_count_81 : decode cd_M_count 81 = .ok (.iload_n 3, 1) := by decide +kernel
theorem dd_M_count_82 : decode cd_M_count 82 = .ok (.iaload, 1) := by decide +kernel
theorem dd_M_count_83 : decode cd_M_count 83 = .ok (.ifCond .ne 6, 3) := by decide +kernel
theorem dd_M_count_86 : decode cd_M_count 86 = .ok (.iinc 2 1, 3) := by decide +kernel
theorem dd_M_count_89 : decode cd_M_count 89 = .ok (.iinc 3 1, 3) := by decide +kernel
theorem dd_M_count_92 : decode cd_M_count 92 = .ok (.goto (-26), 3) := by decide +kernel
theorem dd_M_count_95 : decode cd_M_count 95 = .ok (.iconst 0, 1) := by decide +kernel
theorem dd_M_count_96 : decode cd_M_count 96 = .ok (.istore_n 3, 1) := by decide +kernel
theorem dd_M_count_97 : decode cd_M_count 97 = .ok (.iload_n 3, 1) := by decide +kernel
theorem dd_M_count_98 : decode cd_M_count 98 = .ok (.bipush 6, 2) := by decide +kernel
theorem dd_M_count_100 : decode cd_M_count 100 = .ok (.if_icmp .ge 39, 3) := by decide +kernel
theorem dd_M_count_103 : decode cd_M_count 103 = .ok (.iload_n 1, 1) := by decide +kernel
theorem dd_M_count_104 : decode cd_M_count 104 = .ok (.iconst 1, 1) := by decide +kernel
theorem dd_M_count_105 : decode cd_M_count 105 = .ok (.if_icmp .eq 34, 3) := by decide +kernel
theorem dd_M_count_108 : decode cd_M_count 108 = .ok (.aload_n 0, 1) := by decide +kernel
theorem dd_M_count_109 : decode cd_M_count 109 = .ok (.getfield 25, 3) := by decide +kernel
theorem dd_M_count_112 : decode cd_M_count 112 = .ok (.iload_n 3, 1) := by decide +kernel
theorem dd_M_count_113 : decode cd_M_count 113 = .ok (.iaload, 1) := by decide +kernel
theorem dd_M_count_114 : decode cd_M_count 114 = .ok (.ifCond .eq 19, 3) := by decide +kernel
theorem dd_M_count_117 : decode cd_M_count 117 = .ok (.iload_n 1, 1) := by decide +kernel
theorem dd_M_count_118 : decode cd_M_count 118 = .ok (.iconst 2, 1) := by decide +kernel
theorem dd_M_count_119 : decode cd_M_count 119 = .ok (.if_icmp .eq 11, 3) := by decide +kernel
theorem dd_M_count_122 : decode cd_M_count 122 = .ok (.aload_n 0, 1) := by decide +kernel
theorem dd_M_count_123 : decode cd_M_count 123 = .ok (.iload_n 3, 1) := by decide +kernel
theorem dd_M_count_124 : decode cd_M_count 124 = .ok (.invokevirtual 99, 3) := by decide +kernel
theorem dd_M_count_127 : decode cd_M_count 127 = .ok (.ifCond .eq 6, 3) := by decide +kernel
theorem dd_M_count_130 : decode cd_M_count 130 = .ok (.iinc 2 1, 3) := by decide +kernel
theorem dd_M_count_133 : decode cd_M_count 133 = .ok (.iinc 3 1, 3) := by decide +kernel
theorem dd_M_count_136 : decode cd_M_count 136 = .ok (.goto (-39), 3) := by decide +kernel
theorem dd_M_count_139 : decode cd_M_count 139 = .ok (.iload_n 2, 1) := by decide +kernel
theorem dd_M_count_140 : decode cd_M_count 140 = .ok (.ireturn, 1) := by decide +kernel
end
section
theorem dd_J_init_0 : decode cd_J_init 0 = .ok (.aload_n 0, 1) := by decide +kernel
theorem dd_J_init_1 : decode cd_J_init 1 = .ok (.invokespecial 3, 3) := by decide +kernel
theorem dd_J_init_4 : decode cd_J_init 4 = .ok (.aload_n 0, 1) := by decide +kernel
theorem dd_J_init_5 : decode cd_J_init 5 = .ok (.new 9, 3) := by decide +kernel
theorem dd_J_init_8 : decode cd_J_init 8 = .ok (.dup, 1) := by decide +kernel
theorem dd_J_init_9 : decode cd_J_init 9 = .ok (.invokespecial 11, 3) := by decide +kernel
theorem dd_J_init_12 : decode cd_J_init 12 = .ok (.putfield 12, 3) := by decide +kernel
theorem dd_J_init_15 : decode cd_J_init 15 = .ok (.aload_n 0, 1) := by decide +kernel
theorem dd_J_init_16 : decode cd_J_init 16 = .ok (.new 16, 3) := by decide +kernel
theorem dd_J_init_19 : decode cd_J_init 19 = .ok (.dup, 1) := by decide +kernel
theorem dd_J_init_20 : decode cd_J_init 20 = .ok (.aload_n 0, 1) := by decide +kernel
theorem dd_J_init_21 : decode cd_J_init 21 = .ok (.getfield 12, 3) := by decide +kernel
theorem dd_J_init_24 : decode cd_J_init 24 = .ok (.invokespecial 18, 3) := by decide +kernel
theorem dd_J_init_27 : decode cd_J_init 27 = .ok (.putfield 21, 3) := by decide +kernel
theorem dd_J_init_30 : decode cd_J_init 30 = .ok (.aload_n 0, 1) := by decide +kernel
theorem dd_J_init_31 : decode cd_J_init 31 = .ok (.bipush 6, 2) := by decide +kernel
theorem dd_J_init_33 : decode cd_J_init 33 = .ok (.anewarray 25, 3) := by decide +kernel
theorem dd_J_init_36 : decode cd_J_init 36 = .ok (.putfield 27, 3) := by decide +kernel
theorem dd_J_init_39 : decode cd_J_init 39 = .ok (.iconst 0, 1) := by decide +kernel
theorem dd_J_init_40 : decode cd_J_init 40 = .ok (.istore_n 1, 1) := by decide +kernel
theorem dd_J_init_41 : decode cd_J_init 41 = .ok (.iload_n 1, 1) := by decide +kernel
theorem dd_J_init_42 : decode cd_J_init 42 = .ok (.bipush 6, 2) := by decide +kernel
theorem dd_J_init_44 : decode cd_J_init 44 = .ok (.if_icmp .ge 22, 3) := by decide +kernel
theorem dd_J_init_47 : decode cd_J_init 47 = .ok (.aload_n 0, 1) := by decide +kernel
theorem dd_J_init_48 : decode cd_J_init 48 = .ok (.getfield 27, 3) := by decide +kernel
theorem dd_J_init_51 : decode cd_J_init 51 = .ok (.iload_n 1, 1) := by decide +kernel
theorem dd_J_init_52 : decode cd_J_init 52 = .ok (.new 25, 3) := by decide +kernel
theorem dd_J_init_55 : decode cd_J_init 55 = .ok (.dup, 1) := by decide +kernel
theorem dd_J_init_56 : decode cd_J_init 56 = .ok (.invokespecial 31, 3) := by decide +kernel
theorem dd_J_init_59 : decode cd_J_init 59 = .ok (.aastore, 1) := by decide +kernel
theorem dd_J_init_60 : decode cd_J_init 60 = .ok (.iinc 1 1, 3) := by decide +kernel
theorem dd_J_init_63 : decode cd_J_init 63 = .ok (.goto (-22), 3) := by decide +kernel
theorem dd_J_init_66 : decode cd_J_init 66 = .ok (.aload_n 0, 1) := by decide +kernel
theorem dd_J_init_67 : decode cd_J_init 67 = .ok (.getfield 21, 3) := by decide +kernel
theorem dd_J_init_70 : decode cd_J_init 70 = .ok (.iconst 0, 1) := by decide +kernel
theorem dd_J_init_71 : decode cd_J_init 71 = .ok (.iconst 2, 1) := by decide +kernel
theorem dd_J_init_72 : decode cd_J_init 72 = .ok (.invokevirtual 32, 3) := by decide +kernel
theorem dd_J_init_75 : decode cd_J_init 75 = .ok (.aload_n 0, 1) := by decide +kernel
theorem dd_J_init_76 : decode cd_J_init 76 = .ok (.getfield 12, 3) := by decide +kernel
theorem dd_J_init_79 : decode cd_J_init 79 = .ok (.invokevirtual 36, 3) := by decide +kernel
theorem dd_J_init_82 : decode cd_J_init 82 = .ok (.return_, 1) := by decide +kernel
theorem dd_J_crash_0 : decode cd_J_crash 0 = .ok (.aload_n 0, 1) := by decide +kernel
theorem dd_J_crash_1 : decode cd_J_crash 1 = .ok (.invokevirtual 203, 3) := by decide +kernel
theorem dd_J_crash_4 : decode cd_J_crash 4 = .ok (.return_, 1) := by decide +kernel
theorem dd_J_losePower_0 : decode cd_J_losePower 0 = .ok (.aload_n 0, 1) := by decide +kernel
theorem dd_J_losePower_1 : decode cd_J_losePower 1 = .ok (.getfield 12, 3) := by decide +kernel
theorem dd_J_losePower_4 : decode cd_J_losePower 4 = .ok (.invokevirtual 279, 3) := by decide +kernel
theorem dd_J_losePower_7 : decode cd_J_losePower 7 = .ok (.iconst 0, 1) := by decide +kernel
theorem dd_J_losePower_8 : decode cd_J_losePower 8 = .ok (.istore_n 1, 1) := by decide +kernel
theorem dd_J_losePower_9 : decode cd_J_losePower 9 = .ok (.iload_n 1, 1) := by decide +kernel
theorem dd_J_losePower_10 : decode cd_J_losePower 10 = .ok (.bipush 6, 2) := by decide +kernel
theorem dd_J_losePower_12 : decode cd_J_losePower 12 = .ok (.if_icmp .ge 19, 3) := by decide +kernel
theorem dd_J_losePower_15 : decode cd_J_losePower 15 = .ok (.aload_n 0, 1) := by decide +kernel
theorem dd_J_losePower_16 : decode cd_J_losePower 16 = .ok (.getfield 27, 3) := by decide +kernel
theorem dd_J_losePower_19 : decode cd_J_losePower 19 = .ok (.iload_n 1, 1) := by decide +kernel
theorem dd_J_losePower_20 : decode cd_J_losePower 20 = .ok (.aaload, 1) := by decide +kernel
theorem dd_J_losePower_21 : decode cd_J_losePower 21 = .ok (.iconst 0, 1) := by decide +kernel
theorem dd_J_losePower_22 : decode cd_J_losePower 22 = .ok (.putfield 99, 3) := by decide +kernel
theorem dd_J_losePower_25 : decode cd_J_losePower 25 = .ok (.iinc 1 1, 3) := by decide +kernel
theorem dd_J_losePower_28 : decode cd_J_losePower 28 = .ok (.goto (-19), 3) := by decide +kernel
theorem dd_J_losePower_31 : decode cd_J_losePower 31 = .ok (.aload_n 0, 1) := by decide +kernel
theorem dd_J_losePower_32 : decode cd_J_losePower 32 = .ok (.dup, 1) := by decide +kernel
theorem dd_J_losePower_33 : decode cd_J_losePower 33 = .ok (.getfield 223, 3) := by decide +kernel
theorem dd_J_losePower_36 : decode cd_J_losePower 36 = .ok (.iconst 1, 1) := by decide +kernel
theorem dd_J_losePower_37 : decode cd_J_losePower 37 = .ok (.iadd, 1) := by decide +kernel
theorem dd_J_losePower_38 : decode cd_J_losePower 38 = .ok (.putfield 223, 3) := by decide +kernel
theorem dd_J_losePower_41 : decode cd_J_losePower 41 = .ok (.return_, 1) := by decide +kernel
theorem dd_J_count_0 : decode cd_J_count 0 = .ok (.iload_n 1, 1) := by decide +kernel
theorem dd_J_count_1 : decode cd_J_count 1 = .ok (.tableswitch 87 0 6 #[43, 51, 59, 64, 72, 77, 82], 43) := by decide +kernel
theorem dd_J_count_44 : decode cd_J_count 44 = .ok (.aload_n 0, 1) := by decide +kernel
theorem dd_J_count_45 : decode cd_J_count 45 = .ok (.getfield 12, 3) := by decide +kernel
theorem dd_J_count_48 : decode cd_J_count 48 = .ok (.invokevirtual 214, 3) := by decide +kernel
theorem dd_J_count_51 : decode cd_J_count 51 = .ok (.ireturn, 1) := by decide +kernel
theorem dd_J_count_52 : decode cd_J_count 52 = .ok (.aload_n 0, 1) := by decide +kernel
theorem dd_J_count_53 : decode cd_J_count 53 = .ok (.getfield 21, 3) := by decide +kernel
theorem dd_J_count_56 : decode cd_J_count 56 = .ok (.invokevirtual 217, 3) := by decide +kernel
theorem dd_J_count_59 : decode cd_J_count 59 = .ok (.ireturn, 1) := by decide +kernel
theorem dd_J_count_60 : decode cd_J_count 60 = .ok (.aload_n 0, 1) := by decide +kernel
theorem dd_J_count_61 : decode cd_J_count 61 = .ok (.invokevirtual 220, 3) := by decide +kernel
theorem dd_J_count_64 : decode cd_J_count 64 = .ok (.ireturn, 1) := by decide +kernel
theorem dd_J_count_65 : decode cd_J_count 65 = .ok (.aload_n 0, 1) := by decide +kernel
theorem dd_J_count_66 : decode cd_J_count 66 = .ok (.getfield 12, 3) := by decide +kernel
theorem dd_J_count_69 : decode cd_J_count 69 = .ok (.invokevirtual 194, 3) := by decide +kernel
theorem dd_J_count_72 : decode cd_J_count 72 = .ok (.ireturn, 1) := by decide +kernel
theorem dd_J_count_73 : decode cd_J_count 73 = .ok (.aload_n 0, 1) := by decide +kernel
theorem dd_J_count_74 : decode cd_J_count 74 = .ok (.getfield 200, 3) := by decide +kernel
theorem dd_J_count_77 : decode cd_J_count 77 = .ok (.ireturn, 1) := by decide +kernel
theorem dd_J_count_78 : decode cd_J_count 78 = .ok (.aload_n 0, 1) := by decide +kernel
theorem dd_J_count_79 : decode cd_J_count 79 = .ok (.getfield 223, 3) := by decide +kernel
theorem dd_J_count_82 : decode cd_J_count 82 = .ok (.ireturn, 1) := by decide +kernel
theorem dd_J_count_83 : decode cd_J_count 83 = .ok (.aload_n 0, 1) := by decide +kernel
theorem dd_J_count_84 : decode cd_J_count 84 = .ok (.invokevirtual 226, 3) := by decide +kernel
theorem dd_J_count_87 : decode cd_J_count 87 = .ok (.ireturn, 1) := by decide +kernel
theorem dd_J_count_88 : decode cd_J_count 88 = .ok (.iconst (-1), 1) := by decide +kernel
theorem dd_J_count_89 : decode cd_J_count 89 = .ok (.ireturn, 1) := by decide +kernel
theorem dd_J_openHandles_0 : decode cd_J_openHandles 0 = .ok (.iconst 0, 1) := by decide +kernel
theorem dd_J_openHandles_1 : decode cd_J_openHandles 1 = .ok (.istore_n 1, 1) := by decide +kernel
theorem dd_J_openHandles_2 : decode cd_J_openHandles 2 = .ok (.iconst 0, 1) := by decide +kernel
theorem dd_J_openHandles_3 : decode cd_J_openHandles 3 = .ok (.istore_n 2, 1) := by decide +kernel
theorem dd_J_openHandles_4 : decode cd_J_openHandles 4 = .ok (.iload_n 2, 1) := by decide +kernel
theorem dd_J_openHandles_5 : decode cd_J_openHandles 5 = .ok (.bipush 6, 2) := by decide +kernel
theorem dd_J_openHandles_7 : decode cd_J_openHandles 7 = .ok (.if_icmp .ge 24, 3) := by decide +kernel
theorem dd_J_openHandles_10 : decode cd_J_openHandles 10 = .ok (.aload_n 0, 1) := by decide +kernel
theorem dd_J_openHandles_11 : decode cd_J_openHandles 11 = .ok (.getfield 27, 3) := by decide +kernel
theorem dd_J_openHandles_14 : decode cd_J_openHandles 14 = .ok (.iload_n 2, 1) := by decide +kernel
theorem dd_J_openHandles_15 : decode cd_J_openHandles 15 = .ok (.aaload, 1) := by decide +kernel
theorem dd_J_openHandles_16 : decode cd_J_openHandles 16 = .ok (.getfield 99, 3) := by decide +kernel
theorem dd_J_openHandles_19 : decode cd_J_openHandles 19 = .ok (.ifCond .eq 6, 3) := by decide +kernel
theorem dd_J_openHandles_22 : decode cd_J_openHandles 22 = .ok (.iinc 1 1, 3) := by decide +kernel
theorem dd_J_openHandles_25 : decode cd_J_openHandles 25 = .ok (.iinc 2 1, 3) := by decide +kernel
theorem dd_J_openHandles_28 : decode cd_J_openHandles 28 = .ok (.goto (-24), 3) := by decide +kernel
theorem dd_J_openHandles_31 : decode cd_J_openHandles 31 = .ok (.iload_n 1, 1) := by decide +kernel
theorem dd_J_openHandles_32 : decode cd_J_openHandles 32 = .ok (.ireturn, 1) := by decide +kernel
theorem dd_J_staleHandles_0 : decode cd_J_staleHandles 0 = .ok (.iconst 0, 1) := by decide +kernel
theorem dd_J_staleHandles_1 : decode cd_J_staleHandles 1 = .ok (.istore_n 1, 1) := by decide +kernel
theorem dd_J_staleHandles_2 : decode cd_J_staleHandles 2 = .ok (.iconst 0, 1) := by decide +kernel
theorem dd_J_staleHandles_3 : decode cd_J_staleHandles 3 = .ok (.istore_n 2, 1) := by decide +kernel
theorem dd_J_staleHandles_4 : decode cd_J_staleHandles 4 = .ok (.iload_n 2, 1) := by decide +kernel
theorem dd_J_staleHandles_5 : decode cd_J_staleHandles 5 = .ok (.bipush 6, 2) := by decide +kernel
theorem dd_J_staleHandles_7 : decode cd_J_staleHandles 7 = .ok (.if_icmp .ge 37, 3) := by decide +kernel
theorem dd_J_staleHandles_10 : decode cd_J_staleHandles 10 = .ok (.aload_n 0, 1) := by decide +kernel
theorem dd_J_staleHandles_11 : decode cd_J_staleHandles 11 = .ok (.getfield 27, 3) := by decide +kernel
theorem dd_J_staleHandles_14 : decode cd_J_staleHandles 14 = .ok (.iload_n 2, 1) := by decide +kernel
theorem dd_J_staleHandles_15 : decode cd_J_staleHandles 15 = .ok (.aaload, 1) := by decide +kernel
theorem dd_J_staleHandles_16 : decode cd_J_staleHandles 16 = .ok (.getfield 99, 3) := by decide +kernel
theorem dd_J_staleHandles_19 : decode cd_J_staleHandles 19 = .ok (.ifCond .eq 19, 3) := by decide +kernel
theorem dd_J_staleHandles_22 : decode cd_J_staleHandles 22 = .ok (.aload_n 0, 1) := by decide +kernel
theorem dd_J_staleHandles_23 : decode cd_J_staleHandles 23 = .ok (.aload_n 0, 1) := by decide +kernel
theorem dd_J_staleHandles_24 : decode cd_J_staleHandles 24 = .ok (.getfield 27, 3) := by decide +kernel
theorem dd_J_staleHandles_27 : decode cd_J_staleHandles 27 = .ok (.iload_n 2, 1) := by decide +kernel
theorem dd_J_staleHandles_28 : decode cd_J_staleHandles 28 = .ok (.aaload, 1) := by decide +kernel
theorem dd_J_staleHandles_29 : decode cd_J_staleHandles 29 = .ok (.invokevirtual 273, 3) := by decide +kernel
theorem dd_J_staleHandles_32 : decode cd_J_staleHandles 32 = .ok (.ifCond .eq 6, 3) := by decide +kernel
theorem dd_J_staleHandles_35 : decode cd_J_staleHandles 35 = .ok (.iinc 1 1, 3) := by decide +kernel
theorem dd_J_staleHandles_38 : decode cd_J_staleHandles 38 = .ok (.iinc 2 1, 3) := by decide +kernel
theorem dd_J_staleHandles_41 : decode cd_J_staleHandles 41 = .ok (.goto (-37), 3) := by decide +kernel
theorem dd_J_staleHandles_44 : decode cd_J_staleHandles 44 = .ok (.iload_n 1, 1) := by decide +kernel
theorem dd_J_staleHandles_45 : decode cd_J_staleHandles 45 = .ok (.ireturn, 1) := by decide +kernel
theorem dd_J_isStale_0 : decode cd_J_isStale 0 = .ok (.aload_n 0, 1) := by decide +kernel
theorem dd_J_isStale_1 : decode cd_J_isStale 1 = .ok (.getfield 21, 3) := by decide +kernel
theorem dd_J_isStale_4 : decode cd_J_isStale 4 = .ok (.aload_n 1, 1) := by decide +kernel
theorem dd_J_isStale_5 : decode cd_J_isStale 5 = .ok (.getfield 118, 3) := by decide +kernel
theorem dd_J_isStale_8 : decode cd_J_isStale 8 = .ok (.invokevirtual 85, 3) := by decide +kernel
theorem dd_J_isStale_11 : decode cd_J_isStale 11 = .ok (.aload_n 1, 1) := by decide +kernel
theorem dd_J_isStale_12 : decode cd_J_isStale 12 = .ok (.getfield 109, 3) := by decide +kernel
theorem dd_J_isStale_15 : decode cd_J_isStale 15 = .ok (.invokestatic 88, 3) := by decide +kernel
theorem dd_J_isStale_18 : decode cd_J_isStale 18 = .ok (.if_icmp .ne 21, 3) := by decide +kernel
theorem dd_J_isStale_21 : decode cd_J_isStale 21 = .ok (.aload_n 0, 1) := by decide +kernel
theorem dd_J_isStale_22 : decode cd_J_isStale 22 = .ok (.getfield 21, 3) := by decide +kernel
theorem dd_J_isStale_25 : decode cd_J_isStale 25 = .ok (.aload_n 1, 1) := by decide +kernel
theorem dd_J_isStale_26 : decode cd_J_isStale 26 = .ok (.getfield 118, 3) := by decide +kernel
theorem dd_J_isStale_29 : decode cd_J_isStale 29 = .ok (.invokevirtual 191, 3) := by decide +kernel
theorem dd_J_isStale_32 : decode cd_J_isStale 32 = .ok (.aload_n 1, 1) := by decide +kernel
theorem dd_J_isStale_33 : decode cd_J_isStale 33 = .ok (.getfield 271, 3) := by decide +kernel
theorem dd_J_isStale_36 : decode cd_J_isStale 36 = .ok (.if_icmp .eq 7, 3) := by decide +kernel
theorem dd_J_isStale_39 : decode cd_J_isStale 39 = .ok (.iconst 1, 1) := by decide +kernel
theorem dd_J_isStale_40 : decode cd_J_isStale 40 = .ok (.goto 4, 3) := by decide +kernel
theorem dd_J_isStale_43 : decode cd_J_isStale 43 = .ok (.iconst 0, 1) := by decide +kernel
theorem dd_J_isStale_44 : decode cd_J_isStale 44 = .ok (.ireturn, 1) := by decide +kernel
theorem dd_J_kindFor_0 : decode cd_J_kindFor 0 = .ok (.iload_n 0, 1) := by decide +kernel
theorem dd_J_kindFor_1 : decode cd_J_kindFor 1 = .ok (.iconst 4, 1) := by decide +kernel
theorem dd_J_kindFor_2 : decode cd_J_kindFor 2 = .ok (.if_icmp .ne 7, 3) := by decide +kernel
theorem dd_J_kindFor_5 : decode cd_J_kindFor 5 = .ok (.iconst 2, 1) := by decide +kernel
theorem dd_J_kindFor_6 : decode cd_J_kindFor 6 = .ok (.goto 4, 3) := by decide +kernel
theorem dd_J_kindFor_9 : decode cd_J_kindFor 9 = .ok (.iconst 1, 1) := by decide +kernel
theorem dd_J_kindFor_10 : decode cd_J_kindFor 10 = .ok (.ireturn, 1) := by decide +kernel
theorem dd_J_directory_0 : decode cd_J_directory 0 = .ok (.iload_n 1, 1) := by decide +kernel
theorem dd_J_directory_1 : decode cd_J_directory 1 = .ok (.invokestatic 39, 3) := by decide +kernel
theorem dd_J_directory_4 : decode cd_J_directory 4 = .ok (.aload_n 0, 1) := by decide +kernel
theorem dd_J_directory_5 : decode cd_J_directory 5 = .ok (.iload_n 1, 1) := by decide +kernel
theorem dd_J_directory_6 : decode cd_J_directory 6 = .ok (.invokevirtual 43, 3) := by decide +kernel
theorem dd_J_directory_9 : decode cd_J_directory 9 = .ok (.iconst (-1), 1) := by decide +kernel
theorem dd_J_directory_10 : decode cd_J_directory 10 = .ok (.if_icmp .eq 13, 3) := by decide +kernel
theorem dd_J_directory_13 : decode cd_J_directory 13 = .ok (.new 47, 3) := by decide +kernel
theorem dd_J_directory_16 : decode cd_J_directory 16 = .ok (.dup, 1) := by decide +kernel
theorem dd_J_directory_17 : decode cd_J_directory 17 = .ok (.ldc 49, 2) := by decide +kernel
theorem dd_J_directory_19 : decode cd_J_directory 19 = .ok (.invokespecial 51, 3) := by decide +kernel
theorem dd_J_directory_22 : decode cd_J_directory 22 = .ok (.athrow, 1) := by decide +kernel
theorem dd_J_directory_23 : decode cd_J_directory 23 = .ok (.aload_n 0, 1) := by decide +kernel
theorem dd_J_directory_24 : decode cd_J_directory 24 = .ok (.iload_n 1, 1) := by decide +kernel
theorem dd_J_directory_25 : decode cd_J_directory 25 = .ok (.invokevirtual 54, 3) := by decide +kernel
theorem dd_J_directory_28 : decode cd_J_directory 28 = .ok (.istore_n 2, 1) := by decide +kernel
theorem dd_J_directory_29 : decode cd_J_directory 29 = .ok (.aload_n 0, 1) := by decide +kernel
theorem dd_J_directory_30 : decode cd_J_directory 30 = .ok (.iload_n 2, 1) := by decide +kernel
theorem dd_J_directory_31 : decode cd_J_directory 31 = .ok (.invokevirtual 57, 3) := by decide +kernel
theorem dd_J_directory_34 : decode cd_J_directory 34 = .ok (.aload_n 0, 1) := by decide +kernel
theorem dd_J_directory_35 : decode cd_J_directory 35 = .ok (.iload_n 2, 1) := by decide +kernel
theorem dd_J_directory_36 : decode cd_J_directory 36 = .ok (.iload_n 1, 1) := by decide +kernel
theorem dd_J_directory_37 : decode cd_J_directory 37 = .ok (.sipush 255, 3) := by decide +kernel
theorem dd_J_directory_40 : decode cd_J_directory 40 = .ok (.iand, 1) := by decide +kernel
theorem dd_J_directory_41 : decode cd_J_directory 41 = .ok (.iconst 2, 1) := by decide +kernel
theorem dd_J_directory_42 : decode cd_J_directory 42 = .ok (.invokevirtual 60, 3) := by decide +kernel
theorem dd_J_directory_45 : decode cd_J_directory 45 = .ok (.ireturn, 1) := by decide +kernel
theorem dd_J_checkPath_0 : decode cd_J_checkPath 0 = .ok (.iload_n 0, 1) := by decide +kernel
theorem dd_J_checkPath_1 : decode cd_J_checkPath 1 = .ok (.istore_n 1, 1) := by decide +kernel
theorem dd_J_checkPath_2 : decode cd_J_checkPath 2 = .ok (.iconst 0, 1) := by decide +kernel
theorem dd_J_checkPath_3 : decode cd_J_checkPath 3 = .ok (.istore_n 2, 1) := by decide +kernel
theorem dd_J_checkPath_4 : decode cd_J_checkPath 4 = .ok (.iload_n 2, 1) := by decide +kernel
theorem dd_J_checkPath_5 : decode cd_J_checkPath 5 = .ok (.iconst 4, 1) := by decide +kernel
theorem dd_J_checkPath_6 : decode cd_J_checkPath 6 = .ok (.if_icmp .ge 36, 3) := by decide +kernel
theorem dd_J_checkPath_9 : decode cd_J_checkPath 9 = .ok (.iload_n 1, 1) := by decide +kernel
theorem dd_J_checkPath_10 : decode cd_J_checkPath 10 = .ok (.ifCond .eq 32, 3) := by decide +kernel
theorem dd_J_checkPath_13 : decode cd_J_checkPath 13 = .ok (.iload_n 1, 1) := by decide +kernel
theorem dd_J_checkPath_14 : decode cd_J_checkPath 14 = .ok (.sipush 255, 3) := by decide +kernel
theorem dd_J_checkPath_17 : decode cd_J_checkPath 17 = .ok (.iand, 1) := by decide +kernel
theorem dd_J_checkPath_18 : decode cd_J_checkPath 18 = .ok (.ifCond .ne 13, 3) := by decide +kernel
theorem dd_J_checkPath_21 : decode cd_J_checkPath 21 = .ok (.new 229, 3) := by decide +kernel
theorem dd_J_checkPath_24 : decode cd_J_checkPath 24 = .ok (.dup, 1) := by decide +kernel
theorem dd_J_checkPath_25 : decode cd_J_checkPath 25 = .ok (.ldc 234, 2) := by decide +kernel
theorem dd_J_checkPath_27 : decode cd_J_checkPath 27 = .ok (.invokespecial 233, 3) := by decide +kernel
theorem dd_J_checkPath_30 : decode cd_J_checkPath 30 = .ok (.athrow, 1) := by decide +kernel
theorem dd_J_checkPath_31 : decode cd_J_checkPath 31 = .ok (.iload_n 1, 1) := by decide +kernel
theorem dd_J_checkPath_32 : decode cd_J_checkPath 32 = .ok (.bipush 8, 2) := by decide +kernel
theorem dd_J_checkPath_34 : decode cd_J_checkPath 34 = .ok (.iushr, 1) := by decide +kernel
theorem dd_J_checkPath_35 : decode cd_J_checkPath 35 = .ok (.istore_n 1, 1) := by decide +kernel
theorem dd_J_checkPath_36 : decode cd_J_checkPath 36 = .ok (.iinc 2 1, 3) := by decide +kernel
theorem dd_J_checkPath_39 : decode cd_J_checkPath 39 = .ok (.goto (-35), 3) := by decide +kernel
theorem dd_J_checkPath_42 : decode cd_J_checkPath 42 = .ok (.return_, 1) := by decide +kernel
theorem dd_J_inodeAt_0 : decode cd_J_inodeAt 0 = .ok (.iconst 0, 1) := by decide +kernel
theorem dd_J_inodeAt_1 : decode cd_J_inodeAt 1 = .ok (.istore_n 2, 1) := by decide +kernel
theorem dd_J_inodeAt_2 : decode cd_J_inodeAt 2 = .ok (.bipush 24, 2) := by decide +kernel
theorem dd_J_inodeAt_4 : decode cd_J_inodeAt 4 = .ok (.istore_n 3, 1) := by decide +kernel
theorem dd_J_inodeAt_5 : decode cd_J_inodeAt 5 = .ok (.iload_n 3, 1) := by decide +kernel
theorem dd_J_inodeAt_6 : decode cd_J_inodeAt 6 = .ok (.ifCond .lt 54, 3) := by decide +kernel
theorem dd_J_inodeAt_9 : decode cd_J_inodeAt 9 = .ok (.iload_n 1, 1) := by decide +kernel
theorem dd_J_inodeAt_10 : decode cd_J_inodeAt 10 = .ok (.iload_n 3, 1) := by decide +kernel
theorem dd_J_inodeAt_11 : decode cd_J_inodeAt 11 = .ok (.iushr, 1) := by decide +kernel
theorem dd_J_inodeAt_12 : decode cd_J_inodeAt 12 = .ok (.sipush 255, 3) := by decide +kernel
theorem dd_J_inodeAt_15 : decode cd_J_inodeAt 15 = .ok (.iand, 1) := by decide +kernel
theorem dd_J_inodeAt_16 : decode cd_J_inodeAt 16 = .ok (.istore 4, 2) := by decide +kernel
theorem dd_J_inodeAt_18 : decode cd_J_inodeAt 18 = .ok (.iload 4, 2) := by decide +kernel
theorem dd_J_inodeAt_20 : decode cd_J_inodeAt 20 = .ok (.ifCond .eq 34, 3) := by decide +kernel
theorem dd_J_inodeAt_23 : decode cd_J_inodeAt 23 = .ok (.aload_n 0, 1) := by decide +kernel
theorem dd_J_inodeAt_24 : decode cd_J_inodeAt 24 = .ok (.getfield 21, 3) := by decide +kernel
theorem dd_J_inodeAt_27 : decode cd_J_inodeAt 27 = .ok (.iload_n 2, 1) := by decide +kernel
theorem dd_J_inodeAt_28 : decode cd_J_inodeAt 28 = .ok (.iload 4, 2) := by decide +kernel
theorem dd_J_inodeAt_30 : decode cd_J_inodeAt 30 = .ok (.invokevirtual 236, 3) := by decide +kernel
theorem dd_J_inodeAt_33 : decode cd_J_inodeAt 33 = .ok (.istore 5, 2) := by decide +kernel
theorem dd_J_inodeAt_35 : decode cd_J_inodeAt 35 = .ok (.iload 5, 2) := by decide +kernel
theorem dd_J_inodeAt_37 : decode cd_J_inodeAt 37 = .ok (.iconst (-1), 1) := by decide +kernel
theorem dd_J_inodeAt_38 : decode cd_J_inodeAt 38 = .ok (.if_icmp .ne 5, 3) := by decide +kernel
theorem dd_J_inodeAt_41 : decode cd_J_inodeAt 41 = .ok (.iconst (-1), 1) := by decide +kernel
theorem dd_J_inodeAt_42 : decode cd_J_inodeAt 42 = .ok (.ireturn, 1) := by decide +kernel
theorem dd_J_inodeAt_43 : decode cd_J_inodeAt 43 = .ok (.aload_n 0, 1) := by decide +kernel
theorem dd_J_inodeAt_44 : decode cd_J_inodeAt 44 = .ok (.getfield 21, 3) := by decide +kernel
theorem dd_J_inodeAt_47 : decode cd_J_inodeAt 47 = .ok (.iload_n 2, 1) := by decide +kernel
theorem dd_J_inodeAt_48 : decode cd_J_inodeAt 48 = .ok (.iload 5, 2) := by decide +kernel
theorem dd_J_inodeAt_50 : decode cd_J_inodeAt 50 = .ok (.invokevirtual 239, 3) := by decide +kernel
theorem dd_J_inodeAt_53 : decode cd_J_inodeAt 53 = .ok (.istore_n 2, 1) := by decide +kernel
theorem dd_J_inodeAt_54 : decode cd_J_inodeAt 54 = .ok (.iinc 3 (-8), 3) := by decide +kernel
theorem dd_J_inodeAt_57 : decode cd_J_inodeAt 57 = .ok (.goto (-52), 3) := by decide +kernel
theorem dd_J_inodeAt_60 : decode cd_J_inodeAt 60 = .ok (.iload_n 2, 1) := by decide +kernel
theorem dd_J_inodeAt_61 : decode cd_J_inodeAt 61 = .ok (.ireturn, 1) := by decide +kernel
theorem dd_J_parentNeeded_0 : decode cd_J_parentNeeded 0 = .ok (.aload_n 0, 1) := by decide +kernel
theorem dd_J_parentNeeded_1 : decode cd_J_parentNeeded 1 = .ok (.iload_n 1, 1) := by decide +kernel
theorem dd_J_parentNeeded_2 : decode cd_J_parentNeeded 2 = .ok (.invokestatic 161, 3) := by decide +kernel
theorem dd_J_parentNeeded_5 : decode cd_J_parentNeeded 5 = .ok (.invokevirtual 43, 3) := by decide +kernel
theorem dd_J_parentNeeded_8 : decode cd_J_parentNeeded 8 = .ok (.istore_n 2, 1) := by decide +kernel
theorem dd_J_parentNeeded_9 : decode cd_J_parentNeeded 9 = .ok (.iload_n 2, 1) := by decide +kernel
theorem dd_J_parentNeeded_10 : decode cd_J_parentNeeded 10 = .ok (.iconst (-1), 1) := by decide +kernel
theorem dd_J_parentNeeded_11 : decode cd_J_parentNeeded 11 = .ok (.if_icmp .eq 15, 3) := by decide +kernel
theorem dd_J_parentNeeded_14 : decode cd_J_parentNeeded 14 = .ok (.aload_n 0, 1) := by decide +kernel
theorem dd_J_parentNeeded_15 : decode cd_J_parentNeeded 15 = .ok (.getfield 21, 3) := by decide +kernel
theorem dd_J_parentNeeded_18 : decode cd_J_parentNeeded 18 = .ok (.iload_n 2, 1) := by decide +kernel
theorem dd_J_parentNeeded_19 : decode cd_J_parentNeeded 19 = .ok (.invokevirtual 85, 3) := by decide +kernel
theorem dd_J_parentNeeded_22 : decode cd_J_parentNeeded 22 = .ok (.iconst 2, 1) := by decide +kernel
theorem dd_J_parentNeeded_23 : decode cd_J_parentNeeded 23 = .ok (.if_icmp .eq 13, 3) := by decide +kernel
theorem dd_J_parentNeeded_26 : decode cd_J_parentNeeded 26 = .ok (.new 72, 3) := by decide +kernel
theorem dd_J_parentNeeded_29 : decode cd_J_parentNeeded 29 = .ok (.dup, 1) := by decide +kernel
theorem dd_J_parentNeeded_30 : decode cd_J_parentNeeded 30 = .ok (.ldc 244, 2) := by decide +kernel
theorem dd_J_parentNeeded_32 : decode cd_J_parentNeeded 32 = .ok (.invokespecial 76, 3) := by decide +kernel
theorem dd_J_parentNeeded_35 : decode cd_J_parentNeeded 35 = .ok (.athrow, 1) := by decide +kernel
theorem dd_J_parentNeeded_36 : decode cd_J_parentNeeded 36 = .ok (.iload_n 2, 1) := by decide +kernel
theorem dd_J_parentNeeded_37 : decode cd_J_parentNeeded 37 = .ok (.ireturn, 1) := by decide +kernel
theorem dd_J_parentPath_0 : decode cd_J_parentPath 0 = .ok (.iload_n 0, 1) := by decide +kernel
theorem dd_J_parentPath_1 : decode cd_J_parentPath 1 = .ok (.bipush 8, 2) := by decide +kernel
theorem dd_J_parentPath_3 : decode cd_J_parentPath 3 = .ok (.iushr, 1) := by decide +kernel
theorem dd_J_parentPath_4 : decode cd_J_parentPath 4 = .ok (.ireturn, 1) := by decide +kernel
theorem dd_J_checkRoomForNew_0 : decode cd_J_checkRoomForNew 0 = .ok (.aload_n 0, 1) := by decide +kernel
theorem dd_J_checkRoomForNew_1 : decode cd_J_checkRoomForNew 1 = .ok (.getfield 21, 3) := by decide +kernel
theorem dd_J_checkRoomForNew_4 : decode cd_J_checkRoomForNew 4 = .ok (.invokevirtual 246, 3) := by decide +kernel
theorem dd_J_checkRoomForNew_7 : decode cd_J_checkRoomForNew 7 = .ok (.iconst (-1), 1) := by decide +kernel
theorem dd_J_checkRoomForNew_8 : decode cd_J_checkRoomForNew 8 = .ok (.if_icmp .eq 14, 3) := by decide +kernel
theorem dd_J_checkRoomForNew_11 : decode cd_J_checkRoomForNew 11 = .ok (.aload_n 0, 1) := by decide +kernel
theorem dd_J_checkRoomForNew_12 : decode cd_J_checkRoomForNew 12 = .ok (.getfield 21, 3) := by decide +kernel
theorem dd_J_checkRoomForNew_15 : decode cd_J_checkRoomForNew 15 = .ok (.iload_n 1, 1) := by decide +kernel
theorem dd_J_checkRoomForNew_16 : decode cd_J_checkRoomForNew 16 = .ok (.invokevirtual 249, 3) := by decide +kernel
theorem dd_J_checkRoomForNew_19 : decode cd_J_checkRoomForNew 19 = .ok (.ifCond .ne 13, 3) := by decide +kernel
theorem dd_J_checkRoomForNew_22 : decode cd_J_checkRoomForNew 22 = .ok (.new 178, 3) := by decide +kernel
theorem dd_J_checkRoomForNew_25 : decode cd_J_checkRoomForNew 25 = .ok (.dup, 1) := by decide +kernel
theorem dd_J_checkRoomForNew_26 : decode cd_J_checkRoomForNew 26 = .ok (.ldc 252, 2) := by decide +kernel
theorem dd_J_checkRoomForNew_28 : decode cd_J_checkRoomForNew 28 = .ok (.invokespecial 182, 3) := by decide +kernel
theorem dd_J_checkRoomForNew_31 : decode cd_J_checkRoomForNew 31 = .ok (.athrow, 1) := by decide +kernel
theorem dd_J_checkRoomForNew_32 : decode cd_J_checkRoomForNew 32 = .ok (.return_, 1) := by decide +kernel
theorem dd_J_makeNew_0 : decode cd_J_makeNew 0 = .ok (.aload_n 0, 1) := by decide +kernel
theorem dd_J_makeNew_1 : decode cd_J_makeNew 1 = .ok (.getfield 21, 3) := by decide +kernel
theorem dd_J_makeNew_4 : decode cd_J_makeNew 4 = .ok (.invokevirtual 246, 3) := by decide +kernel
theorem dd_J_makeNew_7 : decode cd_J_makeNew 7 = .ok (.istore 4, 2) := by decide +kernel
theorem dd_J_makeNew_9 : decode cd_J_makeNew 9 = .ok (.aload_n 0, 1) := by decide +kernel
theorem dd_J_makeNew_10 : decode cd_J_makeNew 10 = .ok (.getfield 21, 3) := by decide +kernel
theorem dd_J_makeNew_13 : decode cd_J_makeNew 13 = .ok (.iload 4, 2) := by decide +kernel
theorem dd_J_makeNew_15 : decode cd_J_makeNew 15 = .ok (.iload_n 3, 1) := by decide +kernel
theorem dd_J_makeNew_16 : decode cd_J_makeNew 16 = .ok (.invokevirtual 32, 3) := by decide +kernel
theorem dd_J_makeNew_19 : decode cd_J_makeNew 19 = .ok (.aload_n 0, 1) := by decide +kernel
theorem dd_J_makeNew_20 : decode cd_J_makeNew 20 = .ok (.getfield 21, 3) := by decide +kernel
theorem dd_J_makeNew_23 : decode cd_J_makeNew 23 = .ok (.iload_n 1, 1) := by decide +kernel
theorem dd_J_makeNew_24 : decode cd_J_makeNew 24 = .ok (.iload_n 2, 1) := by decide +kernel
theorem dd_J_makeNew_25 : decode cd_J_makeNew 25 = .ok (.iload 4, 2) := by decide +kernel
theorem dd_J_makeNew_27 : decode cd_J_makeNew 27 = .ok (.invokevirtual 183, 3) := by decide +kernel
theorem dd_J_makeNew_30 : decode cd_J_makeNew 30 = .ok (.iload 4, 2) := by decide +kernel
theorem dd_J_makeNew_32 : decode cd_J_makeNew 32 = .ok (.ireturn, 1) := by decide +kernel
theorem dd_J_open_0 : decode cd_J_open 0 = .ok (.iload_n 1, 1) := by decide +kernel
theorem dd_J_open_1 : decode cd_J_open 1 = .ok (.invokestatic 39, 3) := by decide +kernel
theorem dd_J_open_4 : decode cd_J_open 4 = .ok (.iload_n 2, 1) := by decide +kernel
theorem dd_J_open_5 : decode cd_J_open 5 = .ok (.iconst 1, 1) := by decide +kernel
theorem dd_J_open_6 : decode cd_J_open 6 = .ok (.iconst 4, 1) := by decide +kernel
theorem dd_J_open_7 : decode cd_J_open 7 = .ok (.invokestatic 64, 3) := by decide +kernel
theorem dd_J_open_10 : decode cd_J_open 10 = .ok (.aload_n 0, 1) := by decide +kernel
theorem dd_J_open_11 : decode cd_J_open 11 = .ok (.iload_n 1, 1) := by decide +kernel
theorem dd_J_open_12 : decode cd_J_open 12 = .ok (.invokevirtual 43, 3) := by decide +kernel
theorem dd_J_open_15 : decode cd_J_open 15 = .ok (.istore 6, 2) := by decide +kernel
theorem dd_J_open_17 : decode cd_J_open 17 = .ok (.iload 6, 2) := by decide +kernel
theorem dd_J_open_19 : decode cd_J_open 19 = .ok (.iconst (-1), 1) := by decide +kernel
theorem dd_J_open_20 : decode cd_J_open 20 = .ok (.if_icmp .ne 68, 3) := by decide +kernel
theorem dd_J_open_23 : decode cd_J_open 23 = .ok (.iload_n 3, 1) := by decide +kernel
theorem dd_J_open_24 : decode cd_J_open 24 = .ok (.ifCond .eq 10, 3) := by decide +kernel
theorem dd_J_open_27 : decode cd_J_open 27 = .ok (.iload_n 2, 1) := by decide +kernel
theorem dd_J_open_28 : decode cd_J_open 28 = .ok (.invokestatic 68, 3) := by decide +kernel
theorem dd_J_open_31 : decode cd_J_open 31 = .ok (.ifCond .ne 13, 3) := by decide +kernel
theorem dd_J_open_34 : decode cd_J_open 34 = .ok (.new 72, 3) := by decide +kernel
theorem dd_J_open_37 : decode cd_J_open 37 = .ok (.dup, 1) := by decide +kernel
theorem dd_J_open_38 : decode cd_J_open 38 = .ok (.ldc 74, 2) := by decide +kernel
theorem dd_J_open_40 : decode cd_J_open 40 = .ok (.invokespecial 76, 3) := by decide +kernel
theorem dd_J_open_43 : decode cd_J_open 43 = .ok (.athrow, 1) := by decide +kernel
theorem dd_J_open_44 : decode cd_J_open 44 = .ok (.aload_n 0, 1) := by decide +kernel
theorem dd_J_open_45 : decode cd_J_open 45 = .ok (.iload_n 1, 1) := by decide +kernel
theorem dd_J_open_46 : decode cd_J_open 46 = .ok (.invokevirtual 54, 3) := by decide +kernel
theorem dd_J_open_49 : decode cd_J_open 49 = .ok (.istore 7, 2) := by decide +kernel
theorem dd_J_open_51 : decode cd_J_open 51 = .ok (.aload_n 0, 1) := by decide +kernel
theorem dd_J_open_52 : decode cd_J_open 52 = .ok (.invokevirtual 77, 3) := by decide +kernel
theorem dd_J_open_55 : decode cd_J_open 55 = .ok (.istore 8, 2) := by decide +kernel
theorem dd_J_open_57 : decode cd_J_open 57 = .ok (.aload_n 0, 1) := by decide +kernel
theorem dd_J_open_58 : decode cd_J_open 58 = .ok (.iload 7, 2) := by decide +kernel
theorem dd_J_open_60 : decode cd_J_open 60 = .ok (.invokevirtual 57, 3) := by decide +kernel
theorem dd_J_open_63 : decode cd_J_open 63 = .ok (.aload_n 0, 1) := by decide +kernel
theorem dd_J_open_64 : decode cd_J_open 64 = .ok (.iload 7, 2) := by decide +kernel
theorem dd_J_open_66 : decode cd_J_open 66 = .ok (.iload_n 1, 1) := by decide +kernel
theorem dd_J_open_67 : decode cd_J_open 67 = .ok (.sipush 255, 3) := by decide +kernel
theorem dd_J_open_70 : decode cd_J_open 70 = .ok (.iand, 1) := by decide +kernel
theorem dd_J_open_71 : decode cd_J_open 71 = .ok (.iconst 1, 1) := by decide +kernel
theorem dd_J_open_72 : decode cd_J_open 72 = .ok (.invokevirtual 60, 3) := by decide +kernel
theorem dd_J_open_75 : decode cd_J_open 75 = .ok (.istore 6, 2) := by decide +kernel
theorem dd_J_open_77 : decode cd_J_open 77 = .ok (.aload_n 0, 1) := by decide +kernel
theorem dd_J_open_78 : decode cd_J_open 78 = .ok (.iload 8, 2) := by decide +kernel
theorem dd_J_open_80 : decode cd_J_open 80 = .ok (.iload 6, 2) := by decide +kernel
theorem dd_J_open_82 : decode cd_J_open 82 = .ok (.iload_n 2, 1) := by decide +kernel
theorem dd_J_open_83 : decode cd_J_open 83 = .ok (.iconst 0, 1) := by decide +kernel
theorem dd_J_open_84 : decode cd_J_open 84 = .ok (.invokevirtual 81, 3) := by decide +kernel
theorem dd_J_open_87 : decode cd_J_open 87 = .ok (.ireturn, 1) := by decide +kernel
theorem dd_J_open_88 : decode cd_J_open 88 = .ok (.aload_n 0, 1) := by decide +kernel
theorem dd_J_open_89 : decode cd_J_open 89 = .ok (.getfield 21, 3) := by decide +kernel
theorem dd_J_open_92 : decode cd_J_open 92 = .ok (.iload 6, 2) := by decide +kernel
theorem dd_J_open_94 : decode cd_J_open 94 = .ok (.invokevirtual 85, 3) := by decide +kernel
theorem dd_J_open_97 : decode cd_J_open 97 = .ok (.iload_n 2, 1) := by decide +kernel
theorem dd_J_open_98 : decode cd_J_open 98 = .ok (.invokestatic 88, 3) := by decide +kernel
theorem dd_J_open_101 : decode cd_J_open 101 = .ok (.if_icmp .eq 13, 3) := by decide +kernel
theorem dd_J_open_104 : decode cd_J_open 104 = .ok (.new 47, 3) := by decide +kernel
theorem dd_J_open_107 : decode cd_J_open 107 = .ok (.dup, 1) := by decide +kernel
theorem dd_J_open_108 : decode cd_J_open 108 = .ok (.ldc 91, 2) := by decide +kernel
theorem dd_J_open_110 : decode cd_J_open 110 = .ok (.invokespecial 51, 3) := by decide +kernel
theorem dd_J_open_113 : decode cd_J_open 113 = .ok (.athrow, 1) := by decide +kernel
theorem dd_J_open_114 : decode cd_J_open 114 = .ok (.aload_n 0, 1) := by decide +kernel
theorem dd_J_open_115 : decode cd_J_open 115 = .ok (.invokevirtual 77, 3) := by decide +kernel
theorem dd_J_open_118 : decode cd_J_open 118 = .ok (.istore 7, 2) := by decide +kernel
theorem dd_J_open_120 : decode cd_J_open 120 = .ok (.iload 5, 2) := by decide +kernel
theorem dd_J_open_122 : decode cd_J_open 122 = .ok (.ifCond .eq 20, 3) := by decide +kernel
theorem dd_J_open_125 : decode cd_J_open 125 = .ok (.iload_n 2, 1) := by decide +kernel
theorem dd_J_open_126 : decode cd_J_open 126 = .ok (.invokestatic 68, 3) := by decide +kernel
theorem dd_J_open_129 : decode cd_J_open 129 = .ok (.ifCond .eq 13, 3) := by decide +kernel
theorem dd_J_open_132 : decode cd_J_open 132 = .ok (.aload_n 0, 1) := by decide +kernel
theorem dd_J_open_133 : decode cd_J_open 133 = .ok (.getfield 21, 3) := by decide +kernel
theorem dd_J_open_136 : decode cd_J_open 136 = .ok (.iload 6, 2) := by decide +kernel
theorem dd_J_open_138 : decode cd_J_open 138 = .ok (.iconst 0, 1) := by decide +kernel
theorem dd_J_open_139 : decode cd_J_open 139 = .ok (.invokevirtual 93, 3) := by decide +kernel
theorem dd_J_open_142 : decode cd_J_open 142 = .ok (.aload_n 0, 1) := by decide +kernel
theorem dd_J_open_143 : decode cd_J_open 143 = .ok (.iload 7, 2) := by decide +kernel
theorem dd_J_open_145 : decode cd_J_open 145 = .ok (.iload 6, 2) := by decide +kernel
theorem dd_J_open_147 : decode cd_J_open 147 = .ok (.iload_n 2, 1) := by decide +kernel
theorem dd_J_open_148 : decode cd_J_open 148 = .ok (.iload 4, 2) := by decide +kernel
theorem dd_J_open_150 : decode cd_J_open 150 = .ok (.ifCond .eq 20, 3) := by decide +kernel
theorem dd_J_open_153 : decode cd_J_open 153 = .ok (.iload_n 2, 1) := by decide +kernel
theorem dd_J_open_154 : decode cd_J_open 154 = .ok (.iconst 4, 1) := by decide +kernel
theorem dd_J_open_155 : decode cd_J_open 155 = .ok (.if_icmp .eq 15, 3) := by decide +kernel
theorem dd_J_open_158 : decode cd_J_open 158 = .ok (.aload_n 0, 1) := by decide +kernel
theorem dd_J_open_159 : decode cd_J_open 159 = .ok (.getfield 21, 3) := by decide +kernel
theorem dd_J_open_162 : decode cd_J_open 162 = .ok (.iload 6, 2) := by decide +kernel
theorem dd_J_open_164 : decode cd_J_open 164 = .ok (.invokevirtual 96, 3) := by decide +kernel
theorem dd_J_open_167 : decode cd_J_open 167 = .ok (.goto 4, 3) := by decide +kernel
theorem dd_J_open_170 : decode cd_J_open 170 = .ok (.iconst 0, 1) := by decide +kernel
theorem dd_J_open_171 : decode cd_J_open 171 = .ok (.invokevirtual 81, 3) := by decide +kernel
theorem dd_J_open_174 : decode cd_J_open 174 = .ok (.ireturn, 1) := by decide +kernel
theorem dd_J_checkRange_0 : decode cd_J_checkRange 0 = .ok (.iload_n 0, 1) := by decide +kernel
theorem dd_J_checkRange_1 : decode cd_J_checkRange 1 = .ok (.iload_n 1, 1) := by decide +kernel
theorem dd_J_checkRange_2 : decode cd_J_checkRange 2 = .ok (.if_icmp .lt 8, 3) := by decide +kernel
theorem dd_J_checkRange_5 : decode cd_J_checkRange 5 = .ok (.iload_n 0, 1) := by decide +kernel
theorem dd_J_checkRange_6 : decode cd_J_checkRange 6 = .ok (.iload_n 2, 1) := by decide +kernel
theorem dd_J_checkRange_7 : decode cd_J_checkRange 7 = .ok (.if_icmp .le 13, 3) := by decide +kernel
theorem dd_J_checkRange_10 : decode cd_J_checkRange 10 = .ok (.new 229, 3) := by decide +kernel
theorem dd_J_checkRange_13 : decode cd_J_checkRange 13 = .ok (.dup, 1) := by decide +kernel
theorem dd_J_checkRange_14 : decode cd_J_checkRange 14 = .ok (.ldc 231, 2) := by decide +kernel
theorem dd_J_checkRange_16 : decode cd_J_checkRange 16 = .ok (.invokespecial 233, 3) := by decide +kernel
theorem dd_J_checkRange_19 : decode cd_J_checkRange 19 = .ok (.athrow, 1) := by decide +kernel
theorem dd_J_checkRange_20 : decode cd_J_checkRange 20 = .ok (.return_, 1) := by decide +kernel
theorem dd_J_writesBy_0 : decode cd_J_writesBy 0 = .ok (.iload_n 0, 1) := by decide +kernel
theorem dd_J_writesBy_1 : decode cd_J_writesBy 1 = .ok (.iconst 2, 1) := by decide +kernel
theorem dd_J_writesBy_2 : decode cd_J_writesBy 2 = .ok (.if_icmp .eq 8, 3) := by decide +kernel
theorem dd_J_writesBy_5 : decode cd_J_writesBy 5 = .ok (.iload_n 0, 1) := by decide +kernel
theorem dd_J_writesBy_6 : decode cd_J_writesBy 6 = .ok (.iconst 3, 1) := by decide +kernel
theorem dd_J_writesBy_7 : decode cd_J_writesBy 7 = .ok (.if_icmp .ne 7, 3) := by decide +kernel
theorem dd_J_writesBy_10 : decode cd_J_writesBy 10 = .ok (.iconst 1, 1) := by decide +kernel
theorem dd_J_writesBy_11 : decode cd_J_writesBy 11 = .ok (.goto 4, 3) := by decide +kernel
theorem dd_J_writesBy_14 : decode cd_J_writesBy 14 = .ok (.iconst 0, 1) := by decide +kernel
theorem dd_J_writesBy_15 : decode cd_J_writesBy 15 = .ok (.ireturn, 1) := by decide +kernel
theorem dd_J_closedHandleNeeded_0 : decode cd_J_closedHandleNeeded 0 = .ok (.iconst 0, 1) := by decide +kernel
theorem dd_J_closedHandleNeeded_1 : decode cd_J_closedHandleNeeded 1 = .ok (.istore_n 1, 1) := by decide +kernel
theorem dd_J_closedHandleNeeded_2 : decode cd_J_closedHandleNeeded 2 = .ok (.iload_n 1, 1) := by decide +kernel
theorem dd_J_closedHandleNeeded_3 : decode cd_J_closedHandleNeeded 3 = .ok (.bipush 6, 2) := by decide +kernel
theorem dd_J_closedHandleNeeded_5 : decode cd_J_closedHandleNeeded 5 = .ok (.if_icmp .ge 23, 3) := by decide +kernel
theorem dd_J_closedHandleNeeded_8 : decode cd_J_closedHandleNeeded 8 = .ok (.aload_n 0, 1) := by decide +kernel
theorem dd_J_closedHandleNeeded_9 : decode cd_J_closedHandleNeeded 9 = .ok (.getfield 27, 3) := by decide +kernel
theorem dd_J_closedHandleNeeded_12 : decode cd_J_closedHandleNeeded 12 = .ok (.iload_n 1, 1) := by decide +kernel
theorem dd_J_closedHandleNeeded_13 : decode cd_J_closedHandleNeeded 13 = .ok (.aaload, 1) := by decide +kernel
theorem dd_J_closedHandleNeeded_14 : decode cd_J_closedHandleNeeded 14 = .ok (.getfield 99, 3) := by decide +kernel
theorem dd_J_closedHandleNeeded_17 : decode cd_J_closedHandleNeeded 17 = .ok (.ifCond .ne 5, 3) := by decide +kernel
theorem dd_J_closedHandleNeeded_20 : decode cd_J_closedHandleNeeded 20 = .ok (.iload_n 1, 1) := by decide +kernel
theorem dd_J_closedHandleNeeded_21 : decode cd_J_closedHandleNeeded 21 = .ok (.ireturn, 1) := by decide +kernel
theorem dd_J_closedHandleNeeded_22 : decode cd_J_closedHandleNeeded 22 = .ok (.iinc 1 1, 3) := by decide +kernel
theorem dd_J_closedHandleNeeded_25 : decode cd_J_closedHandleNeeded 25 = .ok (.goto (-23), 3) := by decide +kernel
theorem dd_J_closedHandleNeeded_28 : decode cd_J_closedHandleNeeded 28 = .ok (.new 178, 3) := by decide +kernel
theorem dd_J_closedHandleNeeded_31 : decode cd_J_closedHandleNeeded 31 = .ok (.dup, 1) := by decide +kernel
theorem dd_J_closedHandleNeeded_32 : decode cd_J_closedHandleNeeded 32 = .ok (.ldc_w 269, 3) := by decide +kernel
theorem dd_J_closedHandleNeeded_35 : decode cd_J_closedHandleNeeded 35 = .ok (.invokespecial 182, 3) := by decide +kernel
theorem dd_J_closedHandleNeeded_38 : decode cd_J_closedHandleNeeded 38 = .ok (.athrow, 1) := by decide +kernel
theorem dd_J_openHandle_0 : decode cd_J_openHandle 0 = .ok (.aload_n 0, 1) := by decide +kernel
theorem dd_J_openHandle_1 : decode cd_J_openHandle 1 = .ok (.getfield 27, 3) := by decide +kernel
theorem dd_J_openHandle_4 : decode cd_J_openHandle 4 = .ok (.iload_n 1, 1) := by decide +kernel
theorem dd_J_openHandle_5 : decode cd_J_openHandle 5 = .ok (.aaload, 1) := by decide +kernel
theorem dd_J_openHandle_6 : decode cd_J_openHandle 6 = .ok (.astore 5, 2) := by decide +kernel
theorem dd_J_openHandle_8 : decode cd_J_openHandle 8 = .ok (.aload 5, 2) := by decide +kernel
theorem dd_J_openHandle_10 : decode cd_J_openHandle 10 = .ok (.iconst 1, 1) := by decide +kernel
theorem dd_J_openHandle_11 : decode cd_J_openHandle 11 = .ok (.putfield 99, 3) := by decide +kernel
theorem dd_J_openHandle_14 : decode cd_J_openHandle 14 = .ok (.aload 5, 2) := by decide +kernel
theorem dd_J_openHandle_16 : decode cd_J_openHandle 16 = .ok (.iload_n 2, 1) := by decide +kernel
theorem dd_J_openHandle_17 : decode cd_J_openHandle 17 = .ok (.putfield 118, 3) := by decide +kernel
theorem dd_J_openHandle_20 : decode cd_J_openHandle 20 = .ok (.aload 5, 2) := by decide +kernel
theorem dd_J_openHandle_22 : decode cd_J_openHandle 22 = .ok (.aload_n 0, 1) := by decide +kernel
theorem dd_J_openHandle_23 : decode cd_J_openHandle 23 = .ok (.getfield 21, 3) := by decide +kernel
theorem dd_J_openHandle_26 : decode cd_J_openHandle 26 = .ok (.iload_n 2, 1) := by decide +kernel
theorem dd_J_openHandle_27 : decode cd_J_openHandle 27 = .ok (.invokevirtual 191, 3) := by decide +kernel
theorem dd_J_openHandle_30 : decode cd_J_openHandle 30 = .ok (.putfield 271, 3) := by decide +kernel
theorem dd_J_openHandle_33 : decode cd_J_openHandle 33 = .ok (.aload 5, 2) := by decide +kernel
theorem dd_J_openHandle_35 : decode cd_J_openHandle 35 = .ok (.iload_n 3, 1) := by decide +kernel
theorem dd_J_openHandle_36 : decode cd_J_openHandle 36 = .ok (.putfield 109, 3) := by decide +kernel
theorem dd_J_openHandle_39 : decode cd_J_openHandle 39 = .ok (.aload 5, 2) := by decide +kernel
theorem dd_J_openHandle_41 : decode cd_J_openHandle 41 = .ok (.iload 4, 2) := by decide +kernel
theorem dd_J_openHandle_43 : decode cd_J_openHandle 43 = .ok (.putfield 115, 3) := by decide +kernel
theorem dd_J_openHandle_46 : decode cd_J_openHandle 46 = .ok (.iload_n 1, 1) := by decide +kernel
theorem dd_J_openHandle_47 : decode cd_J_openHandle 47 = .ok (.ireturn, 1) := by decide +kernel
theorem dd_J_close_0 : decode cd_J_close 0 = .ok (.iload_n 1, 1) := by decide +kernel
theorem dd_J_close_1 : decode cd_J_close 1 = .ok (.iconst 0, 1) := by decide +kernel
theorem dd_J_close_2 : decode cd_J_close 2 = .ok (.iconst 5, 1) := by decide +kernel
theorem dd_J_close_3 : decode cd_J_close 3 = .ok (.invokestatic 64, 3) := by decide +kernel
theorem dd_J_close_6 : decode cd_J_close 6 = .ok (.aload_n 0, 1) := by decide +kernel
theorem dd_J_close_7 : decode cd_J_close 7 = .ok (.getfield 27, 3) := by decide +kernel
theorem dd_J_close_10 : decode cd_J_close 10 = .ok (.iload_n 1, 1) := by decide +kernel
theorem dd_J_close_11 : decode cd_J_close 11 = .ok (.aaload, 1) := by decide +kernel
theorem dd_J_close_12 : decode cd_J_close 12 = .ok (.astore_n 2, 1) := by decide +kernel
theorem dd_J_close_13 : decode cd_J_close 13 = .ok (.aload_n 2, 1) := by decide +kernel
theorem dd_J_close_14 : decode cd_J_close 14 = .ok (.getfield 99, 3) := by decide +kernel
theorem dd_J_close_17 : decode cd_J_close 17 = .ok (.ifCond .ne 13, 3) := by decide +kernel
theorem dd_J_close_20 : decode cd_J_close 20 = .ok (.new 47, 3) := by decide +kernel
theorem dd_J_close_23 : decode cd_J_close 23 = .ok (.dup, 1) := by decide +kernel
theorem dd_J_close_24 : decode cd_J_close 24 = .ok (.ldc 103, 2) := by decide +kernel
theorem dd_J_close_26 : decode cd_J_close 26 = .ok (.invokespecial 51, 3) := by decide +kernel
theorem dd_J_close_29 : decode cd_J_close 29 = .ok (.athrow, 1) := by decide +kernel
theorem dd_J_close_30 : decode cd_J_close 30 = .ok (.aload_n 2, 1) := by decide +kernel
theorem dd_J_close_31 : decode cd_J_close 31 = .ok (.iconst 0, 1) := by decide +kernel
theorem dd_J_close_32 : decode cd_J_close 32 = .ok (.putfield 99, 3) := by decide +kernel
theorem dd_J_close_35 : decode cd_J_close 35 = .ok (.return_, 1) := by decide +kernel
theorem dd_J_write_0 : decode cd_J_write 0 = .ok (.iload_n 1, 1) := by decide +kernel
theorem dd_J_write_1 : decode cd_J_write 1 = .ok (.iconst 0, 1) := by decide +kernel
theorem dd_J_write_2 : decode cd_J_write 2 = .ok (.iconst 5, 1) := by decide +kernel
theorem dd_J_write_3 : decode cd_J_write 3 = .ok (.invokestatic 64, 3) := by decide +kernel
theorem dd_J_write_6 : decode cd_J_write 6 = .ok (.iload 4, 2) := by decide +kernel
theorem dd_J_write_8 : decode cd_J_write 8 = .ok (.iconst 0, 1) := by decide +kernel
theorem dd_J_write_9 : decode cd_J_write 9 = .ok (.bipush 8, 2) := by decide +kernel
theorem dd_J_write_11 : decode cd_J_write 11 = .ok (.invokestatic 64, 3) := by decide +kernel
theorem dd_J_write_14 : decode cd_J_write 14 = .ok (.aload_n 0, 1) := by decide +kernel
theorem dd_J_write_15 : decode cd_J_write 15 = .ok (.iload_n 1, 1) := by decide +kernel
theorem dd_J_write_16 : decode cd_J_write 16 = .ok (.invokevirtual 105, 3) := by decide +kernel
theorem dd_J_write_19 : decode cd_J_write 19 = .ok (.astore 5, 2) := by decide +kernel
theorem dd_J_write_21 : decode cd_J_write 21 = .ok (.aload 5, 2) := by decide +kernel
theorem dd_J_write_23 : decode cd_J_write 23 = .ok (.getfield 109, 3) := by decide +kernel
theorem dd_J_write_26 : decode cd_J_write 26 = .ok (.invokestatic 68, 3) := by decide +kernel
theorem dd_J_write_29 : decode cd_J_write 29 = .ok (.ifCond .ne 13, 3) := by decide +kernel
theorem dd_J_write_32 : decode cd_J_write 32 = .ok (.new 47, 3) := by decide +kernel
theorem dd_J_write_35 : decode cd_J_write 35 = .ok (.dup, 1) := by decide +kernel
theorem dd_J_write_36 : decode cd_J_write 36 = .ok (.ldc 113, 2) := by decide +kernel
theorem dd_J_write_38 : decode cd_J_write 38 = .ok (.invokespecial 51, 3) := by decide +kernel
theorem dd_J_write_41 : decode cd_J_write 41 = .ok (.athrow, 1) := by decide +kernel
theorem dd_J_write_42 : decode cd_J_write 42 = .ok (.iload 4, 2) := by decide +kernel
theorem dd_J_write_44 : decode cd_J_write 44 = .ok (.ifCond .ne 4, 3) := by decide +kernel
theorem dd_J_write_47 : decode cd_J_write 47 = .ok (.return_, 1) := by decide +kernel
theorem dd_J_write_48 : decode cd_J_write 48 = .ok (.aload 5, 2) := by decide +kernel
theorem dd_J_write_50 : decode cd_J_write 50 = .ok (.getfield 115, 3) := by decide +kernel
theorem dd_J_write_53 : decode cd_J_write 53 = .ok (.iload 4, 2) := by decide +kernel
theorem dd_J_write_55 : decode cd_J_write 55 = .ok (.iadd, 1) := by decide +kernel
theorem dd_J_write_56 : decode cd_J_write 56 = .ok (.istore 6, 2) := by decide +kernel
theorem dd_J_write_58 : decode cd_J_write 58 = .ok (.aload_n 0, 1) := by decide +kernel
theorem dd_J_write_59 : decode cd_J_write 59 = .ok (.getfield 21, 3) := by decide +kernel
theorem dd_J_write_62 : decode cd_J_write 62 = .ok (.aload 5, 2) := by decide +kernel
theorem dd_J_write_64 : decode cd_J_write 64 = .ok (.getfield 118, 3) := by decide +kernel
theorem dd_J_write_67 : decode cd_J_write 67 = .ok (.invokevirtual 96, 3) := by decide +kernel
theorem dd_J_write_70 : decode cd_J_write 70 = .ok (.iload 6, 2) := by decide +kernel
theorem dd_J_write_72 : decode cd_J_write 72 = .ok (.invokestatic 121, 3) := by decide +kernel
theorem dd_J_write_75 : decode cd_J_write 75 = .ok (.istore 7, 2) := by decide +kernel
theorem dd_J_write_77 : decode cd_J_write 77 = .ok (.aload_n 0, 1) := by decide +kernel
theorem dd_J_write_78 : decode cd_J_write 78 = .ok (.aload 5, 2) := by decide +kernel
theorem dd_J_write_80 : decode cd_J_write 80 = .ok (.getfield 118, 3) := by decide +kernel
theorem dd_J_write_83 : decode cd_J_write 83 = .ok (.iload 7, 2) := by decide +kernel
theorem dd_J_write_85 : decode cd_J_write 85 = .ok (.invokevirtual 127, 3) := by decide +kernel
theorem dd_J_write_88 : decode cd_J_write 88 = .ok (.aload_n 0, 1) := by decide +kernel
theorem dd_J_write_89 : decode cd_J_write 89 = .ok (.getfield 21, 3) := by decide +kernel
theorem dd_J_write_92 : decode cd_J_write 92 = .ok (.aload 5, 2) := by decide +kernel
theorem dd_J_write_94 : decode cd_J_write 94 = .ok (.getfield 118, 3) := by decide +kernel
theorem dd_J_write_97 : decode cd_J_write 97 = .ok (.iload 7, 2) := by decide +kernel
theorem dd_J_write_99 : decode cd_J_write 99 = .ok (.invokevirtual 93, 3) := by decide +kernel
theorem dd_J_write_102 : decode cd_J_write 102 = .ok (.iconst 0, 1) := by decide +kernel
theorem dd_J_write_103 : decode cd_J_write 103 = .ok (.istore 8, 2) := by decide +kernel
theorem dd_J_write_105 : decode cd_J_write 105 = .ok (.iload 8, 2) := by decide +kernel
theorem dd_J_write_107 : decode cd_J_write 107 = .ok (.iload 4, 2) := by decide +kernel
theorem dd_J_write_109 : decode cd_J_write 109 = .ok (.if_icmp .ge 41, 3) := by decide +kernel
theorem dd_J_write_112 : decode cd_J_write 112 = .ok (.aload_n 0, 1) := by decide +kernel
theorem dd_J_write_113 : decode cd_J_write 113 = .ok (.getfield 21, 3) := by decide +kernel
theorem dd_J_write_116 : decode cd_J_write 116 = .ok (.aload 5, 2) := by decide +kernel
theorem dd_J_write_118 : decode cd_J_write 118 = .ok (.getfield 118, 3) := by decide +kernel
theorem dd_J_write_121 : decode cd_J_write 121 = .ok (.aload 5, 2) := by decide +kernel
theorem dd_J_write_123 : decode cd_J_write 123 = .ok (.getfield 115, 3) := by decide +kernel
theorem dd_J_write_126 : decode cd_J_write 126 = .ok (.iload 8, 2) := by decide +kernel
theorem dd_J_write_128 : decode cd_J_write 128 = .ok (.iadd, 1) := by decide +kernel
theorem dd_J_write_129 : decode cd_J_write 129 = .ok (.lload_n 2, 1) := by decide +kernel
theorem dd_J_write_130 : decode cd_J_write 130 = .ok (.bipush 8, 2) := by decide +kernel
theorem dd_J_write_132 : decode cd_J_write 132 = .ok (.iload 8, 2) := by decide +kernel
theorem dd_J_write_134 : decode cd_J_write 134 = .ok (.imul, 1) := by decide +kernel
theorem dd_J_write_135 : decode cd_J_write 135 = .ok (.lushr, 1) := by decide +kernel
theorem dd_J_write_136 : decode cd_J_write 136 = .ok (.l2i, 1) := by decide +kernel
theorem dd_J_write_137 : decode cd_J_write 137 = .ok (.sipush 255, 3) := by decide +kernel
theorem dd_J_write_140 : decode cd_J_write 140 = .ok (.iand, 1) := by decide +kernel
theorem dd_J_write_141 : decode cd_J_write 141 = .ok (.invokevirtual 130, 3) := by decide +kernel
theorem dd_J_write_144 : decode cd_J_write 144 = .ok (.iinc 8 1, 3) := by decide +kernel
theorem dd_J_write_147 : decode cd_J_write 147 = .ok (.goto (-42), 3) := by decide +kernel
theorem dd_J_write_150 : decode cd_J_write 150 = .ok (.aload 5, 2) := by decide +kernel
theorem dd_J_write_152 : decode cd_J_write 152 = .ok (.iload 6, 2) := by decide +kernel
theorem dd_J_write_154 : decode cd_J_write 154 = .ok (.putfield 115, 3) := by decide +kernel
theorem dd_J_write_157 : decode cd_J_write 157 = .ok (.return_, 1) := by decide +kernel
theorem dd_J_usableHandle_0 : decode cd_J_usableHandle 0 = .ok (.aload_n 0, 1) := by decide +kernel
theorem dd_J_usableHandle_1 : decode cd_J_usableHandle 1 = .ok (.getfield 27, 3) := by decide +kernel
theorem dd_J_usableHandle_4 : decode cd_J_usableHandle 4 = .ok (.iload_n 1, 1) := by decide +kernel
theorem dd_J_usableHandle_5 : decode cd_J_usableHandle 5 = .ok (.aaload, 1) := by decide +kernel
theorem dd_J_usableHandle_6 : decode cd_J_usableHandle 6 = .ok (.astore_n 2, 1) := by decide +kernel
theorem dd_J_usableHandle_7 : decode cd_J_usableHandle 7 = .ok (.aload_n 2, 1) := by decide +kernel
theorem dd_J_usableHandle_8 : decode cd_J_usableHandle 8 = .ok (.getfield 99, 3) := by decide +kernel
theorem dd_J_usableHandle_11 : decode cd_J_usableHandle 11 = .ok (.ifCond .eq 11, 3) := by decide +kernel
theorem dd_J_usableHandle_14 : decode cd_J_usableHandle 14 = .ok (.aload_n 0, 1) := by decide +kernel
theorem dd_J_usableHandle_15 : decode cd_J_usableHandle 15 = .ok (.aload_n 2, 1) := by decide +kernel
theorem dd_J_usableHandle_16 : decode cd_J_usableHandle 16 = .ok (.invokevirtual 273, 3) := by decide +kernel
theorem dd_J_usableHandle_19 : decode cd_J_usableHandle 19 = .ok (.ifCond .eq 14, 3) := by decide +kernel
theorem dd_J_usableHandle_22 : decode cd_J_usableHandle 22 = .ok (.new 47, 3) := by decide +kernel
theorem dd_J_usableHandle_25 : decode cd_J_usableHandle 25 = .ok (.dup, 1) := by decide +kernel
theorem dd_J_usableHandle_26 : decode cd_J_usableHandle 26 = .ok (.ldc_w 277, 3) := by decide +kernel
theorem dd_J_usableHandle_29 : decode cd_J_usableHandle 29 = .ok (.invokespecial 51, 3) := by decide +kernel
theorem dd_J_usableHandle_32 : decode cd_J_usableHandle 32 = .ok (.athrow, 1) := by decide +kernel
theorem dd_J_usableHandle_33 : decode cd_J_usableHandle 33 = .ok (.aload_n 2, 1) := by decide +kernel
theorem dd_J_usableHandle_34 : decode cd_J_usableHandle 34 = .ok (.areturn, 1) := by decide +kernel
theorem dd_J_checkRoomForSize_0 : decode cd_J_checkRoomForSize 0 = .ok (.iload_n 2, 1) := by decide +kernel
theorem dd_J_checkRoomForSize_1 : decode cd_J_checkRoomForSize 1 = .ok (.bipush 64, 2) := by decide +kernel
theorem dd_J_checkRoomForSize_3 : decode cd_J_checkRoomForSize 3 = .ok (.if_icmp .gt 15, 3) := by decide +kernel
theorem dd_J_checkRoomForSize_6 : decode cd_J_checkRoomForSize 6 = .ok (.aload_n 0, 1) := by decide +kernel
theorem dd_J_checkRoomForSize_7 : decode cd_J_checkRoomForSize 7 = .ok (.getfield 21, 3) := by decide +kernel
theorem dd_J_checkRoomForSize_10 : decode cd_J_checkRoomForSize 10 = .ok (.iload_n 1, 1) := by decide +kernel
theorem dd_J_checkRoomForSize_11 : decode cd_J_checkRoomForSize 11 = .ok (.iload_n 2, 1) := by decide +kernel
theorem dd_J_checkRoomForSize_12 : decode cd_J_checkRoomForSize 12 = .ok (.invokevirtual 254, 3) := by decide +kernel
theorem dd_J_checkRoomForSize_15 : decode cd_J_checkRoomForSize 15 = .ok (.ifCond .ne 14, 3) := by decide +kernel
theorem dd_J_checkRoomForSize_18 : decode cd_J_checkRoomForSize 18 = .ok (.new 178, 3) := by decide +kernel
theorem dd_J_checkRoomForSize_21 : decode cd_J_checkRoomForSize 21 = .ok (.dup, 1) := by decide +kernel
theorem dd_J_checkRoomForSize_22 : decode cd_J_checkRoomForSize 22 = .ok (.ldc_w 257, 3) := by decide +kernel
theorem dd_J_checkRoomForSize_25 : decode cd_J_checkRoomForSize 25 = .ok (.invokespecial 182, 3) := by decide +kernel
theorem dd_J_checkRoomForSize_28 : decode cd_J_checkRoomForSize 28 = .ok (.athrow, 1) := by decide +kernel
theorem dd_J_checkRoomForSize_29 : decode cd_J_checkRoomForSize 29 = .ok (.return_, 1) := by decide +kernel
theorem dd_J_read_0 : decode cd_J_read 0 = .ok (.iload_n 1, 1) := by decide +kernel
theorem dd_J_read_1 : decode cd_J_read 1 = .ok (.iconst 0, 1) := by decide +kernel
theorem dd_J_read_2 : decode cd_J_read 2 = .ok (.iconst 5, 1) := by decide +kernel
theorem dd_J_read_3 : decode cd_J_read 3 = .ok (.invokestatic 64, 3) := by decide +kernel
theorem dd_J_read_6 : decode cd_J_read 6 = .ok (.iload_n 2, 1) := by decide +kernel
theorem dd_J_read_7 : decode cd_J_read 7 = .ok (.iconst 0, 1) := by decide +kernel
theorem dd_J_read_8 : decode cd_J_read 8 = .ok (.bipush 8, 2) := by decide +kernel
theorem dd_J_read_10 : decode cd_J_read 10 = .ok (.invokestatic 64, 3) := by decide +kernel
theorem dd_J_read_13 : decode cd_J_read 13 = .ok (.aload_n 0, 1) := by decide +kernel
theorem dd_J_read_14 : decode cd_J_read 14 = .ok (.iload_n 1, 1) := by decide +kernel
theorem dd_J_read_15 : decode cd_J_read 15 = .ok (.invokevirtual 105, 3) := by decide +kernel
theorem dd_J_read_18 : decode cd_J_read 18 = .ok (.astore_n 3, 1) := by decide +kernel
theorem dd_J_read_19 : decode cd_J_read 19 = .ok (.aload_n 3, 1) := by decide +kernel
theorem dd_J_read_20 : decode cd_J_read 20 = .ok (.getfield 109, 3) := by decide +kernel
theorem dd_J_read_23 : decode cd_J_read 23 = .ok (.invokestatic 133, 3) := by decide +kernel
theorem dd_J_read_26 : decode cd_J_read 26 = .ok (.ifCond .ne 13, 3) := by decide +kernel
theorem dd_J_read_29 : decode cd_J_read 29 = .ok (.new 47, 3) := by decide +kernel
theorem dd_J_read_32 : decode cd_J_read 32 = .ok (.dup, 1) := by decide +kernel
theorem dd_J_read_33 : decode cd_J_read 33 = .ok (.ldc 136, 2) := by decide +kernel
theorem dd_J_read_35 : decode cd_J_read 35 = .ok (.invokespecial 51, 3) := by decide +kernel
theorem dd_J_read_38 : decode cd_J_read 38 = .ok (.athrow, 1) := by decide +kernel
theorem dd_J_read_39 : decode cd_J_read 39 = .ok (.iconst 0, 1) := by decide +kernel
theorem dd_J_read_40 : decode cd_J_read 40 = .ok (.aload_n 0, 1) := by decide +kernel
theorem dd_J_read_41 : decode cd_J_read 41 = .ok (.getfield 21, 3) := by decide +kernel
theorem dd_J_read_44 : decode cd_J_read 44 = .ok (.aload_n 3, 1) := by decide +kernel
theorem dd_J_read_45 : decode cd_J_read 45 = .ok (.getfield 118, 3) := by decide +kernel
theorem dd_J_read_48 : decode cd_J_read 48 = .ok (.invokevirtual 96, 3) := by decide +kernel
theorem dd_J_read_51 : decode cd_J_read 51 = .ok (.aload_n 3, 1) := by decide +kernel
theorem dd_J_read_52 : decode cd_J_read 52 = .ok (.getfield 115, 3) := by decide +kernel
theorem dd_J_read_55 : decode cd_J_read 55 = .ok (.isub, 1) := by decide +kernel
theorem dd_J_read_56 : decode cd_J_read 56 = .ok (.invokestatic 121, 3) := by decide +kernel
theorem dd_J_read_59 : decode cd_J_read 59 = .ok (.istore 4, 2) := by decide +kernel
theorem dd_J_read_61 : decode cd_J_read 61 = .ok (.iload_n 2, 1) := by decide +kernel
theorem dd_J_read_62 : decode cd_J_read 62 = .ok (.iload 4, 2) := by decide +kernel
theorem dd_J_read_64 : decode cd_J_read 64 = .ok (.invokestatic 138, 3) := by decide +kernel
theorem dd_J_read_67 : decode cd_J_read 67 = .ok (.istore 5, 2) := by decide +kernel
theorem dd_J_read_69 : decode cd_J_read 69 = .ok (.lconst 0, 1) := by decide +kernel
theorem dd_J_read_70 : decode cd_J_read 70 = .ok (.lstore 6, 2) := by decide +kernel
theorem dd_J_read_72 : decode cd_J_read 72 = .ok (.iconst 0, 1) := by decide +kernel
theorem dd_J_read_73 : decode cd_J_read 73 = .ok (.istore 8, 2) := by decide +kernel
theorem dd_J_read_75 : decode cd_J_read 75 = .ok (.iload 8, 2) := by decide +kernel
theorem dd_J_read_77 : decode cd_J_read 77 = .ok (.iload 5, 2) := by decide +kernel
theorem dd_J_read_79 : decode cd_J_read 79 = .ok (.if_icmp .ge 39, 3) := by decide +kernel
theorem dd_J_read_82 : decode cd_J_read 82 = .ok (.lload 6, 2) := by decide +kernel
theorem dd_J_read_84 : decode cd_J_read 84 = .ok (.aload_n 0, 1) := by decide +kernel
theorem dd_J_read_85 : decode cd_J_read 85 = .ok (.getfield 21, 3) := by decide +kernel
theorem dd_J_read_88 : decode cd_J_read 88 = .ok (.aload_n 3, 1) := by decide +kernel
theorem dd_J_read_89 : decode cd_J_read 89 = .ok (.getfield 118, 3) := by decide +kernel
theorem dd_J_read_92 : decode cd_J_read 92 = .ok (.aload_n 3, 1) := by decide +kernel
theorem dd_J_read_93 : decode cd_J_read 93 = .ok (.getfield 115, 3) := by decide +kernel
theorem dd_J_read_96 : decode cd_J_read 96 = .ok (.iload 8, 2) := by decide +kernel
theorem dd_J_read_98 : decode cd_J_read 98 = .ok (.iadd, 1) := by decide +kernel
theorem dd_J_read_99 : decode cd_J_read 99 = .ok (.invokevirtual 141, 3) := by decide +kernel
theorem dd_J_read_102 : decode cd_J_read 102 = .ok (.i2l, 1) := by decide +kernel
theorem dd_J_read_103 : decode cd_J_read 103 = .ok (.bipush 8, 2) := by decide +kernel
theorem dd_J_read_105 : decode cd_J_read 105 = .ok (.iload 8, 2) := by decide +kernel
theorem dd_J_read_107 : decode cd_J_read 107 = .ok (.imul, 1) := by decide +kernel
theorem dd_J_read_108 : decode cd_J_read 108 = .ok (.lshl, 1) := by decide +kernel
theorem dd_J_read_109 : decode cd_J_read 109 = .ok (.lor, 1) := by decide +kernel
theorem dd_J_read_110 : decode cd_J_read 110 = .ok (.lstore 6, 2) := by decide +kernel
theorem dd_J_read_112 : decode cd_J_read 112 = .ok (.iinc 8 1, 3) := by decide +kernel
theorem dd_J_read_115 : decode cd_J_read 115 = .ok (.goto (-40), 3) := by decide +kernel
theorem dd_J_read_118 : decode cd_J_read 118 = .ok (.aload_n 3, 1) := by decide +kernel
theorem dd_J_read_119 : decode cd_J_read 119 = .ok (.dup, 1) := by decide +kernel
theorem dd_J_read_120 : decode cd_J_read 120 = .ok (.getfield 115, 3) := by decide +kernel
theorem dd_J_read_123 : decode cd_J_read 123 = .ok (.iload 5, 2) := by decide +kernel
theorem dd_J_read_125 : decode cd_J_read 125 = .ok (.iadd, 1) := by decide +kernel
theorem dd_J_read_126 : decode cd_J_read 126 = .ok (.putfield 115, 3) := by decide +kernel
theorem dd_J_read_129 : decode cd_J_read 129 = .ok (.lload 6, 2) := by decide +kernel
theorem dd_J_read_131 : decode cd_J_read 131 = .ok (.lreturn, 1) := by decide +kernel
theorem dd_J_readsBy_0 : decode cd_J_readsBy 0 = .ok (.iload_n 0, 1) := by decide +kernel
theorem dd_J_readsBy_1 : decode cd_J_readsBy 1 = .ok (.iconst 1, 1) := by decide +kernel
theorem dd_J_readsBy_2 : decode cd_J_readsBy 2 = .ok (.if_icmp .eq 8, 3) := by decide +kernel
theorem dd_J_readsBy_5 : decode cd_J_readsBy 5 = .ok (.iload_n 0, 1) := by decide +kernel
theorem dd_J_readsBy_6 : decode cd_J_readsBy 6 = .ok (.iconst 3, 1) := by decide +kernel
theorem dd_J_readsBy_7 : decode cd_J_readsBy 7 = .ok (.if_icmp .ne 7, 3) := by decide +kernel
theorem dd_J_readsBy_10 : decode cd_J_readsBy 10 = .ok (.iconst 1, 1) := by decide +kernel
theorem dd_J_readsBy_11 : decode cd_J_readsBy 11 = .ok (.goto 4, 3) := by decide +kernel
theorem dd_J_readsBy_14 : decode cd_J_readsBy 14 = .ok (.iconst 0, 1) := by decide +kernel
theorem dd_J_readsBy_15 : decode cd_J_readsBy 15 = .ok (.ireturn, 1) := by decide +kernel
theorem dd_J_seek_0 : decode cd_J_seek 0 = .ok (.iload_n 1, 1) := by decide +kernel
theorem dd_J_seek_1 : decode cd_J_seek 1 = .ok (.iconst 0, 1) := by decide +kernel
theorem dd_J_seek_2 : decode cd_J_seek 2 = .ok (.iconst 5, 1) := by decide +kernel
theorem dd_J_seek_3 : decode cd_J_seek 3 = .ok (.invokestatic 64, 3) := by decide +kernel
theorem dd_J_seek_6 : decode cd_J_seek 6 = .ok (.iload_n 2, 1) := by decide +kernel
theorem dd_J_seek_7 : decode cd_J_seek 7 = .ok (.iconst 0, 1) := by decide +kernel
theorem dd_J_seek_8 : decode cd_J_seek 8 = .ok (.bipush 64, 2) := by decide +kernel
theorem dd_J_seek_10 : decode cd_J_seek 10 = .ok (.invokestatic 64, 3) := by decide +kernel
theorem dd_J_seek_13 : decode cd_J_seek 13 = .ok (.aload_n 0, 1) := by decide +kernel
theorem dd_J_seek_14 : decode cd_J_seek 14 = .ok (.iload_n 1, 1) := by decide +kernel
theorem dd_J_seek_15 : decode cd_J_seek 15 = .ok (.invokevirtual 105, 3) := by decide +kernel
theorem dd_J_seek_18 : decode cd_J_seek 18 = .ok (.astore_n 3, 1) := by decide +kernel
theorem dd_J_seek_19 : decode cd_J_seek 19 = .ok (.aload_n 3, 1) := by decide +kernel
theorem dd_J_seek_20 : decode cd_J_seek 20 = .ok (.getfield 109, 3) := by decide +kernel
theorem dd_J_seek_23 : decode cd_J_seek 23 = .ok (.iconst 4, 1) := by decide +kernel
theorem dd_J_seek_24 : decode cd_J_seek 24 = .ok (.if_icmp .ne 13, 3) := by decide +kernel
theorem dd_J_seek_27 : decode cd_J_seek 27 = .ok (.new 47, 3) := by decide +kernel
theorem dd_J_seek_30 : decode cd_J_seek 30 = .ok (.dup, 1) := by decide +kernel
theorem dd_J_seek_31 : decode cd_J_seek 31 = .ok (.ldc 144, 2) := by decide +kernel
theorem dd_J_seek_33 : decode cd_J_seek 33 = .ok (.invokespecial 51, 3) := by decide +kernel
theorem dd_J_seek_36 : decode cd_J_seek 36 = .ok (.athrow, 1) := by decide +kernel
theorem dd_J_seek_37 : decode cd_J_seek 37 = .ok (.aload_n 3, 1) := by decide +kernel
theorem dd_J_seek_38 : decode cd_J_seek 38 = .ok (.iload_n 2, 1) := by decide +kernel
theorem dd_J_seek_39 : decode cd_J_seek 39 = .ok (.putfield 115, 3) := by decide +kernel
theorem dd_J_seek_42 : decode cd_J_seek 42 = .ok (.return_, 1) := by decide +kernel
theorem dd_J_next_0 : decode cd_J_next 0 = .ok (.iload_n 1, 1) := by decide +kernel
theorem dd_J_next_1 : decode cd_J_next 1 = .ok (.iconst 0, 1) := by decide +kernel
theorem dd_J_next_2 : decode cd_J_next 2 = .ok (.iconst 5, 1) := by decide +kernel
theorem dd_J_next_3 : decode cd_J_next 3 = .ok (.invokestatic 64, 3) := by decide +kernel
theorem dd_J_next_6 : decode cd_J_next 6 = .ok (.aload_n 0, 1) := by decide +kernel
theorem dd_J_next_7 : decode cd_J_next 7 = .ok (.iload_n 1, 1) := by decide +kernel
theorem dd_J_next_8 : decode cd_J_next 8 = .ok (.invokevirtual 105, 3) := by decide +kernel
theorem dd_J_next_11 : decode cd_J_next 11 = .ok (.astore_n 2, 1) := by decide +kernel
theorem dd_J_next_12 : decode cd_J_next 12 = .ok (.aload_n 2, 1) := by decide +kernel
theorem dd_J_next_13 : decode cd_J_next 13 = .ok (.getfield 109, 3) := by decide +kernel
theorem dd_J_next_16 : decode cd_J_next 16 = .ok (.iconst 4, 1) := by decide +kernel
theorem dd_J_next_17 : decode cd_J_next 17 = .ok (.if_icmp .eq 13, 3) := by decide +kernel
theorem dd_J_next_20 : decode cd_J_next 20 = .ok (.new 47, 3) := by decide +kernel
theorem dd_J_next_23 : decode cd_J_next 23 = .ok (.dup, 1) := by decide +kernel
theorem dd_J_next_24 : decode cd_J_next 24 = .ok (.ldc 146, 2) := by decide +kernel
theorem dd_J_next_26 : decode cd_J_next 26 = .ok (.invokespecial 51, 3) := by decide +kernel
theorem dd_J_next_29 : decode cd_J_next 29 = .ok (.athrow, 1) := by decide +kernel
theorem dd_J_next_30 : decode cd_J_next 30 = .ok (.aload_n 2, 1) := by decide +kernel
theorem dd_J_next_31 : decode cd_J_next 31 = .ok (.getfield 115, 3) := by decide +kernel
theorem dd_J_next_34 : decode cd_J_next 34 = .ok (.aload_n 0, 1) := by decide +kernel
theorem dd_J_next_35 : decode cd_J_next 35 = .ok (.getfield 21, 3) := by decide +kernel
theorem dd_J_next_38 : decode cd_J_next 38 = .ok (.aload_n 2, 1) := by decide +kernel
theorem dd_J_next_39 : decode cd_J_next 39 = .ok (.getfield 118, 3) := by decide +kernel
theorem dd_J_next_42 : decode cd_J_next 42 = .ok (.invokevirtual 148, 3) := by decide +kernel
theorem dd_J_next_45 : decode cd_J_next 45 = .ok (.if_icmp .lt 5, 3) := by decide +kernel
theorem dd_J_next_48 : decode cd_J_next 48 = .ok (.iconst 0, 1) := by decide +kernel
theorem dd_J_next_49 : decode cd_J_next 49 = .ok (.ireturn, 1) := by decide +kernel
theorem dd_J_next_50 : decode cd_J_next 50 = .ok (.aload_n 0, 1) := by decide +kernel
theorem dd_J_next_51 : decode cd_J_next 51 = .ok (.getfield 21, 3) := by decide +kernel
theorem dd_J_next_54 : decode cd_J_next 54 = .ok (.aload_n 2, 1) := by decide +kernel
theorem dd_J_next_55 : decode cd_J_next 55 = .ok (.getfield 118, 3) := by decide +kernel
theorem dd_J_next_58 : decode cd_J_next 58 = .ok (.aload_n 2, 1) := by decide +kernel
theorem dd_J_next_59 : decode cd_J_next 59 = .ok (.getfield 115, 3) := by decide +kernel
theorem dd_J_next_62 : decode cd_J_next 62 = .ok (.invokevirtual 151, 3) := by decide +kernel
theorem dd_J_next_65 : decode cd_J_next 65 = .ok (.istore_n 3, 1) := by decide +kernel
theorem dd_J_next_66 : decode cd_J_next 66 = .ok (.aload_n 2, 1) := by decide +kernel
theorem dd_J_next_67 : decode cd_J_next 67 = .ok (.dup, 1) := by decide +kernel
theorem dd_J_next_68 : decode cd_J_next 68 = .ok (.getfield 115, 3) := by decide +kernel
theorem dd_J_next_71 : decode cd_J_next 71 = .ok (.iconst 1, 1) := by decide +kernel
theorem dd_J_next_72 : decode cd_J_next 72 = .ok (.iadd, 1) := by decide +kernel
theorem dd_J_next_73 : decode cd_J_next 73 = .ok (.putfield 115, 3) := by decide +kernel
theorem dd_J_next_76 : decode cd_J_next 76 = .ok (.iload_n 3, 1) := by decide +kernel
theorem dd_J_next_77 : decode cd_J_next 77 = .ok (.ireturn, 1) := by decide +kernel
theorem dd_J_remove_0 : decode cd_J_remove 0 = .ok (.iload_n 1, 1) := by decide +kernel
theorem dd_J_remove_1 : decode cd_J_remove 1 = .ok (.invokestatic 39, 3) := by decide +kernel
theorem dd_J_remove_4 : decode cd_J_remove 4 = .ok (.aload_n 0, 1) := by decide +kernel
theorem dd_J_remove_5 : decode cd_J_remove 5 = .ok (.iload_n 1, 1) := by decide +kernel
theorem dd_J_remove_6 : decode cd_J_remove 6 = .ok (.invokevirtual 154, 3) := by decide +kernel
theorem dd_J_remove_9 : decode cd_J_remove 9 = .ok (.istore_n 2, 1) := by decide +kernel
theorem dd_J_remove_10 : decode cd_J_remove 10 = .ok (.iload_n 2, 1) := by decide +kernel
theorem dd_J_remove_11 : decode cd_J_remove 11 = .ok (.ifCond .ne 13, 3) := by decide +kernel
theorem dd_J_remove_14 : decode cd_J_remove 14 = .ok (.new 47, 3) := by decide +kernel
theorem dd_J_remove_17 : decode cd_J_remove 17 = .ok (.dup, 1) := by decide +kernel
theorem dd_J_remove_18 : decode cd_J_remove 18 = .ok (.ldc 157, 2) := by decide +kernel
theorem dd_J_remove_20 : decode cd_J_remove 20 = .ok (.invokespecial 51, 3) := by decide +kernel
theorem dd_J_remove_23 : decode cd_J_remove 23 = .ok (.athrow, 1) := by decide +kernel
theorem dd_J_remove_24 : decode cd_J_remove 24 = .ok (.aload_n 0, 1) := by decide +kernel
theorem dd_J_remove_25 : decode cd_J_remove 25 = .ok (.getfield 21, 3) := by decide +kernel
theorem dd_J_remove_28 : decode cd_J_remove 28 = .ok (.iload_n 2, 1) := by decide +kernel
theorem dd_J_remove_29 : decode cd_J_remove 29 = .ok (.invokevirtual 148, 3) := by decide +kernel
theorem dd_J_remove_32 : decode cd_J_remove 32 = .ok (.ifCond .le 13, 3) := by decide +kernel
theorem dd_J_remove_35 : decode cd_J_remove 35 = .ok (.new 47, 3) := by decide +kernel
theorem dd_J_remove_38 : decode cd_J_remove 38 = .ok (.dup, 1) := by decide +kernel
theorem dd_J_remove_39 : decode cd_J_remove 39 = .ok (.ldc 159, 2) := by decide +kernel
theorem dd_J_remove_41 : decode cd_J_remove 41 = .ok (.invokespecial 51, 3) := by decide +kernel
theorem dd_J_remove_44 : decode cd_J_remove 44 = .ok (.athrow, 1) := by decide +kernel
theorem dd_J_remove_45 : decode cd_J_remove 45 = .ok (.aload_n 0, 1) := by decide +kernel
theorem dd_J_remove_46 : decode cd_J_remove 46 = .ok (.getfield 21, 3) := by decide +kernel
theorem dd_J_remove_49 : decode cd_J_remove 49 = .ok (.aload_n 0, 1) := by decide +kernel
theorem dd_J_remove_50 : decode cd_J_remove 50 = .ok (.iload_n 1, 1) := by decide +kernel
theorem dd_J_remove_51 : decode cd_J_remove 51 = .ok (.invokestatic 161, 3) := by decide +kernel
theorem dd_J_remove_54 : decode cd_J_remove 54 = .ok (.invokevirtual 43, 3) := by decide +kernel
theorem dd_J_remove_57 : decode cd_J_remove 57 = .ok (.iload_n 1, 1) := by decide +kernel
theorem dd_J_remove_58 : decode cd_J_remove 58 = .ok (.sipush 255, 3) := by decide +kernel
theorem dd_J_remove_61 : decode cd_J_remove 61 = .ok (.iand, 1) := by decide +kernel
theorem dd_J_remove_62 : decode cd_J_remove 62 = .ok (.invokevirtual 164, 3) := by decide +kernel
theorem dd_J_remove_65 : decode cd_J_remove 65 = .ok (.aload_n 0, 1) := by decide +kernel
theorem dd_J_remove_66 : decode cd_J_remove 66 = .ok (.getfield 21, 3) := by decide +kernel
theorem dd_J_remove_69 : decode cd_J_remove 69 = .ok (.iload_n 2, 1) := by decide +kernel
theorem dd_J_remove_70 : decode cd_J_remove 70 = .ok (.invokevirtual 167, 3) := by decide +kernel
theorem dd_J_remove_73 : decode cd_J_remove 73 = .ok (.return_, 1) := by decide +kernel
theorem dd_J_inodeNeeded_0 : decode cd_J_inodeNeeded 0 = .ok (.aload_n 0, 1) := by decide +kernel
theorem dd_J_inodeNeeded_1 : decode cd_J_inodeNeeded 1 = .ok (.iload_n 1, 1) := by decide +kernel
theorem dd_J_inodeNeeded_2 : decode cd_J_inodeNeeded 2 = .ok (.invokevirtual 43, 3) := by decide +kernel
theorem dd_J_inodeNeeded_5 : decode cd_J_inodeNeeded 5 = .ok (.istore_n 2, 1) := by decide +kernel
theorem dd_J_inodeNeeded_6 : decode cd_J_inodeNeeded 6 = .ok (.iload_n 2, 1) := by decide +kernel
theorem dd_J_inodeNeeded_7 : decode cd_J_inodeNeeded 7 = .ok (.iconst (-1), 1) := by decide +kernel
theorem dd_J_inodeNeeded_8 : decode cd_J_inodeNeeded 8 = .ok (.if_icmp .ne 13, 3) := by decide +kernel
theorem dd_J_inodeNeeded_11 : decode cd_J_inodeNeeded 11 = .ok (.new 72, 3) := by decide +kernel
theorem dd_J_inodeNeeded_14 : decode cd_J_inodeNeeded 14 = .ok (.dup, 1) := by decide +kernel
theorem dd_J_inodeNeeded_15 : decode cd_J_inodeNeeded 15 = .ok (.ldc 242, 2) := by decide +kernel
theorem dd_J_inodeNeeded_17 : decode cd_J_inodeNeeded 17 = .ok (.invokespecial 76, 3) := by decide +kernel
theorem dd_J_inodeNeeded_20 : decode cd_J_inodeNeeded 20 = .ok (.athrow, 1) := by decide +kernel
theorem dd_J_inodeNeeded_21 : decode cd_J_inodeNeeded 21 = .ok (.iload_n 2, 1) := by decide +kernel
theorem dd_J_inodeNeeded_22 : decode cd_J_inodeNeeded 22 = .ok (.ireturn, 1) := by decide +kernel
theorem dd_J_rename_0 : decode cd_J_rename 0 = .ok (.iload_n 1, 1) := by decide +kernel
theorem dd_J_rename_1 : decode cd_J_rename 1 = .ok (.invokestatic 39, 3) := by decide +kernel
theorem dd_J_rename_4 : decode cd_J_rename 4 = .ok (.iload_n 2, 1) := by decide +kernel
theorem dd_J_rename_5 : decode cd_J_rename 5 = .ok (.invokestatic 39, 3) := by decide +kernel
theorem dd_J_rename_8 : decode cd_J_rename 8 = .ok (.aload_n 0, 1) := by decide +kernel
theorem dd_J_rename_9 : decode cd_J_rename 9 = .ok (.iload_n 1, 1) := by decide +kernel
theorem dd_J_rename_10 : decode cd_J_rename 10 = .ok (.invokevirtual 154, 3) := by decide +kernel
theorem dd_J_rename_13 : decode cd_J_rename 13 = .ok (.istore_n 3, 1) := by decide +kernel
theorem dd_J_rename_14 : decode cd_J_rename 14 = .ok (.aload_n 0, 1) := by decide +kernel
theorem dd_J_rename_15 : decode cd_J_rename 15 = .ok (.iload_n 2, 1) := by decide +kernel
theorem dd_J_rename_16 : decode cd_J_rename 16 = .ok (.invokevirtual 43, 3) := by decide +kernel
theorem dd_J_rename_19 : decode cd_J_rename 19 = .ok (.istore 4, 2) := by decide +kernel
theorem dd_J_rename_21 : decode cd_J_rename 21 = .ok (.aload_n 0, 1) := by decide +kernel
theorem dd_J_rename_22 : decode cd_J_rename 22 = .ok (.iload_n 2, 1) := by decide +kernel
theorem dd_J_rename_23 : decode cd_J_rename 23 = .ok (.invokevirtual 54, 3) := by decide +kernel
theorem dd_J_rename_26 : decode cd_J_rename 26 = .ok (.istore 5, 2) := by decide +kernel
theorem dd_J_rename_28 : decode cd_J_rename 28 = .ok (.aload_n 0, 1) := by decide +kernel
theorem dd_J_rename_29 : decode cd_J_rename 29 = .ok (.iload_n 1, 1) := by decide +kernel
theorem dd_J_rename_30 : decode cd_J_rename 30 = .ok (.iload_n 2, 1) := by decide +kernel
theorem dd_J_rename_31 : decode cd_J_rename 31 = .ok (.iload_n 3, 1) := by decide +kernel
theorem dd_J_rename_32 : decode cd_J_rename 32 = .ok (.iload 4, 2) := by decide +kernel
theorem dd_J_rename_34 : decode cd_J_rename 34 = .ok (.invokevirtual 170, 3) := by decide +kernel
theorem dd_J_rename_37 : decode cd_J_rename 37 = .ok (.aload_n 0, 1) := by decide +kernel
theorem dd_J_rename_38 : decode cd_J_rename 38 = .ok (.iload_n 1, 1) := by decide +kernel
theorem dd_J_rename_39 : decode cd_J_rename 39 = .ok (.invokestatic 161, 3) := by decide +kernel
theorem dd_J_rename_42 : decode cd_J_rename 42 = .ok (.invokevirtual 43, 3) := by decide +kernel
theorem dd_J_rename_45 : decode cd_J_rename 45 = .ok (.istore 6, 2) := by decide +kernel
theorem dd_J_rename_47 : decode cd_J_rename 47 = .ok (.iload 4, 2) := by decide +kernel
theorem dd_J_rename_49 : decode cd_J_rename 49 = .ok (.iconst (-1), 1) := by decide +kernel
theorem dd_J_rename_50 : decode cd_J_rename 50 = .ok (.if_icmp .ne 24, 3) := by decide +kernel
theorem dd_J_rename_53 : decode cd_J_rename 53 = .ok (.aload_n 0, 1) := by decide +kernel
theorem dd_J_rename_54 : decode cd_J_rename 54 = .ok (.iload 6, 2) := by decide +kernel
theorem dd_J_rename_56 : decode cd_J_rename 56 = .ok (.iload 5, 2) := by decide +kernel
theorem dd_J_rename_58 : decode cd_J_rename 58 = .ok (.invokevirtual 174, 3) := by decide +kernel
theorem dd_J_rename_61 : decode cd_J_rename 61 = .ok (.ifCond .ne 13, 3) := by decide +kernel
theorem dd_J_rename_64 : decode cd_J_rename 64 = .ok (.new 178, 3) := by decide +kernel
theorem dd_J_rename_67 : decode cd_J_rename 67 = .ok (.dup, 1) := by decide +kernel
theorem dd_J_rename_68 : decode cd_J_rename 68 = .ok (.ldc 180, 2) := by decide +kernel
theorem dd_J_rename_70 : decode cd_J_rename 70 = .ok (.invokespecial 182, 3) := by decide +kernel
theorem dd_J_rename_73 : decode cd_J_rename 73 = .ok (.athrow, 1) := by decide +kernel
theorem dd_J_rename_74 : decode cd_J_rename 74 = .ok (.aload_n 0, 1) := by decide +kernel
theorem dd_J_rename_75 : decode cd_J_rename 75 = .ok (.getfield 21, 3) := by decide +kernel
theorem dd_J_rename_78 : decode cd_J_rename 78 = .ok (.iload 6, 2) := by decide +kernel
theorem dd_J_rename_80 : decode cd_J_rename 80 = .ok (.iload_n 1, 1) := by decide +kernel
theorem dd_J_rename_81 : decode cd_J_rename 81 = .ok (.sipush 255, 3) := by decide +kernel
theorem dd_J_rename_84 : decode cd_J_rename 84 = .ok (.iand, 1) := by decide +kernel
theorem dd_J_rename_85 : decode cd_J_rename 85 = .ok (.invokevirtual 164, 3) := by decide +kernel
theorem dd_J_rename_88 : decode cd_J_rename 88 = .ok (.iload 4, 2) := by decide +kernel
theorem dd_J_rename_90 : decode cd_J_rename 90 = .ok (.iconst (-1), 1) := by decide +kernel
theorem dd_J_rename_91 : decode cd_J_rename 91 = .ok (.if_icmp .ne 21, 3) := by decide +kernel
theorem dd_J_rename_94 : decode cd_J_rename 94 = .ok (.aload_n 0, 1) := by decide +kernel
theorem dd_J_rename_95 : decode cd_J_rename 95 = .ok (.getfield 21, 3) := by decide +kernel
theorem dd_J_rename_98 : decode cd_J_rename 98 = .ok (.iload 5, 2) := by decide +kernel
theorem dd_J_rename_100 : decode cd_J_rename 100 = .ok (.iload_n 2, 1) := by decide +kernel
theorem dd_J_rename_101 : decode cd_J_rename 101 = .ok (.sipush 255, 3) := by decide +kernel
theorem dd_J_rename_104 : decode cd_J_rename 104 = .ok (.iand, 1) := by decide +kernel
theorem dd_J_rename_105 : decode cd_J_rename 105 = .ok (.iload_n 3, 1) := by decide +kernel
theorem dd_J_rename_106 : decode cd_J_rename 106 = .ok (.invokevirtual 183, 3) := by decide +kernel
theorem dd_J_rename_109 : decode cd_J_rename 109 = .ok (.goto 27, 3) := by decide +kernel
theorem dd_J_rename_112 : decode cd_J_rename 112 = .ok (.aload_n 0, 1) := by decide +kernel
theorem dd_J_rename_113 : decode cd_J_rename 113 = .ok (.getfield 21, 3) := by decide +kernel
theorem dd_J_rename_116 : decode cd_J_rename 116 = .ok (.iload 5, 2) := by decide +kernel
theorem dd_J_rename_118 : decode cd_J_rename 118 = .ok (.iload_n 2, 1) := by decide +kernel
theorem dd_J_rename_119 : decode cd_J_rename 119 = .ok (.sipush 255, 3) := by decide +kernel
theorem dd_J_rename_122 : decode cd_J_rename 122 = .ok (.iand, 1) := by decide +kernel
theorem dd_J_rename_123 : decode cd_J_rename 123 = .ok (.iload_n 3, 1) := by decide +kernel
theorem dd_J_rename_124 : decode cd_J_rename 124 = .ok (.invokevirtual 186, 3) := by decide +kernel
theorem dd_J_rename_127 : decode cd_J_rename 127 = .ok (.aload_n 0, 1) := by decide +kernel
theorem dd_J_rename_128 : decode cd_J_rename 128 = .ok (.getfield 21, 3) := by decide +kernel
theorem dd_J_rename_131 : decode cd_J_rename 131 = .ok (.iload 4, 2) := by decide +kernel
theorem dd_J_rename_133 : decode cd_J_rename 133 = .ok (.invokevirtual 167, 3) := by decide +kernel
theorem dd_J_rename_136 : decode cd_J_rename 136 = .ok (.return_, 1) := by decide +kernel
theorem dd_J_checkMove_0 : decode cd_J_checkMove 0 = .ok (.iload_n 1, 1) := by decide +kernel
theorem dd_J_checkMove_1 : decode cd_J_checkMove 1 = .ok (.ifCond .eq 15, 3) := by decide +kernel
theorem dd_J_checkMove_4 : decode cd_J_checkMove 4 = .ok (.iload_n 2, 1) := by decide +kernel
theorem dd_J_checkMove_5 : decode cd_J_checkMove 5 = .ok (.ifCond .eq 11, 3) := by decide +kernel
theorem dd_J_checkMove_8 : decode cd_J_checkMove 8 = .ok (.iload_n 2, 1) := by decide +kernel
theorem dd_J_checkMove_9 : decode cd_J_checkMove 9 = .ok (.iload_n 1, 1) := by decide +kernel
theorem dd_J_checkMove_10 : decode cd_J_checkMove 10 = .ok (.invokestatic 259, 3) := by decide +kernel
theorem dd_J_checkMove_13 : decode cd_J_checkMove 13 = .ok (.ifCond .eq 14, 3) := by decide +kernel
theorem dd_J_checkMove_16 : decode cd_J_checkMove 16 = .ok (.new 47, 3) := by decide +kernel
theorem dd_J_checkMove_19 : decode cd_J_checkMove 19 = .ok (.dup, 1) := by decide +kernel
theorem dd_J_checkMove_20 : decode cd_J_checkMove 20 = .ok (.ldc_w 262, 3) := by decide +kernel
theorem dd_J_checkMove_23 : decode cd_J_checkMove 23 = .ok (.invokespecial 51, 3) := by decide +kernel
theorem dd_J_checkMove_26 : decode cd_J_checkMove 26 = .ok (.athrow, 1) := by decide +kernel
theorem dd_J_checkMove_27 : decode cd_J_checkMove 27 = .ok (.iload 4, 2) := by decide +kernel
theorem dd_J_checkMove_29 : decode cd_J_checkMove 29 = .ok (.iconst (-1), 1) := by decide +kernel
theorem dd_J_checkMove_30 : decode cd_J_checkMove 30 = .ok (.if_icmp .ne 4, 3) := by decide +kernel
theorem dd_J_checkMove_33 : decode cd_J_checkMove 33 = .ok (.return_, 1) := by decide +kernel
theorem dd_J_checkMove_34 : decode cd_J_checkMove 34 = .ok (.aload_n 0, 1) := by decide +kernel
theorem dd_J_checkMove_35 : decode cd_J_checkMove 35 = .ok (.getfield 21, 3) := by decide +kernel
theorem dd_J_checkMove_38 : decode cd_J_checkMove 38 = .ok (.iload_n 3, 1) := by decide +kernel
theorem dd_J_checkMove_39 : decode cd_J_checkMove 39 = .ok (.invokevirtual 85, 3) := by decide +kernel
theorem dd_J_checkMove_42 : decode cd_J_checkMove 42 = .ok (.iconst 1, 1) := by decide +kernel
theorem dd_J_checkMove_43 : decode cd_J_checkMove 43 = .ok (.if_icmp .ne 16, 3) := by decide +kernel
theorem dd_J_checkMove_46 : decode cd_J_checkMove 46 = .ok (.aload_n 0, 1) := by decide +kernel
theorem dd_J_checkMove_47 : decode cd_J_checkMove 47 = .ok (.getfield 21, 3) := by decide +kernel
theorem dd_J_checkMove_50 : decode cd_J_checkMove 50 = .ok (.iload 4, 2) := by decide +kernel
theorem dd_J_checkMove_52 : decode cd_J_checkMove 52 = .ok (.invokevirtual 85, 3) := by decide +kernel
theorem dd_J_checkMove_55 : decode cd_J_checkMove 55 = .ok (.iconst 1, 1) := by decide +kernel
theorem dd_J_checkMove_56 : decode cd_J_checkMove 56 = .ok (.if_icmp .eq 14, 3) := by decide +kernel
theorem dd_J_checkMove_59 : decode cd_J_checkMove 59 = .ok (.new 47, 3) := by decide +kernel
theorem dd_J_checkMove_62 : decode cd_J_checkMove 62 = .ok (.dup, 1) := by decide +kernel
theorem dd_J_checkMove_63 : decode cd_J_checkMove 63 = .ok (.ldc_w 264, 3) := by decide +kernel
theorem dd_J_checkMove_66 : decode cd_J_checkMove 66 = .ok (.invokespecial 51, 3) := by decide +kernel
theorem dd_J_checkMove_69 : decode cd_J_checkMove 69 = .ok (.athrow, 1) := by decide +kernel
theorem dd_J_checkMove_70 : decode cd_J_checkMove 70 = .ok (.return_, 1) := by decide +kernel
theorem dd_J_isAtOrBelow_0 : decode cd_J_isAtOrBelow 0 = .ok (.iload_n 0, 1) := by decide +kernel
theorem dd_J_isAtOrBelow_1 : decode cd_J_isAtOrBelow 1 = .ok (.istore_n 2, 1) := by decide +kernel
theorem dd_J_isAtOrBelow_2 : decode cd_J_isAtOrBelow 2 = .ok (.iconst 0, 1) := by decide +kernel
theorem dd_J_isAtOrBelow_3 : decode cd_J_isAtOrBelow 3 = .ok (.istore_n 3, 1) := by decide +kernel
theorem dd_J_isAtOrBelow_4 : decode cd_J_isAtOrBelow 4 = .ok (.iload_n 3, 1) := by decide +kernel
theorem dd_J_isAtOrBelow_5 : decode cd_J_isAtOrBelow 5 = .ok (.iconst 4, 1) := by decide +kernel
theorem dd_J_isAtOrBelow_6 : decode cd_J_isAtOrBelow 6 = .ok (.if_icmp .ge 21, 3) := by decide +kernel
theorem dd_J_isAtOrBelow_9 : decode cd_J_isAtOrBelow 9 = .ok (.iload_n 2, 1) := by decide +kernel
theorem dd_J_isAtOrBelow_10 : decode cd_J_isAtOrBelow 10 = .ok (.iload_n 1, 1) := by decide +kernel
theorem dd_J_isAtOrBelow_11 : decode cd_J_isAtOrBelow 11 = .ok (.if_icmp .ne 5, 3) := by decide +kernel
theorem dd_J_isAtOrBelow_14 : decode cd_J_isAtOrBelow 14 = .ok (.iconst 1, 1) := by decide +kernel
theorem dd_J_isAtOrBelow_15 : decode cd_J_isAtOrBelow 15 = .ok (.ireturn, 1) := by decide +kernel
theorem dd_J_isAtOrBelow_16 : decode cd_J_isAtOrBelow 16 = .ok (.iload_n 2, 1) := by decide +kernel
theorem dd_J_isAtOrBelow_17 : decode cd_J_isAtOrBelow 17 = .ok (.invokestatic 161, 3) := by decide +kernel
theorem dd_J_isAtOrBelow_20 : decode cd_J_isAtOrBelow 20 = .ok (.istore_n 2, 1) := by decide +kernel
theorem dd_J_isAtOrBelow_21 : decode cd_J_isAtOrBelow 21 = .ok (.iinc 3 1, 3) := by decide +kernel
theorem dd_J_isAtOrBelow_24 : decode cd_J_isAtOrBelow 24 = .ok (.goto (-20), 3) := by decide +kernel
theorem dd_J_isAtOrBelow_27 : decode cd_J_isAtOrBelow 27 = .ok (.iload_n 1, 1) := by decide +kernel
theorem dd_J_isAtOrBelow_28 : decode cd_J_isAtOrBelow 28 = .ok (.ifCond .ne 7, 3) := by decide +kernel
theorem dd_J_isAtOrBelow_31 : decode cd_J_isAtOrBelow 31 = .ok (.iconst 1, 1) := by decide +kernel
theorem dd_J_isAtOrBelow_32 : decode cd_J_isAtOrBelow 32 = .ok (.goto 4, 3) := by decide +kernel
theorem dd_J_isAtOrBelow_35 : decode cd_J_isAtOrBelow 35 = .ok (.iconst 0, 1) := by decide +kernel
theorem dd_J_isAtOrBelow_36 : decode cd_J_isAtOrBelow 36 = .ok (.ireturn, 1) := by decide +kernel
theorem dd_J_hasRoomAfterLeaving_0 : decode cd_J_hasRoomAfterLeaving 0 = .ok (.aload_n 0, 1) := by decide +kernel
theorem dd_J_hasRoomAfterLeaving_1 : decode cd_J_hasRoomAfterLeaving 1 = .ok (.getfield 21, 3) := by decide +kernel
theorem dd_J_hasRoomAfterLeaving_4 : decode cd_J_hasRoomAfterLeaving 4 = .ok (.iload_n 1, 1) := by decide +kernel
theorem dd_J_hasRoomAfterLeaving_5 : decode cd_J_hasRoomAfterLeaving 5 = .ok (.invokevirtual 148, 3) := by decide +kernel
theorem dd_J_hasRoomAfterLeaving_8 : decode cd_J_hasRoomAfterLeaving 8 = .ok (.iconst 1, 1) := by decide +kernel
theorem dd_J_hasRoomAfterLeaving_9 : decode cd_J_hasRoomAfterLeaving 9 = .ok (.isub, 1) := by decide +kernel
theorem dd_J_hasRoomAfterLeaving_10 : decode cd_J_hasRoomAfterLeaving 10 = .ok (.istore_n 3, 1) := by decide +kernel
theorem dd_J_hasRoomAfterLeaving_11 : decode cd_J_hasRoomAfterLeaving 11 = .ok (.iload_n 1, 1) := by decide +kernel
theorem dd_J_hasRoomAfterLeaving_12 : decode cd_J_hasRoomAfterLeaving 12 = .ok (.iload_n 2, 1) := by decide +kernel
theorem dd_J_hasRoomAfterLeaving_13 : decode cd_J_hasRoomAfterLeaving 13 = .ok (.if_icmp .ne 7, 3) := by decide +kernel
theorem dd_J_hasRoomAfterLeaving_16 : decode cd_J_hasRoomAfterLeaving 16 = .ok (.iload_n 3, 1) := by decide +kernel
theorem dd_J_hasRoomAfterLeaving_17 : decode cd_J_hasRoomAfterLeaving 17 = .ok (.goto 11, 3) := by decide +kernel
theorem dd_J_hasRoomAfterLeaving_20 : decode cd_J_hasRoomAfterLeaving 20 = .ok (.aload_n 0, 1) := by decide +kernel
theorem dd_J_hasRoomAfterLeaving_21 : decode cd_J_hasRoomAfterLeaving 21 = .ok (.getfield 21, 3) := by decide +kernel
theorem dd_J_hasRoomAfterLeaving_24 : decode cd_J_hasRoomAfterLeaving 24 = .ok (.iload_n 2, 1) := by decide +kernel
theorem dd_J_hasRoomAfterLeaving_25 : decode cd_J_hasRoomAfterLeaving 25 = .ok (.invokevirtual 148, 3) := by decide +kernel
theorem dd_J_hasRoomAfterLeaving_28 : decode cd_J_hasRoomAfterLeaving 28 = .ok (.istore 4, 2) := by decide +kernel
theorem dd_J_hasRoomAfterLeaving_30 : decode cd_J_hasRoomAfterLeaving 30 = .ok (.iload 4, 2) := by decide +kernel
theorem dd_J_hasRoomAfterLeaving_32 : decode cd_J_hasRoomAfterLeaving 32 = .ok (.bipush 16, 2) := by decide +kernel
theorem dd_J_hasRoomAfterLeaving_34 : decode cd_J_hasRoomAfterLeaving 34 = .ok (.if_icmp .lt 5, 3) := by decide +kernel
theorem dd_J_hasRoomAfterLeaving_37 : decode cd_J_hasRoomAfterLeaving 37 = .ok (.iconst 0, 1) := by decide +kernel
theorem dd_J_hasRoomAfterLeaving_38 : decode cd_J_hasRoomAfterLeaving 38 = .ok (.ireturn, 1) := by decide +kernel
theorem dd_J_hasRoomAfterLeaving_39 : decode cd_J_hasRoomAfterLeaving 39 = .ok (.iload_n 3, 1) := by decide +kernel
theorem dd_J_hasRoomAfterLeaving_40 : decode cd_J_hasRoomAfterLeaving 40 = .ok (.invokestatic 266, 3) := by decide +kernel
theorem dd_J_hasRoomAfterLeaving_43 : decode cd_J_hasRoomAfterLeaving 43 = .ok (.ifCond .eq 7, 3) := by decide +kernel
theorem dd_J_hasRoomAfterLeaving_46 : decode cd_J_hasRoomAfterLeaving 46 = .ok (.iconst 1, 1) := by decide +kernel
theorem dd_J_hasRoomAfterLeaving_47 : decode cd_J_hasRoomAfterLeaving 47 = .ok (.goto 4, 3) := by decide +kernel
theorem dd_J_hasRoomAfterLeaving_50 : decode cd_J_hasRoomAfterLeaving 50 = .ok (.iconst 0, 1) := by decide +kernel
theorem dd_J_hasRoomAfterLeaving_51 : decode cd_J_hasRoomAfterLeaving 51 = .ok (.istore 5, 2) := by decide +kernel
theorem dd_J_hasRoomAfterLeaving_53 : decode cd_J_hasRoomAfterLeaving 53 = .ok (.iload 4, 2) := by decide +kernel
theorem dd_J_hasRoomAfterLeaving_55 : decode cd_J_hasRoomAfterLeaving 55 = .ok (.invokestatic 266, 3) := by decide +kernel
theorem dd_J_hasRoomAfterLeaving_58 : decode cd_J_hasRoomAfterLeaving 58 = .ok (.ifCond .eq 16, 3) := by decide +kernel
theorem dd_J_hasRoomAfterLeaving_61 : decode cd_J_hasRoomAfterLeaving 61 = .ok (.aload_n 0, 1) := by decide +kernel
theorem dd_J_hasRoomAfterLeaving_62 : decode cd_J_hasRoomAfterLeaving 62 = .ok (.getfield 12, 3) := by decide +kernel
theorem dd_J_hasRoomAfterLeaving_65 : decode cd_J_hasRoomAfterLeaving 65 = .ok (.invokevirtual 214, 3) := by decide +kernel
theorem dd_J_hasRoomAfterLeaving_68 : decode cd_J_hasRoomAfterLeaving 68 = .ok (.iload 5, 2) := by decide +kernel
theorem dd_J_hasRoomAfterLeaving_70 : decode cd_J_hasRoomAfterLeaving 70 = .ok (.iadd, 1) := by decide +kernel
theorem dd_J_hasRoomAfterLeaving_71 : decode cd_J_hasRoomAfterLeaving 71 = .ok (.ifCond .le 7, 3) := by decide +kernel
theorem dd_J_hasRoomAfterLeaving_74 : decode cd_J_hasRoomAfterLeaving 74 = .ok (.iconst 1, 1) := by decide +kernel
theorem dd_J_hasRoomAfterLeaving_75 : decode cd_J_hasRoomAfterLeaving 75 = .ok (.goto 4, 3) := by decide +kernel
theorem dd_J_hasRoomAfterLeaving_78 : decode cd_J_hasRoomAfterLeaving 78 = .ok (.iconst 0, 1) := by decide +kernel
theorem dd_J_hasRoomAfterLeaving_79 : decode cd_J_hasRoomAfterLeaving 79 = .ok (.ireturn, 1) := by decide +kernel
theorem dd_J_truncate_0 : decode cd_J_truncate 0 = .ok (.iload_n 1, 1) := by decide +kernel
theorem dd_J_truncate_1 : decode cd_J_truncate 1 = .ok (.invokestatic 39, 3) := by decide +kernel
theorem dd_J_truncate_4 : decode cd_J_truncate 4 = .ok (.iload_n 2, 1) := by decide +kernel
theorem dd_J_truncate_5 : decode cd_J_truncate 5 = .ok (.iconst 0, 1) := by decide +kernel
theorem dd_J_truncate_6 : decode cd_J_truncate 6 = .ok (.bipush 64, 2) := by decide +kernel
theorem dd_J_truncate_8 : decode cd_J_truncate 8 = .ok (.invokestatic 64, 3) := by decide +kernel
theorem dd_J_truncate_11 : decode cd_J_truncate 11 = .ok (.aload_n 0, 1) := by decide +kernel
theorem dd_J_truncate_12 : decode cd_J_truncate 12 = .ok (.iload_n 1, 1) := by decide +kernel
theorem dd_J_truncate_13 : decode cd_J_truncate 13 = .ok (.invokevirtual 154, 3) := by decide +kernel
theorem dd_J_truncate_16 : decode cd_J_truncate 16 = .ok (.istore_n 3, 1) := by decide +kernel
theorem dd_J_truncate_17 : decode cd_J_truncate 17 = .ok (.aload_n 0, 1) := by decide +kernel
theorem dd_J_truncate_18 : decode cd_J_truncate 18 = .ok (.getfield 21, 3) := by decide +kernel
theorem dd_J_truncate_21 : decode cd_J_truncate 21 = .ok (.iload_n 3, 1) := by decide +kernel
theorem dd_J_truncate_22 : decode cd_J_truncate 22 = .ok (.invokevirtual 85, 3) := by decide +kernel
theorem dd_J_truncate_25 : decode cd_J_truncate 25 = .ok (.iconst 1, 1) := by decide +kernel
theorem dd_J_truncate_26 : decode cd_J_truncate 26 = .ok (.if_icmp .eq 13, 3) := by decide +kernel
theorem dd_J_truncate_29 : decode cd_J_truncate 29 = .ok (.new 47, 3) := by decide +kernel
theorem dd_J_truncate_32 : decode cd_J_truncate 32 = .ok (.dup, 1) := by decide +kernel
theorem dd_J_truncate_33 : decode cd_J_truncate 33 = .ok (.ldc 189, 2) := by decide +kernel
theorem dd_J_truncate_35 : decode cd_J_truncate 35 = .ok (.invokespecial 51, 3) := by decide +kernel
theorem dd_J_truncate_38 : decode cd_J_truncate 38 = .ok (.athrow, 1) := by decide +kernel
theorem dd_J_truncate_39 : decode cd_J_truncate 39 = .ok (.aload_n 0, 1) := by decide +kernel
theorem dd_J_truncate_40 : decode cd_J_truncate 40 = .ok (.iload_n 3, 1) := by decide +kernel
theorem dd_J_truncate_41 : decode cd_J_truncate 41 = .ok (.iload_n 2, 1) := by decide +kernel
theorem dd_J_truncate_42 : decode cd_J_truncate 42 = .ok (.invokevirtual 127, 3) := by decide +kernel
theorem dd_J_truncate_45 : decode cd_J_truncate 45 = .ok (.aload_n 0, 1) := by decide +kernel
theorem dd_J_truncate_46 : decode cd_J_truncate 46 = .ok (.getfield 21, 3) := by decide +kernel
theorem dd_J_truncate_49 : decode cd_J_truncate 49 = .ok (.iload_n 3, 1) := by decide +kernel
theorem dd_J_truncate_50 : decode cd_J_truncate 50 = .ok (.iload_n 2, 1) := by decide +kernel
theorem dd_J_truncate_51 : decode cd_J_truncate 51 = .ok (.invokevirtual 93, 3) := by decide +kernel
theorem dd_J_truncate_54 : decode cd_J_truncate 54 = .ok (.return_, 1) := by decide +kernel
theorem dd_J_stat_0 : decode cd_J_stat 0 = .ok (.iload_n 1, 1) := by decide +kernel
theorem dd_J_stat_1 : decode cd_J_stat 1 = .ok (.invokestatic 39, 3) := by decide +kernel
theorem dd_J_stat_4 : decode cd_J_stat 4 = .ok (.iload_n 2, 1) := by decide +kernel
theorem dd_J_stat_5 : decode cd_J_stat 5 = .ok (.iconst 0, 1) := by decide +kernel
theorem dd_J_stat_6 : decode cd_J_stat 6 = .ok (.iconst 4, 1) := by decide +kernel
theorem dd_J_stat_7 : decode cd_J_stat 7 = .ok (.invokestatic 64, 3) := by decide +kernel
theorem dd_J_stat_10 : decode cd_J_stat 10 = .ok (.aload_n 0, 1) := by decide +kernel
theorem dd_J_stat_11 : decode cd_J_stat 11 = .ok (.iload_n 1, 1) := by decide +kernel
theorem dd_J_stat_12 : decode cd_J_stat 12 = .ok (.invokevirtual 154, 3) := by decide +kernel
theorem dd_J_stat_15 : decode cd_J_stat 15 = .ok (.istore_n 3, 1) := by decide +kernel
theorem dd_J_stat_16 : decode cd_J_stat 16 = .ok (.iload_n 2, 1) := by decide +kernel
theorem dd_J_stat_17 : decode cd_J_stat 17 = .ok (.tableswitch 60 0 3 #[31, 40, 49, 51], 31) := by decide +kernel
theorem dd_J_stat_48 : decode cd_J_stat 48 = .ok (.aload_n 0, 1) := by decide +kernel
theorem dd_J_stat_49 : decode cd_J_stat 49 = .ok (.getfield 21, 3) := by decide +kernel
theorem dd_J_stat_52 : decode cd_J_stat 52 = .ok (.iload_n 3, 1) := by decide +kernel
theorem dd_J_stat_53 : decode cd_J_stat 53 = .ok (.invokevirtual 85, 3) := by decide +kernel
theorem dd_J_stat_56 : decode cd_J_stat 56 = .ok (.ireturn, 1) := by decide +kernel
theorem dd_J_stat_57 : decode cd_J_stat 57 = .ok (.aload_n 0, 1) := by decide +kernel
theorem dd_J_stat_58 : decode cd_J_stat 58 = .ok (.getfield 21, 3) := by decide +kernel
theorem dd_J_stat_61 : decode cd_J_stat 61 = .ok (.iload_n 3, 1) := by decide +kernel
theorem dd_J_stat_62 : decode cd_J_stat 62 = .ok (.invokevirtual 96, 3) := by decide +kernel
theorem dd_J_stat_65 : decode cd_J_stat 65 = .ok (.ireturn, 1) := by decide +kernel
theorem dd_J_stat_66 : decode cd_J_stat 66 = .ok (.iload_n 3, 1) := by decide +kernel
theorem dd_J_stat_67 : decode cd_J_stat 67 = .ok (.ireturn, 1) := by decide +kernel
theorem dd_J_stat_68 : decode cd_J_stat 68 = .ok (.aload_n 0, 1) := by decide +kernel
theorem dd_J_stat_69 : decode cd_J_stat 69 = .ok (.getfield 21, 3) := by decide +kernel
theorem dd_J_stat_72 : decode cd_J_stat 72 = .ok (.iload_n 3, 1) := by decide +kernel
theorem dd_J_stat_73 : decode cd_J_stat 73 = .ok (.invokevirtual 191, 3) := by decide +kernel
theorem dd_J_stat_76 : decode cd_J_stat 76 = .ok (.ireturn, 1) := by decide +kernel
theorem dd_J_stat_77 : decode cd_J_stat 77 = .ok (.aload_n 0, 1) := by decide +kernel
theorem dd_J_stat_78 : decode cd_J_stat 78 = .ok (.getfield 21, 3) := by decide +kernel
theorem dd_J_stat_81 : decode cd_J_stat 81 = .ok (.iload_n 3, 1) := by decide +kernel
theorem dd_J_stat_82 : decode cd_J_stat 82 = .ok (.invokevirtual 148, 3) := by decide +kernel
theorem dd_J_stat_85 : decode cd_J_stat 85 = .ok (.ireturn, 1) := by decide +kernel
theorem dd_J_commit_0 : decode cd_J_commit 0 = .ok (.aload_n 0, 1) := by decide +kernel
theorem dd_J_commit_1 : decode cd_J_commit 1 = .ok (.getfield 12, 3) := by decide +kernel
theorem dd_J_commit_4 : decode cd_J_commit 4 = .ok (.invokevirtual 194, 3) := by decide +kernel
theorem dd_J_commit_7 : decode cd_J_commit 7 = .ok (.istore_n 1, 1) := by decide +kernel
theorem dd_J_commit_8 : decode cd_J_commit 8 = .ok (.iload_n 1, 1) := by decide +kernel
theorem dd_J_commit_9 : decode cd_J_commit 9 = .ok (.ifCond .ne 7, 3) := by decide +kernel
theorem dd_J_commit_12 : decode cd_J_commit 12 = .ok (.iconst 0, 1) := by decide +kernel
theorem dd_J_commit_13 : decode cd_J_commit 13 = .ok (.goto 6, 3) := by decide +kernel
theorem dd_J_commit_16 : decode cd_J_commit 16 = .ok (.iload_n 1, 1) := by decide +kernel
theorem dd_J_commit_17 : decode cd_J_commit 17 = .ok (.iconst 1, 1) := by decide +kernel
theorem dd_J_commit_18 : decode cd_J_commit 18 = .ok (.iadd, 1) := by decide +kernel
theorem dd_J_commit_19 : decode cd_J_commit 19 = .ok (.istore_n 2, 1) := by decide +kernel
theorem dd_J_commit_20 : decode cd_J_commit 20 = .ok (.iload_n 2, 1) := by decide +kernel
theorem dd_J_commit_21 : decode cd_J_commit 21 = .ok (.iload_n 1, 1) := by decide +kernel
theorem dd_J_commit_22 : decode cd_J_commit 22 = .ok (.iadd, 1) := by decide +kernel
theorem dd_J_commit_23 : decode cd_J_commit 23 = .ok (.istore_n 3, 1) := by decide +kernel
theorem dd_J_commit_24 : decode cd_J_commit 24 = .ok (.aload_n 0, 1) := by decide +kernel
theorem dd_J_commit_25 : decode cd_J_commit 25 = .ok (.getfield 197, 3) := by decide +kernel
theorem dd_J_commit_28 : decode cd_J_commit 28 = .ok (.ifCond .le 72, 3) := by decide +kernel
theorem dd_J_commit_31 : decode cd_J_commit 31 = .ok (.aload_n 0, 1) := by decide +kernel
theorem dd_J_commit_32 : decode cd_J_commit 32 = .ok (.getfield 197, 3) := by decide +kernel
theorem dd_J_commit_35 : decode cd_J_commit 35 = .ok (.iload_n 3, 1) := by decide +kernel
theorem dd_J_commit_36 : decode cd_J_commit 36 = .ok (.if_icmp .gt 64, 3) := by decide +kernel
theorem dd_J_commit_39 : decode cd_J_commit 39 = .ok (.aload_n 0, 1) := by decide +kernel
theorem dd_J_commit_40 : decode cd_J_commit 40 = .ok (.getfield 197, 3) := by decide +kernel
theorem dd_J_commit_43 : decode cd_J_commit 43 = .ok (.iload_n 2, 1) := by decide +kernel
theorem dd_J_commit_44 : decode cd_J_commit 44 = .ok (.if_icmp .le 7, 3) := by decide +kernel
theorem dd_J_commit_47 : decode cd_J_commit 47 = .ok (.iconst 1, 1) := by decide +kernel
theorem dd_J_commit_48 : decode cd_J_commit 48 = .ok (.goto 4, 3) := by decide +kernel
theorem dd_J_commit_51 : decode cd_J_commit 51 = .ok (.iconst 0, 1) := by decide +kernel
theorem dd_J_commit_52 : decode cd_J_commit 52 = .ok (.istore 4, 2) := by decide +kernel
theorem dd_J_commit_54 : decode cd_J_commit 54 = .ok (.aload_n 0, 1) := by decide +kernel
theorem dd_J_commit_55 : decode cd_J_commit 55 = .ok (.dup, 1) := by decide +kernel
theorem dd_J_commit_56 : decode cd_J_commit 56 = .ok (.getfield 200, 3) := by decide +kernel
theorem dd_J_commit_59 : decode cd_J_commit 59 = .ok (.aload_n 0, 1) := by decide +kernel
theorem dd_J_commit_60 : decode cd_J_commit 60 = .ok (.getfield 197, 3) := by decide +kernel
theorem dd_J_commit_63 : decode cd_J_commit 63 = .ok (.iconst 1, 1) := by decide +kernel
theorem dd_J_commit_64 : decode cd_J_commit 64 = .ok (.isub, 1) := by decide +kernel
theorem dd_J_commit_65 : decode cd_J_commit 65 = .ok (.iadd, 1) := by decide +kernel
theorem dd_J_commit_66 : decode cd_J_commit 66 = .ok (.putfield 200, 3) := by decide +kernel
theorem dd_J_commit_69 : decode cd_J_commit 69 = .ok (.aload_n 0, 1) := by decide +kernel
theorem dd_J_commit_70 : decode cd_J_commit 70 = .ok (.iconst 0, 1) := by decide +kernel
theorem dd_J_commit_71 : decode cd_J_commit 71 = .ok (.putfield 197, 3) := by decide +kernel
theorem dd_J_commit_74 : decode cd_J_commit 74 = .ok (.iload 4, 2) := by decide +kernel
theorem dd_J_commit_76 : decode cd_J_commit 76 = .ok (.ifCond .eq 10, 3) := by decide +kernel
theorem dd_J_commit_79 : decode cd_J_commit 79 = .ok (.aload_n 0, 1) := by decide +kernel
theorem dd_J_commit_80 : decode cd_J_commit 80 = .ok (.getfield 12, 3) := by decide +kernel
theorem dd_J_commit_83 : decode cd_J_commit 83 = .ok (.invokevirtual 36, 3) := by decide +kernel
theorem dd_J_commit_86 : decode cd_J_commit 86 = .ok (.aload_n 0, 1) := by decide +kernel
theorem dd_J_commit_87 : decode cd_J_commit 87 = .ok (.invokevirtual 203, 3) := by decide +kernel
theorem dd_J_commit_90 : decode cd_J_commit 90 = .ok (.new 47, 3) := by decide +kernel
theorem dd_J_commit_93 : decode cd_J_commit 93 = .ok (.dup, 1) := by decide +kernel
theorem dd_J_commit_94 : decode cd_J_commit 94 = .ok (.ldc 206, 2) := by decide +kernel
theorem dd_J_commit_96 : decode cd_J_commit 96 = .ok (.invokespecial 51, 3) := by decide +kernel
theorem dd_J_commit_99 : decode cd_J_commit 99 = .ok (.athrow, 1) := by decide +kernel
theorem dd_J_commit_100 : decode cd_J_commit 100 = .ok (.aload_n 0, 1) := by decide +kernel
theorem dd_J_commit_101 : decode cd_J_commit 101 = .ok (.getfield 197, 3) := by decide +kernel
theorem dd_J_commit_104 : decode cd_J_commit 104 = .ok (.ifCond .le 13, 3) := by decide +kernel
theorem dd_J_commit_107 : decode cd_J_commit 107 = .ok (.aload_n 0, 1) := by decide +kernel
theorem dd_J_commit_108 : decode cd_J_commit 108 = .ok (.dup, 1) := by decide +kernel
theorem dd_J_commit_109 : decode cd_J_commit 109 = .ok (.getfield 197, 3) := by decide +kernel
theorem dd_J_commit_112 : decode cd_J_commit 112 = .ok (.iload_n 3, 1) := by decide +kernel
theorem dd_J_commit_113 : decode cd_J_commit 113 = .ok (.isub, 1) := by decide +kernel
theorem dd_J_commit_114 : decode cd_J_commit 114 = .ok (.putfield 197, 3) := by decide +kernel
theorem dd_J_commit_117 : decode cd_J_commit 117 = .ok (.aload_n 0, 1) := by decide +kernel
theorem dd_J_commit_118 : decode cd_J_commit 118 = .ok (.dup, 1) := by decide +kernel
theorem dd_J_commit_119 : decode cd_J_commit 119 = .ok (.getfield 200, 3) := by decide +kernel
theorem dd_J_commit_122 : decode cd_J_commit 122 = .ok (.iload_n 3, 1) := by decide +kernel
theorem dd_J_commit_123 : decode cd_J_commit 123 = .ok (.iadd, 1) := by decide +kernel
theorem dd_J_commit_124 : decode cd_J_commit 124 = .ok (.putfield 200, 3) := by decide +kernel
theorem dd_J_commit_127 : decode cd_J_commit 127 = .ok (.aload_n 0, 1) := by decide +kernel
theorem dd_J_commit_128 : decode cd_J_commit 128 = .ok (.getfield 12, 3) := by decide +kernel
theorem dd_J_commit_131 : decode cd_J_commit 131 = .ok (.invokevirtual 36, 3) := by decide +kernel
theorem dd_J_commit_134 : decode cd_J_commit 134 = .ok (.iload_n 3, 1) := by decide +kernel
theorem dd_J_commit_135 : decode cd_J_commit 135 = .ok (.ireturn, 1) := by decide +kernel
theorem dd_J_cutPower_0 : decode cd_J_cutPower 0 = .ok (.iload_n 1, 1) := by decide +kernel
theorem dd_J_cutPower_1 : decode cd_J_cutPower 1 = .ok (.iconst 0, 1) := by decide +kernel
theorem dd_J_cutPower_2 : decode cd_J_cutPower 2 = .ok (.bipush 100, 2) := by decide +kernel
theorem dd_J_cutPower_4 : decode cd_J_cutPower 4 = .ok (.invokestatic 64, 3) := by decide +kernel
theorem dd_J_cutPower_7 : decode cd_J_cutPower 7 = .ok (.aload_n 0, 1) := by decide +kernel
theorem dd_J_cutPower_8 : decode cd_J_cutPower 8 = .ok (.iload_n 1, 1) := by decide +kernel
theorem dd_J_cutPower_9 : decode cd_J_cutPower 9 = .ok (.putfield 197, 3) := by decide +kernel
theorem dd_J_cutPower_12 : decode cd_J_cutPower 12 = .ok (.return_, 1) := by decide +kernel
theorem dd_J_block_0 : decode cd_J_block 0 = .ok (.iload_n 1, 1) := by decide +kernel
theorem dd_J_block_1 : decode cd_J_block 1 = .ok (.iconst 0, 1) := by decide +kernel
theorem dd_J_block_2 : decode cd_J_block 2 = .ok (.bipush 39, 2) := by decide +kernel
theorem dd_J_block_4 : decode cd_J_block 4 = .ok (.invokestatic 64, 3) := by decide +kernel
theorem dd_J_block_7 : decode cd_J_block 7 = .ok (.iload_n 2, 1) := by decide +kernel
theorem dd_J_block_8 : decode cd_J_block 8 = .ok (.iconst 0, 1) := by decide +kernel
theorem dd_J_block_9 : decode cd_J_block 9 = .ok (.bipush 15, 2) := by decide +kernel
theorem dd_J_block_11 : decode cd_J_block 11 = .ok (.invokestatic 64, 3) := by decide +kernel
theorem dd_J_block_14 : decode cd_J_block 14 = .ok (.iload_n 1, 1) := by decide +kernel
theorem dd_J_block_15 : decode cd_J_block 15 = .ok (.bipush 16, 2) := by decide +kernel
theorem dd_J_block_17 : decode cd_J_block 17 = .ok (.imul, 1) := by decide +kernel
theorem dd_J_block_18 : decode cd_J_block 18 = .ok (.iload_n 2, 1) := by decide +kernel
theorem dd_J_block_19 : decode cd_J_block 19 = .ok (.iadd, 1) := by decide +kernel
theorem dd_J_block_20 : decode cd_J_block 20 = .ok (.istore 4, 2) := by decide +kernel
theorem dd_J_block_22 : decode cd_J_block 22 = .ok (.iload_n 3, 1) := by decide +kernel
theorem dd_J_block_23 : decode cd_J_block 23 = .ok (.ifCond .eq 15, 3) := by decide +kernel
theorem dd_J_block_26 : decode cd_J_block 26 = .ok (.aload_n 0, 1) := by decide +kernel
theorem dd_J_block_27 : decode cd_J_block 27 = .ok (.getfield 12, 3) := by decide +kernel
theorem dd_J_block_30 : decode cd_J_block 30 = .ok (.iload 4, 2) := by decide +kernel
theorem dd_J_block_32 : decode cd_J_block 32 = .ok (.invokevirtual 208, 3) := by decide +kernel
theorem dd_J_block_35 : decode cd_J_block 35 = .ok (.goto 12, 3) := by decide +kernel
theorem dd_J_block_38 : decode cd_J_block 38 = .ok (.aload_n 0, 1) := by decide +kernel
theorem dd_J_block_39 : decode cd_J_block 39 = .ok (.getfield 12, 3) := by decide +kernel
theorem dd_J_block_42 : decode cd_J_block 42 = .ok (.iload 4, 2) := by decide +kernel
theorem dd_J_block_44 : decode cd_J_block 44 = .ok (.invokevirtual 211, 3) := by decide +kernel
theorem dd_J_block_47 : decode cd_J_block 47 = .ok (.ireturn, 1) := by decide +kernel
end
section
theorem dd_L_directory_0 : decode cd_L_directory 0 = .ok (.aload_n 2, 1) := by decide +kernel
theorem dd_L_directory_1 : decode cd_L_directory 1 = .ok (.iconst 0, 1) := by decide +kernel
theorem dd_L_directory_2 : decode cd_L_directory 2 = .ok (.aload_n 0, 1) := by decide +kernel
theorem dd_L_directory_3 : decode cd_L_directory 3 = .ok (.iload_n 1, 1) := by decide +kernel
theorem dd_L_directory_4 : decode cd_L_directory 4 = .ok (.invokevirtual 7, 3) := by decide +kernel
theorem dd_L_directory_7 : decode cd_L_directory 7 = .ok (.i2l, 1) := by decide +kernel
theorem dd_L_directory_8 : decode cd_L_directory 8 = .ok (.lastore, 1) := by decide +kernel
theorem dd_L_directory_9 : decode cd_L_directory 9 = .ok (.goto 15, 3) := by decide +kernel
theorem dd_L_directory_12 : decode cd_L_directory 12 = .ok (.astore_n 3, 1) := by decide +kernel
theorem dd_L_directory_13 : decode cd_L_directory 13 = .ok (.iconst 1, 1) := by decide +kernel
theorem dd_L_directory_14 : decode cd_L_directory 14 = .ok (.ireturn, 1) := by decide +kernel
theorem dd_L_directory_15 : decode cd_L_directory 15 = .ok (.astore_n 3, 1) := by decide +kernel
theorem dd_L_directory_16 : decode cd_L_directory 16 = .ok (.iconst 2, 1) := by decide +kernel
theorem dd_L_directory_17 : decode cd_L_directory 17 = .ok (.ireturn, 1) := by decide +kernel
theorem dd_L_directory_18 : decode cd_L_directory 18 = .ok (.astore_n 3, 1) := by decide +kernel
theorem dd_L_directory_19 : decode cd_L_directory 19 = .ok (.iconst 3, 1) := by decide +kernel
theorem dd_L_directory_20 : decode cd_L_directory 20 = .ok (.ireturn, 1) := by decide +kernel
theorem dd_L_directory_21 : decode cd_L_directory 21 = .ok (.astore_n 3, 1) := by decide +kernel
theorem dd_L_directory_22 : decode cd_L_directory 22 = .ok (.iconst 4, 1) := by decide +kernel
theorem dd_L_directory_23 : decode cd_L_directory 23 = .ok (.ireturn, 1) := by decide +kernel
theorem dd_L_directory_24 : decode cd_L_directory 24 = .ok (.iconst 0, 1) := by decide +kernel
theorem dd_L_directory_25 : decode cd_L_directory 25 = .ok (.ireturn, 1) := by decide +kernel
theorem dd_L_open_0 : decode cd_L_open 0 = .ok (.aload 6, 2) := by decide +kernel
theorem dd_L_open_2 : decode cd_L_open 2 = .ok (.iconst 0, 1) := by decide +kernel
theorem dd_L_open_3 : decode cd_L_open 3 = .ok (.aload_n 0, 1) := by decide +kernel
theorem dd_L_open_4 : decode cd_L_open 4 = .ok (.iload_n 1, 1) := by decide +kernel
theorem dd_L_open_5 : decode cd_L_open 5 = .ok (.iload_n 2, 1) := by decide +kernel
theorem dd_L_open_6 : decode cd_L_open 6 = .ok (.iload_n 3, 1) := by decide +kernel
theorem dd_L_open_7 : decode cd_L_open 7 = .ok (.iload 4, 2) := by decide +kernel
theorem dd_L_open_9 : decode cd_L_open 9 = .ok (.iload 5, 2) := by decide +kernel
theorem dd_L_open_11 : decode cd_L_open 11 = .ok (.invokevirtual 21, 3) := by decide +kernel
theorem dd_L_open_14 : decode cd_L_open 14 = .ok (.i2l, 1) := by decide +kernel
theorem dd_L_open_15 : decode cd_L_open 15 = .ok (.lastore, 1) := by decide +kernel
theorem dd_L_open_16 : decode cd_L_open 16 = .ok (.goto 19, 3) := by decide +kernel
theorem dd_L_open_19 : decode cd_L_open 19 = .ok (.astore 7, 2) := by decide +kernel
theorem dd_L_open_21 : decode cd_L_open 21 = .ok (.iconst 1, 1) := by decide +kernel
theorem dd_L_open_22 : decode cd_L_open 22 = .ok (.ireturn, 1) := by decide +kernel
theorem dd_L_open_23 : decode cd_L_open 23 = .ok (.astore 7, 2) := by decide +kernel
theorem dd_L_open_25 : decode cd_L_open 25 = .ok (.iconst 2, 1) := by decide +kernel
theorem dd_L_open_26 : decode cd_L_open 26 = .ok (.ireturn, 1) := by decide +kernel
theorem dd_L_open_27 : decode cd_L_open 27 = .ok (.astore 7, 2) := by decide +kernel
theorem dd_L_open_29 : decode cd_L_open 29 = .ok (.iconst 3, 1) := by decide +kernel
theorem dd_L_open_30 : decode cd_L_open 30 = .ok (.ireturn, 1) := by decide +kernel
theorem dd_L_open_31 : decode cd_L_open 31 = .ok (.astore 7, 2) := by decide +kernel
theorem dd_L_open_33 : decode cd_L_open 33 = .ok (.iconst 4, 1) := by decide +kernel
theorem dd_L_open_34 : decode cd_L_open 34 = .ok (.ireturn, 1) := by decide +kernel
theorem dd_L_open_35 : decode cd_L_open 35 = .ok (.iconst 0, 1) := by decide +kernel
theorem dd_L_open_36 : decode cd_L_open 36 = .ok (.ireturn, 1) := by decide +kernel
theorem dd_L_close_0 : decode cd_L_close 0 = .ok (.aload_n 0, 1) := by decide +kernel
theorem dd_L_close_1 : decode cd_L_close 1 = .ok (.iload_n 1, 1) := by decide +kernel
theorem dd_L_close_2 : decode cd_L_close 2 = .ok (.invokevirtual 25, 3) := by decide +kernel
theorem dd_L_close_5 : decode cd_L_close 5 = .ok (.goto 9, 3) := by decide +kernel
theorem dd_L_close_8 : decode cd_L_close 8 = .ok (.astore_n 2, 1) := by decide +kernel
theorem dd_L_close_9 : decode cd_L_close 9 = .ok (.iconst 1, 1) := by decide +kernel
theorem dd_L_close_10 : decode cd_L_close 10 = .ok (.ireturn, 1) := by decide +kernel
theorem dd_L_close_11 : decode cd_L_close 11 = .ok (.astore_n 2, 1) := by decide +kernel
theorem dd_L_close_12 : decode cd_L_close 12 = .ok (.iconst 2, 1) := by decide +kernel
theorem dd_L_close_13 : decode cd_L_close 13 = .ok (.ireturn, 1) := by decide +kernel
theorem dd_L_close_14 : decode cd_L_close 14 = .ok (.iconst 0, 1) := by decide +kernel
theorem dd_L_close_15 : decode cd_L_close 15 = .ok (.ireturn, 1) := by decide +kernel
theorem dd_L_write_0 : decode cd_L_write 0 = .ok (.aload_n 0, 1) := by decide +kernel
theorem dd_L_write_1 : decode cd_L_write 1 = .ok (.iload_n 1, 1) := by decide +kernel
theorem dd_L_write_2 : decode cd_L_write 2 = .ok (.lload_n 2, 1) := by decide +kernel
theorem dd_L_write_3 : decode cd_L_write 3 = .ok (.iload 4, 2) := by decide +kernel
theorem dd_L_write_5 : decode cd_L_write 5 = .ok (.invokevirtual 29, 3) := by decide +kernel
theorem dd_L_write_8 : decode cd_L_write 8 = .ok (.goto 15, 3) := by decide +kernel
theorem dd_L_write_11 : decode cd_L_write 11 = .ok (.astore 5, 2) := by decide +kernel
theorem dd_L_write_13 : decode cd_L_write 13 = .ok (.iconst 1, 1) := by decide +kernel
theorem dd_L_write_14 : decode cd_L_write 14 = .ok (.ireturn, 1) := by decide +kernel
theorem dd_L_write_15 : decode cd_L_write 15 = .ok (.astore 5, 2) := by decide +kernel
theorem dd_L_write_17 : decode cd_L_write 17 = .ok (.iconst 2, 1) := by decide +kernel
theorem dd_L_write_18 : decode cd_L_write 18 = .ok (.ireturn, 1) := by decide +kernel
theorem dd_L_write_19 : decode cd_L_write 19 = .ok (.astore 5, 2) := by decide +kernel
theorem dd_L_write_21 : decode cd_L_write 21 = .ok (.iconst 3, 1) := by decide +kernel
theorem dd_L_write_22 : decode cd_L_write 22 = .ok (.ireturn, 1) := by decide +kernel
theorem dd_L_write_23 : decode cd_L_write 23 = .ok (.iconst 0, 1) := by decide +kernel
theorem dd_L_write_24 : decode cd_L_write 24 = .ok (.ireturn, 1) := by decide +kernel
theorem dd_L_read_0 : decode cd_L_read 0 = .ok (.aload_n 3, 1) := by decide +kernel
theorem dd_L_read_1 : decode cd_L_read 1 = .ok (.iconst 0, 1) := by decide +kernel
theorem dd_L_read_2 : decode cd_L_read 2 = .ok (.aload_n 0, 1) := by decide +kernel
theorem dd_L_read_3 : decode cd_L_read 3 = .ok (.iload_n 1, 1) := by decide +kernel
theorem dd_L_read_4 : decode cd_L_read 4 = .ok (.iload_n 2, 1) := by decide +kernel
theorem dd_L_read_5 : decode cd_L_read 5 = .ok (.invokevirtual 33, 3) := by decide +kernel
theorem dd_L_read_8 : decode cd_L_read 8 = .ok (.lastore, 1) := by decide +kernel
theorem dd_L_read_9 : decode cd_L_read 9 = .ok (.goto 11, 3) := by decide +kernel
theorem dd_L_read_12 : decode cd_L_read 12 = .ok (.astore 4, 2) := by decide +kernel
theorem dd_L_read_14 : decode cd_L_read 14 = .ok (.iconst 1, 1) := by decide +kernel
theorem dd_L_read_15 : decode cd_L_read 15 = .ok (.ireturn, 1) := by decide +kernel
theorem dd_L_read_16 : decode cd_L_read 16 = .ok (.astore 4, 2) := by decide +kernel
theorem dd_L_read_18 : decode cd_L_read 18 = .ok (.iconst 2, 1) := by decide +kernel
theorem dd_L_read_19 : decode cd_L_read 19 = .ok (.ireturn, 1) := by decide +kernel
theorem dd_L_read_20 : decode cd_L_read 20 = .ok (.iconst 0, 1) := by decide +kernel
theorem dd_L_read_21 : decode cd_L_read 21 = .ok (.ireturn, 1) := by decide +kernel
theorem dd_L_seek_0 : decode cd_L_seek 0 = .ok (.aload_n 0, 1) := by decide +kernel
theorem dd_L_seek_1 : decode cd_L_seek 1 = .ok (.iload_n 1, 1) := by decide +kernel
theorem dd_L_seek_2 : decode cd_L_seek 2 = .ok (.iload_n 2, 1) := by decide +kernel
theorem dd_L_seek_3 : decode cd_L_seek 3 = .ok (.invokevirtual 37, 3) := by decide +kernel
theorem dd_L_seek_6 : decode cd_L_seek 6 = .ok (.goto 9, 3) := by decide +kernel
theorem dd_L_seek_9 : decode cd_L_seek 9 = .ok (.astore_n 3, 1) := by decide +kernel
theorem dd_L_seek_10 : decode cd_L_seek 10 = .ok (.iconst 1, 1) := by decide +kernel
theorem dd_L_seek_11 : decode cd_L_seek 11 = .ok (.ireturn, 1) := by decide +kernel
theorem dd_L_seek_12 : decode cd_L_seek 12 = .ok (.astore_n 3, 1) := by decide +kernel
theorem dd_L_seek_13 : decode cd_L_seek 13 = .ok (.iconst 2, 1) := by decide +kernel
theorem dd_L_seek_14 : decode cd_L_seek 14 = .ok (.ireturn, 1) := by decide +kernel
theorem dd_L_seek_15 : decode cd_L_seek 15 = .ok (.iconst 0, 1) := by decide +kernel
theorem dd_L_seek_16 : decode cd_L_seek 16 = .ok (.ireturn, 1) := by decide +kernel
theorem dd_L_next_0 : decode cd_L_next 0 = .ok (.aload_n 2, 1) := by decide +kernel
theorem dd_L_next_1 : decode cd_L_next 1 = .ok (.iconst 0, 1) := by decide +kernel
theorem dd_L_next_2 : decode cd_L_next 2 = .ok (.aload_n 0, 1) := by decide +kernel
theorem dd_L_next_3 : decode cd_L_next 3 = .ok (.iload_n 1, 1) := by decide +kernel
theorem dd_L_next_4 : decode cd_L_next 4 = .ok (.invokevirtual 41, 3) := by decide +kernel
theorem dd_L_next_7 : decode cd_L_next 7 = .ok (.i2l, 1) := by decide +kernel
theorem dd_L_next_8 : decode cd_L_next 8 = .ok (.lastore, 1) := by decide +kernel
theorem dd_L_next_9 : decode cd_L_next 9 = .ok (.goto 9, 3) := by decide +kernel
theorem dd_L_next_12 : decode cd_L_next 12 = .ok (.astore_n 3, 1) := by decide +kernel
theorem dd_L_next_13 : decode cd_L_next 13 = .ok (.iconst 1, 1) := by decide +kernel
theorem dd_L_next_14 : decode cd_L_next 14 = .ok (.ireturn, 1) := by decide +kernel
theorem dd_L_next_15 : decode cd_L_next 15 = .ok (.astore_n 3, 1) := by decide +kernel
theorem dd_L_next_16 : decode cd_L_next 16 = .ok (.iconst 2, 1) := by decide +kernel
theorem dd_L_next_17 : decode cd_L_next 17 = .ok (.ireturn, 1) := by decide +kernel
theorem dd_L_next_18 : decode cd_L_next 18 = .ok (.iconst 0, 1) := by decide +kernel
theorem dd_L_next_19 : decode cd_L_next 19 = .ok (.ireturn, 1) := by decide +kernel
theorem dd_L_remove_0 : decode cd_L_remove 0 = .ok (.aload_n 0, 1) := by decide +kernel
theorem dd_L_remove_1 : decode cd_L_remove 1 = .ok (.iload_n 1, 1) := by decide +kernel
theorem dd_L_remove_2 : decode cd_L_remove 2 = .ok (.invokevirtual 44, 3) := by decide +kernel
theorem dd_L_remove_5 : decode cd_L_remove 5 = .ok (.goto 12, 3) := by decide +kernel
theorem dd_L_remove_8 : decode cd_L_remove 8 = .ok (.astore_n 2, 1) := by decide +kernel
theorem dd_L_remove_9 : decode cd_L_remove 9 = .ok (.iconst 1, 1) := by decide +kernel
theorem dd_L_remove_10 : decode cd_L_remove 10 = .ok (.ireturn, 1) := by decide +kernel
theorem dd_L_remove_11 : decode cd_L_remove 11 = .ok (.astore_n 2, 1) := by decide +kernel
theorem dd_L_remove_12 : decode cd_L_remove 12 = .ok (.iconst 2, 1) := by decide +kernel
theorem dd_L_remove_13 : decode cd_L_remove 13 = .ok (.ireturn, 1) := by decide +kernel
theorem dd_L_remove_14 : decode cd_L_remove 14 = .ok (.astore_n 2, 1) := by decide +kernel
theorem dd_L_remove_15 : decode cd_L_remove 15 = .ok (.iconst 3, 1) := by decide +kernel
theorem dd_L_remove_16 : decode cd_L_remove 16 = .ok (.ireturn, 1) := by decide +kernel
theorem dd_L_remove_17 : decode cd_L_remove 17 = .ok (.iconst 0, 1) := by decide +kernel
theorem dd_L_remove_18 : decode cd_L_remove 18 = .ok (.ireturn, 1) := by decide +kernel
theorem dd_L_rename_0 : decode cd_L_rename 0 = .ok (.aload_n 0, 1) := by decide +kernel
theorem dd_L_rename_1 : decode cd_L_rename 1 = .ok (.iload_n 1, 1) := by decide +kernel
theorem dd_L_rename_2 : decode cd_L_rename 2 = .ok (.iload_n 2, 1) := by decide +kernel
theorem dd_L_rename_3 : decode cd_L_rename 3 = .ok (.invokevirtual 47, 3) := by decide +kernel
theorem dd_L_rename_6 : decode cd_L_rename 6 = .ok (.goto 15, 3) := by decide +kernel
theorem dd_L_rename_9 : decode cd_L_rename 9 = .ok (.astore_n 3, 1) := by decide +kernel
theorem dd_L_rename_10 : decode cd_L_rename 10 = .ok (.iconst 1, 1) := by decide +kernel
theorem dd_L_rename_11 : decode cd_L_rename 11 = .ok (.ireturn, 1) := by decide +kernel
theorem dd_L_rename_12 : decode cd_L_rename 12 = .ok (.astore_n 3, 1) := by decide +kernel
theorem dd_L_rename_13 : decode cd_L_rename 13 = .ok (.iconst 2, 1) := by decide +kernel
theorem dd_L_rename_14 : decode cd_L_rename 14 = .ok (.ireturn, 1) := by decide +kernel
theorem dd_L_rename_15 : decode cd_L_rename 15 = .ok (.astore_n 3, 1) := by decide +kernel
theorem dd_L_rename_16 : decode cd_L_rename 16 = .ok (.iconst 3, 1) := by decide +kernel
theorem dd_L_rename_17 : decode cd_L_rename 17 = .ok (.ireturn, 1) := by decide +kernel
theorem dd_L_rename_18 : decode cd_L_rename 18 = .ok (.astore_n 3, 1) := by decide +kernel
theorem dd_L_rename_19 : decode cd_L_rename 19 = .ok (.iconst 4, 1) := by decide +kernel
theorem dd_L_rename_20 : decode cd_L_rename 20 = .ok (.ireturn, 1) := by decide +kernel
theorem dd_L_rename_21 : decode cd_L_rename 21 = .ok (.iconst 0, 1) := by decide +kernel
theorem dd_L_rename_22 : decode cd_L_rename 22 = .ok (.ireturn, 1) := by decide +kernel
theorem dd_L_truncate_0 : decode cd_L_truncate 0 = .ok (.aload_n 0, 1) := by decide +kernel
theorem dd_L_truncate_1 : decode cd_L_truncate 1 = .ok (.iload_n 1, 1) := by decide +kernel
theorem dd_L_truncate_2 : decode cd_L_truncate 2 = .ok (.iload_n 2, 1) := by decide +kernel
theorem dd_L_truncate_3 : decode cd_L_truncate 3 = .ok (.invokevirtual 50, 3) := by decide +kernel
theorem dd_L_truncate_6 : decode cd_L_truncate 6 = .ok (.goto 15, 3) := by decide +kernel
theorem dd_L_truncate_9 : decode cd_L_truncate 9 = .ok (.astore_n 3, 1) := by decide +kernel
theorem dd_L_truncate_10 : decode cd_L_truncate 10 = .ok (.iconst 1, 1) := by decide +kernel
theorem dd_L_truncate_11 : decode cd_L_truncate 11 = .ok (.ireturn, 1) := by decide +kernel
theorem dd_L_truncate_12 : decode cd_L_truncate 12 = .ok (.astore_n 3, 1) := by decide +kernel
theorem dd_L_truncate_13 : decode cd_L_truncate 13 = .ok (.iconst 2, 1) := by decide +kernel
theorem dd_L_truncate_14 : decode cd_L_truncate 14 = .ok (.ireturn, 1) := by decide +kernel
theorem dd_L_truncate_15 : decode cd_L_truncate 15 = .ok (.astore_n 3, 1) := by decide +kernel
theorem dd_L_truncate_16 : decode cd_L_truncate 16 = .ok (.iconst 3, 1) := by decide +kernel
theorem dd_L_truncate_17 : decode cd_L_truncate 17 = .ok (.ireturn, 1) := by decide +kernel
theorem dd_L_truncate_18 : decode cd_L_truncate 18 = .ok (.astore_n 3, 1) := by decide +kernel
theorem dd_L_truncate_19 : decode cd_L_truncate 19 = .ok (.iconst 4, 1) := by decide +kernel
theorem dd_L_truncate_20 : decode cd_L_truncate 20 = .ok (.ireturn, 1) := by decide +kernel
theorem dd_L_truncate_21 : decode cd_L_truncate 21 = .ok (.iconst 0, 1) := by decide +kernel
theorem dd_L_truncate_22 : decode cd_L_truncate 22 = .ok (.ireturn, 1) := by decide +kernel
theorem dd_L_stat_0 : decode cd_L_stat 0 = .ok (.aload_n 3, 1) := by decide +kernel
theorem dd_L_stat_1 : decode cd_L_stat 1 = .ok (.iconst 0, 1) := by decide +kernel
theorem dd_L_stat_2 : decode cd_L_stat 2 = .ok (.aload_n 0, 1) := by decide +kernel
theorem dd_L_stat_3 : decode cd_L_stat 3 = .ok (.iload_n 1, 1) := by decide +kernel
theorem dd_L_stat_4 : decode cd_L_stat 4 = .ok (.iload_n 2, 1) := by decide +kernel
theorem dd_L_stat_5 : decode cd_L_stat 5 = .ok (.invokevirtual 53, 3) := by decide +kernel
theorem dd_L_stat_8 : decode cd_L_stat 8 = .ok (.i2l, 1) := by decide +kernel
theorem dd_L_stat_9 : decode cd_L_stat 9 = .ok (.lastore, 1) := by decide +kernel
theorem dd_L_stat_10 : decode cd_L_stat 10 = .ok (.goto 11, 3) := by decide +kernel
theorem dd_L_stat_13 : decode cd_L_stat 13 = .ok (.astore 4, 2) := by decide +kernel
theorem dd_L_stat_15 : decode cd_L_stat 15 = .ok (.iconst 1, 1) := by decide +kernel
theorem dd_L_stat_16 : decode cd_L_stat 16 = .ok (.ireturn, 1) := by decide +kernel
theorem dd_L_stat_17 : decode cd_L_stat 17 = .ok (.astore 4, 2) := by decide +kernel
theorem dd_L_stat_19 : decode cd_L_stat 19 = .ok (.iconst 2, 1) := by decide +kernel
theorem dd_L_stat_20 : decode cd_L_stat 20 = .ok (.ireturn, 1) := by decide +kernel
theorem dd_L_stat_21 : decode cd_L_stat 21 = .ok (.iconst 0, 1) := by decide +kernel
theorem dd_L_stat_22 : decode cd_L_stat 22 = .ok (.ireturn, 1) := by decide +kernel
theorem dd_L_commit_0 : decode cd_L_commit 0 = .ok (.aload_n 1, 1) := by decide +kernel
theorem dd_L_commit_1 : decode cd_L_commit 1 = .ok (.iconst 0, 1) := by decide +kernel
theorem dd_L_commit_2 : decode cd_L_commit 2 = .ok (.aload_n 0, 1) := by decide +kernel
theorem dd_L_commit_3 : decode cd_L_commit 3 = .ok (.invokevirtual 57, 3) := by decide +kernel
theorem dd_L_commit_6 : decode cd_L_commit 6 = .ok (.i2l, 1) := by decide +kernel
theorem dd_L_commit_7 : decode cd_L_commit 7 = .ok (.lastore, 1) := by decide +kernel
theorem dd_L_commit_8 : decode cd_L_commit 8 = .ok (.goto 6, 3) := by decide +kernel
theorem dd_L_commit_11 : decode cd_L_commit 11 = .ok (.astore_n 2, 1) := by decide +kernel
theorem dd_L_commit_12 : decode cd_L_commit 12 = .ok (.iconst 1, 1) := by decide +kernel
theorem dd_L_commit_13 : decode cd_L_commit 13 = .ok (.ireturn, 1) := by decide +kernel
theorem dd_L_commit_14 : decode cd_L_commit 14 = .ok (.iconst 0, 1) := by decide +kernel
theorem dd_L_commit_15 : decode cd_L_commit 15 = .ok (.ireturn, 1) := by decide +kernel
theorem dd_L_cutPower_0 : decode cd_L_cutPower 0 = .ok (.aload_n 0, 1) := by decide +kernel
theorem dd_L_cutPower_1 : decode cd_L_cutPower 1 = .ok (.iload_n 1, 1) := by decide +kernel
theorem dd_L_cutPower_2 : decode cd_L_cutPower 2 = .ok (.invokevirtual 61, 3) := by decide +kernel
theorem dd_L_cutPower_5 : decode cd_L_cutPower 5 = .ok (.goto 6, 3) := by decide +kernel
theorem dd_L_cutPower_8 : decode cd_L_cutPower 8 = .ok (.astore_n 2, 1) := by decide +kernel
theorem dd_L_cutPower_9 : decode cd_L_cutPower 9 = .ok (.iconst 1, 1) := by decide +kernel
theorem dd_L_cutPower_10 : decode cd_L_cutPower 10 = .ok (.ireturn, 1) := by decide +kernel
theorem dd_L_cutPower_11 : decode cd_L_cutPower 11 = .ok (.iconst 0, 1) := by decide +kernel
theorem dd_L_cutPower_12 : decode cd_L_cutPower 12 = .ok (.ireturn, 1) := by decide +kernel
theorem dd_L_block_0 : decode cd_L_block 0 = .ok (.aload 4, 2) := by decide +kernel
theorem dd_L_block_2 : decode cd_L_block 2 = .ok (.iconst 0, 1) := by decide +kernel
theorem dd_L_block_3 : decode cd_L_block 3 = .ok (.aload_n 0, 1) := by decide +kernel
theorem dd_L_block_4 : decode cd_L_block 4 = .ok (.iload_n 1, 1) := by decide +kernel
theorem dd_L_block_5 : decode cd_L_block 5 = .ok (.iload_n 2, 1) := by decide +kernel
theorem dd_L_block_6 : decode cd_L_block 6 = .ok (.iload_n 3, 1) := by decide +kernel
theorem dd_L_block_7 : decode cd_L_block 7 = .ok (.invokevirtual 64, 3) := by decide +kernel
theorem dd_L_block_10 : decode cd_L_block 10 = .ok (.i2l, 1) := by decide +kernel
theorem dd_L_block_11 : decode cd_L_block 11 = .ok (.lastore, 1) := by decide +kernel
theorem dd_L_block_12 : decode cd_L_block 12 = .ok (.goto 7, 3) := by decide +kernel
theorem dd_L_block_15 : decode cd_L_block 15 = .ok (.astore 5, 2) := by decide +kernel
theorem dd_L_block_17 : decode cd_L_block 17 = .ok (.iconst 1, 1) := by decide +kernel
theorem dd_L_block_18 : decode cd_L_block 18 = .ok (.ireturn, 1) := by decide +kernel
theorem dd_L_block_19 : decode cd_L_block 19 = .ok (.iconst 0, 1) := by decide +kernel
theorem dd_L_block_20 : decode cd_L_block 20 = .ok (.ireturn, 1) := by decide +kernel
theorem dd_L_law_0 : decode code 0 = .ok (.new 8, 3) := by decide +kernel
theorem dd_L_law_3 : decode code 3 = .ok (.dup, 1) := by decide +kernel
theorem dd_L_law_4 : decode code 4 = .ok (.invokespecial 68, 3) := by decide +kernel
theorem dd_L_law_7 : decode code 7 = .ok (.astore_n 1, 1) := by decide +kernel
theorem dd_L_law_8 : decode code 8 = .ok (.new 69, 3) := by decide +kernel
theorem dd_L_law_11 : decode code 11 = .ok (.dup, 1) := by decide +kernel
theorem dd_L_law_12 : decode code 12 = .ok (.invokespecial 71, 3) := by decide +kernel
theorem dd_L_law_15 : decode code 15 = .ok (.astore_n 2, 1) := by decide +kernel
theorem dd_L_law_16 : decode code 16 = .ok (.iconst 1, 1) := by decide +kernel
theorem dd_L_law_17 : decode code 17 = .ok (.newarray .long, 2) := by decide +kernel
theorem dd_L_law_19 : decode code 19 = .ok (.astore_n 3, 1) := by decide +kernel
theorem dd_L_law_20 : decode code 20 = .ok (.iconst 0, 1) := by decide +kernel
theorem dd_L_law_21 : decode code 21 = .ok (.istore 4, 2) := by decide +kernel
theorem dd_L_law_23 : decode code 23 = .ok (.iload 4, 2) := by decide +kernel
theorem dd_L_law_25 : decode code 25 = .ok (.aload_n 0, 1) := by decide +kernel
theorem dd_L_law_26 : decode code 26 = .ok (.arraylength, 1) := by decide +kernel
theorem dd_L_law_27 : decode code 27 = .ok (.bipush 6, 2) := by decide +kernel
theorem dd_L_law_29 : decode code 29 = .ok (.isub, 1) := by decide +kernel
theorem dd_L_law_30 : decode code 30 = .ok (.if_icmp .gt 1015, 3) := by decide +kernel
theorem dd_L_law_33 : decode code 33 = .ok (.aload_n 0, 1) := by decide +kernel
theorem dd_L_law_34 : decode code 34 = .ok (.iload 4, 2) := by decide +kernel
theorem dd_L_law_36 : decode code 36 = .ok (.iaload, 1) := by decide +kernel
theorem dd_L_law_37 : decode code 37 = .ok (.bipush 15, 2) := by decide +kernel
theorem dd_L_law_39 : decode code 39 = .ok (.iand, 1) := by decide +kernel
theorem dd_L_law_40 : decode code 40 = .ok (.tableswitch 999 0 15 #[80, 136, 288, 324, 416, 483, 531, 587, 623, 671, 719, 787, 831, 867, 878, 974], 80) := by decide +kernel
theorem dd_L_law_120 : decode code 120 = .ok (.aload_n 1, 1) := by decide +kernel
theorem dd_L_law_121 : decode code 121 = .ok (.aload_n 0, 1) := by decide +kernel
theorem dd_L_law_122 : decode code 122 = .ok (.iload 4, 2) := by decide +kernel
theorem dd_L_law_124 : decode code 124 = .ok (.iconst 1, 1) := by decide +kernel
theorem dd_L_law_125 : decode code 125 = .ok (.iadd, 1) := by decide +kernel
theorem dd_L_law_126 : decode code 126 = .ok (.iaload, 1) := by decide +kernel
theorem dd_L_law_127 : decode code 127 = .ok (.aload_n 3, 1) := by decide +kernel
theorem dd_L_law_128 : decode code 128 = .ok (.invokestatic 72, 3) := by decide +kernel
theorem dd_L_law_131 : decode code 131 = .ok (.istore 5, 2) := by decide +kernel
theorem dd_L_law_133 : decode code 133 = .ok (.aload_n 2, 1) := by decide +kernel
theorem dd_L_law_134 : decode code 134 = .ok (.aload_n 0, 1) := by decide +kernel
theorem dd_L_law_135 : decode code 135 = .ok (.iload 4, 2) := by decide +kernel
theorem dd_L_law_137 : decode code 137 = .ok (.iconst 1, 1) := by decide +kernel
theorem dd_L_law_138 : decode code 138 = .ok (.iadd, 1) := by decide +kernel
theorem dd_L_law_139 : decode code 139 = .ok (.iaload, 1) := by decide +kernel
theorem dd_L_law_140 : decode code 140 = .ok (.invokevirtual 77, 3) := by decide +kernel
theorem dd_L_law_143 : decode code 143 = .ok (.istore 6, 2) := by decide +kernel
theorem dd_L_law_145 : decode code 145 = .ok (.aload_n 2, 1) := by decide +kernel
theorem dd_L_law_146 : decode code 146 = .ok (.invokevirtual 78, 3) := by decide +kernel
theorem dd_L_law_149 : decode code 149 = .ok (.iload 5, 2) := by decide +kernel
theorem dd_L_law_151 : decode code 151 = .ok (.if_icmp .eq 5, 3) := by decide +kernel
theorem dd_L_law_154 : decode code 154 = .ok (.iconst 0, 1) := by decide +kernel
theorem dd_L_law_155 : decode code 155 = .ok (.ireturn, 1) := by decide +kernel
theorem dd_L_law_156 : decode code 156 = .ok (.iload 5, 2) := by decide +kernel
theorem dd_L_law_158 : decode code 158 = .ok (.ifCond .ne 15, 3) := by decide +kernel
theorem dd_L_law_161 : decode code 161 = .ok (.aload_n 3, 1) := by decide +kernel
theorem dd_L_law_162 : decode code 162 = .ok (.iconst 0, 1) := by decide +kernel
theorem dd_L_law_163 : decode code 163 = .ok (.laload, 1) := by decide +kernel
theorem dd_L_law_164 : decode code 164 = .ok (.iload 6, 2) := by decide +kernel
theorem dd_L_law_166 : decode code 166 = .ok (.i2l, 1) := by decide +kernel
theorem dd_L_law_167 : decode code 167 = .ok (.lcmp, 1) := by decide +kernel
theorem dd_L_law_168 : decode code 168 = .ok (.ifCond .eq 5, 3) := by decide +kernel
theorem dd_L_law_171 : decode code 171 = .ok (.iconst 0, 1) := by decide +kernel
theorem dd_L_law_172 : decode code 172 = .ok (.ireturn, 1) := by decide +kernel
theorem dd_L_law_173 : decode code 173 = .ok (.goto 866, 3) := by decide +kernel
theorem dd_L_law_176 : decode code 176 = .ok (.aload_n 1, 1) := by decide +kernel
theorem dd_L_law_177 : decode code 177 = .ok (.aload_n 0, 1) := by decide +kernel
theorem dd_L_law_178 : decode code 178 = .ok (.iload 4, 2) := by decide +kernel
theorem dd_L_law_180 : decode code 180 = .ok (.iconst 1, 1) := by decide +kernel
theorem dd_L_law_181 : decode code 181 = .ok (.iadd, 1) := by decide +kernel
theorem dd_L_law_182 : decode code 182 = .ok (.iaload, 1) := by decide +kernel
theorem dd_L_law_183 : decode code 183 = .ok (.aload_n 0, 1) := by decide +kernel
theorem dd_L_law_184 : decode code 184 = .ok (.iload 4, 2) := by decide +kernel
theorem dd_L_law_186 : decode code 186 = .ok (.iconst 2, 1) := by decide +kernel
theorem dd_L_law_187 : decode code 187 = .ok (.iadd, 1) := by decide +kernel
theorem dd_L_law_188 : decode code 188 = .ok (.iaload, 1) := by decide +kernel
theorem dd_L_law_189 : decode code 189 = .ok (.aload_n 0, 1) := by decide +kernel
theorem dd_L_law_190 : decode code 190 = .ok (.iload 4, 2) := by decide +kernel
theorem dd_L_law_192 : decode code 192 = .ok (.iconst 3, 1) := by decide +kernel
theorem dd_L_law_193 : decode code 193 = .ok (.iadd, 1) := by decide +kernel
theorem dd_L_law_194 : decode code 194 = .ok (.iaload, 1) := by decide +kernel
theorem dd_L_law_195 : decode code 195 = .ok (.ifCond .eq 7, 3) := by decide +kernel
theorem dd_L_law_198 : decode code 198 = .ok (.iconst 1, 1) := by decide +kernel
theorem dd_L_law_199 : decode code 199 = .ok (.goto 4, 3) := by decide +kernel
theorem dd_L_law_202 : decode code 202 = .ok (.iconst 0, 1) := by decide +kernel
theorem dd_L_law_203 : decode code 203 = .ok (.aload_n 0, 1) := by decide +kernel
theorem dd_L_law_204 : decode code 204 = .ok (.iload 4, 2) := by decide +kernel
theorem dd_L_law_206 : decode code 206 = .ok (.iconst 4, 1) := by decide +kernel
theorem dd_L_law_207 : decode code 207 = .ok (.iadd, 1) := by decide +kernel
theorem dd_L_law_208 : decode code 208 = .ok (.iaload, 1) := by decide +kernel
theorem dd_L_law_209 : decode code 209 = .ok (.ifCond .eq 7, 3) := by decide +kernel
theorem dd_L_law_212 : decode code 212 = .ok (.iconst 1, 1) := by decide +kernel
theorem dd_L_law_213 : decode code 213 = .ok (.goto 4, 3) := by decide +kernel
theorem dd_L_law_216 : decode code 216 = .ok (.iconst 0, 1) := by decide +kernel
theorem dd_L_law_217 : decode code 217 = .ok (.aload_n 0, 1) := by decide +kernel
theorem dd_L_law_218 : decode code 218 = .ok (.iload 4, 2) := by decide +kernel
theorem dd_L_law_220 : decode code 220 = .ok (.iconst 5, 1) := by decide +kernel
theorem dd_L_law_221 : decode code 221 = .ok (.iadd, 1) := by decide +kernel
theorem dd_L_law_222 : decode code 222 = .ok (.iaload, 1) := by decide +kernel
theorem dd_L_law_223 : decode code 223 = .ok (.ifCond .eq 7, 3) := by decide +kernel
theorem dd_L_law_226 : decode code 226 = .ok (.iconst 1, 1) := by decide +kernel
theorem dd_L_law_227 : decode code 227 = .ok (.goto 4, 3) := by decide +kernel
theorem dd_L_law_230 : decode code 230 = .ok (.iconst 0, 1) := by decide +kernel
theorem dd_L_law_231 : decode code 231 = .ok (.aload_n 3, 1) := by decide +kernel
theorem dd_L_law_232 : decode code 232 = .ok (.invokestatic 81, 3) := by decide +kernel
theorem dd_L_law_235 : decode code 235 = .ok (.istore 5, 2) := by decide +kernel
theorem dd_L_law_237 : decode code 237 = .ok (.aload_n 2, 1) := by decide +kernel
theorem dd_L_law_238 : decode code 238 = .ok (.aload_n 0, 1) := by decide +kernel
theorem dd_L_law_239 : decode code 239 = .ok (.iload 4, 2) := by decide +kernel
theorem dd_L_law_241 : decode code 241 = .ok (.iconst 1, 1) := by decide +kernel
theorem dd_L_law_242 : decode code 242 = .ok (.iadd, 1) := by decide +kernel
theorem dd_L_law_243 : decode code 243 = .ok (.iaload, 1) := by decide +kernel
theorem dd_L_law_244 : decode code 244 = .ok (.aload_n 0, 1) := by decide +kernel
theorem dd_L_law_245 : decode code 245 = .ok (.iload 4, 2) := by decide +kernel
theorem dd_L_law_247 : decode code 247 = .ok (.iconst 2, 1) := by decide +kernel
theorem dd_L_law_248 : decode code 248 = .ok (.iadd, 1) := by decide +kernel
theorem dd_L_law_249 : decode code 249 = .ok (.iaload, 1) := by decide +kernel
theorem dd_L_law_250 : decode code 250 = .ok (.aload_n 0, 1) := by decide +kernel
theorem dd_L_law_251 : decode code 251 = .ok (.iload 4, 2) := by decide +kernel
theorem dd_L_law_253 : decode code 253 = .ok (.iconst 3, 1) := by decide +kernel
theorem dd_L_law_254 : decode code 254 = .ok (.iadd, 1) := by decide +kernel
theorem dd_L_law_255 : decode code 255 = .ok (.iaload, 1) := by decide +kernel
theorem dd_L_law_256 : decode code 256 = .ok (.ifCond .eq 7, 3) := by decide +kernel
theorem dd_L_law_259 : decode code 259 = .ok (.iconst 1, 1) := by decide +kernel
theorem dd_L_law_260 : decode code 260 = .ok (.goto 4, 3) := by decide +kernel
theorem dd_L_law_263 : decode code 263 = .ok (.iconst 0, 1) := by decide +kernel
theorem dd_L_law_264 : decode code 264 = .ok (.aload_n 0, 1) := by decide +kernel
theorem dd_L_law_265 : decode code 265 = .ok (.iload 4, 2) := by decide +kernel
theorem dd_L_law_267 : decode code 267 = .ok (.iconst 4, 1) := by decide +kernel
theorem dd_L_law_268 : decode code 268 = .ok (.iadd, 1) := by decide +kernel
theorem dd_L_law_269 : decode code 269 = .ok (.iaload, 1) := by decide +kernel
theorem dd_L_law_270 : decode code 270 = .ok (.ifCond .eq 7, 3) := by decide +kernel
theorem dd_L_law_273 : decode code 273 = .ok (.iconst 1, 1) := by decide +kernel
theorem dd_L_law_274 : decode code 274 = .ok (.goto 4, 3) := by decide +kernel
theorem dd_L_law_277 : decode code 277 = .ok (.iconst 0, 1) := by decide +kernel
theorem dd_L_law_278 : decode code 278 = .ok (.aload_n 0, 1) := by decide +kernel
theorem dd_L_law_279 : decode code 279 = .ok (.iload 4, 2) := by decide +kernel
theorem dd_L_law_281 : decode code 281 = .ok (.iconst 5, 1) := by decide +kernel
theorem dd_L_law_282 : decode code 282 = .ok (.iadd, 1) := by decide +kernel
theorem dd_L_law_283 : decode code 283 = .ok (.iaload, 1) := by decide +kernel
theorem dd_L_law_284 : decode code 284 = .ok (.ifCond .eq 7, 3) := by decide +kernel
theorem dd_L_law_287 : decode code 287 = .ok (.iconst 1, 1) := by decide +kernel
theorem dd_L_law_288 : decode code 288 = .ok (.goto 4, 3) := by decide +kernel
theorem dd_L_law_291 : decode code 291 = .ok (.iconst 0, 1) := by decide +kernel
theorem dd_L_law_292 : decode code 292 = .ok (.invokevirtual 84, 3) := by decide +kernel
theorem dd_L_law_295 : decode code 295 = .ok (.istore 6, 2) := by decide +kernel
theorem dd_L_law_297 : decode code 297 = .ok (.aload_n 2, 1) := by decide +kernel
theorem dd_L_law_298 : decode code 298 = .ok (.invokevirtual 78, 3) := by decide +kernel
theorem dd_L_law_301 : decode code 301 = .ok (.iload 5, 2) := by decide +kernel
theorem dd_L_law_303 : decode code 303 = .ok (.if_icmp .eq 5, 3) := by decide +kernel
theorem dd_L_law_306 : decode code 306 = .ok (.iconst 0, 1) := by decide +kernel
theorem dd_L_law_307 : decode code 307 = .ok (.ireturn, 1) := by decide +kernel
theorem dd_L_law_308 : decode code 308 = .ok (.iload 5, 2) := by decide +kernel
theorem dd_L_law_310 : decode code 310 = .ok (.ifCond .ne 15, 3) := by decide +kernel
theorem dd_L_law_313 : decode code 313 = .ok (.aload_n 3, 1) := by decide +kernel
theorem dd_L_law_314 : decode code 314 = .ok (.iconst 0, 1) := by decide +kernel
theorem dd_L_law_315 : decode code 315 = .ok (.laload, 1) := by decide +kernel
theorem dd_L_law_316 : decode code 316 = .ok (.iload 6, 2) := by decide +kernel
theorem dd_L_law_318 : decode code 318 = .ok (.i2l, 1) := by decide +kernel
theorem dd_L_law_319 : decode code 319 = .ok (.lcmp, 1) := by decide +kernel
theorem dd_L_law_320 : decode code 320 = .ok (.ifCond .eq 5, 3) := by decide +kernel
theorem dd_L_law_323 : decode code 323 = .ok (.iconst 0, 1) := by decide +kernel
theorem dd_L_law_324 : decode code 324 = .ok (.ireturn, 1) := by decide +kernel
theorem dd_L_law_325 : decode code 325 = .ok (.goto 714, 3) := by decide +kernel
theorem dd_L_law_328 : decode code 328 = .ok (.aload_n 1, 1) := by decide +kernel
theorem dd_L_law_329 : decode code 329 = .ok (.aload_n 0, 1) := by decide +kernel
theorem dd_L_law_330 : decode code 330 = .ok (.iload 4, 2) := by decide +kernel
theorem dd_L_law_332 : decode code 332 = .ok (.iconst 1, 1) := by decide +kernel
theorem dd_L_law_333 : decode code 333 = .ok (.iadd, 1) := by decide +kernel
theorem dd_L_law_334 : decode code 334 = .ok (.iaload, 1) := by decide +kernel
theorem dd_L_law_335 : decode code 335 = .ok (.invokestatic 85, 3) := by decide +kernel
theorem dd_L_law_338 : decode code 338 = .ok (.istore 5, 2) := by decide +kernel
theorem dd_L_law_340 : decode code 340 = .ok (.aload_n 2, 1) := by decide +kernel
theorem dd_L_law_341 : decode code 341 = .ok (.aload_n 0, 1) := by decide +kernel
theorem dd_L_law_342 : decode code 342 = .ok (.iload 4, 2) := by decide +kernel
theorem dd_L_law_344 : decode code 344 = .ok (.iconst 1, 1) := by decide +kernel
theorem dd_L_law_345 : decode code 345 = .ok (.iadd, 1) := by decide +kernel
theorem dd_L_law_346 : decode code 346 = .ok (.iaload, 1) := by decide +kernel
theorem dd_L_law_347 : decode code 347 = .ok (.invokevirtual 88, 3) := by decide +kernel
theorem dd_L_law_350 : decode code 350 = .ok (.aload_n 2, 1) := by decide +kernel
theorem dd_L_law_351 : decode code 351 = .ok (.invokevirtual 78, 3) := by decide +kernel
theorem dd_L_law_354 : decode code 354 = .ok (.iload 5, 2) := by decide +kernel
theorem dd_L_law_356 : decode code 356 = .ok (.if_icmp .eq 5, 3) := by decide +kernel
theorem dd_L_law_359 : decode code 359 = .ok (.iconst 0, 1) := by decide +kernel
theorem dd_L_law_360 : decode code 360 = .ok (.ireturn, 1) := by decide +kernel
theorem dd_L_law_361 : decode code 361 = .ok (.goto 678, 3) := by decide +kernel
theorem dd_L_law_364 : decode code 364 = .ok (.aload_n 1, 1) := by decide +kernel
theorem dd_L_law_365 : decode code 365 = .ok (.aload_n 0, 1) := by decide +kernel
theorem dd_L_law_366 : decode code 366 = .ok (.iload 4, 2) := by decide +kernel
theorem dd_L_law_368 : decode code 368 = .ok (.iconst 1, 1) := by decide +kernel
theorem dd_L_law_369 : decode code 369 = .ok (.iadd, 1) := by decide +kernel
theorem dd_L_law_370 : decode code 370 = .ok (.iaload, 1) := by decide +kernel
theorem dd_L_law_371 : decode code 371 = .ok (.aload_n 0, 1) := by decide +kernel
theorem dd_L_law_372 : decode code 372 = .ok (.iload 4, 2) := by decide +kernel
theorem dd_L_law_374 : decode code 374 = .ok (.iconst 2, 1) := by decide +kernel
theorem dd_L_law_375 : decode code 375 = .ok (.iadd, 1) := by decide +kernel
theorem dd_L_law_376 : decode code 376 = .ok (.iaload, 1) := by decide +kernel
theorem dd_L_law_377 : decode code 377 = .ok (.i2l, 1) := by decide +kernel
theorem dd_L_law_378 : decode code 378 = .ok (.bipush 32, 2) := by decide +kernel
theorem dd_L_law_380 : decode code 380 = .ok (.lshl, 1) := by decide +kernel
theorem dd_L_law_381 : decode code 381 = .ok (.aload_n 0, 1) := by decide +kernel
theorem dd_L_law_382 : decode code 382 = .ok (.iload 4, 2) := by decide +kernel
theorem dd_L_law_384 : decode code 384 = .ok (.iconst 3, 1) := by decide +kernel
theorem dd_L_law_385 : decode code 385 = .ok (.iadd, 1) := by decide +kernel
theorem dd_L_law_386 : decode code 386 = .ok (.iaload, 1) := by decide +kernel
theorem dd_L_law_387 : decode code 387 = .ok (.i2l, 1) := by decide +kernel
theorem dd_L_law_388 : decode code 388 = .ok (.ldc2_w 89, 3) := by decide +kernel
theorem dd_L_law_391 : decode code 391 = .ok (.land, 1) := by decide +kernel
theorem dd_L_law_392 : decode code 392 = .ok (.lor, 1) := by decide +kernel
theorem dd_L_law_393 : decode code 393 = .ok (.aload_n 0, 1) := by decide +kernel
theorem dd_L_law_394 : decode code 394 = .ok (.iload 4, 2) := by decide +kernel
theorem dd_L_law_396 : decode code 396 = .ok (.iconst 4, 1) := by decide +kernel
theorem dd_L_law_397 : decode code 397 = .ok (.iadd, 1) := by decide +kernel
theorem dd_L_law_398 : decode code 398 = .ok (.iaload, 1) := by decide +kernel
theorem dd_L_law_399 : decode code 399 = .ok (.invokestatic 91, 3) := by decide +kernel
theorem dd_L_law_402 : decode code 402 = .ok (.istore 5, 2) := by decide +kernel
theorem dd_L_law_404 : decode code 404 = .ok (.aload_n 2, 1) := by decide +kernel
theorem dd_L_law_405 : decode code 405 = .ok (.aload_n 0, 1) := by decide +kernel
theorem dd_L_law_406 : decode code 406 = .ok (.iload 4, 2) := by decide +kernel
theorem dd_L_law_408 : decode code 408 = .ok (.iconst 1, 1) := by decide +kernel
theorem dd_L_law_409 : decode code 409 = .ok (.iadd, 1) := by decide +kernel
theorem dd_L_law_410 : decode code 410 = .ok (.iaload, 1) := by decide +kernel
theorem dd_L_law_411 : decode code 411 = .ok (.aload_n 0, 1) := by decide +kernel
theorem dd_L_law_412 : decode code 412 = .ok (.iload 4, 2) := by decide +kernel
theorem dd_L_law_414 : decode code 414 = .ok (.iconst 2, 1) := by decide +kernel
theorem dd_L_law_415 : decode code 415 = .ok (.iadd, 1) := by decide +kernel
theorem dd_L_law_416 : decode code 416 = .ok (.iaload, 1) := by decide +kernel
theorem dd_L_law_417 : decode code 417 = .ok (.i2l, 1) := by decide +kernel
theorem dd_L_law_418 : decode code 418 = .ok (.bipush 32, 2) := by decide +kernel
theorem dd_L_law_420 : decode code 420 = .ok (.lshl, 1) := by decide +kernel
theorem dd_L_law_421 : decode code 421 = .ok (.aload_n 0, 1) := by decide +kernel
theorem dd_L_law_422 : decode code 422 = .ok (.iload 4, 2) := by decide +kernel
theorem dd_L_law_424 : decode code 424 = .ok (.iconst 3, 1) := by decide +kernel
theorem dd_L_law_425 : decode code 425 = .ok (.iadd, 1) := by decide +kernel
theorem dd_L_law_426 : decode code 426 = .ok (.iaload, 1) := by decide +kernel
theorem dd_L_law_427 : decode code 427 = .ok (.i2l, 1) := by decide +kernel
theorem dd_L_law_428 : decode code 428 = .ok (.ldc2_w 89, 3) := by decide +kernel
theorem dd_L_law_431 : decode code 431 = .ok (.land, 1) := by decide +kernel
theorem dd_L_law_432 : decode code 432 = .ok (.lor, 1) := by decide +kernel
theorem dd_L_law_433 : decode code 433 = .ok (.aload_n 0, 1) := by decide +kernel
theorem dd_L_law_434 : decode code 434 = .ok (.iload 4, 2) := by decide +kernel
theorem dd_L_law_436 : decode code 436 = .ok (.iconst 4, 1) := by decide +kernel
theorem dd_L_law_437 : decode code 437 = .ok (.iadd, 1) := by decide +kernel
theorem dd_L_law_438 : decode code 438 = .ok (.iaload, 1) := by decide +kernel
theorem dd_L_law_439 : decode code 439 = .ok (.invokevirtual 94, 3) := by decide +kernel
theorem dd_L_law_442 : decode code 442 = .ok (.aload_n 2, 1) := by decide +kernel
theorem dd_L_law_443 : decode code 443 = .ok (.invokevirtual 78, 3) := by decide +kernel
theorem dd_L_law_446 : decode code 446 = .ok (.iload 5, 2) := by decide +kernel
theorem dd_L_law_448 : decode code 448 = .ok (.if_icmp .eq 5, 3) := by decide +kernel
theorem dd_L_law_451 : decode code 451 = .ok (.iconst 0, 1) := by decide +kernel
theorem dd_L_law_452 : decode code 452 = .ok (.ireturn, 1) := by decide +kernel
theorem dd_L_law_453 : decode code 453 = .ok (.goto 586, 3) := by decide +kernel
theorem dd_L_law_456 : decode code 456 = .ok (.aload_n 1, 1) := by decide +kernel
theorem dd_L_law_457 : decode code 457 = .ok (.aload_n 0, 1) := by decide +kernel
theorem dd_L_law_458 : decode code 458 = .ok (.iload 4, 2) := by decide +kernel
theorem dd_L_law_460 : decode code 460 = .ok (.iconst 1, 1) := by decide +kernel
theorem dd_L_law_461 : decode code 461 = .ok (.iadd, 1) := by decide +kernel
theorem dd_L_law_462 : decode code 462 = .ok (.iaload, 1) := by decide +kernel
theorem dd_L_law_463 : decode code 463 = .ok (.aload_n 0, 1) := by decide +kernel
theorem dd_L_law_464 : decode code 464 = .ok (.iload 4, 2) := by decide +kernel
theorem dd_L_law_466 : decode code 466 = .ok (.iconst 2, 1) := by decide +kernel
theorem dd_L_law_467 : decode code 467 = .ok (.iadd, 1) := by decide +kernel
theorem dd_L_law_468 : decode code 468 = .ok (.iaload, 1) := by decide +kernel
theorem dd_L_law_469 : decode code 469 = .ok (.aload_n 3, 1) := by decide +kernel
theorem dd_L_law_470 : decode code 470 = .ok (.invokestatic 95, 3) := by decide +kernel
theorem dd_L_law_473 : decode code 473 = .ok (.istore 5, 2) := by decide +kernel
theorem dd_L_law_475 : decode code 475 = .ok (.aload_n 2, 1) := by decide +kernel
theorem dd_L_law_476 : decode code 476 = .ok (.aload_n 0, 1) := by decide +kernel
theorem dd_L_law_477 : decode code 477 = .ok (.iload 4, 2) := by decide +kernel
theorem dd_L_law_479 : decode code 479 = .ok (.iconst 1, 1) := by decide +kernel
theorem dd_L_law_480 : decode code 480 = .ok (.iadd, 1) := by decide +kernel
theorem dd_L_law_481 : decode code 481 = .ok (.iaload, 1) := by decide +kernel
theorem dd_L_law_482 : decode code 482 = .ok (.aload_n 0, 1) := by decide +kernel
theorem dd_L_law_483 : decode code 483 = .ok (.iload 4, 2) := by decide +kernel
theorem dd_L_law_485 : decode code 485 = .ok (.iconst 2, 1) := by decide +kernel
theorem dd_L_law_486 : decode code 486 = .ok (.iadd, 1) := by decide +kernel
theorem dd_L_law_487 : decode code 487 = .ok (.iaload, 1) := by decide +kernel
theorem dd_L_law_488 : decode code 488 = .ok (.invokevirtual 98, 3) := by decide +kernel
theorem dd_L_law_491 : decode code 491 = .ok (.lstore 6, 2) := by decide +kernel
theorem dd_L_law_493 : decode code 493 = .ok (.aload_n 2, 1) := by decide +kernel
theorem dd_L_law_494 : decode code 494 = .ok (.invokevirtual 78, 3) := by decide +kernel
theorem dd_L_law_497 : decode code 497 = .ok (.iload 5, 2) := by decide +kernel
theorem dd_L_law_499 : decode code 499 = .ok (.if_icmp .eq 5, 3) := by decide +kernel
theorem dd_L_law_502 : decode code 502 = .ok (.iconst 0, 1) := by decide +kernel
theorem dd_L_law_503 : decode code 503 = .ok (.ireturn, 1) := by decide +kernel
theorem dd_L_law_504 : decode code 504 = .ok (.iload 5, 2) := by decide +kernel
theorem dd_L_law_506 : decode code 506 = .ok (.ifCond .ne 14, 3) := by decide +kernel
theorem dd_L_law_509 : decode code 509 = .ok (.aload_n 3, 1) := by decide +kernel
theorem dd_L_law_510 : decode code 510 = .ok (.iconst 0, 1) := by decide +kernel
theorem dd_L_law_511 : decode code 511 = .ok (.laload, 1) := by decide +kernel
theorem dd_L_law_512 : decode code 512 = .ok (.lload 6, 2) := by decide +kernel
theorem dd_L_law_514 : decode code 514 = .ok (.lcmp, 1) := by decide +kernel
theorem dd_L_law_515 : decode code 515 = .ok (.ifCond .eq 5, 3) := by decide +kernel
theorem dd_L_law_518 : decode code 518 = .ok (.iconst 0, 1) := by decide +kernel
theorem dd_L_law_519 : decode code 519 = .ok (.ireturn, 1) := by decide +kernel
theorem dd_L_law_520 : decode code 520 = .ok (.goto 519, 3) := by decide +kernel
theorem dd_L_law_523 : decode code 523 = .ok (.aload_n 1, 1) := by decide +kernel
theorem dd_L_law_524 : decode code 524 = .ok (.aload_n 0, 1) := by decide +kernel
theorem dd_L_law_525 : decode code 525 = .ok (.iload 4, 2) := by decide +kernel
theorem dd_L_law_527 : decode code 527 = .ok (.iconst 1, 1) := by decide +kernel
theorem dd_L_law_528 : decode code 528 = .ok (.iadd, 1) := by decide +kernel
theorem dd_L_law_529 : decode code 529 = .ok (.iaload, 1) := by decide +kernel
theorem dd_L_law_530 : decode code 530 = .ok (.aload_n 0, 1) := by decide +kernel
theorem dd_L_law_531 : decode code 531 = .ok (.iload 4, 2) := by decide +kernel
theorem dd_L_law_533 : decode code 533 = .ok (.iconst 2, 1) := by decide +kernel
theorem dd_L_law_534 : decode code 534 = .ok (.iadd, 1) := by decide +kernel
theorem dd_L_law_535 : decode code 535 = .ok (.iaload, 1) := by decide +kernel
theorem dd_L_law_536 : decode code 536 = .ok (.invokestatic 99, 3) := by decide +kernel
theorem dd_L_law_539 : decode code 539 = .ok (.istore 5, 2) := by decide +kernel
theorem dd_L_law_541 : decode code 541 = .ok (.aload_n 2, 1) := by decide +kernel
theorem dd_L_law_542 : decode code 542 = .ok (.aload_n 0, 1) := by decide +kernel
theorem dd_L_law_543 : decode code 543 = .ok (.iload 4, 2) := by decide +kernel
theorem dd_L_law_545 : decode code 545 = .ok (.iconst 1, 1) := by decide +kernel
theorem dd_L_law_546 : decode code 546 = .ok (.iadd, 1) := by decide +kernel
theorem dd_L_law_547 : decode code 547 = .ok (.iaload, 1) := by decide +kernel
theorem dd_L_law_548 : decode code 548 = .ok (.aload_n 0, 1) := by decide +kernel
theorem dd_L_law_549 : decode code 549 = .ok (.iload 4, 2) := by decide +kernel
theorem dd_L_law_551 : decode code 551 = .ok (.iconst 2, 1) := by decide +kernel
theorem dd_L_law_552 : decode code 552 = .ok (.iadd, 1) := by decide +kernel
theorem dd_L_law_553 : decode code 553 = .ok (.iaload, 1) := by decide +kernel
theorem dd_L_law_554 : decode code 554 = .ok (.invokevirtual 102, 3) := by decide +kernel
theorem dd_L_law_557 : decode code 557 = .ok (.aload_n 2, 1) := by decide +kernel
theorem dd_L_law_558 : decode code 558 = .ok (.invokevirtual 78, 3) := by decide +kernel
theorem dd_L_law_561 : decode code 561 = .ok (.iload 5, 2) := by decide +kernel
theorem dd_L_law_563 : decode code 563 = .ok (.if_icmp .eq 5, 3) := by decide +kernel
theorem dd_L_law_566 : decode code 566 = .ok (.iconst 0, 1) := by decide +kernel
theorem dd_L_law_567 : decode code 567 = .ok (.ireturn, 1) := by decide +kernel
theorem dd_L_law_568 : decode code 568 = .ok (.goto 471, 3) := by decide +kernel
theorem dd_L_law_571 : decode code 571 = .ok (.aload_n 1, 1) := by decide +kernel
theorem dd_L_law_572 : decode code 572 = .ok (.aload_n 0, 1) := by decide +kernel
theorem dd_L_law_573 : decode code 573 = .ok (.iload 4, 2) := by decide +kernel
theorem dd_L_law_575 : decode code 575 = .ok (.iconst 1, 1) := by decide +kernel
theorem dd_L_law_576 : decode code 576 = .ok (.iadd, 1) := by decide +kernel
theorem dd_L_law_577 : decode code 577 = .ok (.iaload, 1) := by decide +kernel
theorem dd_L_law_578 : decode code 578 = .ok (.aload_n 3, 1) := by decide +kernel
theorem dd_L_law_579 : decode code 579 = .ok (.invokestatic 103, 3) := by decide +kernel
theorem dd_L_law_582 : decode code 582 = .ok (.istore 5, 2) := by decide +kernel
theorem dd_L_law_584 : decode code 584 = .ok (.aload_n 2, 1) := by decide +kernel
theorem dd_L_law_585 : decode code 585 = .ok (.aload_n 0, 1) := by decide +kernel
theorem dd_L_law_586 : decode code 586 = .ok (.iload 4, 2) := by decide +kernel
theorem dd_L_law_588 : decode code 588 = .ok (.iconst 1, 1) := by decide +kernel
theorem dd_L_law_589 : decode code 589 = .ok (.iadd, 1) := by decide +kernel
theorem dd_L_law_590 : decode code 590 = .ok (.iaload, 1) := by decide +kernel
theorem dd_L_law_591 : decode code 591 = .ok (.invokevirtual 105, 3) := by decide +kernel
theorem dd_L_law_594 : decode code 594 = .ok (.istore 6, 2) := by decide +kernel
theorem dd_L_law_596 : decode code 596 = .ok (.aload_n 2, 1) := by decide +kernel
theorem dd_L_law_597 : decode code 597 = .ok (.invokevirtual 78, 3) := by decide +kernel
theorem dd_L_law_600 : decode code 600 = .ok (.iload 5, 2) := by decide +kernel
theorem dd_L_law_602 : decode code 602 = .ok (.if_icmp .eq 5, 3) := by decide +kernel
theorem dd_L_law_605 : decode code 605 = .ok (.iconst 0, 1) := by decide +kernel
theorem dd_L_law_606 : decode code 606 = .ok (.ireturn, 1) := by decide +kernel
theorem dd_L_law_607 : decode code 607 = .ok (.iload 5, 2) := by decide +kernel
theorem dd_L_law_609 : decode code 609 = .ok (.ifCond .ne 15, 3) := by decide +kernel
theorem dd_L_law_612 : decode code 612 = .ok (.aload_n 3, 1) := by decide +kernel
theorem dd_L_law_613 : decode code 613 = .ok (.iconst 0, 1) := by decide +kernel
theorem dd_L_law_614 : decode code 614 = .ok (.laload, 1) := by decide +kernel
theorem dd_L_law_615 : decode code 615 = .ok (.iload 6, 2) := by decide +kernel
theorem dd_L_law_617 : decode code 617 = .ok (.i2l, 1) := by decide +kernel
theorem dd_L_law_618 : decode code 618 = .ok (.lcmp, 1) := by decide +kernel
theorem dd_L_law_619 : decode code 619 = .ok (.ifCond .eq 5, 3) := by decide +kernel
theorem dd_L_law_622 : decode code 622 = .ok (.iconst 0, 1) := by decide +kernel
theorem dd_L_law_623 : decode code 623 = .ok (.ireturn, 1) := by decide +kernel
theorem dd_L_law_624 : decode code 624 = .ok (.goto 415, 3) := by decide +kernel
theorem dd_L_law_627 : decode code 627 = .ok (.aload_n 1, 1) := by decide +kernel
theorem dd_L_law_628 : decode code 628 = .ok (.aload_n 0, 1) := by decide +kernel
theorem dd_L_law_629 : decode code 629 = .ok (.iload 4, 2) := by decide +kernel
theorem dd_L_law_631 : decode code 631 = .ok (.iconst 1, 1) := by decide +kernel
theorem dd_L_law_632 : decode code 632 = .ok (.iadd, 1) := by decide +kernel
theorem dd_L_law_633 : decode code 633 = .ok (.iaload, 1) := by decide +kernel
theorem dd_L_law_634 : decode code 634 = .ok (.invokestatic 106, 3) := by decide +kernel
theorem dd_L_law_637 : decode code 637 = .ok (.istore 5, 2) := by decide +kernel
theorem dd_L_law_639 : decode code 639 = .ok (.aload_n 2, 1) := by decide +kernel
theorem dd_L_law_640 : decode code 640 = .ok (.aload_n 0, 1) := by decide +kernel
theorem dd_L_law_641 : decode code 641 = .ok (.iload 4, 2) := by decide +kernel
theorem dd_L_law_643 : decode code 643 = .ok (.iconst 1, 1) := by decide +kernel
theorem dd_L_law_644 : decode code 644 = .ok (.iadd, 1) := by decide +kernel
theorem dd_L_law_645 : decode code 645 = .ok (.iaload, 1) := by decide +kernel
theorem dd_L_law_646 : decode code 646 = .ok (.invokevirtual 108, 3) := by decide +kernel
theorem dd_L_law_649 : decode code 649 = .ok (.aload_n 2, 1) := by decide +kernel
theorem dd_L_law_650 : decode code 650 = .ok (.invokevirtual 78, 3) := by decide +kernel
theorem dd_L_law_653 : decode code 653 = .ok (.iload 5, 2) := by decide +kernel
theorem dd_L_law_655 : decode code 655 = .ok (.if_icmp .eq 5, 3) := by decide +kernel
theorem dd_L_law_658 : decode code 658 = .ok (.iconst 0, 1) := by decide +kernel
theorem dd_L_law_659 : decode code 659 = .ok (.ireturn, 1) := by decide +kernel
theorem dd_L_law_660 : decode code 660 = .ok (.goto 379, 3) := by decide +kernel
theorem dd_L_law_663 : decode code 663 = .ok (.aload_n 1, 1) := by decide +kernel
theorem dd_L_law_664 : decode code 664 = .ok (.aload_n 0, 1) := by decide +kernel
theorem dd_L_law_665 : decode code 665 = .ok (.iload 4, 2) := by decide +kernel
theorem dd_L_law_667 : decode code 667 = .ok (.iconst 1, 1) := by decide +kernel
theorem dd_L_law_668 : decode code 668 = .ok (.iadd, 1) := by decide +kernel
theorem dd_L_law_669 : decode code 669 = .ok (.iaload, 1) := by decide +kernel
theorem dd_L_law_670 : decode code 670 = .ok (.aload_n 0, 1) := by decide +kernel
theorem dd_L_law_671 : decode code 671 = .ok (.iload 4, 2) := by decide +kernel
theorem dd_L_law_673 : decode code 673 = .ok (.iconst 2, 1) := by decide +kernel
theorem dd_L_law_674 : decode code 674 = .ok (.iadd, 1) := by decide +kernel
theorem dd_L_law_675 : decode code 675 = .ok (.iaload, 1) := by decide +kernel
theorem dd_L_law_676 : decode code 676 = .ok (.invokestatic 109, 3) := by decide +kernel
theorem dd_L_law_679 : decode code 679 = .ok (.istore 5, 2) := by decide +kernel
theorem dd_L_law_681 : decode code 681 = .ok (.aload_n 2, 1) := by decide +kernel
theorem dd_L_law_682 : decode code 682 = .ok (.aload_n 0, 1) := by decide +kernel
theorem dd_L_law_683 : decode code 683 = .ok (.iload 4, 2) := by decide +kernel
theorem dd_L_law_685 : decode code 685 = .ok (.iconst 1, 1) := by decide +kernel
theorem dd_L_law_686 : decode code 686 = .ok (.iadd, 1) := by decide +kernel
theorem dd_L_law_687 : decode code 687 = .ok (.iaload, 1) := by decide +kernel
theorem dd_L_law_688 : decode code 688 = .ok (.aload_n 0, 1) := by decide +kernel
theorem dd_L_law_689 : decode code 689 = .ok (.iload 4, 2) := by decide +kernel
theorem dd_L_law_691 : decode code 691 = .ok (.iconst 2, 1) := by decide +kernel
theorem dd_L_law_692 : decode code 692 = .ok (.iadd, 1) := by decide +kernel
theorem dd_L_law_693 : decode code 693 = .ok (.iaload, 1) := by decide +kernel
theorem dd_L_law_694 : decode code 694 = .ok (.invokevirtual 111, 3) := by decide +kernel
theorem dd_L_law_697 : decode code 697 = .ok (.aload_n 2, 1) := by decide +kernel
theorem dd_L_law_698 : decode code 698 = .ok (.invokevirtual 78, 3) := by decide +kernel
theorem dd_L_law_701 : decode code 701 = .ok (.iload 5, 2) := by decide +kernel
theorem dd_L_law_703 : decode code 703 = .ok (.if_icmp .eq 5, 3) := by decide +kernel
theorem dd_L_law_706 : decode code 706 = .ok (.iconst 0, 1) := by decide +kernel
theorem dd_L_law_707 : decode code 707 = .ok (.ireturn, 1) := by decide +kernel
theorem dd_L_law_708 : decode code 708 = .ok (.goto 331, 3) := by decide +kernel
theorem dd_L_law_711 : decode code 711 = .ok (.aload_n 1, 1) := by decide +kernel
theorem dd_L_law_712 : decode code 712 = .ok (.aload_n 0, 1) := by decide +kernel
theorem dd_L_law_713 : decode code 713 = .ok (.iload 4, 2) := by decide +kernel
theorem dd_L_law_715 : decode code 715 = .ok (.iconst 1, 1) := by decide +kernel
theorem dd_L_law_716 : decode code 716 = .ok (.iadd, 1) := by decide +kernel
theorem dd_L_law_717 : decode code 717 = .ok (.iaload, 1) := by decide +kernel
theorem dd_L_law_718 : decode code 718 = .ok (.aload_n 0, 1) := by decide +kernel
theorem dd_L_law_719 : decode code 719 = .ok (.iload 4, 2) := by decide +kernel
theorem dd_L_law_721 : decode code 721 = .ok (.iconst 2, 1) := by decide +kernel
theorem dd_L_law_722 : decode code 722 = .ok (.iadd, 1) := by decide +kernel
theorem dd_L_law_723 : decode code 723 = .ok (.iaload, 1) := by decide +kernel
theorem dd_L_law_724 : decode code 724 = .ok (.invokestatic 112, 3) := by decide +kernel
theorem dd_L_law_727 : decode code 727 = .ok (.istore 5, 2) := by decide +kernel
theorem dd_L_law_729 : decode code 729 = .ok (.aload_n 2, 1) := by decide +kernel
theorem dd_L_law_730 : decode code 730 = .ok (.aload_n 0, 1) := by decide +kernel
theorem dd_L_law_731 : decode code 731 = .ok (.iload 4, 2) := by decide +kernel
theorem dd_L_law_733 : decode code 733 = .ok (.iconst 1, 1) := by decide +kernel
theorem dd_L_law_734 : decode code 734 = .ok (.iadd, 1) := by decide +kernel
theorem dd_L_law_735 : decode code 735 = .ok (.iaload, 1) := by decide +kernel
theorem dd_L_law_736 : decode code 736 = .ok (.aload_n 0, 1) := by decide +kernel
theorem dd_L_law_737 : decode code 737 = .ok (.iload 4, 2) := by decide +kernel
theorem dd_L_law_739 : decode code 739 = .ok (.iconst 2, 1) := by decide +kernel
theorem dd_L_law_740 : decode code 740 = .ok (.iadd, 1) := by decide +kernel
theorem dd_L_law_741 : decode code 741 = .ok (.iaload, 1) := by decide +kernel
theorem dd_L_law_742 : decode code 742 = .ok (.invokevirtual 114, 3) := by decide +kernel
theorem dd_L_law_745 : decode code 745 = .ok (.aload_n 2, 1) := by decide +kernel
theorem dd_L_law_746 : decode code 746 = .ok (.invokevirtual 78, 3) := by decide +kernel
theorem dd_L_law_749 : decode code 749 = .ok (.iload 5, 2) := by decide +kernel
theorem dd_L_law_751 : decode code 751 = .ok (.if_icmp .eq 5, 3) := by decide +kernel
theorem dd_L_law_754 : decode code 754 = .ok (.iconst 0, 1) := by decide +kernel
theorem dd_L_law_755 : decode code 755 = .ok (.ireturn, 1) := by decide +kernel
theorem dd_L_law_756 : decode code 756 = .ok (.goto 283, 3) := by decide +kernel
theorem dd_L_law_759 : decode code 759 = .ok (.aload_n 1, 1) := by decide +kernel
theorem dd_L_law_760 : decode code 760 = .ok (.aload_n 0, 1) := by decide +kernel
theorem dd_L_law_761 : decode code 761 = .ok (.iload 4, 2) := by decide +kernel
theorem dd_L_law_763 : decode code 763 = .ok (.iconst 1, 1) := by decide +kernel
theorem dd_L_law_764 : decode code 764 = .ok (.iadd, 1) := by decide +kernel
theorem dd_L_law_765 : decode code 765 = .ok (.iaload, 1) := by decide +kernel
theorem dd_L_law_766 : decode code 766 = .ok (.aload_n 0, 1) := by decide +kernel
theorem dd_L_law_767 : decode code 767 = .ok (.iload 4, 2) := by decide +kernel
theorem dd_L_law_769 : decode code 769 = .ok (.iconst 2, 1) := by decide +kernel
theorem dd_L_law_770 : decode code 770 = .ok (.iadd, 1) := by decide +kernel
theorem dd_L_law_771 : decode code 771 = .ok (.iaload, 1) := by decide +kernel
theorem dd_L_law_772 : decode code 772 = .ok (.aload_n 3, 1) := by decide +kernel
theorem dd_L_law_773 : decode code 773 = .ok (.invokestatic 115, 3) := by decide +kernel
theorem dd_L_law_776 : decode code 776 = .ok (.istore 5, 2) := by decide +kernel
theorem dd_L_law_778 : decode code 778 = .ok (.aload_n 2, 1) := by decide +kernel
theorem dd_L_law_779 : decode code 779 = .ok (.aload_n 0, 1) := by decide +kernel
theorem dd_L_law_780 : decode code 780 = .ok (.iload 4, 2) := by decide +kernel
theorem dd_L_law_782 : decode code 782 = .ok (.iconst 1, 1) := by decide +kernel
theorem dd_L_law_783 : decode code 783 = .ok (.iadd, 1) := by decide +kernel
theorem dd_L_law_784 : decode code 784 = .ok (.iaload, 1) := by decide +kernel
theorem dd_L_law_785 : decode code 785 = .ok (.aload_n 0, 1) := by decide +kernel
theorem dd_L_law_786 : decode code 786 = .ok (.iload 4, 2) := by decide +kernel
theorem dd_L_law_788 : decode code 788 = .ok (.iconst 2, 1) := by decide +kernel
theorem dd_L_law_789 : decode code 789 = .ok (.iadd, 1) := by decide +kernel
theorem dd_L_law_790 : decode code 790 = .ok (.iaload, 1) := by decide +kernel
theorem dd_L_law_791 : decode code 791 = .ok (.invokevirtual 117, 3) := by decide +kernel
theorem dd_L_law_794 : decode code 794 = .ok (.istore 6, 2) := by decide +kernel
theorem dd_L_law_796 : decode code 796 = .ok (.aload_n 2, 1) := by decide +kernel
theorem dd_L_law_797 : decode code 797 = .ok (.invokevirtual 78, 3) := by decide +kernel
theorem dd_L_law_800 : decode code 800 = .ok (.iload 5, 2) := by decide +kernel
theorem dd_L_law_802 : decode code 802 = .ok (.if_icmp .eq 5, 3) := by decide +kernel
theorem dd_L_law_805 : decode code 805 = .ok (.iconst 0, 1) := by decide +kernel
theorem dd_L_law_806 : decode code 806 = .ok (.ireturn, 1) := by decide +kernel
theorem dd_L_law_807 : decode code 807 = .ok (.iload 5, 2) := by decide +kernel
theorem dd_L_law_809 : decode code 809 = .ok (.ifCond .ne 15, 3) := by decide +kernel
theorem dd_L_law_812 : decode code 812 = .ok (.aload_n 3, 1) := by decide +kernel
theorem dd_L_law_813 : decode code 813 = .ok (.iconst 0, 1) := by decide +kernel
theorem dd_L_law_814 : decode code 814 = .ok (.laload, 1) := by decide +kernel
theorem dd_L_law_815 : decode code 815 = .ok (.iload 6, 2) := by decide +kernel
theorem dd_L_law_817 : decode code 817 = .ok (.i2l, 1) := by decide +kernel
theorem dd_L_law_818 : decode code 818 = .ok (.lcmp, 1) := by decide +kernel
theorem dd_L_law_819 : decode code 819 = .ok (.ifCond .eq 5, 3) := by decide +kernel
theorem dd_L_law_822 : decode code 822 = .ok (.iconst 0, 1) := by decide +kernel
theorem dd_L_law_823 : decode code 823 = .ok (.ireturn, 1) := by decide +kernel
theorem dd_L_law_824 : decode code 824 = .ok (.goto 215, 3) := by decide +kernel
theorem dd_L_law_827 : decode code 827 = .ok (.aload_n 1, 1) := by decide +kernel
theorem dd_L_law_828 : decode code 828 = .ok (.aload_n 3, 1) := by decide +kernel
theorem dd_L_law_829 : decode code 829 = .ok (.invokestatic 118, 3) := by decide +kernel
theorem dd_L_law_832 : decode code 832 = .ok (.istore 5, 2) := by decide +kernel
theorem dd_L_law_834 : decode code 834 = .ok (.aload_n 2, 1) := by decide +kernel
theorem dd_L_law_835 : decode code 835 = .ok (.invokevirtual 121, 3) := by decide +kernel
theorem dd_L_law_838 : decode code 838 = .ok (.istore 6, 2) := by decide +kernel
theorem dd_L_law_840 : decode code 840 = .ok (.aload_n 2, 1) := by decide +kernel
theorem dd_L_law_841 : decode code 841 = .ok (.invokevirtual 78, 3) := by decide +kernel
theorem dd_L_law_844 : decode code 844 = .ok (.iload 5, 2) := by decide +kernel
theorem dd_L_law_846 : decode code 846 = .ok (.if_icmp .eq 5, 3) := by decide +kernel
theorem dd_L_law_849 : decode code 849 = .ok (.iconst 0, 1) := by decide +kernel
theorem dd_L_law_850 : decode code 850 = .ok (.ireturn, 1) := by decide +kernel
theorem dd_L_law_851 : decode code 851 = .ok (.iload 5, 2) := by decide +kernel
theorem dd_L_law_853 : decode code 853 = .ok (.ifCond .ne 15, 3) := by decide +kernel
theorem dd_L_law_856 : decode code 856 = .ok (.aload_n 3, 1) := by decide +kernel
theorem dd_L_law_857 : decode code 857 = .ok (.iconst 0, 1) := by decide +kernel
theorem dd_L_law_858 : decode code 858 = .ok (.laload, 1) := by decide +kernel
theorem dd_L_law_859 : decode code 859 = .ok (.iload 6, 2) := by decide +kernel
theorem dd_L_law_861 : decode code 861 = .ok (.i2l, 1) := by decide +kernel
theorem dd_L_law_862 : decode code 862 = .ok (.lcmp, 1) := by decide +kernel
theorem dd_L_law_863 : decode code 863 = .ok (.ifCond .eq 5, 3) := by decide +kernel
theorem dd_L_law_866 : decode code 866 = .ok (.iconst 0, 1) := by decide +kernel
theorem dd_L_law_867 : decode code 867 = .ok (.ireturn, 1) := by decide +kernel
theorem dd_L_law_868 : decode code 868 = .ok (.goto 171, 3) := by decide +kernel
theorem dd_L_law_871 : decode code 871 = .ok (.aload_n 1, 1) := by decide +kernel
theorem dd_L_law_872 : decode code 872 = .ok (.aload_n 0, 1) := by decide +kernel
theorem dd_L_law_873 : decode code 873 = .ok (.iload 4, 2) := by decide +kernel
theorem dd_L_law_875 : decode code 875 = .ok (.iconst 1, 1) := by decide +kernel
theorem dd_L_law_876 : decode code 876 = .ok (.iadd, 1) := by decide +kernel
theorem dd_L_law_877 : decode code 877 = .ok (.iaload, 1) := by decide +kernel
theorem dd_L_law_878 : decode code 878 = .ok (.invokestatic 122, 3) := by decide +kernel
theorem dd_L_law_881 : decode code 881 = .ok (.istore 5, 2) := by decide +kernel
theorem dd_L_law_883 : decode code 883 = .ok (.aload_n 2, 1) := by decide +kernel
theorem dd_L_law_884 : decode code 884 = .ok (.aload_n 0, 1) := by decide +kernel
theorem dd_L_law_885 : decode code 885 = .ok (.iload 4, 2) := by decide +kernel
theorem dd_L_law_887 : decode code 887 = .ok (.iconst 1, 1) := by decide +kernel
theorem dd_L_law_888 : decode code 888 = .ok (.iadd, 1) := by decide +kernel
theorem dd_L_law_889 : decode code 889 = .ok (.iaload, 1) := by decide +kernel
theorem dd_L_law_890 : decode code 890 = .ok (.invokevirtual 124, 3) := by decide +kernel
theorem dd_L_law_893 : decode code 893 = .ok (.aload_n 2, 1) := by decide +kernel
theorem dd_L_law_894 : decode code 894 = .ok (.invokevirtual 78, 3) := by decide +kernel
theorem dd_L_law_897 : decode code 897 = .ok (.iload 5, 2) := by decide +kernel
theorem dd_L_law_899 : decode code 899 = .ok (.if_icmp .eq 5, 3) := by decide +kernel
theorem dd_L_law_902 : decode code 902 = .ok (.iconst 0, 1) := by decide +kernel
theorem dd_L_law_903 : decode code 903 = .ok (.ireturn, 1) := by decide +kernel
theorem dd_L_law_904 : decode code 904 = .ok (.goto 135, 3) := by decide +kernel
theorem dd_L_law_907 : decode code 907 = .ok (.aload_n 1, 1) := by decide +kernel
theorem dd_L_law_908 : decode code 908 = .ok (.invokevirtual 125, 3) := by decide +kernel
theorem dd_L_law_911 : decode code 911 = .ok (.aload_n 2, 1) := by decide +kernel
theorem dd_L_law_912 : decode code 912 = .ok (.invokevirtual 128, 3) := by decide +kernel
theorem dd_L_law_915 : decode code 915 = .ok (.goto 124, 3) := by decide +kernel
theorem dd_L_law_918 : decode code 918 = .ok (.aload_n 1, 1) := by decide +kernel
theorem dd_L_law_919 : decode code 919 = .ok (.aload_n 0, 1) := by decide +kernel
theorem dd_L_law_920 : decode code 920 = .ok (.iload 4, 2) := by decide +kernel
theorem dd_L_law_922 : decode code 922 = .ok (.iconst 1, 1) := by decide +kernel
theorem dd_L_law_923 : decode code 923 = .ok (.iadd, 1) := by decide +kernel
theorem dd_L_law_924 : decode code 924 = .ok (.iaload, 1) := by decide +kernel
theorem dd_L_law_925 : decode code 925 = .ok (.aload_n 0, 1) := by decide +kernel
theorem dd_L_law_926 : decode code 926 = .ok (.iload 4, 2) := by decide +kernel
theorem dd_L_law_928 : decode code 928 = .ok (.iconst 2, 1) := by decide +kernel
theorem dd_L_law_929 : decode code 929 = .ok (.iadd, 1) := by decide +kernel
theorem dd_L_law_930 : decode code 930 = .ok (.iaload, 1) := by decide +kernel
theorem dd_L_law_931 : decode code 931 = .ok (.aload_n 0, 1) := by decide +kernel
theorem dd_L_law_932 : decode code 932 = .ok (.iload 4, 2) := by decide +kernel
theorem dd_L_law_934 : decode code 934 = .ok (.iconst 3, 1) := by decide +kernel
theorem dd_L_law_935 : decode code 935 = .ok (.iadd, 1) := by decide +kernel
theorem dd_L_law_936 : decode code 936 = .ok (.iaload, 1) := by decide +kernel
theorem dd_L_law_937 : decode code 937 = .ok (.ifCond .eq 7, 3) := by decide +kernel
theorem dd_L_law_940 : decode code 940 = .ok (.iconst 1, 1) := by decide +kernel
theorem dd_L_law_941 : decode code 941 = .ok (.goto 4, 3) := by decide +kernel
theorem dd_L_law_944 : decode code 944 = .ok (.iconst 0, 1) := by decide +kernel
theorem dd_L_law_945 : decode code 945 = .ok (.aload_n 3, 1) := by decide +kernel
theorem dd_L_law_946 : decode code 946 = .ok (.invokestatic 129, 3) := by decide +kernel
theorem dd_L_law_949 : decode code 949 = .ok (.istore 5, 2) := by decide +kernel
theorem dd_L_law_951 : decode code 951 = .ok (.aload_n 2, 1) := by decide +kernel
theorem dd_L_law_952 : decode code 952 = .ok (.aload_n 0, 1) := by decide +kernel
theorem dd_L_law_953 : decode code 953 = .ok (.iload 4, 2) := by decide +kernel
theorem dd_L_law_955 : decode code 955 = .ok (.iconst 1, 1) := by decide +kernel
theorem dd_L_law_956 : decode code 956 = .ok (.iadd, 1) := by decide +kernel
theorem dd_L_law_957 : decode code 957 = .ok (.iaload, 1) := by decide +kernel
theorem dd_L_law_958 : decode code 958 = .ok (.aload_n 0, 1) := by decide +kernel
theorem dd_L_law_959 : decode code 959 = .ok (.iload 4, 2) := by decide +kernel
theorem dd_L_law_961 : decode code 961 = .ok (.iconst 2, 1) := by decide +kernel
theorem dd_L_law_962 : decode code 962 = .ok (.iadd, 1) := by decide +kernel
theorem dd_L_law_963 : decode code 963 = .ok (.iaload, 1) := by decide +kernel
theorem dd_L_law_964 : decode code 964 = .ok (.aload_n 0, 1) := by decide +kernel
theorem dd_L_law_965 : decode code 965 = .ok (.iload 4, 2) := by decide +kernel
theorem dd_L_law_967 : decode code 967 = .ok (.iconst 3, 1) := by decide +kernel
theorem dd_L_law_968 : decode code 968 = .ok (.iadd, 1) := by decide +kernel
theorem dd_L_law_969 : decode code 969 = .ok (.iaload, 1) := by decide +kernel
theorem dd_L_law_970 : decode code 970 = .ok (.ifCond .eq 7, 3) := by decide +kernel
theorem dd_L_law_973 : decode code 973 = .ok (.iconst 1, 1) := by decide +kernel
theorem dd_L_law_974 : decode code 974 = .ok (.goto 4, 3) := by decide +kernel
theorem dd_L_law_977 : decode code 977 = .ok (.iconst 0, 1) := by decide +kernel
theorem dd_L_law_978 : decode code 978 = .ok (.invokevirtual 132, 3) := by decide +kernel
theorem dd_L_law_981 : decode code 981 = .ok (.istore 6, 2) := by decide +kernel
theorem dd_L_law_983 : decode code 983 = .ok (.aload_n 2, 1) := by decide +kernel
theorem dd_L_law_984 : decode code 984 = .ok (.invokevirtual 78, 3) := by decide +kernel
theorem dd_L_law_987 : decode code 987 = .ok (.iload 5, 2) := by decide +kernel
theorem dd_L_law_989 : decode code 989 = .ok (.if_icmp .eq 5, 3) := by decide +kernel
theorem dd_L_law_992 : decode code 992 = .ok (.iconst 0, 1) := by decide +kernel
theorem dd_L_law_993 : decode code 993 = .ok (.ireturn, 1) := by decide +kernel
theorem dd_L_law_994 : decode code 994 = .ok (.iload 5, 2) := by decide +kernel
theorem dd_L_law_996 : decode code 996 = .ok (.ifCond .ne 15, 3) := by decide +kernel
theorem dd_L_law_999 : decode code 999 = .ok (.aload_n 3, 1) := by decide +kernel
theorem dd_L_law_1000 : decode code 1000 = .ok (.iconst 0, 1) := by decide +kernel
theorem dd_L_law_1001 : decode code 1001 = .ok (.laload, 1) := by decide +kernel
theorem dd_L_law_1002 : decode code 1002 = .ok (.iload 6, 2) := by decide +kernel
theorem dd_L_law_1004 : decode code 1004 = .ok (.i2l, 1) := by decide +kernel
theorem dd_L_law_1005 : decode code 1005 = .ok (.lcmp, 1) := by decide +kernel
theorem dd_L_law_1006 : decode code 1006 = .ok (.ifCond .eq 5, 3) := by decide +kernel
theorem dd_L_law_1009 : decode code 1009 = .ok (.iconst 0, 1) := by decide +kernel
theorem dd_L_law_1010 : decode code 1010 = .ok (.ireturn, 1) := by decide +kernel
theorem dd_L_law_1011 : decode code 1011 = .ok (.goto 28, 3) := by decide +kernel
theorem dd_L_law_1014 : decode code 1014 = .ok (.aload_n 1, 1) := by decide +kernel
theorem dd_L_law_1015 : decode code 1015 = .ok (.aload_n 0, 1) := by decide +kernel
theorem dd_L_law_1016 : decode code 1016 = .ok (.iload 4, 2) := by decide +kernel
theorem dd_L_law_1018 : decode code 1018 = .ok (.iconst 1, 1) := by decide +kernel
theorem dd_L_law_1019 : decode code 1019 = .ok (.iadd, 1) := by decide +kernel
theorem dd_L_law_1020 : decode code 1020 = .ok (.iaload, 1) := by decide +kernel
theorem dd_L_law_1021 : decode code 1021 = .ok (.invokevirtual 133, 3) := by decide +kernel
theorem dd_L_law_1024 : decode code 1024 = .ok (.aload_n 2, 1) := by decide +kernel
theorem dd_L_law_1025 : decode code 1025 = .ok (.aload_n 0, 1) := by decide +kernel
theorem dd_L_law_1026 : decode code 1026 = .ok (.iload 4, 2) := by decide +kernel
theorem dd_L_law_1028 : decode code 1028 = .ok (.iconst 1, 1) := by decide +kernel
theorem dd_L_law_1029 : decode code 1029 = .ok (.iadd, 1) := by decide +kernel
theorem dd_L_law_1030 : decode code 1030 = .ok (.iaload, 1) := by decide +kernel
theorem dd_L_law_1031 : decode code 1031 = .ok (.invokevirtual 136, 3) := by decide +kernel
theorem dd_L_law_1034 : decode code 1034 = .ok (.if_icmp .eq 5, 3) := by decide +kernel
theorem dd_L_law_1037 : decode code 1037 = .ok (.iconst 0, 1) := by decide +kernel
theorem dd_L_law_1038 : decode code 1038 = .ok (.ireturn, 1) := by decide +kernel
theorem dd_L_law_1039 : decode code 1039 = .ok (.iinc 4 6, 3) := by decide +kernel
theorem dd_L_law_1042 : decode code 1042 = .ok (.goto (-1019), 3) := by decide +kernel
theorem dd_L_law_1045 : decode code 1045 = .ok (.iconst 1, 1) := by decide +kernel
theorem dd_L_law_1046 : decode code 1046 = .ok (.ireturn, 1) := by decide +kernel
end
section
/-! The reference, method by method, as functions of numbers: K kind, Z size, N generation, B blocks, Y bytes; I, O, M, P the handles -/
def jlt (n : Nat) (f : Nat → Nat) : Prop := ∀ k, f k < n
theorem ju_lt {n a v : Nat} {f : Nat → Nat} (h : jlt n f) (hv : v < n) : jlt n (ju f a v) := by
  intro k
  unfold ju
  split
  · exact hv
  · exact h k
theorem jlt_mono {n m : Nat} {f : Nat → Nat} (h : jlt n f) (hm : n ≤ m) : jlt m f := fun k => Nat.lt_of_lt_of_le (h k) hm
def jm_usedL (B : Nat → Nat) (b : Nat) : Nat → Nat → Nat
  | 0, _ => 0
  | n + 1, k => if B k = b then 1 else jm_usedL B b n (k + 1)
def jm_isUsed (B : Nat → Nat) (base b : Nat) : Nat := if b < 9 then 1 else jm_usedL B b 48 (base * 4)
theorem jm_usedL_lt (B : Nat → Nat) (b : Nat) : ∀ n k, jm_usedL B b n k < 2 := by
  intro n
  induction n with
  | zero => intro k; show 0 < 2; decide
  | succ n ih =>
    intro k
    unfold jm_usedL
    split
    · decide
    · exact ih _
theorem jm_isUsed_lt (B : Nat → Nat) (base b : Nat) : jm_isUsed B base b < 2 := by
  unfold jm_isUsed
  split
  · decide
  · exact jm_usedL_lt _ _ _ _
theorem jm_usedL_no {B : Nat → Nat} {m : Nat} (h : jlt m B) : ∀ n k, jm_usedL B m n k = 0 := by
  intro n
  induction n with
  | zero => intro k; rfl
  | succ n ih =>
    intro k
    unfold jm_usedL
    rw [if_neg (Nat.ne_of_lt (h k)), ih]
theorem jm_isUsed_no {B : Nat → Nat} {m base : Nat} (h : jlt m B) (hm : 9 ≤ m) : jm_isUsed B base m = 0 := by
  unfold jm_isUsed
  rw [if_neg (by omega), jm_usedL_no h]
def jm_freeL (B : Nat → Nat) : Nat → Nat → Nat → Nat
  | 0, _, f => f
  | n + 1, b, f => jm_freeL B n (b + 1) (if jm_isUsed B 0 b = 0 then f + 1 else f)
def jm_free (B : Nat → Nat) : Nat := jm_freeL B 31 9 0
theorem jm_freeL_le (B : Nat → Nat) : ∀ n b f, jm_freeL B n b f ≤ f + n := by
  intro n
  induction n with
  | zero => intro b f; exact Nat.le_refl _
  | succ n ih =>
    intro b f
    have := ih (b + 1) (if jm_isUsed B 0 b = 0 then f + 1 else f)
    unfold jm_freeL
    split at this <;> rename_i h <;> simp only [h, if_true, if_false] <;> omega
theorem jm_free_lt (B : Nat → Nat) : jm_free B < 32 := by
  have := jm_freeL_le B 31 9 0
  unfold jm_free
  omega
/-- the least block from b on that isn't used, looked for n times -/
def jm_nbL (B : Nat → Nat) : Nat → Nat → Nat
  | 0, b => b
  | n + 1, b => if jm_isUsed B 0 b = 0 then b else jm_nbL B n (b + 1)
def jm_newBlock (B : Nat → Nat) (m : Nat) : Nat := jm_nbL B (m - 9) 9
theorem jm_nbL_le (B : Nat → Nat) : ∀ n b, jm_nbL B n b ≤ b + n := by
  intro n
  induction n with
  | zero => intro b; exact Nat.le_refl _
  | succ n ih =>
    intro b
    unfold jm_nbL
    split
    · omega
    · have := ih (b + 1); omega
theorem jm_newBlock_le (B : Nat → Nat) {m : Nat} (hm : 9 ≤ m) : jm_newBlock B m ≤ m := by
  have := jm_nbL_le B (m - 9) 9
  unfold jm_newBlock
  omega
def jm_niL (K : Nat → Nat) : Nat → Nat → Nat
  | 0, i => i
  | n + 1, i => if K i = 0 then i else jm_niL K n (i + 1)
def jm_newInode (K : Nat → Nat) : Nat := jm_niL K 12 0
theorem jm_niL_le (K : Nat → Nat) : ∀ n i, jm_niL K n i ≤ i + n := by
  intro n
  induction n with
  | zero => intro i; exact Nat.le_refl _
  | succ n ih =>
    intro i
    unfold jm_niL
    split
    · omega
    · have := ih (i + 1); omega
theorem jm_newInode_le (K : Nat → Nat) : jm_newInode K ≤ 12 := by
  have := jm_niL_le K 12 0
  unfold jm_newInode
  omega
def jm_needed (n : Nat) : Nat := (n + 15) / 16
theorem jm_needed_le (n : Nat) : jm_needed n * 16 ≤ n + 15 := by
  unfold jm_needed
  omega
def jm_roomFor (Z B : Nat → Nat) (i n : Nat) : Nat := if jm_free B + jm_needed (Z i) < jm_needed n then 0 else 1
/-- blocks: the round k of resize; m bounds what stands in the table before -/
def jm_rsL (i z : Nat) : Nat → Nat → Nat → (Nat → Nat) → (Nat → Nat)
  | 0, _, _, B => B
  | n + 1, m, k, B => if k < jm_needed z then (if B (i * 4 + k) = 0 then jm_rsL i z n (m + 1) (k + 1) (ju B (i * 4 + k) (jm_newBlock B m)) else jm_rsL i z n (m + 1) (k + 1) B) else jm_rsL i z n (m + 1) (k + 1) (ju B (i * 4 + k) 0)
def jm_resB (B : Nat → Nat) (m i z : Nat) : Nat → Nat := jm_rsL i z 4 m 0 B
theorem jm_rsL_lt (i z : Nat) : ∀ n m k {B : Nat → Nat}, 9 ≤ m → jlt m B → jlt (m + n) (jm_rsL i z n m k B) := by
  intro n
  induction n with
  | zero => intro m k B _ h; exact h
  | succ n ih =>
    intro m k B hm h
    have e : m + (n + 1) = m + 1 + n := by omega
    rw [e]
    unfold jm_rsL
    split
    · split
      · exact ih _ _ (by omega) (ju_lt (jlt_mono h (by omega)) (by have := jm_newBlock_le B hm; omega))
      · exact ih _ _ (by omega) (jlt_mono h (by omega))
    · exact ih _ _ (by omega) (ju_lt (jlt_mono h (by omega)) (by omega))
def jm_zL (i : Nat) : Nat → Nat → (Nat → Nat) → (Nat → Nat)
  | 0, _, Y => Y
  | n + 1, k, Y => jm_zL i n (k + 1) (ju Y (i * 64 + k) 0)
def jm_resY (Y : Nat → Nat) (i z : Nat) : Nat → Nat := jm_zL i (64 - z) z Y
theorem jm_zL_lt (i : Nat) {b : Nat} (hb : 0 < b) : ∀ n k {Y : Nat → Nat}, jlt b Y → jlt b (jm_zL i n k Y) := by
  intro n
  induction n with
  | zero => intro k Y h; exact h
  | succ n ih => intro k Y h; exact ih _ (ju_lt h hb)
def jm_eoL (Y : Nat → Nat) (d nm : Nat) : Nat → Nat → Option Nat
  | 0, _ => none
  | n + 1, e => if Y (d * 64 + e * 2) = nm then some e else jm_eoL Y d nm n (e + 1)
def jm_entryOf (Z Y : Nat → Nat) (d nm : Nat) : Option Nat := jm_eoL Y d nm (Z d / 2) 0
theorem jm_eoL_lt (Y : Nat → Nat) (d nm : Nat) {j : Nat} : ∀ n e, jm_eoL Y d nm n e = some j → j < e + n := by
  intro n
  induction n with
  | zero => intro e h; simp [jm_eoL] at h
  | succ n ih =>
    intro e h
    unfold jm_eoL at h
    split at h
    · cases h; omega
    · have := ih _ h; omega
theorem jm_entryOf_lt {Z Y : Nat → Nat} {d nm j : Nat} (h : jm_entryOf Z Y d nm = some j) : j < Z d / 2 := by
  have := jm_eoL_lt Y d nm _ _ h
  omega
def jm_entryRoom (Z B : Nat → Nat) (d more : Nat) : Nat := if Z d < 32 then (if jm_free B + more + jm_needed (Z d) < jm_needed (Z d + 2) then 0 else 1) else 0
def jm_chL (I : Nat → Nat) : Nat → Nat → Nat
  | 0, h => h
  | n + 1, h => if I h = 0 then h else jm_chL I n (h + 1)
def jm_closedHandle (I : Nat → Nat) : Nat := jm_chL I 6 0
theorem jm_chL_le (I : Nat → Nat) : ∀ n h, jm_chL I n h ≤ h + n := by
  intro n
  induction n with
  | zero => intro h; exact Nat.le_refl _
  | succ n ih =>
    intro h
    unfold jm_chL
    split
    · omega
    · have := ih (h + 1); omega
def jm_stale (K N I O M : Nat → Nat) (h : Nat) : Nat := if N (I h - 1) = O h then (if M h = 4 then (if K (I h - 1) = 2 then 0 else 1) else (if K (I h - 1) = 1 then 0 else 1)) else 1
def jm_mapL (B : Nat → Nat) (base : Nat) : Nat → Nat → Nat → Nat
  | 0, _, v => v
  | n + 1, b, v => jm_mapL B base n (b + 1) (if jm_isUsed B base b = 0 then v else v ||| 2 ^ (b % 8))
def jm_inodeByte (K Z N B : Nat → Nat) (i f : Nat) : Nat := if f = 0 then K i else if f = 1 then Z i else if f = 2 then (if K i = 0 then 0 else 1) else if f = 3 then N i else B (i * 4 + f - 4)
theorem jl_gtDz : True := trivial
end
section
abbrev wM (qM qK qZ qN qB qY qi qo qm qp : Nat) (c1 c2 c3 c4 c5 c6 c7 c8 c9 : ClassId) (K Z N B Y I O M P : Nat → Nat) (ct wr ofs th : Nat) (pa en fo : Option Nat) (la : Nat) : va_W :=
  [(qM, .inr (4, [.ref qK, .ref qZ, .ref qN, .ref qB, .ref qY, .ref qi, .ref qo, .ref qm, .ref qp, .int (nI ct), .int (nI wr), .int (nI ofs), .int (nI th), .int (jo pa), .int (jo en), .int (jo fo), .int (nI la)])),
   (qK, .inl (c1, 24, .inl (jn K))), (qZ, .inl (c2, 24, .inl (jn Z))), (qN, .inl (c3, 24, .inl (jn N))), (qB, .inl (c4, 96, .inl (jn B))), (qY, .inl (c5, 1536, .inl (jn Y))), (qi, .inl (c6, 6, .inl (jn I))), (qo, .inl (c7, 6, .inl (jn O))), (qm, .inl (c8, 6, .inl (jn M))), (qp, .inl (c9, 6, .inl (jn P)))]
abbrev tM (c1 c2 c3 c4 c5 c6 c7 c8 c9 : ClassId) : List (ClassId × FieldType) := [(c1, .int), (c2, .int), (c3, .int), (c4, .int), (c5, .int), (c6, .int), (c7, .int), (c8, .int), (c9, .int)]
section JP
variable {p : Program} {l : Launch} {e : Env} {R : Room} {s : State} {m : MethodId} {args : Array Value} {below : List Frame} {meth : Method} {c : Code} {H : Heap} {locs : List Loc} {cells slots : Nat} {Q : State → Prop}
variable {cc : ByteArray} {pc : Nat} {ls : Array Slot} {rest : List Value}
theorem jl_ifltO (hx : p.tables.exec = Jvm.exec) (hb : c.code = cc) {o : Option Nat} {off : Int} {tgt : Nat} (ho : ∀ j, o = some j → j < 2 ^ 31) (hd : decode cc pc = .ok (.ifCond .lt off, 3)) (ht : (pc : Int) + off = (tgt : Int)) (kt : o = none → W p l e R s m args below meth c H locs cells slots Q (F0 m tgt ls rest)) (kf : ∀ j, o = some j → W p l e R s m args below meth c H locs cells slots Q (F0 m (pc + 3) ls rest)) : W p l e R s m args below meth c H locs cells slots Q (F0 m pc ls (.int (jo o) :: rest)) := by
  cases o with
  | none => exact lv_if_lt hx hb hd ht (fun _ => kt rfl) (fun h => absurd (by decide : (-1 : Int32) < 0) h)
  | some j => exact jl_iflt hx hb (ho j rfl) hd ht (kf j rfl)
theorem jl_ifgeO (hx : p.tables.exec = Jvm.exec) (hb : c.code = cc) {o : Option Nat} {off : Int} {tgt : Nat} (ho : ∀ j, o = some j → j < 2 ^ 31) (hd : decode cc pc = .ok (.ifCond .ge off, 3)) (ht : (pc : Int) + off = (tgt : Int)) (kt : ∀ j, o = some j → W p l e R s m args below meth c H locs cells slots Q (F0 m tgt ls rest)) (kf : o = none → W p l e R s m args below meth c H locs cells slots Q (F0 m (pc + 3) ls rest)) : W p l e R s m args below meth c H locs cells slots Q (F0 m pc ls (.int (jo o) :: rest)) := by
  cases o with
  | none => exact lv_if_ge hx hb hd ht (fun h => absurd h (by decide : ¬ (0 : Int32) ≤ -1)) (fun _ => kf rfl)
  | some j => exact jl_ifge hx hb (ho j rfl) hd ht (kt j rfl)
theorem jl_ifltN (hx : p.tables.exec = Jvm.exec) (hb : c.code = cc) {off : Int} {tgt : Nat} (hd : decode cc pc = .ok (.ifCond .lt off, 3)) (ht : (pc : Int) + off = (tgt : Int)) (kt : W p l e R s m args below meth c H locs cells slots Q (F0 m tgt ls rest)) : W p l e R s m args below meth c H locs cells slots Q (F0 m pc ls (.int (-1) :: rest)) :=
  lv_if_lt hx hb hd ht (fun _ => kt) (fun h => absurd (by decide : (-1 : Int32) < 0) h)
theorem jl_ifgeN (hx : p.tables.exec = Jvm.exec) (hb : c.code = cc) {off : Int} {tgt : Nat} (hd : decode cc pc = .ok (.ifCond .ge off, 3)) (ht : (pc : Int) + off = (tgt : Int)) (kf : W p l e R s m args below meth c H locs cells slots Q (F0 m (pc + 3) ls rest)) : W p l e R s m args below meth c H locs cells slots Q (F0 m pc ls (.int (-1) :: rest)) :=
  lv_if_ge hx hb hd ht (fun h => absurd h (by decide : ¬ (0 : Int32) ≤ -1)) (fun _ => kf)
end JP
end
section
set_option maxHeartbeats 4000000 in
set_option maxRecDepth 100000 in
theorem ct_M_thrown (l : Launch) (G : va_G) (qM qK qZ qN qB qY qi qo qm qp : Nat) (c1 c2 c3 c4 c5 c6 c7 c8 c9 : ClassId) (K : Nat → Nat) (Z : Nat → Nat) (N : Nat → Nat) (B : Nat → Nat) (Y : Nat → Nat) (I : Nat → Nat) (O : Nat → Nat) (M : Nat → Nat) (P : Nat → Nat) (ct : Nat) (wr : Nat) (ofs : Nat) (th : Nat) (pa : Option Nat) (ey : Option Nat) (fo : Option Nat) (la : Nat)   : jr l yn_M_thrown (.code yn_M_thrown cd_M_thrown 1 (some .int)) { frames := 0, cells := 0, slots := 0, locals := 0 } G (tM c1 c2 c3 c4 c5 c6 c7 c8 c9) (wM qM qK qZ qN qB qY qi qo qm qp c1 c2 c3 c4 c5 c6 c7 c8 c9 K Z N B Y I O M P ct wr ofs th pa ey fo la) [.ref qM] (nI th) := by
  refine jr_of (by decide) (Nat.le_of_ble_eq_true rfl) ?_
  intro pr en σ mi bel met cd ls C hP hK hl
  have hx := C.1
  have hb := C.2.1
  have hown := C.2.2.2.1
  have hts := C.2.2.2.2.1
  have hl : lv_has ls 1 [(0, .ref qM)] := hl
  refine lv_aload_n hx hb dd_M_thrown_0 rfl (lv_at hl 0 rfl) ?_
  refine va_get (D := G) (ci := 4) (v := .int (nI (th))) (C := cn_M) (T := ft_M) (N := 17) hx hb hts uw_M hown hK hP 0 rfl rfl 12 (by decide) (hts _ tw_605) (fun _ h9 => h9) rfl dd_M_thrown_1 ?_
  exact jr_ret C (by first | with_reducible rfl | (simp []; done) | (simp_all []; done)) dd_M_thrown_4
set_option maxHeartbeats 4000000 in
set_option maxRecDepth 100000 in
theorem ct_M_isUsed (l : Launch) (G : va_G) (qM qK qZ qN qB qY qi qo qm qp : Nat) (c1 c2 c3 c4 c5 c6 c7 c8 c9 : ClassId) (K : Nat → Nat) (Z : Nat → Nat) (N : Nat → Nat) (B : Nat → Nat) (Y : Nat → Nat) (I : Nat → Nat) (O : Nat → Nat) (M : Nat → Nat) (P : Nat → Nat) (ct : Nat) (wr : Nat) (ofs : Nat) (th : Nat) (pa : Option Nat) (ey : Option Nat) (fo : Option Nat) (la : Nat) (base : Nat) (b : Nat) (m : Nat) (hba : base ≤ 12) (hb0 : b < 100000) (hm0 : 9 ≤ m ∧ m < 10000) (hB : jlt m B) : jr l yn_M_isUsed (.code yn_M_isUsed cd_M_isUsed 4 (some .boolean)) { frames := 0, cells := 0, slots := 0, locals := 0 } G (tM c1 c2 c3 c4 c5 c6 c7 c8 c9) (wM qM qK qZ qN qB qY qi qo qm qp c1 c2 c3 c4 c5 c6 c7 c8 c9 K Z N B Y I O M P ct wr ofs th pa ey fo la) [.ref qM, .int (nI (base)), .int (nI (b))] (nI (jm_isUsed B base b)) := by
  refine jr_of (by decide) (Nat.le_of_ble_eq_true rfl) ?_
  intro pr en σ mi bel met cd ls C hP hK hl
  have hx := C.1
  have hb := C.2.1
  have hown := C.2.2.2.1
  have hts := C.2.2.2.2.1
  have hl : lv_has ls 4 [(0, .ref qM), (1, .int (nI (base))), (2, .int (nI (b)))] := hl
  refine lv_iload_n hx hb dd_M_isUsed_0 rfl (lv_at hl 2 rfl) ?_
  refine lv_bipush (v := nI 9) hx hb dd_M_isUsed_1 (by decide) ?_
  refine jl_ge (tgt := 8) hx hb (by omega) (by omega) dd_M_isUsed_3 (by decide) (fun c_1 => ?_) (fun c_1 => ?_)
  · skip
    refine lv_iload_n hx hb dd_M_isUsed_8 rfl (lv_at hl 1 rfl) ?_
    refine lv_iconst (v := nI 4) hx hb dd_M_isUsed_9 (by decide) ?_
    refine jl_imul hx hb dd_M_isUsed_10 ?_
    refine lv_istore_n (lv' := [(3, .int (nI (base * 4))), (0, .ref qM), (1, .int (nI (base))), (2, .int (nI (b)))]) hx hb dd_M_isUsed_11 rfl hl (by decide) rfl (fun ls hl => ?_)
    have loop : ∀ (n : Nat) (k : Nat), (k + n = base * 4 + 48 ∧ ¬ b < 9) → jm_usedL B b n k = jm_isUsed B base b → ∀ ls : Array Slot, lv_has ls 4 [(3, .int (nI (k))), (0, .ref qM), (1, .int (nI (base))), (2, .int (nI (b)))] → W pr l en { frames := 0, cells := 0, slots := 0, locals := 0 } σ mi ([.ref qM, .int (nI (base)), .int (nI (b))] : List Value).toArray bel met cd σ.heap [] 0 0 (jr_Q bel [.ref qM, .int (nI (base)), .int (nI (b))] σ (nI (jm_isUsed B base b))) (F0 mi 12 ls []) := by
      intro n
      induction n with
      | zero =>
        intro k hi  ht ls hl
        refine lv_iload_n hx hb dd_M_isUsed_12 rfl (lv_at hl 0 rfl) ?_
        refine lv_iload_n hx hb dd_M_isUsed_13 rfl (lv_at hl 2 rfl) ?_
        refine lv_iconst (v := nI 4) hx hb dd_M_isUsed_14 (by decide) ?_
        refine jl_imul hx hb dd_M_isUsed_15 ?_
        refine lv_bipush (v := nI 48) hx hb dd_M_isUsed_16 (by decide) ?_
        refine jl_iadd hx hb dd_M_isUsed_18 ?_
        refine jl_ge (tgt := 40) hx hb (by omega) (by omega) dd_M_isUsed_19 (by decide) (fun c_2 => ?_) (fun c_2 => ?_)
        · skip
          refine lv_iconst (v := nI 0) hx hb dd_M_isUsed_40 (by decide) ?_
          exact jr_retz C (by decide) (by rw [← ht]; first | with_reducible rfl | (simp [jm_usedL, c_2]; done)) dd_M_isUsed_41
        · skip
          exact absurd c_2 (by omega)
      | succ n ih =>
        intro k hi  ht ls hl
        refine lv_iload_n hx hb dd_M_isUsed_12 rfl (lv_at hl 0 rfl) ?_
        refine lv_iload_n hx hb dd_M_isUsed_13 rfl (lv_at hl 2 rfl) ?_
        refine lv_iconst (v := nI 4) hx hb dd_M_isUsed_14 (by decide) ?_
        refine jl_imul hx hb dd_M_isUsed_15 ?_
        refine lv_bipush (v := nI 48) hx hb dd_M_isUsed_16 (by decide) ?_
        refine jl_iadd hx hb dd_M_isUsed_18 ?_
        refine jl_ge (tgt := 40) hx hb (by omega) (by omega) dd_M_isUsed_19 (by decide) (fun c_3 => ?_) (fun c_3 => ?_)
        · skip
          exact absurd c_3 (by omega)
        · skip
          refine lv_aload_n hx hb dd_M_isUsed_22 rfl (lv_at hl 1 rfl) ?_
          refine va_get (D := G) (ci := 4) (v := .ref qB) (C := cn_M) (T := ft_M) (N := 17) hx hb hts uw_M hown hK hP 0 rfl rfl 3 (by decide) (hts _ tw_596) (fun _ h9 => h9) rfl dd_M_isUsed_23 ?_
          refine lv_iload_n hx hb dd_M_isUsed_26 rfl (lv_at hl 0 rfl) ?_
          refine va_iald hx hb hK hP 4 3 rfl rfl (vp_in_nI (by omega) (by decide)) dd_M_isUsed_27 ?_
          refine jl_top (jn_at (B) (by omega)) ?_
          have hf_4 : B k < m := (by assumption : jlt m B) _
          refine lv_iload_n hx hb dd_M_isUsed_28 rfl (lv_at hl 3 rfl) ?_
          refine jl_ne (tgt := 34) hx hb (by omega) (by omega) dd_M_isUsed_29 (by decide) (fun c_5 => ?_) (fun c_5 => ?_)
          · skip
            refine jl_iinc (lv' := [(3, .int (nI (k + 1))), (0, .ref qM), (1, .int (nI (base))), (2, .int (nI (b)))]) hx hb dd_M_isUsed_34 hl (k := 0) rfl (by decide) rfl (fun ls hl => ?_)
            refine lv_goto (tgt := 12) hx hb dd_M_isUsed_37 (by decide) ?_
            exact ih (k + 1) (by omega) (by simpa [jm_usedL, c_3, c_5] using ht) ls (lv_sub hl [0, 1, 2, 3] rfl)
          · skip
            refine lv_iconst (v := nI 1) hx hb dd_M_isUsed_32 (by decide) ?_
            exact jr_retz C (by decide) (by rw [← ht]; first | with_reducible rfl | (simp [jm_usedL, c_3, c_5]; done)) dd_M_isUsed_33
    exact loop 48 (base * 4) (by omega) (by simp [jm_isUsed, c_1]) ls (lv_sub hl [0, 1, 2, 3] rfl)
  · skip
    refine lv_iconst (v := nI 1) hx hb dd_M_isUsed_6 (by decide) ?_
    exact jr_retz C (by decide) (by first | with_reducible rfl | (simp [jm_isUsed, c_1]; done) | (simp_all [jm_isUsed]; done)) dd_M_isUsed_7
set_option maxHeartbeats 4000000 in
set_option maxRecDepth 100000 in
theorem ct_M_freeBlocks (l : Launch) (G : va_G) (qM qK qZ qN qB qY qi qo qm qp : Nat) (c1 c2 c3 c4 c5 c6 c7 c8 c9 : ClassId) (K : Nat → Nat) (Z : Nat → Nat) (N : Nat → Nat) (B : Nat → Nat) (Y : Nat → Nat) (I : Nat → Nat) (O : Nat → Nat) (M : Nat → Nat) (P : Nat → Nat) (ct : Nat) (wr : Nat) (ofs : Nat) (th : Nat) (pa : Option Nat) (ey : Option Nat) (fo : Option Nat) (la : Nat)  (m : Nat) (hm0 : 9 ≤ m ∧ m < 10000) (hB : jlt m B) : jr l yn_M_freeBlocks (.code yn_M_freeBlocks cd_M_freeBlocks 3 (some .int)) { frames := 1, cells := 0, slots := 0, locals := 23 } G (tM c1 c2 c3 c4 c5 c6 c7 c8 c9) (wM qM qK qZ qN qB qY qi qo qm qp c1 c2 c3 c4 c5 c6 c7 c8 c9 K Z N B Y I O M P ct wr ofs th pa ey fo la) [.ref qM] (nI (jm_free B)) := by
  refine jr_of (by decide) (Nat.le_of_ble_eq_true rfl) ?_
  intro pr en σ mi bel met cd ls C hP hK hl
  have hx := C.1
  have hb := C.2.1
  have hown := C.2.2.2.1
  have hts := C.2.2.2.2.1
  have hl : lv_has ls 3 [(0, .ref qM)] := hl
  refine lv_iconst (v := nI 0) hx hb dd_M_freeBlocks_0 (by decide) ?_
  refine lv_istore_n (lv' := [(1, .int (nI (0))), (0, .ref qM)]) hx hb dd_M_freeBlocks_1 rfl hl (by decide) rfl (fun ls hl => ?_)
  refine lv_bipush (v := nI 9) hx hb dd_M_freeBlocks_2 (by decide) ?_
  refine lv_istore_n (lv' := [(2, .int (nI (9))), (1, .int (nI (0))), (0, .ref qM)]) hx hb dd_M_freeBlocks_4 rfl hl (by decide) rfl (fun ls hl => ?_)
  have loop : ∀ (n : Nat) (f : Nat) (b : Nat), (b + n = 40 ∧ f ≤ b) → jm_freeL B n b f = jm_free B → ∀ ls : Array Slot, lv_has ls 3 [(2, .int (nI (b))), (1, .int (nI (f))), (0, .ref qM)] → W pr l en { frames := 1, cells := 0, slots := 0, locals := 23 } σ mi ([.ref qM] : List Value).toArray bel met cd σ.heap [] 0 0 (jr_Q bel [.ref qM] σ (nI (jm_free B))) (F0 mi 5 ls []) := by
    intro n
    induction n with
    | zero =>
      intro f b hi  ht ls hl
      refine lv_iload_n hx hb dd_M_freeBlocks_5 rfl (lv_at hl 0 rfl) ?_
      refine lv_bipush (v := nI 40) hx hb dd_M_freeBlocks_6 (by decide) ?_
      refine jl_ge (tgt := 29) hx hb (by omega) (by omega) dd_M_freeBlocks_8 (by decide) (fun c_1 => ?_) (fun c_1 => ?_)
      · skip
        refine lv_iload_n hx hb dd_M_freeBlocks_29 rfl (lv_at hl 1 rfl) ?_
        exact jr_ret C (by rw [← ht]; first | with_reducible rfl | (simp [jm_freeL, c_1]; done)) dd_M_freeBlocks_30
      · skip
        exact absurd c_1 (by omega)
    | succ n ih =>
      intro f b hi  ht ls hl
      refine lv_iload_n hx hb dd_M_freeBlocks_5 rfl (lv_at hl 0 rfl) ?_
      refine lv_bipush (v := nI 40) hx hb dd_M_freeBlocks_6 (by decide) ?_
      refine jl_ge (tgt := 29) hx hb (by omega) (by omega) dd_M_freeBlocks_8 (by decide) (fun c_2 => ?_) (fun c_2 => ?_)
      · skip
        exact absurd c_2 (by omega)
      · skip
        refine lv_aload_n hx hb dd_M_freeBlocks_11 rfl (lv_at hl 2 rfl) ?_
        refine lv_iconst (v := nI 0) hx hb dd_M_freeBlocks_12 (by decide) ?_
        refine lv_iload_n hx hb dd_M_freeBlocks_13 rfl (lv_at hl 0 rfl) ?_
        refine jr_callV C (ct_M_isUsed l G qM qK qZ qN qB qY qi qo qm qp c1 c2 c3 c4 c5 c6 c7 c8 c9 K Z N B Y I O M P ct wr ofs th pa ey fo la 0 b m (by omega) (by omega) (by omega) (by assumption)) kl_M_41 ⟨Nat.le_of_ble_eq_true rfl, Nat.le_of_ble_eq_true rfl, rfl, rfl⟩ ⟨Nat.le_of_ble_eq_true rfl, Nat.le_of_ble_eq_true rfl⟩ (hP) (hK) (va_recv hK hP (ci := 4) (q0 := 0) rfl rfl) hl.1 rfl rfl (Nat.le_of_ble_eq_true rfl) dd_M_freeBlocks_14 ?_
        have hf_3 : jm_isUsed B 0 b < 2 := jm_isUsed_lt _ _ _
        refine jl_ifne (tgt := 23) hx hb (by omega) dd_M_freeBlocks_17 (by decide) (fun c_4 => ?_) (fun c_4 => ?_)
        · skip
          refine jl_iinc (lv' := [(2, .int (nI (b + 1))), (1, .int (nI (f))), (0, .ref qM)]) hx hb dd_M_freeBlocks_23 hl (k := 0) rfl (by decide) rfl (fun ls hl => ?_)
          refine lv_goto (tgt := 5) hx hb dd_M_freeBlocks_26 (by decide) ?_
          exact ih f (b + 1) (by omega) (by simpa [jm_freeL, c_2, c_4] using ht) ls (lv_sub hl [0, 1, 2] rfl)
        · skip
          refine jl_iinc (lv' := [(1, .int (nI (f + 1))), (2, .int (nI (b))), (0, .ref qM)]) hx hb dd_M_freeBlocks_20 hl (k := 1) rfl (by decide) rfl (fun ls hl => ?_)
          refine jl_iinc (lv' := [(2, .int (nI (b + 1))), (1, .int (nI (f + 1))), (0, .ref qM)]) hx hb dd_M_freeBlocks_23 hl (k := 1) rfl (by decide) rfl (fun ls hl => ?_)
          refine lv_goto (tgt := 5) hx hb dd_M_freeBlocks_26 (by decide) ?_
          exact ih (f + 1) (b + 1) (by omega) (by simpa [jm_freeL, c_2, c_4] using ht) ls (lv_sub hl [0, 1, 2] rfl)
  exact loop 31 0 9 (by omega) (rfl) ls (lv_sub hl [0, 1, 2] rfl)
set_option maxHeartbeats 4000000 in
set_option maxRecDepth 100000 in
theorem ct_M_needed (l : Launch) (G : va_G) (qM qK qZ qN qB qY qi qo qm qp : Nat) (c1 c2 c3 c4 c5 c6 c7 c8 c9 : ClassId) (K : Nat → Nat) (Z : Nat → Nat) (N : Nat → Nat) (B : Nat → Nat) (Y : Nat → Nat) (I : Nat → Nat) (O : Nat → Nat) (M : Nat → Nat) (P : Nat → Nat) (ct : Nat) (wr : Nat) (ofs : Nat) (th : Nat) (pa : Option Nat) (ey : Option Nat) (fo : Option Nat) (la : Nat) (z : Nat) (hz0 : z < 100000) : jr l yn_M_needed (.code yn_M_needed cd_M_needed 2 (some .int)) { frames := 0, cells := 0, slots := 0, locals := 0 } G (tM c1 c2 c3 c4 c5 c6 c7 c8 c9) (wM qM qK qZ qN qB qY qi qo qm qp c1 c2 c3 c4 c5 c6 c7 c8 c9 K Z N B Y I O M P ct wr ofs th pa ey fo la) [.ref qM, .int (nI (z))] (nI (jm_needed z)) := by
  refine jr_of (by decide) (Nat.le_of_ble_eq_true rfl) ?_
  intro pr en σ mi bel met cd ls C hP hK hl
  have hx := C.1
  have hb := C.2.1
  have hown := C.2.2.2.1
  have hts := C.2.2.2.2.1
  have hl : lv_has ls 2 [(0, .ref qM), (1, .int (nI (z)))] := hl
  refine lv_iload_n hx hb dd_M_needed_0 rfl (lv_at hl 1 rfl) ?_
  refine lv_bipush (v := nI 15) hx hb dd_M_needed_1 (by decide) ?_
  refine jl_iadd hx hb dd_M_needed_3 ?_
  refine lv_bipush (v := nI 16) hx hb dd_M_needed_4 (by decide) ?_
  refine jl_idiv hx hb (by omega) (by decide) (by decide) dd_M_needed_6 ?_
  exact jr_ret C (by first | with_reducible rfl | (simp [jm_needed]; done) | (simp_all [jm_needed]; done)) dd_M_needed_7
set_option maxHeartbeats 4000000 in
set_option maxRecDepth 100000 in
theorem ct_M_newInode (l : Launch) (G : va_G) (qM qK qZ qN qB qY qi qo qm qp : Nat) (c1 c2 c3 c4 c5 c6 c7 c8 c9 : ClassId) (K : Nat → Nat) (Z : Nat → Nat) (N : Nat → Nat) (B : Nat → Nat) (Y : Nat → Nat) (I : Nat → Nat) (O : Nat → Nat) (M : Nat → Nat) (P : Nat → Nat) (ct : Nat) (wr : Nat) (ofs : Nat) (th : Nat) (pa : Option Nat) (ey : Option Nat) (fo : Option Nat) (la : Nat)  (hK : jlt 3 K) : jr l yn_M_newInode (.code yn_M_newInode cd_M_newInode 2 (some .int)) { frames := 0, cells := 0, slots := 0, locals := 0 } G (tM c1 c2 c3 c4 c5 c6 c7 c8 c9) (wM qM qK qZ qN qB qY qi qo qm qp c1 c2 c3 c4 c5 c6 c7 c8 c9 K Z N B Y I O M P ct wr ofs th pa ey fo la) [.ref qM] (nI (jm_newInode K)) := by
  refine jr_of (by decide) (Nat.le_of_ble_eq_true rfl) ?_
  intro pr en σ mi bel met cd ls C hP hK hl
  have hx := C.1
  have hb := C.2.1
  have hown := C.2.2.2.1
  have hts := C.2.2.2.2.1
  have hl : lv_has ls 2 [(0, .ref qM)] := hl
  refine lv_iconst (v := nI 0) hx hb dd_M_newInode_0 (by decide) ?_
  refine lv_istore_n (lv' := [(1, .int (nI (0))), (0, .ref qM)]) hx hb dd_M_newInode_1 rfl hl (by decide) rfl (fun ls hl => ?_)
  have loop : ∀ (n : Nat) (i : Nat), (i + n = 12) → jm_niL K n i = jm_newInode K → ∀ ls : Array Slot, lv_has ls 2 [(1, .int (nI (i))), (0, .ref qM)] → W pr l en { frames := 0, cells := 0, slots := 0, locals := 0 } σ mi ([.ref qM] : List Value).toArray bel met cd σ.heap [] 0 0 (jr_Q bel [.ref qM] σ (nI (jm_newInode K))) (F0 mi 2 ls []) := by
    intro n
    induction n with
    | zero =>
      intro i hi  ht ls hl
      refine lv_iload_n hx hb dd_M_newInode_2 rfl (lv_at hl 0 rfl) ?_
      refine lv_bipush (v := nI 12) hx hb dd_M_newInode_3 (by decide) ?_
      refine jl_ge (tgt := 23) hx hb (by omega) (by omega) dd_M_newInode_5 (by decide) (fun c_1 => ?_) (fun c_1 => ?_)
      · skip
        refine lv_iload_n hx hb dd_M_newInode_23 rfl (lv_at hl 0 rfl) ?_
        exact jr_ret C (by rw [← ht]; first | with_reducible rfl | (simp [jm_niL, c_1]; done)) dd_M_newInode_24
      · skip
        exact absurd c_1 (by omega)
    | succ n ih =>
      intro i hi  ht ls hl
      refine lv_iload_n hx hb dd_M_newInode_2 rfl (lv_at hl 0 rfl) ?_
      refine lv_bipush (v := nI 12) hx hb dd_M_newInode_3 (by decide) ?_
      refine jl_ge (tgt := 23) hx hb (by omega) (by omega) dd_M_newInode_5 (by decide) (fun c_2 => ?_) (fun c_2 => ?_)
      · skip
        exact absurd c_2 (by omega)
      · skip
        refine lv_aload_n hx hb dd_M_newInode_8 rfl (lv_at hl 1 rfl) ?_
        refine va_get (D := G) (ci := 4) (v := .ref qK) (C := cn_M) (T := ft_M) (N := 17) hx hb hts uw_M hown hK hP 0 rfl rfl 0 (by decide) (hts _ tw_593) (fun _ h9 => h9) rfl dd_M_newInode_9 ?_
        refine lv_iload_n hx hb dd_M_newInode_12 rfl (lv_at hl 0 rfl) ?_
        refine va_iald hx hb hK hP 1 0 rfl rfl (vp_in_nI (by omega) (by decide)) dd_M_newInode_13 ?_
        refine jl_top (jn_at (K) (by omega)) ?_
        have hf_3 : K i < 3 := (by assumption : jlt 3 K) _
        refine jl_ifeq (tgt := 23) hx hb (by omega) dd_M_newInode_14 (by decide) (fun c_4 => ?_) (fun c_4 => ?_)
        · skip
          refine lv_iload_n hx hb dd_M_newInode_23 rfl (lv_at hl 0 rfl) ?_
          exact jr_ret C (by rw [← ht]; first | with_reducible rfl | (simp [jm_niL, c_2, c_4]; done)) dd_M_newInode_24
        · skip
          refine jl_iinc (lv' := [(1, .int (nI (i + 1))), (0, .ref qM)]) hx hb dd_M_newInode_17 hl (k := 0) rfl (by decide) rfl (fun ls hl => ?_)
          refine lv_goto (tgt := 2) hx hb dd_M_newInode_20 (by decide) ?_
          exact ih (i + 1) (by omega) (by simpa [jm_niL, c_2, c_4] using ht) ls (lv_sub hl [0, 1] rfl)
  exact loop 12 0 (by omega) (rfl) ls (lv_sub hl [0, 1] rfl)
set_option maxHeartbeats 4000000 in
set_option maxRecDepth 100000 in
theorem ct_M_roomFor (l : Launch) (G : va_G) (qM qK qZ qN qB qY qi qo qm qp : Nat) (c1 c2 c3 c4 c5 c6 c7 c8 c9 : ClassId) (K : Nat → Nat) (Z : Nat → Nat) (N : Nat → Nat) (B : Nat → Nat) (Y : Nat → Nat) (I : Nat → Nat) (O : Nat → Nat) (M : Nat → Nat) (P : Nat → Nat) (ct : Nat) (wr : Nat) (ofs : Nat) (th : Nat) (pa : Option Nat) (ey : Option Nat) (fo : Option Nat) (la : Nat) (i : Nat) (z : Nat) (m : Nat) (hi0 : i < 24) (hz0 : z < 100000) (hm0 : 9 ≤ m ∧ m < 10000) (hB : jlt m B) (hZ : jlt 65 Z) : jr l yn_M_roomFor (.code yn_M_roomFor cd_M_roomFor 3 (some .boolean)) { frames := 2, cells := 0, slots := 0, locals := 45 } G (tM c1 c2 c3 c4 c5 c6 c7 c8 c9) (wM qM qK qZ qN qB qY qi qo qm qp c1 c2 c3 c4 c5 c6 c7 c8 c9 K Z N B Y I O M P ct wr ofs th pa ey fo la) [.ref qM, .int (nI (i)), .int (nI (z))] (nI (jm_roomFor Z B i z)) := by
  refine jr_of (by decide) (Nat.le_of_ble_eq_true rfl) ?_
  intro pr en σ mi bel met cd ls C hP hK hl
  have hx := C.1
  have hb := C.2.1
  have hown := C.2.2.2.1
  have hts := C.2.2.2.2.1
  have hl : lv_has ls 3 [(0, .ref qM), (1, .int (nI (i))), (2, .int (nI (z)))] := hl
  refine lv_aload_n hx hb dd_M_roomFor_0 rfl (lv_at hl 0 rfl) ?_
  refine lv_iload_n hx hb dd_M_roomFor_1 rfl (lv_at hl 2 rfl) ?_
  refine jr_callV C (ct_M_needed l G qM qK qZ qN qB qY qi qo qm qp c1 c2 c3 c4 c5 c6 c7 c8 c9 K Z N B Y I O M P ct wr ofs th pa ey fo la z (by omega)) kl_M_45 ⟨Nat.le_of_ble_eq_true rfl, Nat.le_of_ble_eq_true rfl, rfl, rfl⟩ ⟨Nat.le_of_ble_eq_true rfl, Nat.le_of_ble_eq_true rfl⟩ (hP) (hK) (va_recv hK hP (ci := 4) (q0 := 0) rfl rfl) hl.1 rfl rfl (Nat.le_of_ble_eq_true rfl) dd_M_roomFor_2 ?_
  have hf_1 : jm_needed z * 16 ≤ z + 15 := jm_needed_le _
  refine lv_aload_n hx hb dd_M_roomFor_5 rfl (lv_at hl 0 rfl) ?_
  refine lv_aload_n hx hb dd_M_roomFor_6 rfl (lv_at hl 0 rfl) ?_
  refine va_get (D := G) (ci := 4) (v := .ref qZ) (C := cn_M) (T := ft_M) (N := 17) hx hb hts uw_M hown hK hP 0 rfl rfl 1 (by decide) (hts _ tw_594) (fun _ h9 => h9) rfl dd_M_roomFor_7 ?_
  refine lv_iload_n hx hb dd_M_roomFor_10 rfl (lv_at hl 1 rfl) ?_
  refine va_iald hx hb hK hP 2 1 rfl rfl (vp_in_nI (by omega) (by decide)) dd_M_roomFor_11 ?_
  refine jl_top (jn_at (Z) (by omega)) ?_
  have hf_2 : Z i < 65 := (by assumption : jlt 65 Z) _
  refine jr_callV C (ct_M_needed l G qM qK qZ qN qB qY qi qo qm qp c1 c2 c3 c4 c5 c6 c7 c8 c9 K Z N B Y I O M P ct wr ofs th pa ey fo la (Z i) (by omega)) kl_M_45 ⟨Nat.le_of_ble_eq_true rfl, Nat.le_of_ble_eq_true rfl, rfl, rfl⟩ ⟨Nat.le_of_ble_eq_true rfl, Nat.le_of_ble_eq_true rfl⟩ (hP) (hK) (va_recv hK hP (ci := 4) (q0 := 0) rfl rfl) hl.1 rfl rfl (Nat.le_of_ble_eq_true rfl) dd_M_roomFor_12 ?_
  have hf_3 : jm_needed (Z i) * 16 ≤ (Z i) + 15 := jm_needed_le _
  refine lv_isub hx hb dd_M_roomFor_15 ?_
  refine lv_aload_n hx hb dd_M_roomFor_16 rfl (lv_at hl 0 rfl) ?_
  refine jr_callV C (ct_M_freeBlocks l G qM qK qZ qN qB qY qi qo qm qp c1 c2 c3 c4 c5 c6 c7 c8 c9 K Z N B Y I O M P ct wr ofs th pa ey fo la  m (by omega) (by assumption)) kl_M_49 ⟨Nat.le_of_ble_eq_true rfl, Nat.le_of_ble_eq_true rfl, rfl, rfl⟩ ⟨Nat.le_of_ble_eq_true rfl, Nat.le_of_ble_eq_true rfl⟩ (hP) (hK) (va_recv hK hP (ci := 4) (q0 := 0) rfl rfl) hl.1 rfl rfl (Nat.le_of_ble_eq_true rfl) dd_M_roomFor_17 ?_
  have hf_4 : jm_free B < 32 := jm_free_lt _
  refine jl_gtD (tgt := 27) hx hb (by omega) (by omega) (by omega) dd_M_roomFor_20 (by decide) (fun c_5 => ?_) (fun c_5 => ?_)
  · skip
    refine lv_iconst (v := nI 0) hx hb dd_M_roomFor_27 (by decide) ?_
    exact jr_retz C (by decide) (by first | with_reducible rfl | (simp [jm_roomFor, c_5]; done) | (simp_all [jm_roomFor]; done)) dd_M_roomFor_28
  · skip
    refine lv_iconst (v := nI 1) hx hb dd_M_roomFor_23 (by decide) ?_
    refine lv_goto (tgt := 28) hx hb dd_M_roomFor_24 (by decide) ?_
    exact jr_retz C (by decide) (by first | with_reducible rfl | (simp [jm_roomFor, c_5]; done) | (simp_all [jm_roomFor]; done)) dd_M_roomFor_28
set_option maxHeartbeats 4000000 in
set_option maxRecDepth 100000 in
theorem ct_M_entryOf (l : Launch) (G : va_G) (qM qK qZ qN qB qY qi qo qm qp : Nat) (c1 c2 c3 c4 c5 c6 c7 c8 c9 : ClassId) (K : Nat → Nat) (Z : Nat → Nat) (N : Nat → Nat) (B : Nat → Nat) (Y : Nat → Nat) (I : Nat → Nat) (O : Nat → Nat) (M : Nat → Nat) (P : Nat → Nat) (ct : Nat) (wr : Nat) (ofs : Nat) (th : Nat) (pa : Option Nat) (ey : Option Nat) (fo : Option Nat) (la : Nat) (d : Nat) (nm : Nat) (hd0 : d < 12) (hn0 : nm < 256) (hZ : jlt 65 Z) (hY : jlt 256 Y) : jr l yn_M_entryOf (.code yn_M_entryOf cd_M_entryOf 4 (some .int)) { frames := 0, cells := 0, slots := 0, locals := 0 } G (tM c1 c2 c3 c4 c5 c6 c7 c8 c9) (wM qM qK qZ qN qB qY qi qo qm qp c1 c2 c3 c4 c5 c6 c7 c8 c9 K Z N B Y I O M P ct wr ofs th pa ey fo la) [.ref qM, .int (nI (d)), .int (nI (nm))] (jo (jm_entryOf Z Y d nm)) := by
  refine jr_of (by decide) (Nat.le_of_ble_eq_true rfl) ?_
  intro pr en σ mi bel met cd ls C hP hK hl
  have hx := C.1
  have hb := C.2.1
  have hown := C.2.2.2.1
  have hts := C.2.2.2.2.1
  have hl : lv_has ls 4 [(0, .ref qM), (1, .int (nI (d))), (2, .int (nI (nm)))] := hl
  refine lv_iconst (v := nI 0) hx hb dd_M_entryOf_0 (by decide) ?_
  refine lv_istore_n (lv' := [(3, .int (nI (0))), (0, .ref qM), (1, .int (nI (d))), (2, .int (nI (nm)))]) hx hb dd_M_entryOf_1 rfl hl (by decide) rfl (fun ls hl => ?_)
  have loop : ∀ (n : Nat) (e : Nat), (e + n = Z d / 2) → jm_eoL Y d nm n e = jm_entryOf Z Y d nm → ∀ ls : Array Slot, lv_has ls 4 [(3, .int (nI (e))), (0, .ref qM), (1, .int (nI (d))), (2, .int (nI (nm)))] → W pr l en { frames := 0, cells := 0, slots := 0, locals := 0 } σ mi ([.ref qM, .int (nI (d)), .int (nI (nm))] : List Value).toArray bel met cd σ.heap [] 0 0 (jr_Q bel [.ref qM, .int (nI (d)), .int (nI (nm))] σ (jo (jm_entryOf Z Y d nm))) (F0 mi 2 ls []) := by
    intro n
    induction n with
    | zero =>
      intro e hi  ht ls hl
      refine lv_iload_n hx hb dd_M_entryOf_2 rfl (lv_at hl 0 rfl) ?_
      refine lv_aload_n hx hb dd_M_entryOf_3 rfl (lv_at hl 1 rfl) ?_
      refine va_get (D := G) (ci := 4) (v := .ref qZ) (C := cn_M) (T := ft_M) (N := 17) hx hb hts uw_M hown hK hP 0 rfl rfl 1 (by decide) (hts _ tw_594) (fun _ h9 => h9) rfl dd_M_entryOf_4 ?_
      refine lv_iload_n hx hb dd_M_entryOf_7 rfl (lv_at hl 2 rfl) ?_
      refine va_iald hx hb hK hP 2 1 rfl rfl (vp_in_nI (by omega) (by decide)) dd_M_entryOf_8 ?_
      refine jl_top (jn_at (Z) (by omega)) ?_
      have hf_1 : Z d < 65 := (by assumption : jlt 65 Z) _
      refine lv_iconst (v := nI 2) hx hb dd_M_entryOf_9 (by decide) ?_
      refine jl_idiv hx hb (by omega) (by decide) (by decide) dd_M_entryOf_10 ?_
      refine jl_ge (tgt := 39) hx hb (by omega) (by omega) dd_M_entryOf_11 (by decide) (fun c_2 => ?_) (fun c_2 => ?_)
      · skip
        refine lv_iconst (v := -1) hx hb dd_M_entryOf_39 (by decide) ?_
        exact jr_ret C (by rw [← ht]; first | with_reducible rfl | (simp [jm_eoL, jo, c_2]; done)) dd_M_entryOf_40
      · skip
        exact absurd c_2 (by omega)
    | succ n ih =>
      intro e hi  ht ls hl
      refine lv_iload_n hx hb dd_M_entryOf_2 rfl (lv_at hl 0 rfl) ?_
      refine lv_aload_n hx hb dd_M_entryOf_3 rfl (lv_at hl 1 rfl) ?_
      refine va_get (D := G) (ci := 4) (v := .ref qZ) (C := cn_M) (T := ft_M) (N := 17) hx hb hts uw_M hown hK hP 0 rfl rfl 1 (by decide) (hts _ tw_594) (fun _ h9 => h9) rfl dd_M_entryOf_4 ?_
      refine lv_iload_n hx hb dd_M_entryOf_7 rfl (lv_at hl 2 rfl) ?_
      refine va_iald hx hb hK hP 2 1 rfl rfl (vp_in_nI (by omega) (by decide)) dd_M_entryOf_8 ?_
      refine jl_top (jn_at (Z) (by omega)) ?_
      have hf_3 : Z d < 65 := (by assumption : jlt 65 Z) _
      refine lv_iconst (v := nI 2) hx hb dd_M_entryOf_9 (by decide) ?_
      refine jl_idiv hx hb (by omega) (by decide) (by decide) dd_M_entryOf_10 ?_
      refine jl_ge (tgt := 39) hx hb (by omega) (by omega) dd_M_entryOf_11 (by decide) (fun c_4 => ?_) (fun c_4 => ?_)
      · skip
        exact absurd c_4 (by omega)
      · skip
        refine lv_aload_n hx hb dd_M_entryOf_14 rfl (lv_at hl 1 rfl) ?_
        refine va_get (D := G) (ci := 4) (v := .ref qY) (C := cn_M) (T := ft_M) (N := 17) hx hb hts uw_M hown hK hP 0 rfl rfl 4 (by decide) (hts _ tw_597) (fun _ h9 => h9) rfl dd_M_entryOf_15 ?_
        refine lv_iload_n hx hb dd_M_entryOf_18 rfl (lv_at hl 2 rfl) ?_
        refine lv_bipush (v := nI 64) hx hb dd_M_entryOf_19 (by decide) ?_
        refine jl_imul hx hb dd_M_entryOf_21 ?_
        refine lv_iload_n hx hb dd_M_entryOf_22 rfl (lv_at hl 0 rfl) ?_
        refine lv_iconst (v := nI 2) hx hb dd_M_entryOf_23 (by decide) ?_
        refine jl_imul hx hb dd_M_entryOf_24 ?_
        refine jl_iadd hx hb dd_M_entryOf_25 ?_
        refine va_iald hx hb hK hP 5 4 rfl rfl (vp_in_nI (by omega) (by decide)) dd_M_entryOf_26 ?_
        refine jl_top (jn_at (Y) (by omega)) ?_
        have hf_5 : Y ((d * 64) + (e * 2)) < 256 := (by assumption : jlt 256 Y) _
        refine lv_iload_n hx hb dd_M_entryOf_27 rfl (lv_at hl 3 rfl) ?_
        refine jl_ne (tgt := 33) hx hb (by omega) (by omega) dd_M_entryOf_28 (by decide) (fun c_6 => ?_) (fun c_6 => ?_)
        · skip
          refine jl_iinc (lv' := [(3, .int (nI (e + 1))), (0, .ref qM), (1, .int (nI (d))), (2, .int (nI (nm)))]) hx hb dd_M_entryOf_33 hl (k := 0) rfl (by decide) rfl (fun ls hl => ?_)
          refine lv_goto (tgt := 2) hx hb dd_M_entryOf_36 (by decide) ?_
          exact ih (e + 1) (by omega) (by simpa [jm_eoL, jo, c_4, c_6] using ht) ls (lv_sub hl [0, 1, 2, 3] rfl)
        · skip
          refine lv_iload_n hx hb dd_M_entryOf_31 rfl (lv_at hl 0 rfl) ?_
          exact jr_ret C (by rw [← ht]; first | with_reducible rfl | (simp [jm_eoL, jo, c_4, c_6]; done)) dd_M_entryOf_32
  exact loop (Z d / 2) 0 (by omega) (rfl) ls (lv_sub hl [0, 1, 2, 3] rfl)
set_option maxHeartbeats 4000000 in
set_option maxRecDepth 100000 in
theorem ct_M_entryRoom (l : Launch) (G : va_G) (qM qK qZ qN qB qY qi qo qm qp : Nat) (c1 c2 c3 c4 c5 c6 c7 c8 c9 : ClassId) (K : Nat → Nat) (Z : Nat → Nat) (N : Nat → Nat) (B : Nat → Nat) (Y : Nat → Nat) (I : Nat → Nat) (O : Nat → Nat) (M : Nat → Nat) (P : Nat → Nat) (ct : Nat) (wr : Nat) (ofs : Nat) (th : Nat) (pa : Option Nat) (ey : Option Nat) (fo : Option Nat) (la : Nat) (d : Nat) (more : Nat) (m : Nat) (hd0 : d < 12) (hmo : more < 1000) (hm0 : 9 ≤ m ∧ m < 10000) (hB : jlt m B) (hZ : jlt 65 Z) : jr l yn_M_entryRoom (.code yn_M_entryRoom cd_M_entryRoom 3 (some .boolean)) { frames := 2, cells := 0, slots := 0, locals := 45 } G (tM c1 c2 c3 c4 c5 c6 c7 c8 c9) (wM qM qK qZ qN qB qY qi qo qm qp c1 c2 c3 c4 c5 c6 c7 c8 c9 K Z N B Y I O M P ct wr ofs th pa ey fo la) [.ref qM, .int (nI (d)), .int (nI (more))] (nI (jm_entryRoom Z B d more)) := by
  refine jr_of (by decide) (Nat.le_of_ble_eq_true rfl) ?_
  intro pr en σ mi bel met cd ls C hP hK hl
  have hx := C.1
  have hb := C.2.1
  have hown := C.2.2.2.1
  have hts := C.2.2.2.2.1
  have hl : lv_has ls 3 [(0, .ref qM), (1, .int (nI (d))), (2, .int (nI (more)))] := hl
  refine lv_aload_n hx hb dd_M_entryRoom_0 rfl (lv_at hl 0 rfl) ?_
  refine va_get (D := G) (ci := 4) (v := .ref qZ) (C := cn_M) (T := ft_M) (N := 17) hx hb hts uw_M hown hK hP 0 rfl rfl 1 (by decide) (hts _ tw_594) (fun _ h9 => h9) rfl dd_M_entryRoom_1 ?_
  refine lv_iload_n hx hb dd_M_entryRoom_4 rfl (lv_at hl 1 rfl) ?_
  refine va_iald hx hb hK hP 2 1 rfl rfl (vp_in_nI (by omega) (by decide)) dd_M_entryRoom_5 ?_
  refine jl_top (jn_at (Z) (by omega)) ?_
  have hf_1 : Z d < 65 := (by assumption : jlt 65 Z) _
  refine lv_bipush (v := nI 32) hx hb dd_M_entryRoom_6 (by decide) ?_
  refine jl_ge (tgt := 47) hx hb (by omega) (by omega) dd_M_entryRoom_8 (by decide) (fun c_2 => ?_) (fun c_2 => ?_)
  · skip
    refine lv_iconst (v := nI 0) hx hb dd_M_entryRoom_47 (by decide) ?_
    exact jr_retz C (by decide) (by first | with_reducible rfl | (simp [jm_entryRoom, c_2]; done) | (simp_all [jm_entryRoom]; done)) dd_M_entryRoom_48
  · skip
    refine lv_aload_n hx hb dd_M_entryRoom_11 rfl (lv_at hl 0 rfl) ?_
    refine lv_aload_n hx hb dd_M_entryRoom_12 rfl (lv_at hl 0 rfl) ?_
    refine va_get (D := G) (ci := 4) (v := .ref qZ) (C := cn_M) (T := ft_M) (N := 17) hx hb hts uw_M hown hK hP 0 rfl rfl 1 (by decide) (hts _ tw_594) (fun _ h9 => h9) rfl dd_M_entryRoom_13 ?_
    refine lv_iload_n hx hb dd_M_entryRoom_16 rfl (lv_at hl 1 rfl) ?_
    refine va_iald hx hb hK hP 2 1 rfl rfl (vp_in_nI (by omega) (by decide)) dd_M_entryRoom_17 ?_
    refine jl_top (jn_at (Z) (by omega)) ?_
    have hf_3 : Z d < 65 := (by assumption : jlt 65 Z) _
    refine lv_iconst (v := nI 2) hx hb dd_M_entryRoom_18 (by decide) ?_
    refine jl_iadd hx hb dd_M_entryRoom_19 ?_
    refine jr_callV C (ct_M_needed l G qM qK qZ qN qB qY qi qo qm qp c1 c2 c3 c4 c5 c6 c7 c8 c9 K Z N B Y I O M P ct wr ofs th pa ey fo la ((Z d) + 2) (by omega)) kl_M_45 ⟨Nat.le_of_ble_eq_true rfl, Nat.le_of_ble_eq_true rfl, rfl, rfl⟩ ⟨Nat.le_of_ble_eq_true rfl, Nat.le_of_ble_eq_true rfl⟩ (hP) (hK) (va_recv hK hP (ci := 4) (q0 := 0) rfl rfl) hl.1 rfl rfl (Nat.le_of_ble_eq_true rfl) dd_M_entryRoom_20 ?_
    have hf_4 : jm_needed ((Z d) + 2) * 16 ≤ ((Z d) + 2) + 15 := jm_needed_le _
    refine lv_aload_n hx hb dd_M_entryRoom_23 rfl (lv_at hl 0 rfl) ?_
    refine lv_aload_n hx hb dd_M_entryRoom_24 rfl (lv_at hl 0 rfl) ?_
    refine va_get (D := G) (ci := 4) (v := .ref qZ) (C := cn_M) (T := ft_M) (N := 17) hx hb hts uw_M hown hK hP 0 rfl rfl 1 (by decide) (hts _ tw_594) (fun _ h9 => h9) rfl dd_M_entryRoom_25 ?_
    refine lv_iload_n hx hb dd_M_entryRoom_28 rfl (lv_at hl 1 rfl) ?_
    refine va_iald hx hb hK hP 2 1 rfl rfl (vp_in_nI (by omega) (by decide)) dd_M_entryRoom_29 ?_
    refine jl_top (jn_at (Z) (by omega)) ?_
    have hf_5 : Z d < 65 := (by assumption : jlt 65 Z) _
    refine jr_callV C (ct_M_needed l G qM qK qZ qN qB qY qi qo qm qp c1 c2 c3 c4 c5 c6 c7 c8 c9 K Z N B Y I O M P ct wr ofs th pa ey fo la (Z d) (by omega)) kl_M_45 ⟨Nat.le_of_ble_eq_true rfl, Nat.le_of_ble_eq_true rfl, rfl, rfl⟩ ⟨Nat.le_of_ble_eq_true rfl, Nat.le_of_ble_eq_true rfl⟩ (hP) (hK) (va_recv hK hP (ci := 4) (q0 := 0) rfl rfl) hl.1 rfl rfl (Nat.le_of_ble_eq_true rfl) dd_M_entryRoom_30 ?_
    have hf_6 : jm_needed (Z d) * 16 ≤ (Z d) + 15 := jm_needed_le _
    refine lv_isub hx hb dd_M_entryRoom_33 ?_
    refine lv_aload_n hx hb dd_M_entryRoom_34 rfl (lv_at hl 0 rfl) ?_
    refine jr_callV C (ct_M_freeBlocks l G qM qK qZ qN qB qY qi qo qm qp c1 c2 c3 c4 c5 c6 c7 c8 c9 K Z N B Y I O M P ct wr ofs th pa ey fo la  m (by omega) (by assumption)) kl_M_49 ⟨Nat.le_of_ble_eq_true rfl, Nat.le_of_ble_eq_true rfl, rfl, rfl⟩ ⟨Nat.le_of_ble_eq_true rfl, Nat.le_of_ble_eq_true rfl⟩ (hP) (hK) (va_recv hK hP (ci := 4) (q0 := 0) rfl rfl) hl.1 rfl rfl (Nat.le_of_ble_eq_true rfl) dd_M_entryRoom_35 ?_
    have hf_7 : jm_free B < 32 := jm_free_lt _
    refine lv_iload_n hx hb dd_M_entryRoom_38 rfl (lv_at hl 2 rfl) ?_
    refine jl_iadd hx hb dd_M_entryRoom_39 ?_
    refine jl_gtD (tgt := 47) hx hb (by omega) (by omega) (by omega) dd_M_entryRoom_40 (by decide) (fun c_8 => ?_) (fun c_8 => ?_)
    · skip
      refine lv_iconst (v := nI 0) hx hb dd_M_entryRoom_47 (by decide) ?_
      exact jr_retz C (by decide) (by first | with_reducible rfl | (simp [jm_entryRoom, c_2, c_8]; done) | (simp_all [jm_entryRoom]; done)) dd_M_entryRoom_48
    · skip
      refine lv_iconst (v := nI 1) hx hb dd_M_entryRoom_43 (by decide) ?_
      refine lv_goto (tgt := 48) hx hb dd_M_entryRoom_44 (by decide) ?_
      exact jr_retz C (by decide) (by first | with_reducible rfl | (simp [jm_entryRoom, c_2, c_8]; done) | (simp_all [jm_entryRoom]; done)) dd_M_entryRoom_48
set_option maxHeartbeats 4000000 in
set_option maxRecDepth 100000 in
theorem ct_M_closedHandle (l : Launch) (G : va_G) (qM qK qZ qN qB qY qi qo qm qp : Nat) (c1 c2 c3 c4 c5 c6 c7 c8 c9 : ClassId) (K : Nat → Nat) (Z : Nat → Nat) (N : Nat → Nat) (B : Nat → Nat) (Y : Nat → Nat) (I : Nat → Nat) (O : Nat → Nat) (M : Nat → Nat) (P : Nat → Nat) (ct : Nat) (wr : Nat) (ofs : Nat) (th : Nat) (pa : Option Nat) (ey : Option Nat) (fo : Option Nat) (la : Nat)  (hI : jlt 13 I) : jr l yn_M_closedHandle (.code yn_M_closedHandle cd_M_closedHandle 2 (some .int)) { frames := 0, cells := 0, slots := 0, locals := 0 } G (tM c1 c2 c3 c4 c5 c6 c7 c8 c9) (wM qM qK qZ qN qB qY qi qo qm qp c1 c2 c3 c4 c5 c6 c7 c8 c9 K Z N B Y I O M P ct wr ofs th pa ey fo la) [.ref qM] (nI (jm_closedHandle I)) := by
  refine jr_of (by decide) (Nat.le_of_ble_eq_true rfl) ?_
  intro pr en σ mi bel met cd ls C hP hK hl
  have hx := C.1
  have hb := C.2.1
  have hown := C.2.2.2.1
  have hts := C.2.2.2.2.1
  have hl : lv_has ls 2 [(0, .ref qM)] := hl
  refine lv_iconst (v := nI 0) hx hb dd_M_closedHandle_0 (by decide) ?_
  refine lv_istore_n (lv' := [(1, .int (nI (0))), (0, .ref qM)]) hx hb dd_M_closedHandle_1 rfl hl (by decide) rfl (fun ls hl => ?_)
  have loop : ∀ (n : Nat) (h : Nat), (h + n = 6) → jm_chL I n h = jm_closedHandle I → ∀ ls : Array Slot, lv_has ls 2 [(1, .int (nI (h))), (0, .ref qM)] → W pr l en { frames := 0, cells := 0, slots := 0, locals := 0 } σ mi ([.ref qM] : List Value).toArray bel met cd σ.heap [] 0 0 (jr_Q bel [.ref qM] σ (nI (jm_closedHandle I))) (F0 mi 2 ls []) := by
    intro n
    induction n with
    | zero =>
      intro h hi  ht ls hl
      refine lv_iload_n hx hb dd_M_closedHandle_2 rfl (lv_at hl 0 rfl) ?_
      refine lv_bipush (v := nI 6) hx hb dd_M_closedHandle_3 (by decide) ?_
      refine jl_ge (tgt := 23) hx hb (by omega) (by omega) dd_M_closedHandle_5 (by decide) (fun c_1 => ?_) (fun c_1 => ?_)
      · skip
        refine lv_iload_n hx hb dd_M_closedHandle_23 rfl (lv_at hl 0 rfl) ?_
        exact jr_ret C (by rw [← ht]; first | with_reducible rfl | (simp [jm_chL, c_1]; done)) dd_M_closedHandle_24
      · skip
        exact absurd c_1 (by omega)
    | succ n ih =>
      intro h hi  ht ls hl
      refine lv_iload_n hx hb dd_M_closedHandle_2 rfl (lv_at hl 0 rfl) ?_
      refine lv_bipush (v := nI 6) hx hb dd_M_closedHandle_3 (by decide) ?_
      refine jl_ge (tgt := 23) hx hb (by omega) (by omega) dd_M_closedHandle_5 (by decide) (fun c_2 => ?_) (fun c_2 => ?_)
      · skip
        exact absurd c_2 (by omega)
      · skip
        refine lv_aload_n hx hb dd_M_closedHandle_8 rfl (lv_at hl 1 rfl) ?_
        refine va_get (D := G) (ci := 4) (v := .ref qi) (C := cn_M) (T := ft_M) (N := 17) hx hb hts uw_M hown hK hP 0 rfl rfl 5 (by decide) (hts _ tw_598) (fun _ h9 => h9) rfl dd_M_closedHandle_9 ?_
        refine lv_iload_n hx hb dd_M_closedHandle_12 rfl (lv_at hl 0 rfl) ?_
        refine va_iald hx hb hK hP 6 5 rfl rfl (vp_in_nI (by omega) (by decide)) dd_M_closedHandle_13 ?_
        refine jl_top (jn_at (I) (by omega)) ?_
        have hf_3 : I h < 13 := (by assumption : jlt 13 I) _
        refine jl_ifeq (tgt := 23) hx hb (by omega) dd_M_closedHandle_14 (by decide) (fun c_4 => ?_) (fun c_4 => ?_)
        · skip
          refine lv_iload_n hx hb dd_M_closedHandle_23 rfl (lv_at hl 0 rfl) ?_
          exact jr_ret C (by rw [← ht]; first | with_reducible rfl | (simp [jm_chL, c_2, c_4]; done)) dd_M_closedHandle_24
        · skip
          refine jl_iinc (lv' := [(1, .int (nI (h + 1))), (0, .ref qM)]) hx hb dd_M_closedHandle_17 hl (k := 0) rfl (by decide) rfl (fun ls hl => ?_)
          refine lv_goto (tgt := 2) hx hb dd_M_closedHandle_20 (by decide) ?_
          exact ih (h + 1) (by omega) (by simpa [jm_chL, c_2, c_4] using ht) ls (lv_sub hl [0, 1] rfl)
  exact loop 6 0 (by omega) (rfl) ls (lv_sub hl [0, 1] rfl)
end
section
def jm_wrong (K N I O M : Nat → Nat) (h a b : Nat) : Nat := if 5 < h then 1 else if I h = 0 then 2 else if jm_stale K N I O M h = 0 then (if M h = a then 0 else if M h = b then 0 else if M h = 3 then (if a < 4 then 0 else 2) else 2) else 2
theorem jm_stale_lt (K N I O M : Nat → Nat) (h : Nat) : jm_stale K N I O M h < 2 := by
  unfold jm_stale
  repeat' split
  all_goals decide
theorem jm_wrong_lt (K N I O M : Nat → Nat) (h a b : Nat) : jm_wrong K N I O M h a b < 3 := by
  unfold jm_wrong
  repeat' split
  all_goals decide
theorem jm_or : ∀ v, v < 256 → ∀ k, k < 8 → nI v ||| nI 1 <<< (nI k &&& 31) = nI (v ||| 2 ^ k) ∧ v ||| 2 ^ k < 256 := by decide +kernel
def jm_mapByte (B : Nat → Nat) (base i : Nat) : Nat := jm_mapL B base 8 (i * 8) 0
theorem jm_mapL_lt (B : Nat → Nat) (base : Nat) : ∀ n b v, v < 256 → jm_mapL B base n b v < 256 := by
  intro n
  induction n with
  | zero => intro b v h; exact h
  | succ n ih =>
    intro b v h
    unfold jm_mapL
    refine ih _ _ ?_
    split
    · exact h
    · exact (jm_or v h (b % 8) (Nat.mod_lt _ (by decide))).2
def jm_boL (B Y : Nat → Nat) (b i : Nat) : Nat → Nat → Nat
  | 0, _ => 0
  | n + 1, k => if B k = b then Y (k / 4 * 64 + k % 4 * 16 + i) else jm_boL B Y b i n (k + 1)
def jm_byteOf (K Z N B Y : Nat → Nat) (base b i : Nat) : Nat := if b = 0 then (if i < 5 then jm_mapByte B base i else 0) else if b < 7 then jm_inodeByte K Z N B (base + (b - 1) * 2 + i / 8) (i % 8) else if 8 < b then jm_boL B Y b i 48 (base * 4) else 0
theorem jm_boL_lt {B Y : Nat → Nat} (hY : jlt 256 Y) (b i : Nat) : ∀ n k, jm_boL B Y b i n k < 256 := by
  intro n
  induction n with
  | zero => intro k; show 0 < 256; decide
  | succ n ih =>
    intro k
    unfold jm_boL
    split
    · exact hY _
    · exact ih _
theorem jm_byteOf_lt {K Z N B Y : Nat → Nat} {m : Nat} (hK : jlt 3 K) (hZ : jlt 65 Z) (hN : jlt 256 N) (hB : jlt m B) (hY : jlt 256 Y) (hm : m < 10000) (base b i : Nat) : jm_byteOf K Z N B Y base b i < 10000 := by
  unfold jm_byteOf jm_inodeByte jm_mapByte
  have h1 := jm_mapL_lt B base 8 (i * 8) 0 (by decide)
  have h2 := jm_boL_lt (B := B) hY b i 48 (base * 4)
  repeat' split
  all_goals first | decide | (have := hK (base + (b - 1) * 2 + i / 8); have := hZ (base + (b - 1) * 2 + i / 8); have := hN (base + (b - 1) * 2 + i / 8); have := hB ((base + (b - 1) * 2 + i / 8) * 4 + i % 8 - 4); omega)
def jm_dfL (K Z N B Y : Nat → Nat) (b : Nat) : Nat → Nat → Nat → Nat
  | 0, _, f => f
  | n + 1, i, f => jm_dfL K Z N B Y b n (i + 1) (if jm_byteOf K Z N B Y 0 b i = jm_byteOf K Z N B Y 12 b i then f else 1)
def jm_dgL (K Z N B Y : Nat → Nat) : Nat → Nat → Nat → Nat
  | 0, _, d => d
  | n + 1, b, d => jm_dgL K Z N B Y n (b + 1) (if jm_dfL K Z N B Y b 16 0 0 = 0 then d else d + 1)
def jm_differing (K Z N B Y : Nat → Nat) : Nat := jm_dgL K Z N B Y 40 0 0
theorem jm_dgL_le (K Z N B Y : Nat → Nat) : ∀ n b d, jm_dgL K Z N B Y n b d ≤ d + n := by
  intro n
  induction n with
  | zero => intro b f; exact Nat.le_refl _
  | succ n ih =>
    intro b d
    have := ih (b + 1) (if jm_dfL K Z N B Y b 16 0 0 = 0 then d else d + 1)
    unfold jm_dgL
    split at this <;> rename_i h <;> simp only [h, if_true, if_false] <;> omega
theorem jm_differing_le (K Z N B Y : Nat → Nat) : jm_differing K Z N B Y ≤ 40 := by
  have := jm_dgL_le K Z N B Y 40 0 0
  unfold jm_differing
  omega
def jm_cpL (fr tt : Nat) : Nat → Nat → (Nat → Nat) → (Nat → Nat)
  | 0, _, g => g
  | n + 1, k, g => jm_cpL fr tt n (k + 1) (ju g (tt + k) (g (fr + k)))
theorem jm_cpL_lt (fr tt : Nat) {b : Nat} : ∀ n k {g : Nat → Nat}, jlt b g → jlt b (jm_cpL fr tt n k g) := by
  intro n
  induction n with
  | zero => intro k g h; exact h
  | succ n ih => intro k g h; exact ih _ (ju_lt h (h _))
def jm_clL : Nat → Nat → (Nat → Nat) → (Nat → Nat)
  | 0, _, I => I
  | n + 1, h, I => jm_clL n (h + 1) (ju I h 0)
section J32
variable {p : Program} {l : Launch} {e : Env} {R : Room} {s : State} {m : MethodId} {args : Array Value} {below : List Frame} {meth : Method} {c : Code} {H : Heap} {locs : List Loc} {cells slots : Nat} {Q : State → Prop}
variable {cc : ByteArray} {pc : Nat} {ls : Array Slot} {rest : List Value}
theorem jl_neg32 {a : Nat} (h1 : 2147483648 ≤ a) (h2 : a < 4294967296) : nI a < 0 := by
  have e : (nI a).toInt = (a : Int) - 4294967296 := by
    show (Int32.ofNat a).toInt = _
    rw [Int32.toInt_ofNat']
    have hz : ((Int32.size : Nat) : Int) = 4294967296 := rfl
    simp only [Int.bmod, hz]
    omega
  rw [Int32.lt_iff_toInt_lt, e, Int32.toInt_zero]
  omega
theorem jl_iflt32 (hx : p.tables.exec = Jvm.exec) (hb : c.code = cc) {a : Nat} {off : Int} {tgt : Nat} (ha : a < 4294967296) (hd : decode cc pc = .ok (.ifCond .lt off, 3)) (ht : (pc : Int) + off = (tgt : Int)) (kt : 2147483648 ≤ a → W p l e R s m args below meth c H locs cells slots Q (F0 m tgt ls rest)) (kf : a < 2147483648 → W p l e R s m args below meth c H locs cells slots Q (F0 m (pc + 3) ls rest)) : W p l e R s m args below meth c H locs cells slots Q (F0 m pc ls (.int (nI a) :: rest)) :=
  lv_if_lt hx hb hd ht (fun h => kt (Nat.not_lt.mp (fun q => nI_pos (by omega) h))) (fun h => kf (Nat.not_le.mp (fun q => h (jl_neg32 q ha))))
/-- a switch on a number -/
theorem jl_swIn (hx : p.tables.exec = Jvm.exec) (hb : c.code = cc) {dflt lo hi : Int} {offs : Array Int} {len a : Nat} {off : Int} {tgt : Nat} (hd : decode cc pc = .ok (.tableswitch dflt lo hi offs, len)) (ha : a < 2 ^ 31) (h1 : ¬ (a : Int) < lo) (h2 : ¬ hi < (a : Int)) (ho : offs[((a : Int) - lo).toNat]? = some off) (ht : (pc : Int) + off = (tgt : Int))
    (k : W p l e R s m args below meth c H locs cells slots Q (F0 m tgt ls rest)) : W p l e R s m args below meth c H locs cells slots Q (F0 m pc ls (.int (nI a) :: rest)) :=
  lv_tableIn hx hb hd (by rw [nI_toInt ha]; exact h1) (by rw [nI_toInt ha]; exact h2) (by rw [nI_toInt ha]; exact ho) ht k
theorem jl_swOut (hx : p.tables.exec = Jvm.exec) (hb : c.code = cc) {dflt lo hi : Int} {offs : Array Int} {len a : Nat} {tgt : Nat} (hd : decode cc pc = .ok (.tableswitch dflt lo hi offs, len)) (ha : a < 2 ^ 31) (h1 : hi < (a : Int)) (ht : (pc : Int) + dflt = (tgt : Int))
    (k : W p l e R s m args below meth c H locs cells slots Q (F0 m tgt ls rest)) : W p l e R s m args below meth c H locs cells slots Q (F0 m pc ls (.int (nI a) :: rest)) :=
  lv_tableOut hx hb hd (by rw [nI_toInt ha]; exact Or.inr h1) ht k
end J32
end
section
set_option maxHeartbeats 4000000 in
set_option maxRecDepth 100000 in
theorem ct_M_newBlock (l : Launch) (G : va_G) (qM qK qZ qN qB qY qi qo qm qp : Nat) (c1 c2 c3 c4 c5 c6 c7 c8 c9 : ClassId) (K : Nat → Nat) (Z : Nat → Nat) (N : Nat → Nat) (B : Nat → Nat) (Y : Nat → Nat) (I : Nat → Nat) (O : Nat → Nat) (M : Nat → Nat) (P : Nat → Nat) (ct : Nat) (wr : Nat) (ofs : Nat) (th : Nat) (pa : Option Nat) (ey : Option Nat) (fo : Option Nat) (la : Nat)  (m : Nat) (hm0 : 9 ≤ m ∧ m < 10000) (hB : jlt m B) : jr l yn_M_newBlock (.code yn_M_newBlock cd_M_newBlock 2 (some .int)) { frames := 1, cells := 0, slots := 0, locals := 23 } G (tM c1 c2 c3 c4 c5 c6 c7 c8 c9) (wM qM qK qZ qN qB qY qi qo qm qp c1 c2 c3 c4 c5 c6 c7 c8 c9 K Z N B Y I O M P ct wr ofs th pa ey fo la) [.ref qM] (nI (jm_newBlock B m)) := by
  refine jr_of (by decide) (Nat.le_of_ble_eq_true rfl) ?_
  intro pr en σ mi bel met cd ls C hP hK hl
  have hx := C.1
  have hb := C.2.1
  have hown := C.2.2.2.1
  have hts := C.2.2.2.2.1
  have hl : lv_has ls 2 [(0, .ref qM)] := hl
  refine lv_bipush (v := nI 9) hx hb dd_M_newBlock_0 (by decide) ?_
  refine lv_istore_n (lv' := [(1, .int (nI (9))), (0, .ref qM)]) hx hb dd_M_newBlock_2 rfl hl (by decide) rfl (fun ls hl => ?_)
  have loop : ∀ (n : Nat) (b : Nat), (b + n = m) → jm_nbL B n b = jm_newBlock B m → ∀ ls : Array Slot, lv_has ls 2 [(1, .int (nI (b))), (0, .ref qM)] → W pr l en { frames := 1, cells := 0, slots := 0, locals := 23 } σ mi ([.ref qM] : List Value).toArray bel met cd σ.heap [] 0 0 (jr_Q bel [.ref qM] σ (nI (jm_newBlock B m))) (F0 mi 3 ls []) := by
    intro n
    induction n with
    | zero =>
      intro b hi  ht ls hl
      refine lv_aload_n hx hb dd_M_newBlock_3 rfl (lv_at hl 1 rfl) ?_
      refine lv_iconst (v := nI 0) hx hb dd_M_newBlock_4 (by decide) ?_
      refine lv_iload_n hx hb dd_M_newBlock_5 rfl (lv_at hl 0 rfl) ?_
      refine jr_callV C (ct_M_isUsed l G qM qK qZ qN qB qY qi qo qm qp c1 c2 c3 c4 c5 c6 c7 c8 c9 K Z N B Y I O M P ct wr ofs th pa ey fo la 0 b m (by omega) (by omega) (by omega) (by assumption)) kl_M_41 ⟨Nat.le_of_ble_eq_true rfl, Nat.le_of_ble_eq_true rfl, rfl, rfl⟩ ⟨Nat.le_of_ble_eq_true rfl, Nat.le_of_ble_eq_true rfl⟩ (hP) (hK) (va_recv hK hP (ci := 4) (q0 := 0) rfl rfl) hl.1 rfl rfl (Nat.le_of_ble_eq_true rfl) dd_M_newBlock_6 ?_
      have hf_1 : jm_isUsed B 0 b < 2 := jm_isUsed_lt _ _ _
      refine jl_ifeq (tgt := 18) hx hb (by omega) dd_M_newBlock_9 (by decide) (fun c_2 => ?_) (fun c_2 => ?_)
      · skip
        refine lv_iload_n hx hb dd_M_newBlock_18 rfl (lv_at hl 0 rfl) ?_
        exact jr_ret C (by rw [← ht]; first | with_reducible rfl | (simp [jm_nbL, c_2]; done)) dd_M_newBlock_19
      · skip
        exact absurd (by rw [show b = m by omega]; exact jm_isUsed_no (by assumption) (by omega)) c_2
    | succ n ih =>
      intro b hi  ht ls hl
      refine lv_aload_n hx hb dd_M_newBlock_3 rfl (lv_at hl 1 rfl) ?_
      refine lv_iconst (v := nI 0) hx hb dd_M_newBlock_4 (by decide) ?_
      refine lv_iload_n hx hb dd_M_newBlock_5 rfl (lv_at hl 0 rfl) ?_
      refine jr_callV C (ct_M_isUsed l G qM qK qZ qN qB qY qi qo qm qp c1 c2 c3 c4 c5 c6 c7 c8 c9 K Z N B Y I O M P ct wr ofs th pa ey fo la 0 b m (by omega) (by omega) (by omega) (by assumption)) kl_M_41 ⟨Nat.le_of_ble_eq_true rfl, Nat.le_of_ble_eq_true rfl, rfl, rfl⟩ ⟨Nat.le_of_ble_eq_true rfl, Nat.le_of_ble_eq_true rfl⟩ (hP) (hK) (va_recv hK hP (ci := 4) (q0 := 0) rfl rfl) hl.1 rfl rfl (Nat.le_of_ble_eq_true rfl) dd_M_newBlock_6 ?_
      have hf_3 : jm_isUsed B 0 b < 2 := jm_isUsed_lt _ _ _
      refine jl_ifeq (tgt := 18) hx hb (by omega) dd_M_newBlock_9 (by decide) (fun c_4 => ?_) (fun c_4 => ?_)
      · skip
        refine lv_iload_n hx hb dd_M_newBlock_18 rfl (lv_at hl 0 rfl) ?_
        exact jr_ret C (by rw [← ht]; first | with_reducible rfl | (simp [jm_nbL, c_4]; done)) dd_M_newBlock_19
      · skip
        refine jl_iinc (lv' := [(1, .int (nI (b + 1))), (0, .ref qM)]) hx hb dd_M_newBlock_12 hl (k := 0) rfl (by decide) rfl (fun ls hl => ?_)
        refine lv_goto (tgt := 3) hx hb dd_M_newBlock_15 (by decide) ?_
        exact ih (b + 1) (by omega) (by simpa [jm_nbL, c_4] using ht) ls (lv_sub hl [0, 1] rfl)
  exact loop (m - 9) 9 (by omega) (rfl) ls (lv_sub hl [0, 1] rfl)
set_option maxHeartbeats 4000000 in
set_option maxRecDepth 100000 in
theorem ct_M_resize (l : Launch) (G : va_G) (qM qK qZ qN qB qY qi qo qm qp : Nat) (c1 c2 c3 c4 c5 c6 c7 c8 c9 : ClassId) (K : Nat → Nat) (Z : Nat → Nat) (N : Nat → Nat) (B : Nat → Nat) (Y : Nat → Nat) (I : Nat → Nat) (O : Nat → Nat) (M : Nat → Nat) (P : Nat → Nat) (ct : Nat) (wr : Nat) (ofs : Nat) (th : Nat) (pa : Option Nat) (ey : Option Nat) (fo : Option Nat) (la : Nat) (i : Nat) (z : Nat) (m : Nat) (hi0 : i < 12) (hz0 : z ≤ 64) (hm0 : 9 ≤ m ∧ m < 5000) (hB : jlt m B) : jm l yn_M_resize (.code yn_M_resize cd_M_resize 4 none) { frames := 2, cells := 0, slots := 0, locals := 44 } G (tM c1 c2 c3 c4 c5 c6 c7 c8 c9) (wM qM qK qZ qN qB qY qi qo qm qp c1 c2 c3 c4 c5 c6 c7 c8 c9 K Z N B Y I O M P ct wr ofs th pa ey fo la) [.ref qM, .int (nI (i)), .int (nI (z))] none (wM qM qK qZ qN qB qY qi qo qm qp c1 c2 c3 c4 c5 c6 c7 c8 c9 K (ju Z i z) N (jm_resB B m i z) (jm_resY Y i z) I O M P ct wr ofs th pa ey fo la) := by
  refine jm_of (by decide) (Nat.le_of_ble_eq_true rfl) ?_
  intro pr en σ mi bel met cd ls A hA C hP hK hD hS hl
  have hx := C.1
  have hb := C.2.1
  have hown := C.2.2.2.1
  have hts := C.2.2.2.2.1
  have hl : lv_has ls 4 [(0, .ref qM), (1, .int (nI (i))), (2, .int (nI (z)))] := hl
  refine lv_iconst (v := nI 0) hx hb dd_M_resize_0 (by decide) ?_
  refine lv_istore_n (lv' := [(3, .int (nI (0))), (0, .ref qM), (1, .int (nI (i))), (2, .int (nI (z)))]) hx hb dd_M_resize_1 rfl hl (by decide) rfl (fun ls hl => ?_)
  have loop_htB : ∀ (n : Nat) (k : Nat) (B9 : Nat → Nat) (m9 : Nat), (k + n = 4 ∧ m9 = m + k) → (jlt m9 B9) → jm_rsL i z n m9 k B9 = jm_resB B m i z → ∀ (H : Heap) (locs : List Loc), va_P G jcl (wM qM qK qZ qN qB qY qi qo qm qp c1 c2 c3 c4 c5 c6 c7 c8 c9 K Z N B9 Y I O M P ct wr ofs th pa ey fo la) H → va_D A (wM qM qK qZ qN qB qY qi qo qm qp c1 c2 c3 c4 c5 c6 c7 c8 c9 K Z N B9 Y I O M P ct wr ofs th pa ey fo la) → va_S A σ.heap H locs → ∀ ls : Array Slot, lv_has ls 4 [(3, .int (nI (k))), (0, .ref qM), (1, .int (nI (i))), (2, .int (nI (z)))] → W pr l en { frames := 2, cells := 0, slots := 0, locals := 44 } σ mi ([.ref qM, .int (nI (i)), .int (nI (z))] : List Value).toArray bel met cd H locs 0 0 (jm_Q bel { frames := 2, cells := 0, slots := 0, locals := 44 } G (tM c1 c2 c3 c4 c5 c6 c7 c8 c9) A [.ref qM, .int (nI (i)), .int (nI (z))] σ none (wM qM qK qZ qN qB qY qi qo qm qp c1 c2 c3 c4 c5 c6 c7 c8 c9 K (ju Z i z) N (jm_resB B m i z) (jm_resY Y i z) I O M P ct wr ofs th pa ey fo la)) (F0 mi 2 ls []) := by
    intro n
    induction n with
    | zero =>
      intro k B9 m9 hi hB9 htB H locs hP hD hS ls hl
      refine lv_iload_n hx hb dd_M_resize_2 rfl (lv_at hl 0 rfl) ?_
      refine lv_iconst (v := nI 4) hx hb dd_M_resize_3 (by decide) ?_
      refine jl_ge (tgt := 69) hx hb (by omega) (by omega) dd_M_resize_4 (by decide) (fun c_1 => ?_) (fun c_1 => ?_)
      · skip
        refine lv_iload_n hx hb dd_M_resize_69 rfl (lv_at hl 3 rfl) ?_
        refine lv_istore_n (lv' := [(3, .int (nI (z))), (0, .ref qM), (1, .int (nI (i))), (2, .int (nI (z)))]) hx hb dd_M_resize_70 rfl hl (by decide) rfl (fun ls hl => ?_)
        have loop_htY : ∀ (n : Nat) (k : Nat) (Y9 : Nat → Nat), (k + n = 64) → jm_zL i n k Y9 = jm_resY Y i z → ∀ (H : Heap) (locs : List Loc), va_P G jcl (wM qM qK qZ qN qB qY qi qo qm qp c1 c2 c3 c4 c5 c6 c7 c8 c9 K Z N B9 Y9 I O M P ct wr ofs th pa ey fo la) H → va_D A (wM qM qK qZ qN qB qY qi qo qm qp c1 c2 c3 c4 c5 c6 c7 c8 c9 K Z N B9 Y9 I O M P ct wr ofs th pa ey fo la) → va_S A σ.heap H locs → ∀ ls : Array Slot, lv_has ls 4 [(3, .int (nI (k))), (0, .ref qM), (1, .int (nI (i))), (2, .int (nI (z)))] → W pr l en { frames := 2, cells := 0, slots := 0, locals := 44 } σ mi ([.ref qM, .int (nI (i)), .int (nI (z))] : List Value).toArray bel met cd H locs 0 0 (jm_Q bel { frames := 2, cells := 0, slots := 0, locals := 44 } G (tM c1 c2 c3 c4 c5 c6 c7 c8 c9) A [.ref qM, .int (nI (i)), .int (nI (z))] σ none (wM qM qK qZ qN qB qY qi qo qm qp c1 c2 c3 c4 c5 c6 c7 c8 c9 K (ju Z i z) N (jm_resB B m i z) (jm_resY Y i z) I O M P ct wr ofs th pa ey fo la)) (F0 mi 71 ls []) := by
          intro n
          induction n with
          | zero =>
            intro k Y9 hi  htY H locs hP hD hS ls hl
            refine lv_iload_n hx hb dd_M_resize_71 rfl (lv_at hl 0 rfl) ?_
            refine lv_bipush (v := nI 64) hx hb dd_M_resize_72 (by decide) ?_
            refine jl_ge (tgt := 95) hx hb (by omega) (by omega) dd_M_resize_74 (by decide) (fun c_2 => ?_) (fun c_2 => ?_)
            · skip
              refine lv_aload_n hx hb dd_M_resize_95 rfl (lv_at hl 1 rfl) ?_
              refine va_get (D := G) (ci := 4) (v := .ref qZ) (C := cn_M) (T := ft_M) (N := 17) hx hb hts uw_M hown hK hP 0 rfl rfl 1 (by decide) (hts _ tw_594) (fun _ h9 => h9) rfl dd_M_resize_96 ?_
              refine lv_iload_n hx hb dd_M_resize_99 rfl (lv_at hl 2 rfl) ?_
              refine lv_iload_n hx hb dd_M_resize_100 rfl (lv_at hl 3 rfl) ?_
              refine va_iast hx hb hK hP hD hS 2 1 rfl rfl (vp_in_nI (by omega) (by decide)) dd_M_resize_101 (fun H locs hP hD hS => ?_)
              rw [jn_upd (Z) (z) (by omega)] at hP hD
              have hP : va_P G jcl (wM qM qK qZ qN qB qY qi qo qm qp c1 c2 c3 c4 c5 c6 c7 c8 c9 K (ju Z i z) N B9 Y9 I O M P ct wr ofs th pa ey fo la) H := hP
              have hD : va_D A (wM qM qK qZ qN qB qY qi qo qm qp c1 c2 c3 c4 c5 c6 c7 c8 c9 K (ju Z i z) N B9 Y9 I O M P ct wr ofs th pa ey fo la) := hD
              have he : wM qM qK qZ qN qB qY qi qo qm qp c1 c2 c3 c4 c5 c6 c7 c8 c9 K (ju Z i z) N B9 Y9 I O M P ct wr ofs th pa ey fo la = wM qM qK qZ qN qB qY qi qo qm qp c1 c2 c3 c4 c5 c6 c7 c8 c9 K (ju Z i z) N (jm_resB B m i z) (jm_resY Y i z) I O M P ct wr ofs th pa ey fo la := by rw [← htB, ← htY]; first | with_reducible rfl | (simp [jm_rsL, jm_zL, c_2]; done)
              rw [he] at hP hD
              exact jm_retv C hP hD hK hS ⟨Nat.le_of_ble_eq_true rfl, Nat.le_of_ble_eq_true rfl⟩ dd_M_resize_102
            · skip
              exact absurd c_2 (by omega)
          | succ n ih_htY =>
            intro k Y9 hi  htY H locs hP hD hS ls hl
            refine lv_iload_n hx hb dd_M_resize_71 rfl (lv_at hl 0 rfl) ?_
            refine lv_bipush (v := nI 64) hx hb dd_M_resize_72 (by decide) ?_
            refine jl_ge (tgt := 95) hx hb (by omega) (by omega) dd_M_resize_74 (by decide) (fun c_3 => ?_) (fun c_3 => ?_)
            · skip
              exact absurd c_3 (by omega)
            · skip
              refine lv_aload_n hx hb dd_M_resize_77 rfl (lv_at hl 1 rfl) ?_
              refine va_get (D := G) (ci := 4) (v := .ref qY) (C := cn_M) (T := ft_M) (N := 17) hx hb hts uw_M hown hK hP 0 rfl rfl 4 (by decide) (hts _ tw_597) (fun _ h9 => h9) rfl dd_M_resize_78 ?_
              refine lv_iload_n hx hb dd_M_resize_81 rfl (lv_at hl 2 rfl) ?_
              refine lv_bipush (v := nI 64) hx hb dd_M_resize_82 (by decide) ?_
              refine jl_imul hx hb dd_M_resize_84 ?_
              refine lv_iload_n hx hb dd_M_resize_85 rfl (lv_at hl 0 rfl) ?_
              refine jl_iadd hx hb dd_M_resize_86 ?_
              refine lv_iconst (v := nI 0) hx hb dd_M_resize_87 (by decide) ?_
              refine va_iast hx hb hK hP hD hS 5 4 rfl rfl (vp_in_nI (by omega) (by decide)) dd_M_resize_88 (fun H locs hP hD hS => ?_)
              rw [jn_upd (Y9) (0) (by omega)] at hP hD
              have hP : va_P G jcl (wM qM qK qZ qN qB qY qi qo qm qp c1 c2 c3 c4 c5 c6 c7 c8 c9 K Z N B9 (ju Y9 ((i * 64) + k) 0) I O M P ct wr ofs th pa ey fo la) H := hP
              have hD : va_D A (wM qM qK qZ qN qB qY qi qo qm qp c1 c2 c3 c4 c5 c6 c7 c8 c9 K Z N B9 (ju Y9 ((i * 64) + k) 0) I O M P ct wr ofs th pa ey fo la) := hD
              refine jl_iinc (lv' := [(3, .int (nI (k + 1))), (0, .ref qM), (1, .int (nI (i))), (2, .int (nI (z)))]) hx hb dd_M_resize_89 hl (k := 0) rfl (by decide) rfl (fun ls hl => ?_)
              refine lv_goto (tgt := 71) hx hb dd_M_resize_92 (by decide) ?_
              exact ih_htY (k + 1) (ju Y9 ((i * 64) + k) 0) (by omega) (by simpa [jm_zL, c_3] using htY) _ _ hP hD hS ls (lv_sub hl [0, 1, 2, 3] rfl)
        exact loop_htY (64 - z) z Y (by omega) (rfl) _ _ hP hD hS ls (lv_sub hl [0, 1, 2, 3] rfl)
      · skip
        exact absurd c_1 (by omega)
    | succ n ih_htB =>
      intro k B9 m9 hi hB9 htB H locs hP hD hS ls hl
      refine lv_iload_n hx hb dd_M_resize_2 rfl (lv_at hl 0 rfl) ?_
      refine lv_iconst (v := nI 4) hx hb dd_M_resize_3 (by decide) ?_
      refine jl_ge (tgt := 69) hx hb (by omega) (by omega) dd_M_resize_4 (by decide) (fun c_4 => ?_) (fun c_4 => ?_)
      · skip
        exact absurd c_4 (by omega)
      · skip
        refine lv_iload_n hx hb dd_M_resize_7 rfl (lv_at hl 0 rfl) ?_
        refine lv_aload_n hx hb dd_M_resize_8 rfl (lv_at hl 1 rfl) ?_
        refine lv_iload_n hx hb dd_M_resize_9 rfl (lv_at hl 3 rfl) ?_
        refine jr_callV C (ct_M_needed l G qM qK qZ qN qB qY qi qo qm qp c1 c2 c3 c4 c5 c6 c7 c8 c9 K Z N B9 Y I O M P ct wr ofs th pa ey fo la z (by omega)) kl_M_45 ⟨Nat.le_of_ble_eq_true rfl, Nat.le_of_ble_eq_true rfl, rfl, rfl⟩ ⟨Nat.le_of_ble_eq_true rfl, Nat.le_of_ble_eq_true rfl⟩ (hP) (hK) (va_recv hK hP (ci := 4) (q0 := 0) rfl rfl) hl.1 rfl rfl (Nat.le_of_ble_eq_true rfl) dd_M_resize_10 ?_
        have hf_5 : jm_needed z * 16 ≤ z + 15 := jm_needed_le _
        refine jl_ge (tgt := 43) hx hb (by omega) (by omega) dd_M_resize_13 (by decide) (fun c_6 => ?_) (fun c_6 => ?_)
        · skip
          refine lv_iload_n hx hb dd_M_resize_43 rfl (lv_at hl 0 rfl) ?_
          refine lv_aload_n hx hb dd_M_resize_44 rfl (lv_at hl 1 rfl) ?_
          refine lv_iload_n hx hb dd_M_resize_45 rfl (lv_at hl 3 rfl) ?_
          refine jr_callV C (ct_M_needed l G qM qK qZ qN qB qY qi qo qm qp c1 c2 c3 c4 c5 c6 c7 c8 c9 K Z N B9 Y I O M P ct wr ofs th pa ey fo la z (by omega)) kl_M_45 ⟨Nat.le_of_ble_eq_true rfl, Nat.le_of_ble_eq_true rfl, rfl, rfl⟩ ⟨Nat.le_of_ble_eq_true rfl, Nat.le_of_ble_eq_true rfl⟩ (hP) (hK) (va_recv hK hP (ci := 4) (q0 := 0) rfl rfl) hl.1 rfl rfl (Nat.le_of_ble_eq_true rfl) dd_M_resize_46 ?_
          have hf_7 : jm_needed z * 16 ≤ z + 15 := jm_needed_le _
          refine jl_lt (tgt := 63) hx hb (by omega) (by omega) dd_M_resize_49 (by decide) (fun c_8 => ?_) (fun c_8 => ?_)
          · skip
            exact absurd c_8 (by omega)
          · skip
            refine lv_aload_n hx hb dd_M_resize_52 rfl (lv_at hl 1 rfl) ?_
            refine va_get (D := G) (ci := 4) (v := .ref qB) (C := cn_M) (T := ft_M) (N := 17) hx hb hts uw_M hown hK hP 0 rfl rfl 3 (by decide) (hts _ tw_596) (fun _ h9 => h9) rfl dd_M_resize_53 ?_
            refine lv_iload_n hx hb dd_M_resize_56 rfl (lv_at hl 2 rfl) ?_
            refine lv_iconst (v := nI 4) hx hb dd_M_resize_57 (by decide) ?_
            refine jl_imul hx hb dd_M_resize_58 ?_
            refine lv_iload_n hx hb dd_M_resize_59 rfl (lv_at hl 0 rfl) ?_
            refine jl_iadd hx hb dd_M_resize_60 ?_
            refine lv_iconst (v := nI 0) hx hb dd_M_resize_61 (by decide) ?_
            refine va_iast hx hb hK hP hD hS 4 3 rfl rfl (vp_in_nI (by omega) (by decide)) dd_M_resize_62 (fun H locs hP hD hS => ?_)
            rw [jn_upd (B9) (0) (by omega)] at hP hD
            have hP : va_P G jcl (wM qM qK qZ qN qB qY qi qo qm qp c1 c2 c3 c4 c5 c6 c7 c8 c9 K Z N (ju B9 ((i * 4) + k) 0) Y I O M P ct wr ofs th pa ey fo la) H := hP
            have hD : va_D A (wM qM qK qZ qN qB qY qi qo qm qp c1 c2 c3 c4 c5 c6 c7 c8 c9 K Z N (ju B9 ((i * 4) + k) 0) Y I O M P ct wr ofs th pa ey fo la) := hD
            refine jl_iinc (lv' := [(3, .int (nI (k + 1))), (0, .ref qM), (1, .int (nI (i))), (2, .int (nI (z)))]) hx hb dd_M_resize_63 hl (k := 0) rfl (by decide) rfl (fun ls hl => ?_)
            refine lv_goto (tgt := 2) hx hb dd_M_resize_66 (by decide) ?_
            exact ih_htB (k + 1) (ju B9 ((i * 4) + k) 0) (m9 + 1) (by omega) (by first | exact jlt_mono (by assumption) (by omega) | exact ju_lt (jlt_mono (by assumption) (by omega)) (by omega)) (by simpa [jm_rsL, c_4, c_6, c_8] using htB) _ _ hP hD hS ls (lv_sub hl [0, 1, 2, 3] rfl)
        · skip
          refine lv_aload_n hx hb dd_M_resize_16 rfl (lv_at hl 1 rfl) ?_
          refine va_get (D := G) (ci := 4) (v := .ref qB) (C := cn_M) (T := ft_M) (N := 17) hx hb hts uw_M hown hK hP 0 rfl rfl 3 (by decide) (hts _ tw_596) (fun _ h9 => h9) rfl dd_M_resize_17 ?_
          refine lv_iload_n hx hb dd_M_resize_20 rfl (lv_at hl 2 rfl) ?_
          refine lv_iconst (v := nI 4) hx hb dd_M_resize_21 (by decide) ?_
          refine jl_imul hx hb dd_M_resize_22 ?_
          refine lv_iload_n hx hb dd_M_resize_23 rfl (lv_at hl 0 rfl) ?_
          refine jl_iadd hx hb dd_M_resize_24 ?_
          refine va_iald hx hb hK hP 4 3 rfl rfl (vp_in_nI (by omega) (by decide)) dd_M_resize_25 ?_
          refine jl_top (jn_at (B9) (by omega)) ?_
          have hf_9 : B9 ((i * 4) + k) < m9 := (by assumption : jlt m9 B9) _
          refine jl_ifne (tgt := 43) hx hb (by omega) dd_M_resize_26 (by decide) (fun c_10 => ?_) (fun c_10 => ?_)
          · skip
            refine lv_iload_n hx hb dd_M_resize_43 rfl (lv_at hl 0 rfl) ?_
            refine lv_aload_n hx hb dd_M_resize_44 rfl (lv_at hl 1 rfl) ?_
            refine lv_iload_n hx hb dd_M_resize_45 rfl (lv_at hl 3 rfl) ?_
            refine jr_callV C (ct_M_needed l G qM qK qZ qN qB qY qi qo qm qp c1 c2 c3 c4 c5 c6 c7 c8 c9 K Z N B9 Y I O M P ct wr ofs th pa ey fo la z (by omega)) kl_M_45 ⟨Nat.le_of_ble_eq_true rfl, Nat.le_of_ble_eq_true rfl, rfl, rfl⟩ ⟨Nat.le_of_ble_eq_true rfl, Nat.le_of_ble_eq_true rfl⟩ (hP) (hK) (va_recv hK hP (ci := 4) (q0 := 0) rfl rfl) hl.1 rfl rfl (Nat.le_of_ble_eq_true rfl) dd_M_resize_46 ?_
            have hf_11 : jm_needed z * 16 ≤ z + 15 := jm_needed_le _
            refine jl_lt (tgt := 63) hx hb (by omega) (by omega) dd_M_resize_49 (by decide) (fun c_12 => ?_) (fun c_12 => ?_)
            · skip
              refine jl_iinc (lv' := [(3, .int (nI (k + 1))), (0, .ref qM), (1, .int (nI (i))), (2, .int (nI (z)))]) hx hb dd_M_resize_63 hl (k := 0) rfl (by decide) rfl (fun ls hl => ?_)
              refine lv_goto (tgt := 2) hx hb dd_M_resize_66 (by decide) ?_
              exact ih_htB (k + 1) B9 (m9 + 1) (by omega) (by first | exact jlt_mono (by assumption) (by omega) | exact ju_lt (jlt_mono (by assumption) (by omega)) (by omega)) (by simpa [jm_rsL, c_4, c_6, c_10, c_12] using htB) _ _ hP hD hS ls (lv_sub hl [0, 1, 2, 3] rfl)
            · skip
              exact absurd c_12 (by omega)
          · skip
            refine lv_aload_n hx hb dd_M_resize_29 rfl (lv_at hl 1 rfl) ?_
            refine va_get (D := G) (ci := 4) (v := .ref qB) (C := cn_M) (T := ft_M) (N := 17) hx hb hts uw_M hown hK hP 0 rfl rfl 3 (by decide) (hts _ tw_596) (fun _ h9 => h9) rfl dd_M_resize_30 ?_
            refine lv_iload_n hx hb dd_M_resize_33 rfl (lv_at hl 2 rfl) ?_
            refine lv_iconst (v := nI 4) hx hb dd_M_resize_34 (by decide) ?_
            refine jl_imul hx hb dd_M_resize_35 ?_
            refine lv_iload_n hx hb dd_M_resize_36 rfl (lv_at hl 0 rfl) ?_
            refine jl_iadd hx hb dd_M_resize_37 ?_
            refine lv_aload_n hx hb dd_M_resize_38 rfl (lv_at hl 1 rfl) ?_
            refine jr_callV C (ct_M_newBlock l G qM qK qZ qN qB qY qi qo qm qp c1 c2 c3 c4 c5 c6 c7 c8 c9 K Z N B9 Y I O M P ct wr ofs th pa ey fo la  m9 (by omega) (by assumption)) kl_M_53 ⟨Nat.le_of_ble_eq_true rfl, Nat.le_of_ble_eq_true rfl, rfl, rfl⟩ ⟨Nat.le_of_ble_eq_true rfl, Nat.le_of_ble_eq_true rfl⟩ (hP) (hK) (va_recv hK hP (ci := 4) (q0 := 0) rfl rfl) hl.1 rfl rfl (Nat.le_of_ble_eq_true rfl) dd_M_resize_39 ?_
            have hf_13 : jm_newBlock B9 m9 ≤ m9 := jm_newBlock_le _ (by omega)
            refine va_iast hx hb hK hP hD hS 4 3 rfl rfl (vp_in_nI (by omega) (by decide)) dd_M_resize_42 (fun H locs hP hD hS => ?_)
            rw [jn_upd (B9) (jm_newBlock B9 m9) (by omega)] at hP hD
            have hP : va_P G jcl (wM qM qK qZ qN qB qY qi qo qm qp c1 c2 c3 c4 c5 c6 c7 c8 c9 K Z N (ju B9 ((i * 4) + k) (jm_newBlock B9 m9)) Y I O M P ct wr ofs th pa ey fo la) H := hP
            have hD : va_D A (wM qM qK qZ qN qB qY qi qo qm qp c1 c2 c3 c4 c5 c6 c7 c8 c9 K Z N (ju B9 ((i * 4) + k) (jm_newBlock B9 m9)) Y I O M P ct wr ofs th pa ey fo la) := hD
            refine lv_iload_n hx hb dd_M_resize_43 rfl (lv_at hl 0 rfl) ?_
            refine lv_aload_n hx hb dd_M_resize_44 rfl (lv_at hl 1 rfl) ?_
            refine lv_iload_n hx hb dd_M_resize_45 rfl (lv_at hl 3 rfl) ?_
            refine jr_callV C (ct_M_needed l G qM qK qZ qN qB qY qi qo qm qp c1 c2 c3 c4 c5 c6 c7 c8 c9 K Z N (ju B9 ((i * 4) + k) (jm_newBlock B9 m9)) Y I O M P ct wr ofs th pa ey fo la z (by omega)) kl_M_45 ⟨Nat.le_of_ble_eq_true rfl, Nat.le_of_ble_eq_true rfl, rfl, rfl⟩ ⟨Nat.le_of_ble_eq_true rfl, Nat.le_of_ble_eq_true rfl⟩ (hP) (hK) (va_recv hK hP (ci := 4) (q0 := 0) rfl rfl) hl.1 rfl rfl (Nat.le_of_ble_eq_true rfl) dd_M_resize_46 ?_
            have hf_14 : jm_needed z * 16 ≤ z + 15 := jm_needed_le _
            refine jl_lt (tgt := 63) hx hb (by omega) (by omega) dd_M_resize_49 (by decide) (fun c_15 => ?_) (fun c_15 => ?_)
            · skip
              refine jl_iinc (lv' := [(3, .int (nI (k + 1))), (0, .ref qM), (1, .int (nI (i))), (2, .int (nI (z)))]) hx hb dd_M_resize_63 hl (k := 0) rfl (by decide) rfl (fun ls hl => ?_)
              refine lv_goto (tgt := 2) hx hb dd_M_resize_66 (by decide) ?_
              exact ih_htB (k + 1) (ju B9 ((i * 4) + k) (jm_newBlock B9 m9)) (m9 + 1) (by omega) (by first | exact jlt_mono (by assumption) (by omega) | exact ju_lt (jlt_mono (by assumption) (by omega)) (by omega)) (by simpa [jm_rsL, c_4, c_6, c_10, c_15] using htB) _ _ hP hD hS ls (lv_sub hl [0, 1, 2, 3] rfl)
            · skip
              exact absurd c_15 (by omega)
  exact loop_htB 4 0 B m (by omega) (by assumption) (rfl) _ _ hP hD hS ls (lv_sub hl [0, 1, 2, 3] rfl)
set_option maxHeartbeats 4000000 in
set_option maxRecDepth 100000 in
theorem ct_M_release (l : Launch) (G : va_G) (qM qK qZ qN qB qY qi qo qm qp : Nat) (c1 c2 c3 c4 c5 c6 c7 c8 c9 : ClassId) (K : Nat → Nat) (Z : Nat → Nat) (N : Nat → Nat) (B : Nat → Nat) (Y : Nat → Nat) (I : Nat → Nat) (O : Nat → Nat) (M : Nat → Nat) (P : Nat → Nat) (ct : Nat) (wr : Nat) (ofs : Nat) (th : Nat) (pa : Option Nat) (ey : Option Nat) (fo : Option Nat) (la : Nat) (i : Nat) (m : Nat) (hi0 : i < 12) (hm0 : 9 ≤ m ∧ m < 5000) (hB : jlt m B) : jm l yn_M_release (.code yn_M_release cd_M_release 2 none) { frames := 3, cells := 0, slots := 0, locals := 67 } G (tM c1 c2 c3 c4 c5 c6 c7 c8 c9) (wM qM qK qZ qN qB qY qi qo qm qp c1 c2 c3 c4 c5 c6 c7 c8 c9 K Z N B Y I O M P ct wr ofs th pa ey fo la) [.ref qM, .int (nI (i))] none (wM qM qK qZ qN qB qY qi qo qm qp c1 c2 c3 c4 c5 c6 c7 c8 c9 (ju K i 0) (ju Z i 0) N (jm_resB B m i 0) (jm_resY Y i 0) I O M P ct wr ofs th pa ey fo la) := by
  refine jm_of (by decide) (Nat.le_of_ble_eq_true rfl) ?_
  intro pr en σ mi bel met cd ls A hA C hP hK hD hS hl
  have hx := C.1
  have hb := C.2.1
  have hown := C.2.2.2.1
  have hts := C.2.2.2.2.1
  have hl : lv_has ls 2 [(0, .ref qM), (1, .int (nI (i)))] := hl
  refine lv_aload_n hx hb dd_M_release_0 rfl (lv_at hl 0 rfl) ?_
  refine lv_iload_n hx hb dd_M_release_1 rfl (lv_at hl 1 rfl) ?_
  refine lv_iconst (v := nI 0) hx hb dd_M_release_2 (by decide) ?_
  refine jm_callV (wr := []) C (ct_M_resize l G qM qK qZ qN qB qY qi qo qm qp c1 c2 c3 c4 c5 c6 c7 c8 c9 K Z N B Y I O M P ct wr ofs th pa ey fo la i 0 m (by omega) (by omega) (by omega) (by assumption)) kl_M_56 ⟨Nat.le_of_ble_eq_true rfl, Nat.le_of_ble_eq_true rfl⟩ ⟨Nat.le_of_ble_eq_true rfl, Nat.le_of_ble_eq_true rfl⟩ hP hD hS hA (hK) (va_recv hK hP (ci := 4) (q0 := 0) rfl rfl) hl.1 rfl rfl (Nat.le_of_ble_eq_true rfl) dd_M_release_3 (fun H locs hP hD hS => ?_)
  have hP : va_P G jcl (wM qM qK qZ qN qB qY qi qo qm qp c1 c2 c3 c4 c5 c6 c7 c8 c9 K (ju Z i 0) N (jm_resB B m i 0) (jm_resY Y i 0) I O M P ct wr ofs th pa ey fo la) H := hP
  have hD : va_D A (wM qM qK qZ qN qB qY qi qo qm qp c1 c2 c3 c4 c5 c6 c7 c8 c9 K (ju Z i 0) N (jm_resB B m i 0) (jm_resY Y i 0) I O M P ct wr ofs th pa ey fo la) := hD
  have hf_1 : jlt (m + 4) (jm_resB B m i 0) := jm_rsL_lt _ _ 4 _ 0 (by omega) (by assumption)
  refine lv_aload_n hx hb dd_M_release_6 rfl (lv_at hl 0 rfl) ?_
  refine va_get (D := G) (ci := 4) (v := .ref qK) (C := cn_M) (T := ft_M) (N := 17) hx hb hts uw_M hown hK hP 0 rfl rfl 0 (by decide) (hts _ tw_593) (fun _ h9 => h9) rfl dd_M_release_7 ?_
  refine lv_iload_n hx hb dd_M_release_10 rfl (lv_at hl 1 rfl) ?_
  refine lv_iconst (v := nI 0) hx hb dd_M_release_11 (by decide) ?_
  refine va_iast hx hb hK hP hD hS 1 0 rfl rfl (vp_in_nI (by omega) (by decide)) dd_M_release_12 (fun H locs hP hD hS => ?_)
  rw [jn_upd (K) (0) (by omega)] at hP hD
  have hP : va_P G jcl (wM qM qK qZ qN qB qY qi qo qm qp c1 c2 c3 c4 c5 c6 c7 c8 c9 (ju K i 0) (ju Z i 0) N (jm_resB B m i 0) (jm_resY Y i 0) I O M P ct wr ofs th pa ey fo la) H := hP
  have hD : va_D A (wM qM qK qZ qN qB qY qi qo qm qp c1 c2 c3 c4 c5 c6 c7 c8 c9 (ju K i 0) (ju Z i 0) N (jm_resB B m i 0) (jm_resY Y i 0) I O M P ct wr ofs th pa ey fo la) := hD
  exact jm_retv C hP hD hK hS ⟨Nat.le_of_ble_eq_true rfl, Nat.le_of_ble_eq_true rfl⟩ dd_M_release_13
set_option maxHeartbeats 4000000 in
set_option maxRecDepth 100000 in
theorem ct_M_create (l : Launch) (G : va_G) (qM qK qZ qN qB qY qi qo qm qp : Nat) (c1 c2 c3 c4 c5 c6 c7 c8 c9 : ClassId) (K : Nat → Nat) (Z : Nat → Nat) (N : Nat → Nat) (B : Nat → Nat) (Y : Nat → Nat) (I : Nat → Nat) (O : Nat → Nat) (M : Nat → Nat) (P : Nat → Nat) (ct : Nat) (wr : Nat) (ofs : Nat) (th : Nat) (pa : Option Nat) (ey : Option Nat) (fo : Option Nat) (la : Nat) (k : Nat) (hk0 : k < 3) (hK : jlt 3 K) (hN : jlt 256 N) : jm l yn_M_create (.code yn_M_create cd_M_create 3 (some .int)) { frames := 1, cells := 0, slots := 0, locals := 21 } G (tM c1 c2 c3 c4 c5 c6 c7 c8 c9) (wM qM qK qZ qN qB qY qi qo qm qp c1 c2 c3 c4 c5 c6 c7 c8 c9 K Z N B Y I O M P ct wr ofs th pa ey fo la) [.ref qM, .int (nI (k))] (some (.int (nI (jm_newInode K)))) (wM qM qK qZ qN qB qY qi qo qm qp c1 c2 c3 c4 c5 c6 c7 c8 c9 (ju K (jm_newInode K) k) Z (ju N (jm_newInode K) ((N (jm_newInode K) + 1) % 256)) B Y I O M P ct wr ofs th pa ey fo la) := by
  refine jm_of (by decide) (Nat.le_of_ble_eq_true rfl) ?_
  intro pr en σ mi bel met cd ls A hA C hP hK hD hS hl
  have hx := C.1
  have hb := C.2.1
  have hown := C.2.2.2.1
  have hts := C.2.2.2.2.1
  have hl : lv_has ls 3 [(0, .ref qM), (1, .int (nI (k)))] := hl
  refine lv_aload_n hx hb dd_M_create_0 rfl (lv_at hl 0 rfl) ?_
  refine jr_callV C (ct_M_newInode l G qM qK qZ qN qB qY qi qo qm qp c1 c2 c3 c4 c5 c6 c7 c8 c9 K Z N B Y I O M P ct wr ofs th pa ey fo la  (by assumption)) kl_M_60 ⟨Nat.le_of_ble_eq_true rfl, Nat.le_of_ble_eq_true rfl, rfl, rfl⟩ ⟨Nat.le_of_ble_eq_true rfl, Nat.le_of_ble_eq_true rfl⟩ (hP) (hK) (va_recv hK hP (ci := 4) (q0 := 0) rfl rfl) hl.1 rfl rfl (Nat.le_of_ble_eq_true rfl) dd_M_create_1 ?_
  have hf_1 : jm_newInode K ≤ 12 := jm_newInode_le _
  refine lv_istore_n (lv' := [(2, .int (nI (jm_newInode K))), (0, .ref qM), (1, .int (nI (k)))]) hx hb dd_M_create_4 rfl hl (by decide) rfl (fun ls hl => ?_)
  refine lv_aload_n hx hb dd_M_create_5 rfl (lv_at hl 1 rfl) ?_
  refine va_get (D := G) (ci := 4) (v := .ref qK) (C := cn_M) (T := ft_M) (N := 17) hx hb hts uw_M hown hK hP 0 rfl rfl 0 (by decide) (hts _ tw_593) (fun _ h9 => h9) rfl dd_M_create_6 ?_
  refine lv_iload_n hx hb dd_M_create_9 rfl (lv_at hl 0 rfl) ?_
  refine lv_iload_n hx hb dd_M_create_10 rfl (lv_at hl 2 rfl) ?_
  refine va_iast hx hb hK hP hD hS 1 0 rfl rfl (vp_in_nI (by omega) (by decide)) dd_M_create_11 (fun H locs hP hD hS => ?_)
  rw [jn_upd (K) (k) (by omega)] at hP hD
  have hP : va_P G jcl (wM qM qK qZ qN qB qY qi qo qm qp c1 c2 c3 c4 c5 c6 c7 c8 c9 (ju K (jm_newInode K) k) Z N B Y I O M P ct wr ofs th pa ey fo la) H := hP
  have hD : va_D A (wM qM qK qZ qN qB qY qi qo qm qp c1 c2 c3 c4 c5 c6 c7 c8 c9 (ju K (jm_newInode K) k) Z N B Y I O M P ct wr ofs th pa ey fo la) := hD
  refine lv_aload_n hx hb dd_M_create_12 rfl (lv_at hl 1 rfl) ?_
  refine va_get (D := G) (ci := 4) (v := .ref qN) (C := cn_M) (T := ft_M) (N := 17) hx hb hts uw_M hown hK hP 0 rfl rfl 2 (by decide) (hts _ tw_595) (fun _ h9 => h9) rfl dd_M_create_13 ?_
  refine lv_iload_n hx hb dd_M_create_16 rfl (lv_at hl 0 rfl) ?_
  refine lv_aload_n hx hb dd_M_create_17 rfl (lv_at hl 1 rfl) ?_
  refine va_get (D := G) (ci := 4) (v := .ref qN) (C := cn_M) (T := ft_M) (N := 17) hx hb hts uw_M hown hK hP 0 rfl rfl 2 (by decide) (hts _ tw_595) (fun _ h9 => h9) rfl dd_M_create_18 ?_
  refine lv_iload_n hx hb dd_M_create_21 rfl (lv_at hl 0 rfl) ?_
  refine va_iald hx hb hK hP 3 2 rfl rfl (vp_in_nI (by omega) (by decide)) dd_M_create_22 ?_
  refine jl_top (jn_at (N) (by omega)) ?_
  have hf_2 : N (jm_newInode K) < 256 := (by assumption : jlt 256 N) _
  refine lv_iconst (v := nI 1) hx hb dd_M_create_23 (by decide) ?_
  refine jl_iadd hx hb dd_M_create_24 ?_
  refine lv_sipush (v := nI 256) hx hb dd_M_create_25 (by decide) ?_
  refine jl_irem hx hb (by omega) (by decide) (by decide) dd_M_create_28 ?_
  refine va_iast hx hb hK hP hD hS 3 2 rfl rfl (vp_in_nI (by omega) (by decide)) dd_M_create_29 (fun H locs hP hD hS => ?_)
  rw [jn_upd (N) (((N (jm_newInode K)) + 1) % 256) (by omega)] at hP hD
  have hP : va_P G jcl (wM qM qK qZ qN qB qY qi qo qm qp c1 c2 c3 c4 c5 c6 c7 c8 c9 (ju K (jm_newInode K) k) Z (ju N (jm_newInode K) (((N (jm_newInode K)) + 1) % 256)) B Y I O M P ct wr ofs th pa ey fo la) H := hP
  have hD : va_D A (wM qM qK qZ qN qB qY qi qo qm qp c1 c2 c3 c4 c5 c6 c7 c8 c9 (ju K (jm_newInode K) k) Z (ju N (jm_newInode K) (((N (jm_newInode K)) + 1) % 256)) B Y I O M P ct wr ofs th pa ey fo la) := hD
  refine lv_iload_n hx hb dd_M_create_30 rfl (lv_at hl 0 rfl) ?_
  have he : wM qM qK qZ qN qB qY qi qo qm qp c1 c2 c3 c4 c5 c6 c7 c8 c9 (ju K (jm_newInode K) k) Z (ju N (jm_newInode K) (((N (jm_newInode K)) + 1) % 256)) B Y I O M P ct wr ofs th pa ey fo la = wM qM qK qZ qN qB qY qi qo qm qp c1 c2 c3 c4 c5 c6 c7 c8 c9 (ju K (jm_newInode K) k) Z (ju N (jm_newInode K) ((N (jm_newInode K) + 1) % 256)) B Y I O M P ct wr ofs th pa ey fo la := by first | with_reducible rfl | (simp []; done)
  rw [he] at hP hD
  exact jm_reti C (by first | with_reducible rfl | (simp []; done)) hP hD hK hS ⟨Nat.le_of_ble_eq_true rfl, Nat.le_of_ble_eq_true rfl⟩ dd_M_create_31
set_option maxHeartbeats 4000000 in
set_option maxRecDepth 100000 in
theorem ct_M_addEntry (l : Launch) (G : va_G) (qM qK qZ qN qB qY qi qo qm qp : Nat) (c1 c2 c3 c4 c5 c6 c7 c8 c9 : ClassId) (K : Nat → Nat) (Z : Nat → Nat) (N : Nat → Nat) (B : Nat → Nat) (Y : Nat → Nat) (I : Nat → Nat) (O : Nat → Nat) (M : Nat → Nat) (P : Nat → Nat) (ct : Nat) (wr : Nat) (ofs : Nat) (th : Nat) (pa : Option Nat) (ey : Option Nat) (fo : Option Nat) (la : Nat) (d : Nat) (nm : Nat) (i : Nat) (m : Nat) (hd0 : d < 12) (hn0 : nm < 256) (hi0 : i < 256) (hzd : Z d ≤ 62) (hm0 : 9 ≤ m ∧ m < 5000) (hB : jlt m B) (hZ : jlt 65 Z) : jm l yn_M_addEntry (.code yn_M_addEntry cd_M_addEntry 5 none) { frames := 3, cells := 0, slots := 0, locals := 67 } G (tM c1 c2 c3 c4 c5 c6 c7 c8 c9) (wM qM qK qZ qN qB qY qi qo qm qp c1 c2 c3 c4 c5 c6 c7 c8 c9 K Z N B Y I O M P ct wr ofs th pa ey fo la) [.ref qM, .int (nI (d)), .int (nI (nm)), .int (nI (i))] none (wM qM qK qZ qN qB qY qi qo qm qp c1 c2 c3 c4 c5 c6 c7 c8 c9 K (ju Z d (Z d + 2)) N (jm_resB B m d (Z d + 2)) (ju (ju (jm_resY Y d (Z d + 2)) (d * 64 + Z d) nm) (d * 64 + Z d + 1) i) I O M P ct wr ofs th pa ey fo la) := by
  refine jm_of (by decide) (Nat.le_of_ble_eq_true rfl) ?_
  intro pr en σ mi bel met cd ls A hA C hP hK hD hS hl
  have hx := C.1
  have hb := C.2.1
  have hown := C.2.2.2.1
  have hts := C.2.2.2.2.1
  have hl : lv_has ls 5 [(0, .ref qM), (1, .int (nI (d))), (2, .int (nI (nm))), (3, .int (nI (i)))] := hl
  refine lv_aload_n hx hb dd_M_addEntry_0 rfl (lv_at hl 0 rfl) ?_
  refine va_get (D := G) (ci := 4) (v := .ref qZ) (C := cn_M) (T := ft_M) (N := 17) hx hb hts uw_M hown hK hP 0 rfl rfl 1 (by decide) (hts _ tw_594) (fun _ h9 => h9) rfl dd_M_addEntry_1 ?_
  refine lv_iload_n hx hb dd_M_addEntry_4 rfl (lv_at hl 1 rfl) ?_
  refine va_iald hx hb hK hP 2 1 rfl rfl (vp_in_nI (by omega) (by decide)) dd_M_addEntry_5 ?_
  refine jl_top (jn_at (Z) (by omega)) ?_
  have hf_1 : Z d < 65 := (by assumption : jlt 65 Z) _
  refine lv_istore (lv' := [(4, .int (nI (Z d))), (0, .ref qM), (1, .int (nI (d))), (2, .int (nI (nm))), (3, .int (nI (i)))]) hx hb dd_M_addEntry_6 hl (by decide) rfl (fun ls hl => ?_)
  refine lv_aload_n hx hb dd_M_addEntry_8 rfl (lv_at hl 1 rfl) ?_
  refine lv_iload_n hx hb dd_M_addEntry_9 rfl (lv_at hl 2 rfl) ?_
  refine lv_iload hx hb dd_M_addEntry_10 (lv_at hl 0 rfl) ?_
  refine lv_iconst (v := nI 2) hx hb dd_M_addEntry_12 (by decide) ?_
  refine jl_iadd hx hb dd_M_addEntry_13 ?_
  refine jm_callV (wr := []) C (ct_M_resize l G qM qK qZ qN qB qY qi qo qm qp c1 c2 c3 c4 c5 c6 c7 c8 c9 K Z N B Y I O M P ct wr ofs th pa ey fo la d ((Z d) + 2) m (by omega) (by omega) (by omega) (by assumption)) kl_M_56 ⟨Nat.le_of_ble_eq_true rfl, Nat.le_of_ble_eq_true rfl⟩ ⟨Nat.le_of_ble_eq_true rfl, Nat.le_of_ble_eq_true rfl⟩ hP hD hS hA (hK) (va_recv hK hP (ci := 4) (q0 := 0) rfl rfl) hl.1 rfl rfl (Nat.le_of_ble_eq_true rfl) dd_M_addEntry_14 (fun H locs hP hD hS => ?_)
  have hP : va_P G jcl (wM qM qK qZ qN qB qY qi qo qm qp c1 c2 c3 c4 c5 c6 c7 c8 c9 K (ju Z d ((Z d) + 2)) N (jm_resB B m d ((Z d) + 2)) (jm_resY Y d ((Z d) + 2)) I O M P ct wr ofs th pa ey fo la) H := hP
  have hD : va_D A (wM qM qK qZ qN qB qY qi qo qm qp c1 c2 c3 c4 c5 c6 c7 c8 c9 K (ju Z d ((Z d) + 2)) N (jm_resB B m d ((Z d) + 2)) (jm_resY Y d ((Z d) + 2)) I O M P ct wr ofs th pa ey fo la) := hD
  have hf_2 : jlt (m + 4) (jm_resB B m d ((Z d) + 2)) := jm_rsL_lt _ _ 4 _ 0 (by omega) (by assumption)
  refine lv_aload_n hx hb dd_M_addEntry_17 rfl (lv_at hl 1 rfl) ?_
  refine va_get (D := G) (ci := 4) (v := .ref qY) (C := cn_M) (T := ft_M) (N := 17) hx hb hts uw_M hown hK hP 0 rfl rfl 4 (by decide) (hts _ tw_597) (fun _ h9 => h9) rfl dd_M_addEntry_18 ?_
  refine lv_iload_n hx hb dd_M_addEntry_21 rfl (lv_at hl 2 rfl) ?_
  refine lv_bipush (v := nI 64) hx hb dd_M_addEntry_22 (by decide) ?_
  refine jl_imul hx hb dd_M_addEntry_24 ?_
  refine lv_iload hx hb dd_M_addEntry_25 (lv_at hl 0 rfl) ?_
  refine jl_iadd hx hb dd_M_addEntry_27 ?_
  refine lv_iload_n hx hb dd_M_addEntry_28 rfl (lv_at hl 3 rfl) ?_
  refine va_iast hx hb hK hP hD hS 5 4 rfl rfl (vp_in_nI (by omega) (by decide)) dd_M_addEntry_29 (fun H locs hP hD hS => ?_)
  rw [jn_upd (jm_resY Y d ((Z d) + 2)) (nm) (by omega)] at hP hD
  have hP : va_P G jcl (wM qM qK qZ qN qB qY qi qo qm qp c1 c2 c3 c4 c5 c6 c7 c8 c9 K (ju Z d ((Z d) + 2)) N (jm_resB B m d ((Z d) + 2)) (ju (jm_resY Y d ((Z d) + 2)) ((d * 64) + (Z d)) nm) I O M P ct wr ofs th pa ey fo la) H := hP
  have hD : va_D A (wM qM qK qZ qN qB qY qi qo qm qp c1 c2 c3 c4 c5 c6 c7 c8 c9 K (ju Z d ((Z d) + 2)) N (jm_resB B m d ((Z d) + 2)) (ju (jm_resY Y d ((Z d) + 2)) ((d * 64) + (Z d)) nm) I O M P ct wr ofs th pa ey fo la) := hD
  refine lv_aload_n hx hb dd_M_addEntry_30 rfl (lv_at hl 1 rfl) ?_
  refine va_get (D := G) (ci := 4) (v := .ref qY) (C := cn_M) (T := ft_M) (N := 17) hx hb hts uw_M hown hK hP 0 rfl rfl 4 (by decide) (hts _ tw_597) (fun _ h9 => h9) rfl dd_M_addEntry_31 ?_
  refine lv_iload_n hx hb dd_M_addEntry_34 rfl (lv_at hl 2 rfl) ?_
  refine lv_bipush (v := nI 64) hx hb dd_M_addEntry_35 (by decide) ?_
  refine jl_imul hx hb dd_M_addEntry_37 ?_
  refine lv_iload hx hb dd_M_addEntry_38 (lv_at hl 0 rfl) ?_
  refine jl_iadd hx hb dd_M_addEntry_40 ?_
  refine lv_iconst (v := nI 1) hx hb dd_M_addEntry_41 (by decide) ?_
  refine jl_iadd hx hb dd_M_addEntry_42 ?_
  refine lv_iload_n hx hb dd_M_addEntry_43 rfl (lv_at hl 4 rfl) ?_
  refine va_iast hx hb hK hP hD hS 5 4 rfl rfl (vp_in_nI (by omega) (by decide)) dd_M_addEntry_44 (fun H locs hP hD hS => ?_)
  rw [jn_upd (ju (jm_resY Y d ((Z d) + 2)) ((d * 64) + (Z d)) nm) (i) (by omega)] at hP hD
  have hP : va_P G jcl (wM qM qK qZ qN qB qY qi qo qm qp c1 c2 c3 c4 c5 c6 c7 c8 c9 K (ju Z d ((Z d) + 2)) N (jm_resB B m d ((Z d) + 2)) (ju (ju (jm_resY Y d ((Z d) + 2)) ((d * 64) + (Z d)) nm) (((d * 64) + (Z d)) + 1) i) I O M P ct wr ofs th pa ey fo la) H := hP
  have hD : va_D A (wM qM qK qZ qN qB qY qi qo qm qp c1 c2 c3 c4 c5 c6 c7 c8 c9 K (ju Z d ((Z d) + 2)) N (jm_resB B m d ((Z d) + 2)) (ju (ju (jm_resY Y d ((Z d) + 2)) ((d * 64) + (Z d)) nm) (((d * 64) + (Z d)) + 1) i) I O M P ct wr ofs th pa ey fo la) := hD
  have he : wM qM qK qZ qN qB qY qi qo qm qp c1 c2 c3 c4 c5 c6 c7 c8 c9 K (ju Z d ((Z d) + 2)) N (jm_resB B m d ((Z d) + 2)) (ju (ju (jm_resY Y d ((Z d) + 2)) ((d * 64) + (Z d)) nm) (((d * 64) + (Z d)) + 1) i) I O M P ct wr ofs th pa ey fo la = wM qM qK qZ qN qB qY qi qo qm qp c1 c2 c3 c4 c5 c6 c7 c8 c9 K (ju Z d (Z d + 2)) N (jm_resB B m d (Z d + 2)) (ju (ju (jm_resY Y d (Z d + 2)) (d * 64 + Z d) nm) (d * 64 + Z d + 1) i) I O M P ct wr ofs th pa ey fo la := by first | with_reducible rfl | (simp []; done)
  rw [he] at hP hD
  exact jm_retv C hP hD hK hS ⟨Nat.le_of_ble_eq_true rfl, Nat.le_of_ble_eq_true rfl⟩ dd_M_addEntry_45
set_option maxHeartbeats 4000000 in
set_option maxRecDepth 100000 in
theorem ct_M_dropEntry (l : Launch) (G : va_G) (qM qK qZ qN qB qY qi qo qm qp : Nat) (c1 c2 c3 c4 c5 c6 c7 c8 c9 : ClassId) (K : Nat → Nat) (Z : Nat → Nat) (N : Nat → Nat) (B : Nat → Nat) (Y : Nat → Nat) (I : Nat → Nat) (O : Nat → Nat) (M : Nat → Nat) (P : Nat → Nat) (ct : Nat) (wr : Nat) (ofs : Nat) (th : Nat) (pa : Option Nat) (ey : Option Nat) (fo : Option Nat) (la : Nat) (d : Nat) (e : Nat) (m : Nat) (hd0 : d < 12) (he0 : e < 32) (hzd : 2 ≤ Z d) (hm0 : 9 ≤ m ∧ m < 5000) (hB : jlt m B) (hZ : jlt 65 Z) (hY : jlt 256 Y) : jm l yn_M_dropEntry (.code yn_M_dropEntry cd_M_dropEntry 4 none) { frames := 3, cells := 0, slots := 0, locals := 67 } G (tM c1 c2 c3 c4 c5 c6 c7 c8 c9) (wM qM qK qZ qN qB qY qi qo qm qp c1 c2 c3 c4 c5 c6 c7 c8 c9 K Z N B Y I O M P ct wr ofs th pa ey fo la) [.ref qM, .int (nI (d)), .int (nI (e))] none (wM qM qK qZ qN qB qY qi qo qm qp c1 c2 c3 c4 c5 c6 c7 c8 c9 K (ju Z d (Z d - 2)) N (jm_resB B m d (Z d - 2)) (jm_resY (ju (ju Y (d * 64 + e * 2) (Y (d * 64 + (Z d - 2)))) (d * 64 + e * 2 + 1) (ju Y (d * 64 + e * 2) (Y (d * 64 + (Z d - 2))) (d * 64 + (Z d - 2) + 1))) d (Z d - 2)) I O M P ct wr ofs th pa ey fo la) := by
  refine jm_of (by decide) (Nat.le_of_ble_eq_true rfl) ?_
  intro pr en σ mi bel met cd ls A hA C hP hK hD hS hl
  have hx := C.1
  have hb := C.2.1
  have hown := C.2.2.2.1
  have hts := C.2.2.2.2.1
  have hl : lv_has ls 4 [(0, .ref qM), (1, .int (nI (d))), (2, .int (nI (e)))] := hl
  refine lv_aload_n hx hb dd_M_dropEntry_0 rfl (lv_at hl 0 rfl) ?_
  refine va_get (D := G) (ci := 4) (v := .ref qZ) (C := cn_M) (T := ft_M) (N := 17) hx hb hts uw_M hown hK hP 0 rfl rfl 1 (by decide) (hts _ tw_594) (fun _ h9 => h9) rfl dd_M_dropEntry_1 ?_
  refine lv_iload_n hx hb dd_M_dropEntry_4 rfl (lv_at hl 1 rfl) ?_
  refine va_iald hx hb hK hP 2 1 rfl rfl (vp_in_nI (by omega) (by decide)) dd_M_dropEntry_5 ?_
  refine jl_top (jn_at (Z) (by omega)) ?_
  have hf_1 : Z d < 65 := (by assumption : jlt 65 Z) _
  refine lv_iconst (v := nI 2) hx hb dd_M_dropEntry_6 (by decide) ?_
  refine jl_isub hx hb (by omega) dd_M_dropEntry_7 ?_
  refine lv_istore_n (lv' := [(3, .int (nI ((Z d) - 2))), (0, .ref qM), (1, .int (nI (d))), (2, .int (nI (e)))]) hx hb dd_M_dropEntry_8 rfl hl (by decide) rfl (fun ls hl => ?_)
  refine lv_aload_n hx hb dd_M_dropEntry_9 rfl (lv_at hl 1 rfl) ?_
  refine va_get (D := G) (ci := 4) (v := .ref qY) (C := cn_M) (T := ft_M) (N := 17) hx hb hts uw_M hown hK hP 0 rfl rfl 4 (by decide) (hts _ tw_597) (fun _ h9 => h9) rfl dd_M_dropEntry_10 ?_
  refine lv_iload_n hx hb dd_M_dropEntry_13 rfl (lv_at hl 2 rfl) ?_
  refine lv_bipush (v := nI 64) hx hb dd_M_dropEntry_14 (by decide) ?_
  refine jl_imul hx hb dd_M_dropEntry_16 ?_
  refine lv_iload_n hx hb dd_M_dropEntry_17 rfl (lv_at hl 3 rfl) ?_
  refine lv_iconst (v := nI 2) hx hb dd_M_dropEntry_18 (by decide) ?_
  refine jl_imul hx hb dd_M_dropEntry_19 ?_
  refine jl_iadd hx hb dd_M_dropEntry_20 ?_
  refine lv_aload_n hx hb dd_M_dropEntry_21 rfl (lv_at hl 1 rfl) ?_
  refine va_get (D := G) (ci := 4) (v := .ref qY) (C := cn_M) (T := ft_M) (N := 17) hx hb hts uw_M hown hK hP 0 rfl rfl 4 (by decide) (hts _ tw_597) (fun _ h9 => h9) rfl dd_M_dropEntry_22 ?_
  refine lv_iload_n hx hb dd_M_dropEntry_25 rfl (lv_at hl 2 rfl) ?_
  refine lv_bipush (v := nI 64) hx hb dd_M_dropEntry_26 (by decide) ?_
  refine jl_imul hx hb dd_M_dropEntry_28 ?_
  refine lv_iload_n hx hb dd_M_dropEntry_29 rfl (lv_at hl 0 rfl) ?_
  refine jl_iadd hx hb dd_M_dropEntry_30 ?_
  refine va_iald hx hb hK hP 5 4 rfl rfl (vp_in_nI (by omega) (by decide)) dd_M_dropEntry_31 ?_
  refine jl_top (jn_at (Y) (by omega)) ?_
  have hf_2 : Y ((d * 64) + ((Z d) - 2)) < 256 := (by assumption : jlt 256 Y) _
  refine va_iast hx hb hK hP hD hS 5 4 rfl rfl (vp_in_nI (by omega) (by decide)) dd_M_dropEntry_32 (fun H locs hP hD hS => ?_)
  rw [jn_upd (Y) (Y ((d * 64) + ((Z d) - 2))) (by omega)] at hP hD
  have hP : va_P G jcl (wM qM qK qZ qN qB qY qi qo qm qp c1 c2 c3 c4 c5 c6 c7 c8 c9 K Z N B (ju Y ((d * 64) + (e * 2)) (Y ((d * 64) + ((Z d) - 2)))) I O M P ct wr ofs th pa ey fo la) H := hP
  have hD : va_D A (wM qM qK qZ qN qB qY qi qo qm qp c1 c2 c3 c4 c5 c6 c7 c8 c9 K Z N B (ju Y ((d * 64) + (e * 2)) (Y ((d * 64) + ((Z d) - 2)))) I O M P ct wr ofs th pa ey fo la) := hD
  have hf_3 : jlt 256 (ju Y ((d * 64) + (e * 2)) (Y ((d * 64) + ((Z d) - 2)))) := ju_lt (by assumption) (by omega)
  refine lv_aload_n hx hb dd_M_dropEntry_33 rfl (lv_at hl 1 rfl) ?_
  refine va_get (D := G) (ci := 4) (v := .ref qY) (C := cn_M) (T := ft_M) (N := 17) hx hb hts uw_M hown hK hP 0 rfl rfl 4 (by decide) (hts _ tw_597) (fun _ h9 => h9) rfl dd_M_dropEntry_34 ?_
  refine lv_iload_n hx hb dd_M_dropEntry_37 rfl (lv_at hl 2 rfl) ?_
  refine lv_bipush (v := nI 64) hx hb dd_M_dropEntry_38 (by decide) ?_
  refine jl_imul hx hb dd_M_dropEntry_40 ?_
  refine lv_iload_n hx hb dd_M_dropEntry_41 rfl (lv_at hl 3 rfl) ?_
  refine lv_iconst (v := nI 2) hx hb dd_M_dropEntry_42 (by decide) ?_
  refine jl_imul hx hb dd_M_dropEntry_43 ?_
  refine jl_iadd hx hb dd_M_dropEntry_44 ?_
  refine lv_iconst (v := nI 1) hx hb dd_M_dropEntry_45 (by decide) ?_
  refine jl_iadd hx hb dd_M_dropEntry_46 ?_
  refine lv_aload_n hx hb dd_M_dropEntry_47 rfl (lv_at hl 1 rfl) ?_
  refine va_get (D := G) (ci := 4) (v := .ref qY) (C := cn_M) (T := ft_M) (N := 17) hx hb hts uw_M hown hK hP 0 rfl rfl 4 (by decide) (hts _ tw_597) (fun _ h9 => h9) rfl dd_M_dropEntry_48 ?_
  refine lv_iload_n hx hb dd_M_dropEntry_51 rfl (lv_at hl 2 rfl) ?_
  refine lv_bipush (v := nI 64) hx hb dd_M_dropEntry_52 (by decide) ?_
  refine jl_imul hx hb dd_M_dropEntry_54 ?_
  refine lv_iload_n hx hb dd_M_dropEntry_55 rfl (lv_at hl 0 rfl) ?_
  refine jl_iadd hx hb dd_M_dropEntry_56 ?_
  refine lv_iconst (v := nI 1) hx hb dd_M_dropEntry_57 (by decide) ?_
  refine jl_iadd hx hb dd_M_dropEntry_58 ?_
  refine va_iald hx hb hK hP 5 4 rfl rfl (vp_in_nI (by omega) (by decide)) dd_M_dropEntry_59 ?_
  refine jl_top (jn_at (ju Y ((d * 64) + (e * 2)) (Y ((d * 64) + ((Z d) - 2)))) (by omega)) ?_
  have hf_4 : (ju Y ((d * 64) + (e * 2)) (Y ((d * 64) + ((Z d) - 2)))) (((d * 64) + ((Z d) - 2)) + 1) < 256 := (by assumption : jlt 256 (ju Y ((d * 64) + (e * 2)) (Y ((d * 64) + ((Z d) - 2))))) _
  refine va_iast hx hb hK hP hD hS 5 4 rfl rfl (vp_in_nI (by omega) (by decide)) dd_M_dropEntry_60 (fun H locs hP hD hS => ?_)
  rw [jn_upd (ju Y ((d * 64) + (e * 2)) (Y ((d * 64) + ((Z d) - 2)))) ((ju Y ((d * 64) + (e * 2)) (Y ((d * 64) + ((Z d) - 2)))) (((d * 64) + ((Z d) - 2)) + 1)) (by omega)] at hP hD
  have hP : va_P G jcl (wM qM qK qZ qN qB qY qi qo qm qp c1 c2 c3 c4 c5 c6 c7 c8 c9 K Z N B (ju (ju Y ((d * 64) + (e * 2)) (Y ((d * 64) + ((Z d) - 2)))) (((d * 64) + (e * 2)) + 1) ((ju Y ((d * 64) + (e * 2)) (Y ((d * 64) + ((Z d) - 2)))) (((d * 64) + ((Z d) - 2)) + 1))) I O M P ct wr ofs th pa ey fo la) H := hP
  have hD : va_D A (wM qM qK qZ qN qB qY qi qo qm qp c1 c2 c3 c4 c5 c6 c7 c8 c9 K Z N B (ju (ju Y ((d * 64) + (e * 2)) (Y ((d * 64) + ((Z d) - 2)))) (((d * 64) + (e * 2)) + 1) ((ju Y ((d * 64) + (e * 2)) (Y ((d * 64) + ((Z d) - 2)))) (((d * 64) + ((Z d) - 2)) + 1))) I O M P ct wr ofs th pa ey fo la) := hD
  have hf_5 : jlt 256 (ju (ju Y ((d * 64) + (e * 2)) (Y ((d * 64) + ((Z d) - 2)))) (((d * 64) + (e * 2)) + 1) ((ju Y ((d * 64) + (e * 2)) (Y ((d * 64) + ((Z d) - 2)))) (((d * 64) + ((Z d) - 2)) + 1))) := ju_lt (by assumption) (by omega)
  refine lv_aload_n hx hb dd_M_dropEntry_61 rfl (lv_at hl 1 rfl) ?_
  refine lv_iload_n hx hb dd_M_dropEntry_62 rfl (lv_at hl 2 rfl) ?_
  refine lv_iload_n hx hb dd_M_dropEntry_63 rfl (lv_at hl 0 rfl) ?_
  refine jm_callV (wr := []) C (ct_M_resize l G qM qK qZ qN qB qY qi qo qm qp c1 c2 c3 c4 c5 c6 c7 c8 c9 K Z N B (ju (ju Y ((d * 64) + (e * 2)) (Y ((d * 64) + ((Z d) - 2)))) (((d * 64) + (e * 2)) + 1) ((ju Y ((d * 64) + (e * 2)) (Y ((d * 64) + ((Z d) - 2)))) (((d * 64) + ((Z d) - 2)) + 1))) I O M P ct wr ofs th pa ey fo la d ((Z d) - 2) m (by omega) (by omega) (by omega) (by assumption)) kl_M_56 ⟨Nat.le_of_ble_eq_true rfl, Nat.le_of_ble_eq_true rfl⟩ ⟨Nat.le_of_ble_eq_true rfl, Nat.le_of_ble_eq_true rfl⟩ hP hD hS hA (hK) (va_recv hK hP (ci := 4) (q0 := 0) rfl rfl) hl.1 rfl rfl (Nat.le_of_ble_eq_true rfl) dd_M_dropEntry_64 (fun H locs hP hD hS => ?_)
  have hP : va_P G jcl (wM qM qK qZ qN qB qY qi qo qm qp c1 c2 c3 c4 c5 c6 c7 c8 c9 K (ju Z d ((Z d) - 2)) N (jm_resB B m d ((Z d) - 2)) (jm_resY (ju (ju Y ((d * 64) + (e * 2)) (Y ((d * 64) + ((Z d) - 2)))) (((d * 64) + (e * 2)) + 1) ((ju Y ((d * 64) + (e * 2)) (Y ((d * 64) + ((Z d) - 2)))) (((d * 64) + ((Z d) - 2)) + 1))) d ((Z d) - 2)) I O M P ct wr ofs th pa ey fo la) H := hP
  have hD : va_D A (wM qM qK qZ qN qB qY qi qo qm qp c1 c2 c3 c4 c5 c6 c7 c8 c9 K (ju Z d ((Z d) - 2)) N (jm_resB B m d ((Z d) - 2)) (jm_resY (ju (ju Y ((d * 64) + (e * 2)) (Y ((d * 64) + ((Z d) - 2)))) (((d * 64) + (e * 2)) + 1) ((ju Y ((d * 64) + (e * 2)) (Y ((d * 64) + ((Z d) - 2)))) (((d * 64) + ((Z d) - 2)) + 1))) d ((Z d) - 2)) I O M P ct wr ofs th pa ey fo la) := hD
  have hf_6 : jlt (m + 4) (jm_resB B m d ((Z d) - 2)) := jm_rsL_lt _ _ 4 _ 0 (by omega) (by assumption)
  have he : wM qM qK qZ qN qB qY qi qo qm qp c1 c2 c3 c4 c5 c6 c7 c8 c9 K (ju Z d ((Z d) - 2)) N (jm_resB B m d ((Z d) - 2)) (jm_resY (ju (ju Y ((d * 64) + (e * 2)) (Y ((d * 64) + ((Z d) - 2)))) (((d * 64) + (e * 2)) + 1) ((ju Y ((d * 64) + (e * 2)) (Y ((d * 64) + ((Z d) - 2)))) (((d * 64) + ((Z d) - 2)) + 1))) d ((Z d) - 2)) I O M P ct wr ofs th pa ey fo la = wM qM qK qZ qN qB qY qi qo qm qp c1 c2 c3 c4 c5 c6 c7 c8 c9 K (ju Z d (Z d - 2)) N (jm_resB B m d (Z d - 2)) (jm_resY (ju (ju Y (d * 64 + e * 2) (Y (d * 64 + (Z d - 2)))) (d * 64 + e * 2 + 1) (ju Y (d * 64 + e * 2) (Y (d * 64 + (Z d - 2))) (d * 64 + (Z d - 2) + 1))) d (Z d - 2)) I O M P ct wr ofs th pa ey fo la := by first | with_reducible rfl | (simp []; done)
  rw [he] at hP hD
  exact jm_retv C hP hD hK hS ⟨Nat.le_of_ble_eq_true rfl, Nat.le_of_ble_eq_true rfl⟩ dd_M_dropEntry_67
set_option maxHeartbeats 4000000 in
set_option maxRecDepth 100000 in
theorem ct_M_stale (l : Launch) (G : va_G) (qM qK qZ qN qB qY qi qo qm qp : Nat) (c1 c2 c3 c4 c5 c6 c7 c8 c9 : ClassId) (K : Nat → Nat) (Z : Nat → Nat) (N : Nat → Nat) (B : Nat → Nat) (Y : Nat → Nat) (I : Nat → Nat) (O : Nat → Nat) (M : Nat → Nat) (P : Nat → Nat) (ct : Nat) (wr : Nat) (ofs : Nat) (th : Nat) (pa : Option Nat) (ey : Option Nat) (fo : Option Nat) (la : Nat) (h : Nat) (hh0 : h < 6) (hI1 : 1 ≤ I h) (hK : jlt 3 K) (hN : jlt 256 N) (hI : jlt 13 I) (hO : jlt 256 O) (hM : jlt 5 M) : jr l yn_M_stale (.code yn_M_stale cd_M_stale 3 (some .boolean)) { frames := 0, cells := 0, slots := 0, locals := 0 } G (tM c1 c2 c3 c4 c5 c6 c7 c8 c9) (wM qM qK qZ qN qB qY qi qo qm qp c1 c2 c3 c4 c5 c6 c7 c8 c9 K Z N B Y I O M P ct wr ofs th pa ey fo la) [.ref qM, .int (nI (h))] (nI (jm_stale K N I O M h)) := by
  refine jr_of (by decide) (Nat.le_of_ble_eq_true rfl) ?_
  intro pr en σ mi bel met cd ls C hP hK hl
  have hx := C.1
  have hb := C.2.1
  have hown := C.2.2.2.1
  have hts := C.2.2.2.2.1
  have hl : lv_has ls 3 [(0, .ref qM), (1, .int (nI (h)))] := hl
  refine lv_aload_n hx hb dd_M_stale_0 rfl (lv_at hl 0 rfl) ?_
  refine va_get (D := G) (ci := 4) (v := .ref qi) (C := cn_M) (T := ft_M) (N := 17) hx hb hts uw_M hown hK hP 0 rfl rfl 5 (by decide) (hts _ tw_598) (fun _ h9 => h9) rfl dd_M_stale_1 ?_
  refine lv_iload_n hx hb dd_M_stale_4 rfl (lv_at hl 1 rfl) ?_
  refine va_iald hx hb hK hP 6 5 rfl rfl (vp_in_nI (by omega) (by decide)) dd_M_stale_5 ?_
  refine jl_top (jn_at (I) (by omega)) ?_
  have hf_1 : I h < 13 := (by assumption : jlt 13 I) _
  refine lv_iconst (v := nI 1) hx hb dd_M_stale_6 (by decide) ?_
  refine jl_isub hx hb (by omega) dd_M_stale_7 ?_
  refine lv_istore_n (lv' := [(2, .int (nI ((I h) - 1))), (0, .ref qM), (1, .int (nI (h)))]) hx hb dd_M_stale_8 rfl hl (by decide) rfl (fun ls hl => ?_)
  refine lv_aload_n hx hb dd_M_stale_9 rfl (lv_at hl 1 rfl) ?_
  refine va_get (D := G) (ci := 4) (v := .ref qN) (C := cn_M) (T := ft_M) (N := 17) hx hb hts uw_M hown hK hP 0 rfl rfl 2 (by decide) (hts _ tw_595) (fun _ h9 => h9) rfl dd_M_stale_10 ?_
  refine lv_iload_n hx hb dd_M_stale_13 rfl (lv_at hl 0 rfl) ?_
  refine va_iald hx hb hK hP 3 2 rfl rfl (vp_in_nI (by omega) (by decide)) dd_M_stale_14 ?_
  refine jl_top (jn_at (N) (by omega)) ?_
  have hf_2 : N ((I h) - 1) < 256 := (by assumption : jlt 256 N) _
  refine lv_aload_n hx hb dd_M_stale_15 rfl (lv_at hl 1 rfl) ?_
  refine va_get (D := G) (ci := 4) (v := .ref qo) (C := cn_M) (T := ft_M) (N := 17) hx hb hts uw_M hown hK hP 0 rfl rfl 6 (by decide) (hts _ tw_599) (fun _ h9 => h9) rfl dd_M_stale_16 ?_
  refine lv_iload_n hx hb dd_M_stale_19 rfl (lv_at hl 2 rfl) ?_
  refine va_iald hx hb hK hP 7 6 rfl rfl (vp_in_nI (by omega) (by decide)) dd_M_stale_20 ?_
  refine jl_top (jn_at (O) (by omega)) ?_
  have hf_3 : O h < 256 := (by assumption : jlt 256 O) _
  refine jl_ne (tgt := 48) hx hb (by omega) (by omega) dd_M_stale_21 (by decide) (fun c_4 => ?_) (fun c_4 => ?_)
  · skip
    refine lv_iconst (v := nI 1) hx hb dd_M_stale_48 (by decide) ?_
    refine lv_goto (tgt := 53) hx hb dd_M_stale_49 (by decide) ?_
    exact jr_retz C (by decide) (by first | with_reducible rfl | (simp [jm_stale, c_4]; done) | (simp_all [jm_stale]; done)) dd_M_stale_53
  · skip
    refine lv_aload_n hx hb dd_M_stale_24 rfl (lv_at hl 1 rfl) ?_
    refine va_get (D := G) (ci := 4) (v := .ref qK) (C := cn_M) (T := ft_M) (N := 17) hx hb hts uw_M hown hK hP 0 rfl rfl 0 (by decide) (hts _ tw_593) (fun _ h9 => h9) rfl dd_M_stale_25 ?_
    refine lv_iload_n hx hb dd_M_stale_28 rfl (lv_at hl 0 rfl) ?_
    refine va_iald hx hb hK hP 1 0 rfl rfl (vp_in_nI (by omega) (by decide)) dd_M_stale_29 ?_
    refine jl_top (jn_at (K) (by omega)) ?_
    have hf_5 : K ((I h) - 1) < 3 := (by assumption : jlt 3 K) _
    refine lv_aload_n hx hb dd_M_stale_30 rfl (lv_at hl 1 rfl) ?_
    refine va_get (D := G) (ci := 4) (v := .ref qm) (C := cn_M) (T := ft_M) (N := 17) hx hb hts uw_M hown hK hP 0 rfl rfl 7 (by decide) (hts _ tw_600) (fun _ h9 => h9) rfl dd_M_stale_31 ?_
    refine lv_iload_n hx hb dd_M_stale_34 rfl (lv_at hl 2 rfl) ?_
    refine va_iald hx hb hK hP 8 7 rfl rfl (vp_in_nI (by omega) (by decide)) dd_M_stale_35 ?_
    refine jl_top (jn_at (M) (by omega)) ?_
    have hf_6 : M h < 5 := (by assumption : jlt 5 M) _
    refine lv_iconst (v := nI 4) hx hb dd_M_stale_36 (by decide) ?_
    refine jl_ne (tgt := 44) hx hb (by omega) (by omega) dd_M_stale_37 (by decide) (fun c_7 => ?_) (fun c_7 => ?_)
    · skip
      refine lv_iconst (v := nI 1) hx hb dd_M_stale_44 (by decide) ?_
      refine jl_eq (tgt := 52) hx hb (by omega) (by omega) dd_M_stale_45 (by decide) (fun c_8 => ?_) (fun c_8 => ?_)
      · skip
        refine lv_iconst (v := nI 0) hx hb dd_M_stale_52 (by decide) ?_
        exact jr_retz C (by decide) (by first | with_reducible rfl | (simp [jm_stale, c_4, c_7, c_8]; done) | (simp_all [jm_stale]; done)) dd_M_stale_53
      · skip
        refine lv_iconst (v := nI 1) hx hb dd_M_stale_48 (by decide) ?_
        refine lv_goto (tgt := 53) hx hb dd_M_stale_49 (by decide) ?_
        exact jr_retz C (by decide) (by first | with_reducible rfl | (simp [jm_stale, c_4, c_7, c_8]; done) | (simp_all [jm_stale]; done)) dd_M_stale_53
    · skip
      refine lv_iconst (v := nI 2) hx hb dd_M_stale_40 (by decide) ?_
      refine lv_goto (tgt := 45) hx hb dd_M_stale_41 (by decide) ?_
      refine jl_eq (tgt := 52) hx hb (by omega) (by omega) dd_M_stale_45 (by decide) (fun c_9 => ?_) (fun c_9 => ?_)
      · skip
        refine lv_iconst (v := nI 0) hx hb dd_M_stale_52 (by decide) ?_
        exact jr_retz C (by decide) (by first | with_reducible rfl | (simp [jm_stale, c_4, c_7, c_9]; done) | (simp_all [jm_stale]; done)) dd_M_stale_53
      · skip
        refine lv_iconst (v := nI 1) hx hb dd_M_stale_48 (by decide) ?_
        refine lv_goto (tgt := 53) hx hb dd_M_stale_49 (by decide) ?_
        exact jr_retz C (by decide) (by first | with_reducible rfl | (simp [jm_stale, c_4, c_7, c_9]; done) | (simp_all [jm_stale]; done)) dd_M_stale_53
set_option maxHeartbeats 4000000 in
set_option maxRecDepth 100000 in
theorem ct_M_wrong (l : Launch) (G : va_G) (qM qK qZ qN qB qY qi qo qm qp : Nat) (c1 c2 c3 c4 c5 c6 c7 c8 c9 : ClassId) (K : Nat → Nat) (Z : Nat → Nat) (N : Nat → Nat) (B : Nat → Nat) (Y : Nat → Nat) (I : Nat → Nat) (O : Nat → Nat) (M : Nat → Nat) (P : Nat → Nat) (ct : Nat) (wr : Nat) (ofs : Nat) (th : Nat) (pa : Option Nat) (ey : Option Nat) (fo : Option Nat) (la : Nat) (h : Nat) (a : Nat) (b : Nat) (hh0 : h < 4294967296) (ha0 : a < 10) (hb0 : b < 10) (hK : jlt 3 K) (hN : jlt 256 N) (hI : jlt 13 I) (hO : jlt 256 O) (hM : jlt 5 M) : jr l yn_M_wrong (.code yn_M_wrong cd_M_wrong 4 (some .int)) { frames := 1, cells := 0, slots := 0, locals := 22 } G (tM c1 c2 c3 c4 c5 c6 c7 c8 c9) (wM qM qK qZ qN qB qY qi qo qm qp c1 c2 c3 c4 c5 c6 c7 c8 c9 K Z N B Y I O M P ct wr ofs th pa ey fo la) [.ref qM, .int (nI (h)), .int (nI (a)), .int (nI (b))] (nI (jm_wrong K N I O M h a b)) := by
  refine jr_of (by decide) (Nat.le_of_ble_eq_true rfl) ?_
  intro pr en σ mi bel met cd ls C hP hK hl
  have hx := C.1
  have hb := C.2.1
  have hown := C.2.2.2.1
  have hts := C.2.2.2.2.1
  have hl : lv_has ls 4 [(0, .ref qM), (1, .int (nI (h))), (2, .int (nI (a))), (3, .int (nI (b)))] := hl
  refine lv_iload_n hx hb dd_M_wrong_0 rfl (lv_at hl 1 rfl) ?_
  refine jl_iflt32 (tgt := 9) hx hb (by omega) dd_M_wrong_1 (by decide) (fun c_1 => ?_) (fun c_1 => ?_)
  · skip
    refine lv_iconst (v := nI 1) hx hb dd_M_wrong_9 (by decide) ?_
    exact jr_ret C (by first | with_reducible rfl | (simp [jm_wrong, c_1]; done) | (simp [show 5 < h by omega, jm_wrong, c_1]; done) | (unfold jm_wrong; (repeat' split) <;> first | rfl | (exfalso; omega)) | (simp_all [jm_wrong]; done)) dd_M_wrong_10
  · skip
    refine lv_iload_n hx hb dd_M_wrong_4 rfl (lv_at hl 1 rfl) ?_
    refine lv_iconst (v := nI 5) hx hb dd_M_wrong_5 (by decide) ?_
    refine jl_le (tgt := 11) hx hb (by omega) (by omega) dd_M_wrong_6 (by decide) (fun c_2 => ?_) (fun c_2 => ?_)
    · skip
      refine lv_aload_n hx hb dd_M_wrong_11 rfl (lv_at hl 0 rfl) ?_
      refine va_get (D := G) (ci := 4) (v := .ref qi) (C := cn_M) (T := ft_M) (N := 17) hx hb hts uw_M hown hK hP 0 rfl rfl 5 (by decide) (hts _ tw_598) (fun _ h9 => h9) rfl dd_M_wrong_12 ?_
      refine lv_iload_n hx hb dd_M_wrong_15 rfl (lv_at hl 1 rfl) ?_
      refine va_iald hx hb hK hP 6 5 rfl rfl (vp_in_nI (by omega) (by decide)) dd_M_wrong_16 ?_
      refine jl_top (jn_at (I) (by omega)) ?_
      have hf_3 : I h < 13 := (by assumption : jlt 13 I) _
      refine jl_ifeq (tgt := 63) hx hb (by omega) dd_M_wrong_17 (by decide) (fun c_4 => ?_) (fun c_4 => ?_)
      · skip
        refine lv_iconst (v := nI 2) hx hb dd_M_wrong_63 (by decide) ?_
        refine lv_goto (tgt := 68) hx hb dd_M_wrong_64 (by decide) ?_
        exact jr_ret C (by first | with_reducible rfl | (simp [jm_wrong, c_1, c_2, c_4]; done) | (simp [show 5 < h by omega, jm_wrong, c_1, c_2, c_4]; done) | (unfold jm_wrong; (repeat' split) <;> first | rfl | (exfalso; omega)) | (simp_all [jm_wrong]; done)) dd_M_wrong_68
      · skip
        refine lv_aload_n hx hb dd_M_wrong_20 rfl (lv_at hl 0 rfl) ?_
        refine lv_iload_n hx hb dd_M_wrong_21 rfl (lv_at hl 1 rfl) ?_
        refine jr_callV C (ct_M_stale l G qM qK qZ qN qB qY qi qo qm qp c1 c2 c3 c4 c5 c6 c7 c8 c9 K Z N B Y I O M P ct wr ofs th pa ey fo la h (by omega) (by omega) (by assumption) (by assumption) (by assumption) (by assumption) (by assumption)) kl_M_99 ⟨Nat.le_of_ble_eq_true rfl, Nat.le_of_ble_eq_true rfl, rfl, rfl⟩ ⟨Nat.le_of_ble_eq_true rfl, Nat.le_of_ble_eq_true rfl⟩ (hP) (hK) (va_recv hK hP (ci := 4) (q0 := 0) rfl rfl) hl.1 rfl rfl (Nat.le_of_ble_eq_true rfl) dd_M_wrong_22 ?_
        have hf_5 : jm_stale K N I O M h < 2 := jm_stale_lt _ _ _ _ _ _
        refine jl_ifne (tgt := 63) hx hb (by omega) dd_M_wrong_25 (by decide) (fun c_6 => ?_) (fun c_6 => ?_)
        · skip
          refine lv_iconst (v := nI 2) hx hb dd_M_wrong_63 (by decide) ?_
          refine lv_goto (tgt := 68) hx hb dd_M_wrong_64 (by decide) ?_
          exact jr_ret C (by first | with_reducible rfl | (simp [jm_wrong, c_1, c_2, c_4, c_6]; done) | (simp [show 5 < h by omega, jm_wrong, c_1, c_2, c_4, c_6]; done) | (unfold jm_wrong; (repeat' split) <;> first | rfl | (exfalso; omega)) | (simp_all [jm_wrong]; done)) dd_M_wrong_68
        · skip
          refine lv_aload_n hx hb dd_M_wrong_28 rfl (lv_at hl 0 rfl) ?_
          refine va_get (D := G) (ci := 4) (v := .ref qm) (C := cn_M) (T := ft_M) (N := 17) hx hb hts uw_M hown hK hP 0 rfl rfl 7 (by decide) (hts _ tw_600) (fun _ h9 => h9) rfl dd_M_wrong_29 ?_
          refine lv_iload_n hx hb dd_M_wrong_32 rfl (lv_at hl 1 rfl) ?_
          refine va_iald hx hb hK hP 8 7 rfl rfl (vp_in_nI (by omega) (by decide)) dd_M_wrong_33 ?_
          refine jl_top (jn_at (M) (by omega)) ?_
          have hf_7 : M h < 5 := (by assumption : jlt 5 M) _
          refine lv_iload_n hx hb dd_M_wrong_34 rfl (lv_at hl 2 rfl) ?_
          refine jl_eq (tgt := 67) hx hb (by omega) (by omega) dd_M_wrong_35 (by decide) (fun c_8 => ?_) (fun c_8 => ?_)
          · skip
            refine lv_iconst (v := nI 0) hx hb dd_M_wrong_67 (by decide) ?_
            exact jr_ret C (by first | with_reducible rfl | (simp [jm_wrong, c_1, c_2, c_4, c_6, c_8]; done) | (simp [show 5 < h by omega, jm_wrong, c_1, c_2, c_4, c_6, c_8]; done) | (unfold jm_wrong; (repeat' split) <;> first | rfl | (exfalso; omega)) | (simp_all [jm_wrong]; done)) dd_M_wrong_68
          · skip
            refine lv_aload_n hx hb dd_M_wrong_38 rfl (lv_at hl 0 rfl) ?_
            refine va_get (D := G) (ci := 4) (v := .ref qm) (C := cn_M) (T := ft_M) (N := 17) hx hb hts uw_M hown hK hP 0 rfl rfl 7 (by decide) (hts _ tw_600) (fun _ h9 => h9) rfl dd_M_wrong_39 ?_
            refine lv_iload_n hx hb dd_M_wrong_42 rfl (lv_at hl 1 rfl) ?_
            refine va_iald hx hb hK hP 8 7 rfl rfl (vp_in_nI (by omega) (by decide)) dd_M_wrong_43 ?_
            refine jl_top (jn_at (M) (by omega)) ?_
            have hf_9 : M h < 5 := (by assumption : jlt 5 M) _
            refine lv_iload_n hx hb dd_M_wrong_44 rfl (lv_at hl 3 rfl) ?_
            refine jl_eq (tgt := 67) hx hb (by omega) (by omega) dd_M_wrong_45 (by decide) (fun c_10 => ?_) (fun c_10 => ?_)
            · skip
              refine lv_iconst (v := nI 0) hx hb dd_M_wrong_67 (by decide) ?_
              exact jr_ret C (by first | with_reducible rfl | (simp [jm_wrong, c_1, c_2, c_4, c_6, c_8, c_10]; done) | (simp [show 5 < h by omega, jm_wrong, c_1, c_2, c_4, c_6, c_8, c_10]; done) | (unfold jm_wrong; (repeat' split) <;> first | rfl | (exfalso; omega)) | (simp_all [jm_wrong]; done)) dd_M_wrong_68
            · skip
              refine lv_aload_n hx hb dd_M_wrong_48 rfl (lv_at hl 0 rfl) ?_
              refine va_get (D := G) (ci := 4) (v := .ref qm) (C := cn_M) (T := ft_M) (N := 17) hx hb hts uw_M hown hK hP 0 rfl rfl 7 (by decide) (hts _ tw_600) (fun _ h9 => h9) rfl dd_M_wrong_49 ?_
              refine lv_iload_n hx hb dd_M_wrong_52 rfl (lv_at hl 1 rfl) ?_
              refine va_iald hx hb hK hP 8 7 rfl rfl (vp_in_nI (by omega) (by decide)) dd_M_wrong_53 ?_
              refine jl_top (jn_at (M) (by omega)) ?_
              have hf_11 : M h < 5 := (by assumption : jlt 5 M) _
              refine lv_iconst (v := nI 3) hx hb dd_M_wrong_54 (by decide) ?_
              refine jl_ne (tgt := 63) hx hb (by omega) (by omega) dd_M_wrong_55 (by decide) (fun c_12 => ?_) (fun c_12 => ?_)
              · skip
                refine lv_iconst (v := nI 2) hx hb dd_M_wrong_63 (by decide) ?_
                refine lv_goto (tgt := 68) hx hb dd_M_wrong_64 (by decide) ?_
                exact jr_ret C (by first | with_reducible rfl | (simp [jm_wrong, c_1, c_2, c_4, c_6, c_8, c_10, c_12]; done) | (simp [show 5 < h by omega, jm_wrong, c_1, c_2, c_4, c_6, c_8, c_10, c_12]; done) | (unfold jm_wrong; (repeat' split) <;> first | rfl | (exfalso; omega)) | (simp_all [jm_wrong]; done)) dd_M_wrong_68
              · skip
                refine lv_iload_n hx hb dd_M_wrong_58 rfl (lv_at hl 2 rfl) ?_
                refine lv_iconst (v := nI 4) hx hb dd_M_wrong_59 (by decide) ?_
                refine jl_lt (tgt := 67) hx hb (by omega) (by omega) dd_M_wrong_60 (by decide) (fun c_13 => ?_) (fun c_13 => ?_)
                · skip
                  refine lv_iconst (v := nI 0) hx hb dd_M_wrong_67 (by decide) ?_
                  exact jr_ret C (by first | with_reducible rfl | (simp [jm_wrong, c_1, c_2, c_4, c_6, c_8, c_10, c_12, c_13]; done) | (simp [show 5 < h by omega, jm_wrong, c_1, c_2, c_4, c_6, c_8, c_10, c_12, c_13]; done) | (unfold jm_wrong; (repeat' split) <;> first | rfl | (exfalso; omega)) | (simp_all [jm_wrong]; done)) dd_M_wrong_68
                · skip
                  refine lv_iconst (v := nI 2) hx hb dd_M_wrong_63 (by decide) ?_
                  refine lv_goto (tgt := 68) hx hb dd_M_wrong_64 (by decide) ?_
                  exact jr_ret C (by first | with_reducible rfl | (simp [jm_wrong, c_1, c_2, c_4, c_6, c_8, c_10, c_12, c_13]; done) | (simp [show 5 < h by omega, jm_wrong, c_1, c_2, c_4, c_6, c_8, c_10, c_12, c_13]; done) | (unfold jm_wrong; (repeat' split) <;> first | rfl | (exfalso; omega)) | (simp_all [jm_wrong]; done)) dd_M_wrong_68
    · skip
      refine lv_iconst (v := nI 1) hx hb dd_M_wrong_9 (by decide) ?_
      exact jr_ret C (by first | with_reducible rfl | (simp [jm_wrong, c_1, c_2]; done) | (simp [show 5 < h by omega, jm_wrong, c_1, c_2]; done) | (unfold jm_wrong; (repeat' split) <;> first | rfl | (exfalso; omega)) | (simp_all [jm_wrong]; done)) dd_M_wrong_10
end
