theorem dd_J_init_0 : decode cd_J_init 0 = .ok (.aload_n 0, 1) := by decide +kernel
theorem dd_J_init_1 : decode cd_J_init 1 = .ok (.invokespecial 3, 3) := by decide +kernel
theorem dd_J_init_4 : decode cd_J_init 4 = .ok (.aload_n 0, 1) := by decide +kernel
theorem dd_J_init_5 : decode cd_J_init 5 = .ok (.new 9, 3) := by decide +kernel
theorem dd_J_init_8 : decode cd_J_init 8 = .ok (.dup, 1) := by decide +kernel
theorem dd_J_init_9 : decode cd_J_init 9 = .ok (.invokespecial 11, 3) := by decide +kernel
theorem dd_J_init_12 : decode cd_J_init 12 = .ok (.putfield 12, 3) := by decide +kernel
theorem dd_J_init_15 : decode cd_J_init 15 = .ok (.aload_n 0, 1) := by decide +kernel
theorem dd_J_init_16 : decode cd_J_init 16 = .ok (.new 16, 3) := by decide +kernel
theorem dd_J_init_19 : decode cd_J_init 19 = .ok (.dup, 1) := by decide +kernel
theorem dd_J_init_20 : decode cd_J_init 20 = .ok (.aload_n 0, 1) := by decide +kernel
theorem dd_J_init_21 : decode cd_J_init 21 = .ok (.getfield 12, 3) := by decide +kernel
theorem dd_J_init_24 : decode cd_J_init 24 = .ok (.invokespecial 18, 3) := by decide +kernel
theorem dd_J_init_27 : decode cd_J_init 27 = .ok (.putfield 21, 3) := by decide +kernel
theorem dd_J_init_30 : decode cd_J_init 30 = .ok (.aload_n 0, 1) := by decide +kernel
theorem dd_J_init_31 : decode cd_J_init 31 = .ok (.bipush 6, 2) := by decide +kernel
theorem dd_J_init_33 : decode cd_J_init 33 = .ok (.anewarray 25, 3) := by decide +kernel
theorem dd_J_init_36 : decode cd_J_init 36 = .ok (.putfield 27, 3) := by decide +kernel
theorem dd_J_init_39 : decode cd_J_init 39 = .ok (.iconst 0, 1) := by decide +kernel
theorem dd_J_init_40 : decode cd_J_init 40 = .ok (.istore_n 1, 1) := by decide +kernel
theorem dd_J_init_41 : decode cd_J_init 41 = .ok (.iload_n 1, 1) := by decide +kernel
theorem dd_J_init_42 : decode cd_J_init 42 = .ok (.bipush 6, 2) := by decide +kernel
theorem dd_J_init_44 : decode cd_J_init 44 = .ok (.if_icmp .ge 22, 3) := by decide +kernel
theorem dd_J_init_47 : decode cd_J_init 47 = .ok (.aload_n 0, 1) := by decide +kernel
theorem dd_J_init_48 : decode cd_J_init 48 = .ok (.getfield 27, 3) := by decide +kernel
theorem dd_J_init_51 : decode cd_J_init 51 = .ok (.iload_n 1, 1) := by decide +kernel
theorem dd_J_init_52 : decode cd_J_init 52 = .ok (.new 25, 3) := by decide +kernel
theorem dd_J_init_55 : decode cd_J_init 55 = .ok (.dup, 1) := by decide +kernel
theorem dd_J_init_56 : decode cd_J_init 56 = .ok (.invokespecial 31, 3) := by decide +kernel
theorem dd_J_init_59 : decode cd_J_init 59 = .ok (.aastore, 1) := by decide +kernel
theorem dd_J_init_60 : decode cd_J_init 60 = .ok (.iinc 1 1, 3) := by decide +kernel
theorem dd_J_init_63 : decode cd_J_init 63 = .ok (.goto (-22), 3) := by decide +kernel
theorem dd_J_init_66 : decode cd_J_init 66 = .ok (.aload_n 0, 1) := by decide +kernel
theorem dd_J_init_67 : decode cd_J_init 67 = .ok (.getfield 21, 3) := by decide +kernel
theorem dd_J_init_70 : decode cd_J_init 70 = .ok (.iconst 0, 1) := by decide +kernel
theorem dd_J_init_71 : decode cd_J_init 71 = .ok (.iconst 2, 1) := by decide +kernel
theorem dd_J_init_72 : decode cd_J_init 72 = .ok (.invokevirtual 32, 3) := by decide +kernel
theorem dd_J_init_75 : decode cd_J_init 75 = .ok (.aload_n 0, 1) := by decide +kernel
theorem dd_J_init_76 : decode cd_J_init 76 = .ok (.getfield 12, 3) := by decide +kernel
theorem dd_J_init_79 : decode cd_J_init 79 = .ok (.invokevirtual 36, 3) := by decide +kernel
theorem dd_J_init_82 : decode cd_J_init 82 = .ok (.return_, 1) := by decide +kernel
theorem dd_J_crash_0 : decode cd_J_crash 0 = .ok (.aload_n 0, 1) := by decide +kernel
theorem dd_J_crash_1 : decode cd_J_crash 1 = .ok (.invokevirtual 203, 3) := by decide +kernel
theorem dd_J_crash_4 : decode cd_J_crash 4 = .ok (.return_, 1) := by decide +kernel
theorem dd_J_losePower_0 : decode cd_J_losePower 0 = .ok (.aload_n 0, 1) := by decide +kernel
theorem dd_J_losePower_1 : decode cd_J_losePower 1 = .ok (.getfield 12, 3) := by decide +kernel
theorem dd_J_losePower_4 : decode cd_J_losePower 4 = .ok (.invokevirtual 279, 3) := by decide +kernel
theorem dd_J_losePower_7 : decode cd_J_losePower 7 = .ok (.iconst 0, 1) := by decide +kernel
theorem dd_J_losePower_8 : decode cd_J_losePower 8 = .ok (.istore_n 1, 1) := by decide +kernel
theorem dd_J_losePower_9 : decode cd_J_losePower 9 = .ok (.iload_n 1, 1) := by decide +kernel
theorem dd_J_losePower_10 : decode cd_J_losePower 10 = .ok (.bipush 6, 2) := by decide +kernel
theorem dd_J_losePower_12 : decode cd_J_losePower 12 = .ok (.if_icmp .ge 19, 3) := by decide +kernel
theorem dd_J_losePower_15 : decode cd_J_losePower 15 = .ok (.aload_n 0, 1) := by decide +kernel
theorem dd_J_losePower_16 : decode cd_J_losePower 16 = .ok (.getfield 27, 3) := by decide +kernel
theorem dd_J_losePower_19 : decode cd_J_losePower 19 = .ok (.iload_n 1, 1) := by decide +kernel
theorem dd_J_losePower_20 : decode cd_J_losePower 20 = .ok (.aaload, 1) := by decide +kernel
theorem dd_J_losePower_21 : decode cd_J_losePower 21 = .ok (.iconst 0, 1) := by decide +kernel
theorem dd_J_losePower_22 : decode cd_J_losePower 22 = .ok (.putfield 99, 3) := by decide +kernel
theorem dd_J_losePower_25 : decode cd_J_losePower 25 = .ok (.iinc 1 1, 3) := by decide +kernel
theorem dd_J_losePower_28 : decode cd_J_losePower 28 = .ok (.goto (-19), 3) := by decide +kernel
theorem dd_J_losePower_31 : decode cd_J_losePower 31 = .ok (.aload_n 0, 1) := by decide +kernel
theorem dd_J_losePower_32 : decode cd_J_losePower 32 = .ok (.dup, 1) := by decide +kernel
theorem dd_J_losePower_33 : decode cd_J_losePower 33 = .ok (.getfield 223, 3) := by decide +kernel
theorem dd_J_losePower_36 : decode cd_J_losePower 36 = .ok (.iconst 1, 1) := by decide +kernel
theorem dd_J_losePower_37 : decode cd_J_losePower 37 = .ok (.iadd, 1) := by decide +kernel
theorem dd_J_losePower_38 : decode cd_J_losePower 38 = .ok (.putfield 223, 3) := by decide +kernel
theorem dd_J_losePower_41 : decode cd_J_losePower 41 = .ok (.return_, 1) := by decide +kernel
theorem dd_J_count_0 : decode cd_J_count 0 = .ok (.iload_n 1, 1) := by decide +kernel
theorem dd_J_count_1 : decode cd_J_count 1 = .ok (.tableswitch 87 0 6 #[43, 51, 59, 64, 72, 77, 82], 43) := by decide +kernel
theorem dd_J_count_44 : decode cd_J_count 44 = .ok (.aload_n 0, 1) := by decide +kernel
theorem dd_J_count_45 : decode cd_J_count 45 = .ok (.getfield 12, 3) := by decide +kernel
theorem dd_J_count_48 : decode cd_J_count 48 = .ok (.invokevirtual 214, 3) := by decide +kernel
theorem dd_J_count_51 : decode cd_J_count 51 = .ok (.ireturn, 1) := by decide +kernel
theorem dd_J_count_52 : decode cd_J_count 52 = .ok (.aload_n 0, 1) := by decide +kernel
theorem dd_J_count_53 : decode cd_J_count 53 = .ok (.getfield 21, 3) := by decide +kernel
theorem dd_J_count_56 : decode cd_J_count 56 = .ok (.invokevirtual 217, 3) := by decide +kernel
theorem dd_J_count_59 : decode cd_J_count 59 = .ok (.ireturn, 1) := by decide +kernel
theorem dd_J_count_60 : decode cd_J_count 60 = .ok (.aload_n 0, 1) := by decide +kernel
theorem dd_J_count_61 : decode cd_J_count 61 = .ok (.invokevirtual 220, 3) := by decide +kernel
theorem dd_J_count_64 : decode cd_J_count 64 = .ok (.ireturn, 1) := by decide +kernel
theorem dd_J_count_65 : decode cd_J_count 65 = .ok (.aload_n 0, 1) := by decide +kernel
theorem dd_J_count_66 : decode cd_J_count 66 = .ok (.getfield 12, 3) := by decide +kernel
theorem dd_J_count_69 : decode cd_J_count 69 = .ok (.invokevirtual 194, 3) := by decide +kernel
theorem dd_J_count_72 : decode cd_J_count 72 = .ok (.ireturn, 1) := by decide +kernel
theorem dd_J_count_73 : decode cd_J_count 73 = .ok (.aload_n 0, 1) := by decide +kernel
theorem dd_J_count_74 : decode cd_J_count 74 = .ok (.getfield 200, 3) := by decide +kernel
theorem dd_J_count_77 : decode cd_J_count 77 = .ok (.ireturn, 1) := by decide +kernel
theorem dd_J_count_78 : decode cd_J_count 78 = .ok (.aload_n 0, 1) := by decide +kernel
theorem dd_J_count_79 : decode cd_J_count 79 = .ok (.getfield 223, 3) := by decide +kernel
theorem dd_J_count_82 : decode cd_J_count 82 = .ok (.ireturn, 1) := by decide +kernel
theorem dd_J_count_83 : decode cd_J_count 83 = .ok (.aload_n 0, 1) := by decide +kernel
theorem dd_J_count_84 : decode cd_J_count 84 = .ok (.invokevirtual 226, 3) := by decide +kernel
theorem dd_J_count_87 : decode cd_J_count 87 = .ok (.ireturn, 1) := by decide +kernel
theorem dd_J_count_88 : decode cd_J_count 88 = .ok (.iconst (-1), 1) := by decide +kernel
theorem dd_J_count_89 : decode cd_J_count 89 = .ok (.ireturn, 1) := by decide +kernel
theorem dd_J_openHandles_0 : decode cd_J_openHandles 0 = .ok (.iconst 0, 1) := by decide +kernel
theorem dd_J_openHandles_1 : decode cd_J_openHandles 1 = .ok (.istore_n 1, 1) := by decide +kernel
theorem dd_J_openHandles_2 : decode cd_J_openHandles 2 = .ok (.iconst 0, 1) := by decide +kernel
theorem dd_J_openHandles_3 : decode cd_J_openHandles 3 = .ok (.istore_n 2, 1) := by decide +kernel
theorem dd_J_openHandles_4 : decode cd_J_openHandles 4 = .ok (.iload_n 2, 1) := by decide +kernel
theorem dd_J_openHandles_5 : decode cd_J_openHandles 5 = .ok (.bipush 6, 2) := by decide +kernel
theorem dd_J_openHandles_7 : decode cd_J_openHandles 7 = .ok (.if_icmp .ge 24, 3) := by decide +kernel
theorem dd_J_openHandles_10 : decode cd_J_openHandles 10 = .ok (.aload_n 0, 1) := by decide +kernel
theorem dd_J_openHandles_11 : decode cd_J_openHandles 11 = .ok (.getfield 27, 3) := by decide +kernel
theorem dd_J_openHandles_14 : decode cd_J_openHandles 14 = .ok (.iload_n 2, 1) := by decide +kernel
theorem dd_J_openHandles_15 : decode cd_J_openHandles 15 = .ok (.aaload, 1) := by decide +kernel
theorem dd_J_openHandles_16 : decode cd_J_openHandles 16 = .ok (.getfield 99, 3) := by decide +kernel
theorem dd_J_openHandles_19 : decode cd_J_openHandles 19 = .ok (.ifCond .eq 6, 3) := by decide +kernel
theorem dd_J_openHandles_22 : decode cd_J_openHandles 22 = .ok (.iinc 1 1, 3) := by decide +kernel
theorem dd_J_openHandles_25 : decode cd_J_openHandles 25 = .ok (.iinc 2 1, 3) := by decide +kernel
theorem dd_J_openHandles_28 : decode cd_J_openHandles 28 = .ok (.goto (-24), 3) := by decide +kernel
theorem dd_J_openHandles_31 : decode cd_J_openHandles 31 = .ok (.iload_n 1, 1) := by decide +kernel
theorem dd_J_openHandles_32 : decode cd_J_openHandles 32 = .ok (.ireturn, 1) := by decide +kernel
theorem dd_J_staleHandles_0 : decode cd_J_staleHandles 0 = .ok (.iconst 0, 1) := by decide +kernel
theorem dd_J_staleHandles_1 : decode cd_J_staleHandles 1 = .ok (.istore_n 1, 1) := by decide +kernel
theorem dd_J_staleHandles_2 : decode cd_J_staleHandles 2 = .ok (.iconst 0, 1) := by decide +kernel
theorem dd_J_staleHandles_3 : decode cd_J_staleHandles 3 = .ok (.istore_n 2, 1) := by decide +kernel
theorem dd_J_staleHandles_4 : decode cd_J_staleHandles 4 = .ok (.iload_n 2, 1) := by decide +kernel
theorem dd_J_staleHandles_5 : decode cd_J_staleHandles 5 = .ok (.bipush 6, 2) := by decide +kernel
theorem dd_J_staleHandles_7 : decode cd_J_staleHandles 7 = .ok (.if_icmp .ge 37, 3) := by decide +kernel
theorem dd_J_staleHandles_10 : decode cd_J_staleHandles 10 = .ok (.aload_n 0, 1) := by decide +kernel
theorem dd_J_staleHandles_11 : decode cd_J_staleHandles 11 = .ok (.getfield 27, 3) := by decide +kernel
theorem dd_J_staleHandles_14 : decode cd_J_staleHandles 14 = .ok (.iload_n 2, 1) := by decide +kernel
theorem dd_J_staleHandles_15 : decode cd_J_staleHandles 15 = .ok (.aaload, 1) := by decide +kernel
theorem dd_J_staleHandles_16 : decode cd_J_staleHandles 16 = .ok (.getfield 99, 3) := by decide +kernel
theorem dd_J_staleHandles_19 : decode cd_J_staleHandles 19 = .ok (.ifCond .eq 19, 3) := by decide +kernel
theorem dd_J_staleHandles_22 : decode cd_J_staleHandles 22 = .ok (.aload_n 0, 1) := by decide +kernel
theorem dd_J_staleHandles_23 : decode cd_J_staleHandles 23 = .ok (.aload_n 0, 1) := by decide +kernel
theorem dd_J_staleHandles_24 : decode cd_J_staleHandles 24 = .ok (.getfield 27, 3) := by decide +kernel
theorem dd_J_staleHandles_27 : decode cd_J_staleHandles 27 = .ok (.iload_n 2, 1) := by decide +kernel
theorem dd_J_staleHandles_28 : decode cd_J_staleHandles 28 = .ok (.aaload, 1) := by decide +kernel
theorem dd_J_staleHandles_29 : decode cd_J_staleHandles 29 = .ok (.invokevirtual 273, 3) := by decide +kernel
theorem dd_J_staleHandles_32 : decode cd_J_staleHandles 32 = .ok (.ifCond .eq 6, 3) := by decide +kernel
theorem dd_J_staleHandles_35 : decode cd_J_staleHandles 35 = .ok (.iinc 1 1, 3) := by decide +kernel
theorem dd_J_staleHandles_38 : decode cd_J_staleHandles 38 = .ok (.iinc 2 1, 3) := by decide +kernel
theorem dd_J_staleHandles_41 : decode cd_J_staleHandles 41 = .ok (.goto (-37), 3) := by decide +kernel
theorem dd_J_staleHandles_44 : decode cd_J_staleHandles 44 = .ok (.iload_n 1, 1) := by decide +kernel
theorem dd_J_staleHandles_45 : decode cd_J_staleHandles 45 = .ok (.ireturn, 1) := by decide +kernel
theorem dd_J_isStale_0 : decode cd_J_isStale 0 = .ok (.aload_n 0, 1) := by decide +kernel
theorem dd_J_isStale_1 : decode cd_J_isStale 1 = .ok (.getfield 21, 3) := by decide +kernel
theorem dd_J_isStale_4 : decode cd_J_isStale 4 = .ok (.aload_n 1, 1) := by decide +kernel
theorem dd_J_isStale_5 : decode cd_J_isStale 5 = .ok (.getfield 118, 3) := by decide +kernel
theorem dd_J_isStale_8 : decode cd_J_isStale 8 = .ok (.invokevirtual 85, 3) := by decide +kernel
theorem dd_J_isStale_11 : decode cd_J_isStale 11 = .ok (.aload_n 1, 1) := by decide +kernel
theorem dd_J_isStale_12 : decode cd_J_isStale 12 = .ok (.getfield 109, 3) := by decide +kernel
theorem dd_J_isStale_15 : decode cd_J_isStale 15 = .ok (.invokestatic 88, 3) := by decide +kernel
theorem dd_J_isStale_18 : decode cd_J_isStale 18 = .ok (.if_icmp .ne 21, 3) := by decide +kernel
theorem dd_J_isStale_21 : decode cd_J_isStale 21 = .ok (.aload_n 0, 1) := by decide +kernel
theorem dd_J_isStale_22 : decode cd_J_isStale 22 = .ok (.getfield 21, 3) := by decide +kernel
theorem dd_J_isStale_25 : decode cd_J_isStale 25 = .ok (.aload_n 1, 1) := by decide +kernel
theorem dd_J_isStale_26 : decode cd_J_isStale 26 = .ok (.getfield 118, 3) := by decide +kernel
theorem dd_J_isStale_29 : decode cd_J_isStale 29 = .ok (.invokevirtual 191, 3) := by decide +kernel
theorem dd_J_isStale_32 : decode cd_J_isStale 32 = .ok (.aload_n 1, 1) := by decide +kernel
theorem dd_J_isStale_33 : decode cd_J_isStale 33 = .ok (.getfield 271, 3) := by decide +kernel
theorem dd_J_isStale_36 : decode cd_J_isStale 36 = .ok (.if_icmp .eq 7, 3) := by decide +kernel
theorem dd_J_isStale_39 : decode cd_J_isStale 39 = .ok (.iconst 1, 1) := by decide +kernel
theorem dd_J_isStale_40 : decode cd_J_isStale 40 = .ok (.goto 4, 3) := by decide +kernel
theorem dd_J_isStale_43 : decode cd_J_isStale 43 = .ok (.iconst 0, 1) := by decide +kernel
theorem dd_J_isStale_44 : decode cd_J_isStale 44 = .ok (.ireturn, 1) := by decide +kernel
theorem dd_J_kindFor_0 : decode cd_J_kindFor 0 = .ok (.iload_n 0, 1) := by decide +kernel
theorem dd_J_kindFor_1 : decode cd_J_kindFor 1 = .ok (.iconst 4, 1) := by decide +kernel
theorem dd_J_kindFor_2 : decode cd_J_kindFor 2 = .ok (.if_icmp .ne 7, 3) := by decide +kernel
theorem dd_J_kindFor_5 : decode cd_J_kindFor 5 = .ok (.iconst 2, 1) := by decide +kernel
theorem dd_J_kindFor_6 : decode cd_J_kindFor 6 = .ok (.goto 4, 3) := by decide +kernel
theorem dd_J_kindFor_9 : decode cd_J_kindFor 9 = .ok (.iconst 1, 1) := by decide +kernel
theorem dd_J_kindFor_10 : decode cd_J_kindFor 10 = .ok (.ireturn, 1) := by decide +kernel
theorem dd_J_directory_0 : decode cd_J_directory 0 = .ok (.iload_n 1, 1) := by decide +kernel
theorem dd_J_directory_1 : decode cd_J_directory 1 = .ok (.invokestatic 39, 3) := by decide +kernel
theorem dd_J_directory_4 : decode cd_J_directory 4 = .ok (.aload_n 0, 1) := by decide +kernel
theorem dd_J_directory_5 : decode cd_J_directory 5 = .ok (.iload_n 1, 1) := by decide +kernel
theorem dd_J_directory_6 : decode cd_J_directory 6 = .ok (.invokevirtual 43, 3) := by decide +kernel
theorem dd_J_directory_9 : decode cd_J_directory 9 = .ok (.iconst (-1), 1) := by decide +kernel
theorem dd_J_directory_10 : decode cd_J_directory 10 = .ok (.if_icmp .eq 13, 3) := by decide +kernel
theorem dd_J_directory_13 : decode cd_J_directory 13 = .ok (.new 47, 3) := by decide +kernel
theorem dd_J_directory_16 : decode cd_J_directory 16 = .ok (.dup, 1) := by decide +kernel
theorem dd_J_directory_17 : decode cd_J_directory 17 = .ok (.ldc 49, 2) := by decide +kernel
theorem dd_J_directory_19 : decode cd_J_directory 19 = .ok (.invokespecial 51, 3) := by decide +kernel
theorem dd_J_directory_22 : decode cd_J_directory 22 = .ok (.athrow, 1) := by decide +kernel
theorem dd_J_directory_23 : decode cd_J_directory 23 = .ok (.aload_n 0, 1) := by decide +kernel
theorem dd_J_directory_24 : decode cd_J_directory 24 = .ok (.iload_n 1, 1) := by decide +kernel
theorem dd_J_directory_25 : decode cd_J_directory 25 = .ok (.invokevirtual 54, 3) := by decide +kernel
theorem dd_J_directory_28 : decode cd_J_directory 28 = .ok (.istore_n 2, 1) := by decide +kernel
theorem dd_J_directory_29 : decode cd_J_directory 29 = .ok (.aload_n 0, 1) := by decide +kernel
theorem dd_J_directory_30 : decode cd_J_directory 30 = .ok (.iload_n 2, 1) := by decide +kernel
theorem dd_J_directory_31 : decode cd_J_directory 31 = .ok (.invokevirtual 57, 3) := by decide +kernel
theorem dd_J_directory_34 : decode cd_J_directory 34 = .ok (.aload_n 0, 1) := by decide +kernel
theorem dd_J_directory_35 : decode cd_J_directory 35 = .ok (.iload_n 2, 1) := by decide +kernel
theorem dd_J_directory_36 : decode cd_J_directory 36 = .ok (.iload_n 1, 1) := by decide +kernel
theorem dd_J_directory_37 : decode cd_J_directory 37 = .ok (.sipush 255, 3) := by decide +kernel
theorem dd_J_directory_40 : decode cd_J_directory 40 = .ok (.iand, 1) := by decide +kernel
theorem dd_J_directory_41 : decode cd_J_directory 41 = .ok (.iconst 2, 1) := by decide +kernel
theorem dd_J_directory_42 : decode cd_J_directory 42 = .ok (.invokevirtual 60, 3) := by decide +kernel
theorem dd_J_directory_45 : decode cd_J_directory 45 = .ok (.ireturn, 1) := by decide +kernel
theorem dd_J_checkPath_0 : decode cd_J_checkPath 0 = .ok (.iload_n 0, 1) := by decide +kernel
theorem dd_J_checkPath_1 : decode cd_J_checkPath 1 = .ok (.istore_n 1, 1) := by decide +kernel
theorem dd_J_checkPath_2 : decode cd_J_checkPath 2 = .ok (.iconst 0, 1) := by decide +kernel
theorem dd_J_checkPath_3 : decode cd_J_checkPath 3 = .ok (.istore_n 2, 1) := by decide +kernel
theorem dd_J_checkPath_4 : decode cd_J_checkPath 4 = .ok (.iload_n 2, 1) := by decide +kernel
theorem dd_J_checkPath_5 : decode cd_J_checkPath 5 = .ok (.iconst 4, 1) := by decide +kernel
theorem dd_J_checkPath_6 : decode cd_J_checkPath 6 = .ok (.if_icmp .ge 36, 3) := by decide +kernel
theorem dd_J_checkPath_9 : decode cd_J_checkPath 9 = .ok (.iload_n 1, 1) := by decide +kernel
theorem dd_J_checkPath_10 : decode cd_J_checkPath 10 = .ok (.ifCond .eq 32, 3) := by decide +kernel
theorem dd_J_checkPath_13 : decode cd_J_checkPath 13 = .ok (.iload_n 1, 1) := by decide +kernel
theorem dd_J_checkPath_14 : decode cd_J_checkPath 14 = .ok (.sipush 255, 3) := by decide +kernel
theorem dd_J_checkPath_17 : decode cd_J_checkPath 17 = .ok (.iand, 1) := by decide +kernel
theorem dd_J_checkPath_18 : decode cd_J_checkPath 18 = .ok (.ifCond .ne 13, 3) := by decide +kernel
theorem dd_J_checkPath_21 : decode cd_J_checkPath 21 = .ok (.new 229, 3) := by decide +kernel
theorem dd_J_checkPath_24 : decode cd_J_checkPath 24 = .ok (.dup, 1) := by decide +kernel
theorem dd_J_checkPath_25 : decode cd_J_checkPath 25 = .ok (.ldc 234, 2) := by decide +kernel
theorem dd_J_checkPath_27 : decode cd_J_checkPath 27 = .ok (.invokespecial 233, 3) := by decide +kernel
theorem dd_J_checkPath_30 : decode cd_J_checkPath 30 = .ok (.athrow, 1) := by decide +kernel
theorem dd_J_checkPath_31 : decode cd_J_checkPath 31 = .ok (.iload_n 1, 1) := by decide +kernel
theorem dd_J_checkPath_32 : decode cd_J_checkPath 32 = .ok (.bipush 8, 2) := by decide +kernel
theorem dd_J_checkPath_34 : decode cd_J_checkPath 34 = .ok (.iushr, 1) := by decide +kernel
theorem dd_J_checkPath_35 : decode cd_J_checkPath 35 = .ok (.istore_n 1, 1) := by decide +kernel
theorem dd_J_checkPath_36 : decode cd_J_checkPath 36 = .ok (.iinc 2 1, 3) := by decide +kernel
theorem dd_J_checkPath_39 : decode cd_J_checkPath 39 = .ok (.goto (-35), 3) := by decide +kernel
theorem dd_J_checkPath_42 : decode cd_J_checkPath 42 = .ok (.return_, 1) := by decide +kernel
theorem dd_J_inodeAt_0 : decode cd_J_inodeAt 0 = .ok (.iconst 0, 1) := by decide +kernel
theorem dd_J_inodeAt_1 : decode cd_J_inodeAt 1 = .ok (.istore_n 2, 1) := by decide +kernel
theorem dd_J_inodeAt_2 : decode cd_J_inodeAt 2 = .ok (.bipush 24, 2) := by decide +kernel
theorem dd_J_inodeAt_4 : decode cd_J_inodeAt 4 = .ok (.istore_n 3, 1) := by decide +kernel
theorem dd_J_inodeAt_5 : decode cd_J_inodeAt 5 = .ok (.iload_n 3, 1) := by decide +kernel
theorem dd_J_inodeAt_6 : decode cd_J_inodeAt 6 = .ok (.ifCond .lt 54, 3) := by decide +kernel
theorem dd_J_inodeAt_9 : decode cd_J_inodeAt 9 = .ok (.iload_n 1, 1) := by decide +kernel
theorem dd_J_inodeAt_10 : decode cd_J_inodeAt 10 = .ok (.iload_n 3, 1) := by decide +kernel
theorem dd_J_inodeAt_11 : decode cd_J_inodeAt 11 = .ok (.iushr, 1) := by decide +kernel
theorem dd_J_inodeAt_12 : decode cd_J_inodeAt 12 = .ok (.sipush 255, 3) := by decide +kernel
theorem dd_J_inodeAt_15 : decode cd_J_inodeAt 15 = .ok (.iand, 1) := by decide +kernel
theorem dd_J_inodeAt_16 : decode cd_J_inodeAt 16 = .ok (.istore 4, 2) := by decide +kernel
theorem dd_J_inodeAt_18 : decode cd_J_inodeAt 18 = .ok (.iload 4, 2) := by decide +kernel
theorem dd_J_inodeAt_20 : decode cd_J_inodeAt 20 = .ok (.ifCond .eq 34, 3) := by decide +kernel
theorem dd_J_inodeAt_23 : decode cd_J_inodeAt 23 = .ok (.aload_n 0, 1) := by decide +kernel
theorem dd_J_inodeAt_24 : decode cd_J_inodeAt 24 = .ok (.getfield 21, 3) := by decide +kernel
theorem dd_J_inodeAt_27 : decode cd_J_inodeAt 27 = .ok (.iload_n 2, 1) := by decide +kernel
theorem dd_J_inodeAt_28 : decode cd_J_inodeAt 28 = .ok (.iload 4, 2) := by decide +kernel
theorem dd_J_inodeAt_30 : decode cd_J_inodeAt 30 = .ok (.invokevirtual 236, 3) := by decide +kernel
theorem dd_J_inodeAt_33 : decode cd_J_inodeAt 33 = .ok (.istore 5, 2) := by decide +kernel
theorem dd_J_inodeAt_35 : decode cd_J_inodeAt 35 = .ok (.iload 5, 2) := by decide +kernel
theorem dd_J_inodeAt_37 : decode cd_J_inodeAt 37 = .ok (.iconst (-1), 1) := by decide +kernel
theorem dd_J_inodeAt_38 : decode cd_J_inodeAt 38 = .ok (.if_icmp .ne 5, 3) := by decide +kernel
theorem dd_J_inodeAt_41 : decode cd_J_inodeAt 41 = .ok (.iconst (-1), 1) := by decide +kernel
theorem dd_J_inodeAt_42 : decode cd_J_inodeAt 42 = .ok (.ireturn, 1) := by decide +kernel
theorem dd_J_inodeAt_43 : decode cd_J_inodeAt 43 = .ok (.aload_n 0, 1) := by decide +kernel
theorem dd_J_inodeAt_44 : decode cd_J_inodeAt 44 = .ok (.getfield 21, 3) := by decide +kernel
theorem dd_J_inodeAt_47 : decode cd_J_inodeAt 47 = .ok (.iload_n 2, 1) := by decide +kernel
theorem dd_J_inodeAt_48 : decode cd_J_inodeAt 48 = .ok (.iload 5, 2) := by decide +kernel
theorem dd_J_inodeAt_50 : decode cd_J_inodeAt 50 = .ok (.invokevirtual 239, 3) := by decide +kernel
theorem dd_J_inodeAt_53 : decode cd_J_inodeAt 53 = .ok (.istore_n 2, 1) := by decide +kernel
theorem dd_J_inodeAt_54 : decode cd_J_inodeAt 54 = .ok (.iinc 3 (-8), 3) := by decide +kernel
theorem dd_J_inodeAt_57 : decode cd_J_inodeAt 57 = .ok (.goto (-52), 3) := by decide +kernel
theorem dd_J_inodeAt_60 : decode cd_J_inodeAt 60 = .ok (.iload_n 2, 1) := by decide +kernel
theorem dd_J_inodeAt_61 : decode cd_J_inodeAt 61 = .ok (.ireturn, 1) := by decide +kernel
theorem dd_J_parentNeeded_0 : decode cd_J_parentNeeded 0 = .ok (.aload_n 0, 1) := by decide +kernel
theorem dd_J_parentNeeded_1 : decode cd_J_parentNeeded 1 = .ok (.iload_n 1, 1) := by decide +kernel
theorem dd_J_parentNeeded_2 : decode cd_J_parentNeeded 2 = .ok (.invokestatic 161, 3) := by decide +kernel
theorem dd_J_parentNeeded_5 : decode cd_J_parentNeeded 5 = .ok (.invokevirtual 43, 3) := by decide +kernel
theorem dd_J_parentNeeded_8 : decode cd_J_parentNeeded 8 = .ok (.istore_n 2, 1) := by decide +kernel
theorem dd_J_parentNeeded_9 : decode cd_J_parentNeeded 9 = .ok (.iload_n 2, 1) := by decide +kernel
theorem dd_J_parentNeeded_10 : decode cd_J_parentNeeded 10 = .ok (.iconst (-1), 1) := by decide +kernel
theorem dd_J_parentNeeded_11 : decode cd_J_parentNeeded 11 = .ok (.if_icmp .eq 15, 3) := by decide +kernel
theorem dd_J_parentNeeded_14 : decode cd_J_parentNeeded 14 = .ok (.aload_n 0, 1) := by decide +kernel
theorem dd_J_parentNeeded_15 : decode cd_J_parentNeeded 15 = .ok (.getfield 21, 3) := by decide +kernel
theorem dd_J_parentNeeded_18 : decode cd_J_parentNeeded 18 = .ok (.iload_n 2, 1) := by decide +kernel
theorem dd_J_parentNeeded_19 : decode cd_J_parentNeeded 19 = .ok (.invokevirtual 85, 3) := by decide +kernel
theorem dd_J_parentNeeded_22 : decode cd_J_parentNeeded 22 = .ok (.iconst 2, 1) := by decide +kernel
theorem dd_J_parentNeeded_23 : decode cd_J_parentNeeded 23 = .ok (.if_icmp .eq 13, 3) := by decide +kernel
theorem dd_J_parentNeeded_26 : decode cd_J_parentNeeded 26 = .ok (.new 72, 3) := by decide +kernel
theorem dd_J_parentNeeded_29 : decode cd_J_parentNeeded 29 = .ok (.dup, 1) := by decide +kernel
theorem dd_J_parentNeeded_30 : decode cd_J_parentNeeded 30 = .ok (.ldc 244, 2) := by decide +kernel
theorem dd_J_parentNeeded_32 : decode cd_J_parentNeeded 32 = .ok (.invokespecial 76, 3) := by decide +kernel
theorem dd_J_parentNeeded_35 : decode cd_J_parentNeeded 35 = .ok (.athrow, 1) := by decide +kernel
theorem dd_J_parentNeeded_36 : decode cd_J_parentNeeded 36 = .ok (.iload_n 2, 1) := by decide +kernel
theorem dd_J_parentNeeded_37 : decode cd_J_parentNeeded 37 = .ok (.ireturn, 1) := by decide +kernel
theorem dd_J_parentPath_0 : decode cd_J_parentPath 0 = .ok (.iload_n 0, 1) := by decide +kernel
theorem dd_J_parentPath_1 : decode cd_J_parentPath 1 = .ok (.bipush 8, 2) := by decide +kernel
theorem dd_J_parentPath_3 : decode cd_J_parentPath 3 = .ok (.iushr, 1) := by decide +kernel
theorem dd_J_parentPath_4 : decode cd_J_parentPath 4 = .ok (.ireturn, 1) := by decide +kernel
theorem dd_J_checkRoomForNew_0 : decode cd_J_checkRoomForNew 0 = .ok (.aload_n 0, 1) := by decide +kernel
theorem dd_J_checkRoomForNew_1 : decode cd_J_checkRoomForNew 1 = .ok (.getfield 21, 3) := by decide +kernel
theorem dd_J_checkRoomForNew_4 : decode cd_J_checkRoomForNew 4 = .ok (.invokevirtual 246, 3) := by decide +kernel
theorem dd_J_checkRoomForNew_7 : decode cd_J_checkRoomForNew 7 = .ok (.iconst (-1), 1) := by decide +kernel
theorem dd_J_checkRoomForNew_8 : decode cd_J_checkRoomForNew 8 = .ok (.if_icmp .eq 14, 3) := by decide +kernel
theorem dd_J_checkRoomForNew_11 : decode cd_J_checkRoomForNew 11 = .ok (.aload_n 0, 1) := by decide +kernel
theorem dd_J_checkRoomForNew_12 : decode cd_J_checkRoomForNew 12 = .ok (.getfield 21, 3) := by decide +kernel
theorem dd_J_checkRoomForNew_15 : decode cd_J_checkRoomForNew 15 = .ok (.iload_n 1, 1) := by decide +kernel
theorem dd_J_checkRoomForNew_16 : decode cd_J_checkRoomForNew 16 = .ok (.invokevirtual 249, 3) := by decide +kernel
theorem dd_J_checkRoomForNew_19 : decode cd_J_checkRoomForNew 19 = .ok (.ifCond .ne 13, 3) := by decide +kernel
theorem dd_J_checkRoomForNew_22 : decode cd_J_checkRoomForNew 22 = .ok (.new 178, 3) := by decide +kernel
theorem dd_J_checkRoomForNew_25 : decode cd_J_checkRoomForNew 25 = .ok (.dup, 1) := by decide +kernel
theorem dd_J_checkRoomForNew_26 : decode cd_J_checkRoomForNew 26 = .ok (.ldc 252, 2) := by decide +kernel
theorem dd_J_checkRoomForNew_28 : decode cd_J_checkRoomForNew 28 = .ok (.invokespecial 182, 3) := by decide +kernel
theorem dd_J_checkRoomForNew_31 : decode cd_J_checkRoomForNew 31 = .ok (.athrow, 1) := by decide +kernel
theorem dd_J_checkRoomForNew_32 : decode cd_J_checkRoomForNew 32 = .ok (.return_, 1) := by decide +kernel
theorem dd_J_makeNew_0 : decode cd_J_makeNew 0 = .ok (.aload_n 0, 1) := by decide +kernel
theorem dd_J_makeNew_1 : decode cd_J_makeNew 1 = .ok (.getfield 21, 3) := by decide +kernel
theorem dd_J_makeNew_4 : decode cd_J_makeNew 4 = .ok (.invokevirtual 246, 3) := by decide +kernel
theorem dd_J_makeNew_7 : decode cd_J_makeNew 7 = .ok (.istore 4, 2) := by decide +kernel
theorem dd_J_makeNew_9 : decode cd_J_makeNew 9 = .ok (.aload_n 0, 1) := by decide +kernel
theorem dd_J_makeNew_10 : decode cd_J_makeNew 10 = .ok (.getfield 21, 3) := by decide +kernel
theorem dd_J_makeNew_13 : decode cd_J_makeNew 13 = .ok (.iload 4, 2) := by decide +kernel
theorem dd_J_makeNew_15 : decode cd_J_makeNew 15 = .ok (.iload_n 3, 1) := by decide +kernel
theorem dd_J_makeNew_16 : decode cd_J_makeNew 16 = .ok (.invokevirtual 32, 3) := by decide +kernel
theorem dd_J_makeNew_19 : decode cd_J_makeNew 19 = .ok (.aload_n 0, 1) := by decide +kernel
theorem dd_J_makeNew_20 : decode cd_J_makeNew 20 = .ok (.getfield 21, 3) := by decide +kernel
theorem dd_J_makeNew_23 : decode cd_J_makeNew 23 = .ok (.iload_n 1, 1) := by decide +kernel
theorem dd_J_makeNew_24 : decode cd_J_makeNew 24 = .ok (.iload_n 2, 1) := by decide +kernel
theorem dd_J_makeNew_25 : decode cd_J_makeNew 25 = .ok (.iload 4, 2) := by decide +kernel
theorem dd_J_makeNew_27 : decode cd_J_makeNew 27 = .ok (.invokevirtual 183, 3) := by decide +kernel
theorem dd_J_makeNew_30 : decode cd_J_makeNew 30 = .ok (.iload 4, 2) := by decide +kernel
theorem dd_J_makeNew_32 : decode cd_J_makeNew 32 = .ok (.ireturn, 1) := by decide +kernel
theorem dd_J_open_0 : decode cd_J_open 0 = .ok (.iload_n 1, 1) := by decide +kernel
theorem dd_J_open_1 : decode cd_J_open 1 = .ok (.invokestatic 39, 3) := by decide +kernel
theorem dd_J_open_4 : decode cd_J_open 4 = .ok (.iload_n 2, 1) := by decide +kernel
theorem dd_J_open_5 : decode cd_J_open 5 = .ok (.iconst 1, 1) := by decide +kernel
theorem dd_J_open_6 : decode cd_J_open 6 = .ok (.iconst 4, 1) := by decide +kernel
theorem dd_J_open_7 : decode cd_J_open 7 = .ok (.invokestatic 64, 3) := by decide +kernel
theorem dd_J_open_10 : decode cd_J_open 10 = .ok (.aload_n 0, 1) := by decide +kernel
theorem dd_J_open_11 : decode cd_J_open 11 = .ok (.iload_n 1, 1) := by decide +kernel
theorem dd_J_open_12 : decode cd_J_open 12 = .ok (.invokevirtual 43, 3) := by decide +kernel
theorem dd_J_open_15 : decode cd_J_open 15 = .ok (.istore 6, 2) := by decide +kernel
theorem dd_J_open_17 : decode cd_J_open 17 = .ok (.iload 6, 2) := by decide +kernel
theorem dd_J_open_19 : decode cd_J_open 19 = .ok (.iconst (-1), 1) := by decide +kernel
theorem dd_J_open_20 : decode cd_J_open 20 = .ok (.if_icmp .ne 68, 3) := by decide +kernel
theorem dd_J_open_23 : decode cd_J_open 23 = .ok (.iload_n 3, 1) := by decide +kernel
theorem dd_J_open_24 : decode cd_J_open 24 = .ok (.ifCond .eq 10, 3) := by decide +kernel
theorem dd_J_open_27 : decode cd_J_open 27 = .ok (.iload_n 2, 1) := by decide +kernel
theorem dd_J_open_28 : decode cd_J_open 28 = .ok (.invokestatic 68, 3) := by decide +kernel
theorem dd_J_open_31 : decode cd_J_open 31 = .ok (.ifCond .ne 13, 3) := by decide +kernel
theorem dd_J_open_34 : decode cd_J_open 34 = .ok (.new 72, 3) := by decide +kernel
theorem dd_J_open_37 : decode cd_J_open 37 = .ok (.dup, 1) := by decide +kernel
theorem dd_J_open_38 : decode cd_J_open 38 = .ok (.ldc 74, 2) := by decide +kernel
theorem dd_J_open_40 : decode cd_J_open 40 = .ok (.invokespecial 76, 3) := by decide +kernel
theorem dd_J_open_43 : decode cd_J_open 43 = .ok (.athrow, 1) := by decide +kernel
theorem dd_J_open_44 : decode cd_J_open 44 = .ok (.aload_n 0, 1) := by decide +kernel
theorem dd_J_open_45 : decode cd_J_open 45 = .ok (.iload_n 1, 1) := by decide +kernel
theorem dd_J_open_46 : decode cd_J_open 46 = .ok (.invokevirtual 54, 3) := by decide +kernel
theorem dd_J_open_49 : decode cd_J_open 49 = .ok (.istore 7, 2) := by decide +kernel
theorem dd_J_open_51 : decode cd_J_open 51 = .ok (.aload_n 0, 1) := by decide +kernel
theorem dd_J_open_52 : decode cd_J_open 52 = .ok (.invokevirtual 77, 3) := by decide +kernel
theorem dd_J_open_55 : decode cd_J_open 55 = .ok (.istore 8, 2) := by decide +kernel
theorem dd_J_open_57 : decode cd_J_open 57 = .ok (.aload_n 0, 1) := by decide +kernel
theorem dd_J_open_58 : decode cd_J_open 58 = .ok (.iload 7, 2) := by decide +kernel
theorem dd_J_open_60 : decode cd_J_open 60 = .ok (.invokevirtual 57, 3) := by decide +kernel
theorem dd_J_open_63 : decode cd_J_open 63 = .ok (.aload_n 0, 1) := by decide +kernel
theorem dd_J_open_64 : decode cd_J_open 64 = .ok (.iload 7, 2) := by decide +kernel
theorem dd_J_open_66 : decode cd_J_open 66 = .ok (.iload_n 1, 1) := by decide +kernel
theorem dd_J_open_67 : decode cd_J_open 67 = .ok (.sipush 255, 3) := by decide +kernel
theorem dd_J_open_70 : decode cd_J_open 70 = .ok (.iand, 1) := by decide +kernel
theorem dd_J_open_71 : decode cd_J_open 71 = .ok (.iconst 1, 1) := by decide +kernel
theorem dd_J_open_72 : decode cd_J_open 72 = .ok (.invokevirtual 60, 3) := by decide +kernel
theorem dd_J_open_75 : decode cd_J_open 75 = .ok (.istore 6, 2) := by decide +kernel
theorem dd_J_open_77 : decode cd_J_open 77 = .ok (.aload_n 0, 1) := by decide +kernel
theorem dd_J_open_78 : decode cd_J_open 78 = .ok (.iload 8, 2) := by decide +kernel
theorem dd_J_open_80 : decode cd_J_open 80 = .ok (.iload 6, 2) := by decide +kernel
theorem dd_J_open_82 : decode cd_J_open 82 = .ok (.iload_n 2, 1) := by decide +kernel
theorem dd_J_open_83 : decode cd_J_open 83 = .ok (.iconst 0, 1) := by decide +kernel
theorem dd_J_open_84 : decode cd_J_open 84 = .ok (.invokevirtual 81, 3) := by decide +kernel
theorem dd_J_open_87 : decode cd_J_open 87 = .ok (.ireturn, 1) := by decide +kernel
theorem dd_J_open_88 : decode cd_J_open 88 = .ok (.aload_n 0, 1) := by decide +kernel
theorem dd_J_open_89 : decode cd_J_open 89 = .ok (.getfield 21, 3) := by decide +kernel
theorem dd_J_open_92 : decode cd_J_open 92 = .ok (.iload 6, 2) := by decide +kernel
theorem dd_J_open_94 : decode cd_J_open 94 = .ok (.invokevirtual 85, 3) := by decide +kernel
theorem dd_J_open_97 : decode cd_J_open 97 = .ok (.iload_n 2, 1) := by decide +kernel
theorem dd_J_open_98 : decode cd_J_open 98 = .ok (.invokestatic 88, 3) := by decide +kernel
theorem dd_J_open_101 : decode cd_J_open 101 = .ok (.if_icmp .eq 13, 3) := by decide +kernel
theorem dd_J_open_104 : decode cd_J_open 104 = .ok (.new 47, 3) := by decide +kernel
theorem dd_J_open_107 : decode cd_J_open 107 = .ok (.dup, 1) := by decide +kernel
theorem dd_J_open_108 : decode cd_J_open 108 = .ok (.ldc 91, 2) := by decide +kernel
theorem dd_J_open_110 : decode cd_J_open 110 = .ok (.invokespecial 51, 3) := by decide +kernel
theorem dd_J_open_113 : decode cd_J_open 113 = .ok (.athrow, 1) := by decide +kernel
theorem dd_J_open_114 : decode cd_J_open 114 = .ok (.aload_n 0, 1) := by decide +kernel
theorem dd_J_open_115 : decode cd_J_open 115 = .ok (.invokevirtual 77, 3) := by decide +kernel
theorem dd_J_open_118 : decode cd_J_open 118 = .ok (.istore 7, 2) := by decide +kernel
theorem dd_J_open_120 : decode cd_J_open 120 = .ok (.iload 5, 2) := by decide +kernel
theorem dd_J_open_122 : decode cd_J_open 122 = .ok (.ifCond .eq 20, 3) := by decide +kernel
theorem dd_J_open_125 : decode cd_J_open 125 = .ok (.iload_n 2, 1) := by decide +kernel
theorem dd_J_open_126 : decode cd_J_open 126 = .ok (.invokestatic 68, 3) := by decide +kernel
theorem dd_J_open_129 : decode cd_J_open 129 = .ok (.ifCond .eq 13, 3) := by decide +kernel
theorem dd_J_open_132 : decode cd_J_open 132 = .ok (.aload_n 0, 1) := by decide +kernel
theorem dd_J_open_133 : decode cd_J_open 133 = .ok (.getfield 21, 3) := by decide +kernel
theorem dd_J_open_136 : decode cd_J_open 136 = .ok (.iload 6, 2) := by decide +kernel
theorem dd_J_open_138 : decode cd_J_open 138 = .ok (.iconst 0, 1) := by decide +kernel
theorem dd_J_open_139 : decode cd_J_open 139 = .ok (.invokevirtual 93, 3) := by decide +kernel
theorem dd_J_open_142 : decode cd_J_open 142 = .ok (.aload_n 0, 1) := by decide +kernel
theorem dd_J_open_143 : decode cd_J_open 143 = .ok (.iload 7, 2) := by decide +kernel
theorem dd_J_open_145 : decode cd_J_open 145 = .ok (.iload 6, 2) := by decide +kernel
theorem dd_J_open_147 : decode cd_J_open 147 = .ok (.iload_n 2, 1) := by decide +kernel
theorem dd_J_open_148 : decode cd_J_open 148 = .ok (.iload 4, 2) := by decide +kernel
theorem dd_J_open_150 : decode cd_J_open 150 = .ok (.ifCond .eq 20, 3) := by decide +kernel
theorem dd_J_open_153 : decode cd_J_open 153 = .ok (.iload_n 2, 1) := by decide +kernel
theorem dd_J_open_154 : decode cd_J_open 154 = .ok (.iconst 4, 1) := by decide +kernel
theorem dd_J_open_155 : decode cd_J_open 155 = .ok (.if_icmp .eq 15, 3) := by decide +kernel
theorem dd_J_open_158 : decode cd_J_open 158 = .ok (.aload_n 0, 1) := by decide +kernel
theorem dd_J_open_159 : decode cd_J_open 159 = .ok (.getfield 21, 3) := by decide +kernel
theorem dd_J_open_162 : decode cd_J_open 162 = .ok (.iload 6, 2) := by decide +kernel
theorem dd_J_open_164 : decode cd_J_open 164 = .ok (.invokevirtual 96, 3) := by decide +kernel
theorem dd_J_open_167 : decode cd_J_open 167 = .ok (.goto 4, 3) := by decide +kernel
theorem dd_J_open_170 : decode cd_J_open 170 = .ok (.iconst 0, 1) := by decide +kernel
theorem dd_J_open_171 : decode cd_J_open 171 = .ok (.invokevirtual 81, 3) := by decide +kernel
theorem dd_J_open_174 : decode cd_J_open 174 = .ok (.ireturn, 1) := by decide +kernel
theorem dd_J_checkRange_0 : decode cd_J_checkRange 0 = .ok (.iload_n 0, 1) := by decide +kernel
theorem dd_J_checkRange_1 : decode cd_J_checkRange 1 = .ok (.iload_n 1, 1) := by decide +kernel
theorem dd_J_checkRange_2 : decode cd_J_checkRange 2 = .ok (.if_icmp .lt 8, 3) := by decide +kernel
theorem dd_J_checkRange_5 : decode cd_J_checkRange 5 = .ok (.iload_n 0, 1) := by decide +kernel
theorem dd_J_checkRange_6 : decode cd_J_checkRange 6 = .ok (.iload_n 2, 1) := by decide +kernel
theorem dd_J_checkRange_7 : decode cd_J_checkRange 7 = .ok (.if_icmp .le 13, 3) := by decide +kernel
theorem dd_J_checkRange_10 : decode cd_J_checkRange 10 = .ok (.new 229, 3) := by decide +kernel
theorem dd_J_checkRange_13 : decode cd_J_checkRange 13 = .ok (.dup, 1) := by decide +kernel
theorem dd_J_checkRange_14 : decode cd_J_checkRange 14 = .ok (.ldc 231, 2) := by decide +kernel
theorem dd_J_checkRange_16 : decode cd_J_checkRange 16 = .ok (.invokespecial 233, 3) := by decide +kernel
theorem dd_J_checkRange_19 : decode cd_J_checkRange 19 = .ok (.athrow, 1) := by decide +kernel
theorem dd_J_checkRange_20 : decode cd_J_checkRange 20 = .ok (.return_, 1) := by decide +kernel
theorem dd_J_writesBy_0 : decode cd_J_writesBy 0 = .ok (.iload_n 0, 1) := by decide +kernel
theorem dd_J_writesBy_1 : decode cd_J_writesBy 1 = .ok (.iconst 2, 1) := by decide +kernel
theorem dd_J_writesBy_2 : decode cd_J_writesBy 2 = .ok (.if_icmp .eq 8, 3) := by decide +kernel
theorem dd_J_writesBy_5 : decode cd_J_writesBy 5 = .ok (.iload_n 0, 1) := by decide +kernel
theorem dd_J_writesBy_6 : decode cd_J_writesBy 6 = .ok (.iconst 3, 1) := by decide +kernel
theorem dd_J_writesBy_7 : decode cd_J_writesBy 7 = .ok (.if_icmp .ne 7, 3) := by decide +kernel
theorem dd_J_writesBy_10 : decode cd_J_writesBy 10 = .ok (.iconst 1, 1) := by decide +kernel
theorem dd_J_writesBy_11 : decode cd_J_writesBy 11 = .ok (.goto 4, 3) := by decide +kernel
theorem dd_J_writesBy_14 : decode cd_J_writesBy 14 = .ok (.iconst 0, 1) := by decide +kernel
theorem dd_J_writesBy_15 : decode cd_J_writesBy 15 = .ok (.ireturn, 1) := by decide +kernel
theorem dd_J_closedHandleNeeded_0 : decode cd_J_closedHandleNeeded 0 = .ok (.iconst 0, 1) := by decide +kernel
theorem dd_J_closedHandleNeeded_1 : decode cd_J_closedHandleNeeded 1 = .ok (.istore_n 1, 1) := by decide +kernel
theorem dd_J_closedHandleNeeded_2 : decode cd_J_closedHandleNeeded 2 = .ok (.iload_n 1, 1) := by decide +kernel
theorem dd_J_closedHandleNeeded_3 : decode cd_J_closedHandleNeeded 3 = .ok (.bipush 6, 2) := by decide +kernel
theorem dd_J_closedHandleNeeded_5 : decode cd_J_closedHandleNeeded 5 = .ok (.if_icmp .ge 23, 3) := by decide +kernel
theorem dd_J_closedHandleNeeded_8 : decode cd_J_closedHandleNeeded 8 = .ok (.aload_n 0, 1) := by decide +kernel
theorem dd_J_closedHandleNeeded_9 : decode cd_J_closedHandleNeeded 9 = .ok (.getfield 27, 3) := by decide +kernel
theorem dd_J_closedHandleNeeded_12 : decode cd_J_closedHandleNeeded 12 = .ok (.iload_n 1, 1) := by decide +kernel
theorem dd_J_closedHandleNeeded_13 : decode cd_J_closedHandleNeeded 13 = .ok (.aaload, 1) := by decide +kernel
theorem dd_J_closedHandleNeeded_14 : decode cd_J_closedHandleNeeded 14 = .ok (.getfield 99, 3) := by decide +kernel
theorem dd_J_closedHandleNeeded_17 : decode cd_J_closedHandleNeeded 17 = .ok (.ifCond .ne 5, 3) := by decide +kernel
theorem dd_J_closedHandleNeeded_20 : decode cd_J_closedHandleNeeded 20 = .ok (.iload_n 1, 1) := by decide +kernel
theorem dd_J_closedHandleNeeded_21 : decode cd_J_closedHandleNeeded 21 = .ok (.ireturn, 1) := by decide +kernel
theorem dd_J_closedHandleNeeded_22 : decode cd_J_closedHandleNeeded 22 = .ok (.iinc 1 1, 3) := by decide +kernel
theorem dd_J_closedHandleNeeded_25 : decode cd_J_closedHandleNeeded 25 = .ok (.goto (-23), 3) := by decide +kernel
theorem dd_J_closedHandleNeeded_28 : decode cd_J_closedHandleNeeded 28 = .ok (.new 178, 3) := by decide +kernel
theorem dd_J_closedHandleNeeded_31 : decode cd_J_closedHandleNeeded 31 = .ok (.dup, 1) := by decide +kernel
theorem dd_J_closedHandleNeeded_32 : decode cd_J_closedHandleNeeded 32 = .ok (.ldc_w 269, 3) := by decide +kernel
theorem dd_J_closedHandleNeeded_35 : decode cd_J_closedHandleNeeded 35 = .ok (.invokespecial 182, 3) := by decide +kernel
theorem dd_J_closedHandleNeeded_38 : decode cd_J_closedHandleNeeded 38 = .ok (.athrow, 1) := by decide +kernel
theorem dd_J_openHandle_0 : decode cd_J_openHandle 0 = .ok (.aload_n 0, 1) := by decide +kernel
theorem dd_J_openHandle_1 : decode cd_J_openHandle 1 = .ok (.getfield 27, 3) := by decide +kernel
theorem dd_J_openHandle_4 : decode cd_J_openHandle 4 = .ok (.iload_n 1, 1) := by decide +kernel
theorem dd_J_openHandle_5 : decode cd_J_openHandle 5 = .ok (.aaload, 1) := by decide +kernel
theorem dd_J_openHandle_6 : decode cd_J_openHandle 6 = .ok (.astore 5, 2) := by decide +kernel
theorem dd_J_openHandle_8 : decode cd_J_openHandle 8 = .ok (.aload 5, 2) := by decide +kernel
theorem dd_J_openHandle_10 : decode cd_J_openHandle 10 = .ok (.iconst 1, 1) := by decide +kernel
theorem dd_J_openHandle_11 : decode cd_J_openHandle 11 = .ok (.putfield 99, 3) := by decide +kernel
theorem dd_J_openHandle_14 : decode cd_J_openHandle 14 = .ok (.aload 5, 2) := by decide +kernel
theorem dd_J_openHandle_16 : decode cd_J_openHandle 16 = .ok (.iload_n 2, 1) := by decide +kernel
theorem dd_J_openHandle_17 : decode cd_J_openHandle 17 = .ok (.putfield 118, 3) := by decide +kernel
theorem dd_J_openHandle_20 : decode cd_J_openHandle 20 = .ok (.aload 5, 2) := by decide +kernel
theorem dd_J_openHandle_22 : decode cd_J_openHandle 22 = .ok (.aload_n 0, 1) := by decide +kernel
theorem dd_J_openHandle_23 : decode cd_J_openHandle 23 = .ok (.getfield 21, 3) := by decide +kernel
theorem dd_J_openHandle_26 : decode cd_J_openHandle 26 = .ok (.iload_n 2, 1) := by decide +kernel
theorem dd_J_openHandle_27 : decode cd_J_openHandle 27 = .ok (.invokevirtual 191, 3) := by decide +kernel
theorem dd_J_openHandle_30 : decode cd_J_openHandle 30 = .ok (.putfield 271, 3) := by decide +kernel
theorem dd_J_openHandle_33 : decode cd_J_openHandle 33 = .ok (.aload 5, 2) := by decide +kernel
theorem dd_J_openHandle_35 : decode cd_J_openHandle 35 = .ok (.iload_n 3, 1) := by decide +kernel
theorem dd_J_openHandle_36 : decode cd_J_openHandle 36 = .ok (.putfield 109, 3) := by decide +kernel
theorem dd_J_openHandle_39 : decode cd_J_openHandle 39 = .ok (.aload 5, 2) := by decide +kernel
theorem dd_J_openHandle_41 : decode cd_J_openHandle 41 = .ok (.iload 4, 2) := by decide +kernel
theorem dd_J_openHandle_43 : decode cd_J_openHandle 43 = .ok (.putfield 115, 3) := by decide +kernel
theorem dd_J_openHandle_46 : decode cd_J_openHandle 46 = .ok (.iload_n 1, 1) := by decide +kernel
theorem dd_J_openHandle_47 : decode cd_J_openHandle 47 = .ok (.ireturn, 1) := by decide +kernel
theorem dd_J_close_0 : decode cd_J_close 0 = .ok (.iload_n 1, 1) := by decide +kernel
theorem dd_J_close_1 : decode cd_J_close 1 = .ok (.iconst 0, 1) := by decide +kernel
theorem dd_J_close_2 : decode cd_J_close 2 = .ok (.iconst 5, 1) := by decide +kernel
theorem dd_J_close_3 : decode cd_J_close 3 = .ok (.invokestatic 64, 3) := by decide +kernel
theorem dd_J_close_6 : decode cd_J_close 6 = .ok (.aload_n 0, 1) := by decide +kernel
theorem dd_J_close_7 : decode cd_J_close 7 = .ok (.getfield 27, 3) := by decide +kernel
theorem dd_J_close_10 : decode cd_J_close 10 = .ok (.iload_n 1, 1) := by decide +kernel
theorem dd_J_close_11 : decode cd_J_close 11 = .ok (.aaload, 1) := by decide +kernel
theorem dd_J_close_12 : decode cd_J_close 12 = .ok (.astore_n 2, 1) := by decide +kernel
theorem dd_J_close_13 : decode cd_J_close 13 = .ok (.aload_n 2, 1) := by decide +kernel
theorem dd_J_close_14 : decode cd_J_close 14 = .ok (.getfield 99, 3) := by decide +kernel
theorem dd_J_close_17 : decode cd_J_close 17 = .ok (.ifCond .ne 13, 3) := by decide +kernel
theorem dd_J_close_20 : decode cd_J_close 20 = .ok (.new 47, 3) := by decide +kernel
theorem dd_J_close_23 : decode cd_J_close 23 = .ok (.dup, 1) := by decide +kernel
theorem dd_J_close_24 : decode cd_J_close 24 = .ok (.ldc 103, 2) := by decide +kernel
theorem dd_J_close_26 : decode cd_J_close 26 = .ok (.invokespecial 51, 3) := by decide +kernel
theorem dd_J_close_29 : decode cd_J_close 29 = .ok (.athrow, 1) := by decide +kernel
theorem dd_J_close_30 : decode cd_J_close 30 = .ok (.aload_n 2, 1) := by decide +kernel
theorem dd_J_close_31 : decode cd_J_close 31 = .ok (.iconst 0, 1) := by decide +kernel
theorem dd_J_close_32 : decode cd_J_close 32 = .ok (.putfield 99, 3) := by decide +kernel
theorem dd_J_close_35 : decode cd_J_close 35 = .ok (.return_, 1) := by decide +kernel
theorem dd_J_write_0 : decode cd_J_write 0 = .ok (.iload_n 1, 1) := by decide +kernel
theorem dd_J_write_1 : decode cd_J_write 1 = .ok (.iconst 0, 1) := by decide +kernel
theorem dd_J_write_2 : decode cd_J_write 2 = .ok (.iconst 5, 1) := by decide +kernel
theorem dd_J_write_3 : decode cd_J_write 3 = .ok (.invokestatic 64, 3) := by decide +kernel
theorem dd_J_write_6 : decode cd_J_write 6 = .ok (.iload 4, 2) := by decide +kernel
theorem dd_J_write_8 : decode cd_J_write 8 = .ok (.iconst 0, 1) := by decide +kernel
theorem dd_J_write_9 : decode cd_J_write 9 = .ok (.bipush 8, 2) := by decide +kernel
theorem dd_J_write_11 : decode cd_J_write 11 = .ok (.invokestatic 64, 3) := by decide +kernel
theorem dd_J_write_14 : decode cd_J_write 14 = .ok (.aload_n 0, 1) := by decide +kernel
theorem dd_J_write_15 : decode cd_J_write 15 = .ok (.iload_n 1, 1) := by decide +kernel
theorem dd_J_write_16 : decode cd_J_write 16 = .ok (.invokevirtual 105, 3) := by decide +kernel
theorem dd_J_write_19 : decode cd_J_write 19 = .ok (.astore 5, 2) := by decide +kernel
theorem dd_J_write_21 : decode cd_J_write 21 = .ok (.aload 5, 2) := by decide +kernel
theorem dd_J_write_23 : decode cd_J_write 23 = .ok (.getfield 109, 3) := by decide +kernel
theorem dd_J_write_26 : decode cd_J_write 26 = .ok (.invokestatic 68, 3) := by decide +kernel
theorem dd_J_write_29 : decode cd_J_write 29 = .ok (.ifCond .ne 13, 3) := by decide +kernel
theorem dd_J_write_32 : decode cd_J_write 32 = .ok (.new 47, 3) := by decide +kernel
theorem dd_J_write_35 : decode cd_J_write 35 = .ok (.dup, 1) := by decide +kernel
theorem dd_J_write_36 : decode cd_J_write 36 = .ok (.ldc 113, 2) := by decide +kernel
theorem dd_J_write_38 : decode cd_J_write 38 = .ok (.invokespecial 51, 3) := by decide +kernel
theorem dd_J_write_41 : decode cd_J_write 41 = .ok (.athrow, 1) := by decide +kernel
theorem dd_J_write_42 : decode cd_J_write 42 = .ok (.iload 4, 2) := by decide +kernel
theorem dd_J_write_44 : decode cd_J_write 44 = .ok (.ifCond .ne 4, 3) := by decide +kernel
theorem dd_J_write_47 : decode cd_J_write 47 = .ok (.return_, 1) := by decide +kernel
theorem dd_J_write_48 : decode cd_J_write 48 = .ok (.aload 5, 2) := by decide +kernel
theorem dd_J_write_50 : decode cd_J_write 50 = .ok (.getfield 115, 3) := by decide +kernel
theorem dd_J_write_53 : decode cd_J_write 53 = .ok (.iload 4, 2) := by decide +kernel
theorem dd_J_write_55 : decode cd_J_write 55 = .ok (.iadd, 1) := by decide +kernel
theorem dd_J_write_56 : decode cd_J_write 56 = .ok (.istore 6, 2) := by decide +kernel
theorem dd_J_write_58 : decode cd_J_write 58 = .ok (.aload_n 0, 1) := by decide +kernel
theorem dd_J_write_59 : decode cd_J_write 59 = .ok (.getfield 21, 3) := by decide +kernel
theorem dd_J_write_62 : decode cd_J_write 62 = .ok (.aload 5, 2) := by decide +kernel
theorem dd_J_write_64 : decode cd_J_write 64 = .ok (.getfield 118, 3) := by decide +kernel
theorem dd_J_write_67 : decode cd_J_write 67 = .ok (.invokevirtual 96, 3) := by decide +kernel
theorem dd_J_write_70 : decode cd_J_write 70 = .ok (.iload 6, 2) := by decide +kernel
theorem dd_J_write_72 : decode cd_J_write 72 = .ok (.invokestatic 121, 3) := by decide +kernel
theorem dd_J_write_75 : decode cd_J_write 75 = .ok (.istore 7, 2) := by decide +kernel
theorem dd_J_write_77 : decode cd_J_write 77 = .ok (.aload_n 0, 1) := by decide +kernel
theorem dd_J_write_78 : decode cd_J_write 78 = .ok (.aload 5, 2) := by decide +kernel
theorem dd_J_write_80 : decode cd_J_write 80 = .ok (.getfield 118, 3) := by decide +kernel
theorem dd_J_write_83 : decode cd_J_write 83 = .ok (.iload 7, 2) := by decide +kernel
theorem dd_J_write_85 : decode cd_J_write 85 = .ok (.invokevirtual 127, 3) := by decide +kernel
theorem dd_J_write_88 : decode cd_J_write 88 = .ok (.aload_n 0, 1) := by decide +kernel
theorem dd_J_write_89 : decode cd_J_write 89 = .ok (.getfield 21, 3) := by decide +kernel
theorem dd_J_write_92 : decode cd_J_write 92 = .ok (.aload 5, 2) := by decide +kernel
theorem dd_J_write_94 : decode cd_J_write 94 = .ok (.getfield 118, 3) := by decide +kernel
theorem dd_J_write_97 : decode cd_J_write 97 = .ok (.iload 7, 2) := by decide +kernel
theorem dd_J_write_99 : decode cd_J_write 99 = .ok (.invokevirtual 93, 3) := by decide +kernel
theorem dd_J_write_102 : decode cd_J_write 102 = .ok (.iconst 0, 1) := by decide +kernel
theorem dd_J_write_103 : decode cd_J_write 103 = .ok (.istore 8, 2) := by decide +kernel
theorem dd_J_write_105 : decode cd_J_write 105 = .ok (.iload 8, 2) := by decide +kernel
theorem dd_J_write_107 : decode cd_J_write 107 = .ok (.iload 4, 2) := by decide +kernel
theorem dd_J_write_109 : decode cd_J_write 109 = .ok (.if_icmp .ge 41, 3) := by decide +kernel
theorem dd_J_write_112 : decode cd_J_write 112 = .ok (.aload_n 0, 1) := by decide +kernel
theorem dd_J_write_113 : decode cd_J_write 113 = .ok (.getfield 21, 3) := by decide +kernel
theorem dd_J_write_116 : decode cd_J_write 116 = .ok (.aload 5, 2) := by decide +kernel
theorem dd_J_write_118 : decode cd_J_write 118 = .ok (.getfield 118, 3) := by decide +kernel
theorem dd_J_write_121 : decode cd_J_write 121 = .ok (.aload 5, 2) := by decide +kernel
theorem dd_J_write_123 : decode cd_J_write 123 = .ok (.getfield 115, 3) := by decide +kernel
theorem dd_J_write_126 : decode cd_J_write 126 = .ok (.iload 8, 2) := by decide +kernel
theorem dd_J_write_128 : decode cd_J_write 128 = .ok (.iadd, 1) := by decide +kernel
theorem dd_J_write_129 : decode cd_J_write 129 = .ok (.lload_n 2, 1) := by decide +kernel
theorem dd_J_write_130 : decode cd_J_write 130 = .ok (.bipush 8, 2) := by decide +kernel
theorem dd_J_write_132 : decode cd_J_write 132 = .ok (.iload 8, 2) := by decide +kernel
theorem dd_J_write_134 : decode cd_J_write 134 = .ok (.imul, 1) := by decide +kernel
theorem dd_J_write_135 : decode cd_J_write 135 = .ok (.lushr, 1) := by decide +kernel
theorem dd_J_write_136 : decode cd_J_write 136 = .ok (.l2i, 1) := by decide +kernel
theorem dd_J_write_137 : decode cd_J_write 137 = .ok (.sipush 255, 3) := by decide +kernel
theorem dd_J_write_140 : decode cd_J_write 140 = .ok (.iand, 1) := by decide +kernel
theorem dd_J_write_141 : decode cd_J_write 141 = .ok (.invokevirtual 130, 3) := by decide +kernel
theorem dd_J_write_144 : decode cd_J_write 144 = .ok (.iinc 8 1, 3) := by decide +kernel
theorem dd_J_write_147 : decode cd_J_write 147 = .ok (.goto (-42), 3) := by decide +kernel
theorem dd_J_write_150 : decode cd_J_write 150 = .ok (.aload 5, 2) := by decide +kernel
theorem dd_J_write_152 : decode cd_J_write 152 = .ok (.iload 6, 2) := by decide +kernel
theorem dd_J_write_154 : decode cd_J_write 154 = .ok (.putfield 115, 3) := by decide +kernel
theorem dd_J_write_157 : decode cd_J_write 157 = .ok (.return_, 1) := by decide +kernel
theorem dd_J_usableHandle_0 : decode cd_J_usableHandle 0 = .ok (.aload_n 0, 1) := by decide +kernel
theorem dd_J_usableHandle_1 : decode cd_J_usableHandle 1 = .ok (.getfield 27, 3) := by decide +kernel
theorem dd_J_usableHandle_4 : decode cd_J_usableHandle 4 = .ok (.iload_n 1, 1) := by decide +kernel
theorem dd_J_usableHandle_5 : decode cd_J_usableHandle 5 = .ok (.aaload, 1) := by decide +kernel
theorem dd_J_usableHandle_6 : decode cd_J_usableHandle 6 = .ok (.astore_n 2, 1) := by decide +kernel
theorem dd_J_usableHandle_7 : decode cd_J_usableHandle 7 = .ok (.aload_n 2, 1) := by decide +kernel
theorem dd_J_usableHandle_8 : decode cd_J_usableHandle 8 = .ok (.getfield 99, 3) := by decide +kernel
theorem dd_J_usableHandle_11 : decode cd_J_usableHandle 11 = .ok (.ifCond .eq 11, 3) := by decide +kernel
theorem dd_J_usableHandle_14 : decode cd_J_usableHandle 14 = .ok (.aload_n 0, 1) := by decide +kernel
theorem dd_J_usableHandle_15 : decode cd_J_usableHandle 15 = .ok (.aload_n 2, 1) := by decide +kernel
theorem dd_J_usableHandle_16 : decode cd_J_usableHandle 16 = .ok (.invokevirtual 273, 3) := by decide +kernel
theorem dd_J_usableHandle_19 : decode cd_J_usableHandle 19 = .ok (.ifCond .eq 14, 3) := by decide +kernel
theorem dd_J_usableHandle_22 : decode cd_J_usableHandle 22 = .ok (.new 47, 3) := by decide +kernel
theorem dd_J_usableHandle_25 : decode cd_J_usableHandle 25 = .ok (.dup, 1) := by decide +kernel
theorem dd_J_usableHandle_26 : decode cd_J_usableHandle 26 = .ok (.ldc_w 277, 3) := by decide +kernel
theorem dd_J_usableHandle_29 : decode cd_J_usableHandle 29 = .ok (.invokespecial 51, 3) := by decide +kernel
theorem dd_J_usableHandle_32 : decode cd_J_usableHandle 32 = .ok (.athrow, 1) := by decide +kernel
theorem dd_J_usableHandle_33 : decode cd_J_usableHandle 33 = .ok (.aload_n 2, 1) := by decide +kernel
theorem dd_J_usableHandle_34 : decode cd_J_usableHandle 34 = .ok (.areturn, 1) := by decide +kernel
theorem dd_J_checkRoomForSize_0 : decode cd_J_checkRoomForSize 0 = .ok (.iload_n 2, 1) := by decide +kernel
theorem dd_J_checkRoomForSize_1 : decode cd_J_checkRoomForSize 1 = .ok (.bipush 64, 2) := by decide +kernel
theorem dd_J_checkRoomForSize_3 : decode cd_J_checkRoomForSize 3 = .ok (.if_icmp .gt 15, 3) := by decide +kernel
theorem dd_J_checkRoomForSize_6 : decode cd_J_checkRoomForSize 6 = .ok (.aload_n 0, 1) := by decide +kernel
theorem dd_J_checkRoomForSize_7 : decode cd_J_checkRoomForSize 7 = .ok (.getfield 21, 3) := by decide +kernel
theorem dd_J_checkRoomForSize_10 : decode cd_J_checkRoomForSize 10 = .ok (.iload_n 1, 1) := by decide +kernel
theorem dd_J_checkRoomForSize_11 : decode cd_J_checkRoomForSize 11 = .ok (.iload_n 2, 1) := by decide +kernel
theorem dd_J_checkRoomForSize_12 : decode cd_J_checkRoomForSize 12 = .ok (.invokevirtual 254, 3) := by decide +kernel
theorem dd_J_checkRoomForSize_15 : decode cd_J_checkRoomForSize 15 = .ok (.ifCond .ne 14, 3) := by decide +kernel
theorem dd_J_checkRoomForSize_18 : decode cd_J_checkRoomForSize 18 = .ok (.new 178, 3) := by decide +kernel
theorem dd_J_checkRoomForSize_21 : decode cd_J_checkRoomForSize 21 = .ok (.dup, 1) := by decide +kernel
theorem dd_J_checkRoomForSize_22 : decode cd_J_checkRoomForSize 22 = .ok (.ldc_w 257, 3) := by decide +kernel
theorem dd_J_checkRoomForSize_25 : decode cd_J_checkRoomForSize 25 = .ok (.invokespecial 182, 3) := by decide +kernel
theorem dd_J_checkRoomForSize_28 : decode cd_J_checkRoomForSize 28 = .ok (.athrow, 1) := by decide +kernel
theorem dd_J_checkRoomForSize_29 : decode cd_J_checkRoomForSize 29 = .ok (.return_, 1) := by decide +kernel
theorem dd_J_read_0 : decode cd_J_read 0 = .ok (.iload_n 1, 1) := by decide +kernel
theorem dd_J_read_1 : decode cd_J_read 1 = .ok (.iconst 0, 1) := by decide +kernel
theorem dd_J_read_2 : decode cd_J_read 2 = .ok (.iconst 5, 1) := by decide +kernel
theorem dd_J_read_3 : decode cd_J_read 3 = .ok (.invokestatic 64, 3) := by decide +kernel
theorem dd_J_read_6 : decode cd_J_read 6 = .ok (.iload_n 2, 1) := by decide +kernel
theorem dd_J_read_7 : decode cd_J_read 7 = .ok (.iconst 0, 1) := by decide +kernel
theorem dd_J_read_8 : decode cd_J_read 8 = .ok (.bipush 8, 2) := by decide +kernel
theorem dd_J_read_10 : decode cd_J_read 10 = .ok (.invokestatic 64, 3) := by decide +kernel
theorem dd_J_read_13 : decode cd_J_read 13 = .ok (.aload_n 0, 1) := by decide +kernel
theorem dd_J_read_14 : decode cd_J_read 14 = .ok (.iload_n 1, 1) := by decide +kernel
theorem dd_J_read_15 : decode cd_J_read 15 = .ok (.invokevirtual 105, 3) := by decide +kernel
theorem dd_J_read_18 : decode cd_J_read 18 = .ok (.astore_n 3, 1) := by decide +kernel
theorem dd_J_read_19 : decode cd_J_read 19 = .ok (.aload_n 3, 1) := by decide +kernel
theorem dd_J_read_20 : decode cd_J_read 20 = .ok (.getfield 109, 3) := by decide +kernel
theorem dd_J_read_23 : decode cd_J_read 23 = .ok (.invokestatic 133, 3) := by decide +kernel
theorem dd_J_read_26 : decode cd_J_read 26 = .ok (.ifCond .ne 13, 3) := by decide +kernel
theorem dd_J_read_29 : decode cd_J_read 29 = .ok (.new 47, 3) := by decide +kernel
theorem dd_J_read_32 : decode cd_J_read 32 = .ok (.dup, 1) := by decide +kernel
theorem dd_J_read_33 : decode cd_J_read 33 = .ok (.ldc 136, 2) := by decide +kernel
theorem dd_J_read_35 : decode cd_J_read 35 = .ok (.invokespecial 51, 3) := by decide +kernel
theorem dd_J_read_38 : decode cd_J_read 38 = .ok (.athrow, 1) := by decide +kernel
theorem dd_J_read_39 : decode cd_J_read 39 = .ok (.iconst 0, 1) := by decide +kernel
theorem dd_J_read_40 : decode cd_J_read 40 = .ok (.aload_n 0, 1) := by decide +kernel
theorem dd_J_read_41 : decode cd_J_read 41 = .ok (.getfield 21, 3) := by decide +kernel
theorem dd_J_read_44 : decode cd_J_read 44 = .ok (.aload_n 3, 1) := by decide +kernel
theorem dd_J_read_45 : decode cd_J_read 45 = .ok (.getfield 118, 3) := by decide +kernel
theorem dd_J_read_48 : decode cd_J_read 48 = .ok (.invokevirtual 96, 3) := by decide +kernel
theorem dd_J_read_51 : decode cd_J_read 51 = .ok (.aload_n 3, 1) := by decide +kernel
theorem dd_J_read_52 : decode cd_J_read 52 = .ok (.getfield 115, 3) := by decide +kernel
theorem dd_J_read_55 : decode cd_J_read 55 = .ok (.isub, 1) := by decide +kernel
theorem dd_J_read_56 : decode cd_J_read 56 = .ok (.invokestatic 121, 3) := by decide +kernel
theorem dd_J_read_59 : decode cd_J_read 59 = .ok (.istore 4, 2) := by decide +kernel
theorem dd_J_read_61 : decode cd_J_read 61 = .ok (.iload_n 2, 1) := by decide +kernel
theorem dd_J_read_62 : decode cd_J_read 62 = .ok (.iload 4, 2) := by decide +kernel
theorem dd_J_read_64 : decode cd_J_read 64 = .ok (.invokestatic 138, 3) := by decide +kernel
theorem dd_J_read_67 : decode cd_J_read 67 = .ok (.istore 5, 2) := by decide +kernel
theorem dd_J_read_69 : decode cd_J_read 69 = .ok (.lconst 0, 1) := by decide +kernel
theorem dd_J_read_70 : decode cd_J_read 70 = .ok (.lstore 6, 2) := by decide +kernel
theorem dd_J_read_72 : decode cd_J_read 72 = .ok (.iconst 0, 1) := by decide +kernel
theorem dd_J_read_73 : decode cd_J_read 73 = .ok (.istore 8, 2) := by decide +kernel
theorem dd_J_read_75 : decode cd_J_read 75 = .ok (.iload 8, 2) := by decide +kernel
theorem dd_J_read_77 : decode cd_J_read 77 = .ok (.iload 5, 2) := by decide +kernel
theorem dd_J_read_79 : decode cd_J_read 79 = .ok (.if_icmp .ge 39, 3) := by decide +kernel
theorem dd_J_read_82 : decode cd_J_read 82 = .ok (.lload 6, 2) := by decide +kernel
theorem dd_J_read_84 : decode cd_J_read 84 = .ok (.aload_n 0, 1) := by decide +kernel
theorem dd_J_read_85 : decode cd_J_read 85 = .ok (.getfield 21, 3) := by decide +kernel
theorem dd_J_read_88 : decode cd_J_read 88 = .ok (.aload_n 3, 1) := by decide +kernel
theorem dd_J_read_89 : decode cd_J_read 89 = .ok (.getfield 118, 3) := by decide +kernel
theorem dd_J_read_92 : decode cd_J_read 92 = .ok (.aload_n 3, 1) := by decide +kernel
theorem dd_J_read_93 : decode cd_J_read 93 = .ok (.getfield 115, 3) := by decide +kernel
theorem dd_J_read_96 : decode cd_J_read 96 = .ok (.iload 8, 2) := by decide +kernel
theorem dd_J_read_98 : decode cd_J_read 98 = .ok (.iadd, 1) := by decide +kernel
theorem dd_J_read_99 : decode cd_J_read 99 = .ok (.invokevirtual 141, 3) := by decide +kernel
theorem dd_J_read_102 : decode cd_J_read 102 = .ok (.i2l, 1) := by decide +kernel
theorem dd_J_read_103 : decode cd_J_read 103 = .ok (.bipush 8, 2) := by decide +kernel
theorem dd_J_read_105 : decode cd_J_read 105 = .ok (.iload 8, 2) := by decide +kernel
theorem dd_J_read_107 : decode cd_J_read 107 = .ok (.imul, 1) := by decide +kernel
theorem dd_J_read_108 : decode cd_J_read 108 = .ok (.lshl, 1) := by decide +kernel
theorem dd_J_read_109 : decode cd_J_read 109 = .ok (.lor, 1) := by decide +kernel
theorem dd_J_read_110 : decode cd_J_read 110 = .ok (.lstore 6, 2) := by decide +kernel
theorem dd_J_read_112 : decode cd_J_read 112 = .ok (.iinc 8 1, 3) := by decide +kernel
theorem dd_J_read_115 : decode cd_J_read 115 = .ok (.goto (-40), 3) := by decide +kernel
theorem dd_J_read_118 : decode cd_J_read 118 = .ok (.aload_n 3, 1) := by decide +kernel
theorem dd_J_read_119 : decode cd_J_read 119 = .ok (.dup, 1) := by decide +kernel
theorem dd_J_read_120 : decode cd_J_read 120 = .ok (.getfield 115, 3) := by decide +kernel
theorem dd_J_read_123 : decode cd_J_read 123 = .ok (.iload 5, 2) := by decide +kernel
theorem dd_J_read_125 : decode cd_J_read 125 = .ok (.iadd, 1) := by decide +kernel
theorem dd_J_read_126 : decode cd_J_read 126 = .ok (.putfield 115, 3) := by decide +kernel
theorem dd_J_read_129 : decode cd_J_read 129 = .ok (.lload 6, 2) := by decide +kernel
theorem dd_J_read_131 : decode cd_J_read 131 = .ok (.lreturn, 1) := by decide +kernel
theorem dd_J_readsBy_0 : decode cd_J_readsBy 0 = .ok (.iload_n 0, 1) := by decide +kernel
theorem dd_J_readsBy_1 : decode cd_J_readsBy 1 = .ok (.iconst 1, 1) := by decide +kernel
theorem dd_J_readsBy_2 : decode cd_J_readsBy 2 = .ok (.if_icmp .eq 8, 3) := by decide +kernel
theorem dd_J_readsBy_5 : decode cd_J_readsBy 5 = .ok (.iload_n 0, 1) := by decide +kernel
theorem dd_J_readsBy_6 : decode cd_J_readsBy 6 = .ok (.iconst 3, 1) := by decide +kernel
theorem dd_J_readsBy_7 : decode cd_J_readsBy 7 = .ok (.if_icmp .ne 7, 3) := by decide +kernel
theorem dd_J_readsBy_10 : decode cd_J_readsBy 10 = .ok (.iconst 1, 1) := by decide +kernel
theorem dd_J_readsBy_11 : decode cd_J_readsBy 11 = .ok (.goto 4, 3) := by decide +kernel
theorem dd_J_readsBy_14 : decode cd_J_readsBy 14 = .ok (.iconst 0, 1) := by decide +kernel
theorem dd_J_readsBy_15 : decode cd_J_readsBy 15 = .ok (.ireturn, 1) := by decide +kernel
theorem dd_J_seek_0 : decode cd_J_seek 0 = .ok (.iload_n 1, 1) := by decide +kernel
theorem dd_J_seek_1 : decode cd_J_seek 1 = .ok (.iconst 0, 1) := by decide +kernel
theorem dd_J_seek_2 : decode cd_J_seek 2 = .ok (.iconst 5, 1) := by decide +kernel
theorem dd_J_seek_3 : decode cd_J_seek 3 = .ok (.invokestatic 64, 3) := by decide +kernel
theorem dd_J_seek_6 : decode cd_J_seek 6 = .ok (.iload_n 2, 1) := by decide +kernel
theorem dd_J_seek_7 : decode cd_J_seek 7 = .ok (.iconst 0, 1) := by decide +kernel
theorem dd_J_seek_8 : decode cd_J_seek 8 = .ok (.bipush 64, 2) := by decide +kernel
theorem dd_J_seek_10 : decode cd_J_seek 10 = .ok (.invokestatic 64, 3) := by decide +kernel
theorem dd_J_seek_13 : decode cd_J_seek 13 = .ok (.aload_n 0, 1) := by decide +kernel
theorem dd_J_seek_14 : decode cd_J_seek 14 = .ok (.iload_n 1, 1) := by decide +kernel
theorem dd_J_seek_15 : decode cd_J_seek 15 = .ok (.invokevirtual 105, 3) := by decide +kernel
theorem dd_J_seek_18 : decode cd_J_seek 18 = .ok (.astore_n 3, 1) := by decide +kernel
theorem dd_J_seek_19 : decode cd_J_seek 19 = .ok (.aload_n 3, 1) := by decide +kernel
theorem dd_J_seek_20 : decode cd_J_seek 20 = .ok (.getfield 109, 3) := by decide +kernel
theorem dd_J_seek_23 : decode cd_J_seek 23 = .ok (.iconst 4, 1) := by decide +kernel
theorem dd_J_seek_24 : decode cd_J_seek 24 = .ok (.if_icmp .ne 13, 3) := by decide +kernel
theorem dd_J_seek_27 : decode cd_J_seek 27 = .ok (.new 47, 3) := by decide +kernel
theorem dd_J_seek_30 : decode cd_J_seek 30 = .ok (.dup, 1) := by decide +kernel
theorem dd_J_seek_31 : decode cd_J_seek 31 = .ok (.ldc 144, 2) := by decide +kernel
theorem dd_J_seek_33 : decode cd_J_seek 33 = .ok (.invokespecial 51, 3) := by decide +kernel
theorem dd_J_seek_36 : decode cd_J_seek 36 = .ok (.athrow, 1) := by decide +kernel
theorem dd_J_seek_37 : decode cd_J_seek 37 = .ok (.aload_n 3, 1) := by decide +kernel
theorem dd_J_seek_38 : decode cd_J_seek 38 = .ok (.iload_n 2, 1) := by decide +kernel
theorem dd_J_seek_39 : decode cd_J_seek 39 = .ok (.putfield 115, 3) := by decide +kernel
theorem dd_J_seek_42 : decode cd_J_seek 42 = .ok (.return_, 1) := by decide +kernel
theorem dd_J_next_0 : decode cd_J_next 0 = .ok (.iload_n 1, 1) := by decide +kernel
theorem dd_J_next_1 : decode cd_J_next 1 = .ok (.iconst 0, 1) := by decide +kernel
theorem dd_J_next_2 : decode cd_J_next 2 = .ok (.iconst 5, 1) := by decide +kernel
theorem dd_J_next_3 : decode cd_J_next 3 = .ok (.invokestatic 64, 3) := by decide +kernel
theorem dd_J_next_6 : decode cd_J_next 6 = .ok (.aload_n 0, 1) := by decide +kernel
theorem dd_J_next_7 : decode cd_J_next 7 = .ok (.iload_n 1, 1) := by decide +kernel
theorem dd_J_next_8 : decode cd_J_next 8 = .ok (.invokevirtual 105, 3) := by decide +kernel
theorem dd_J_next_11 : decode cd_J_next 11 = .ok (.astore_n 2, 1) := by decide +kernel
theorem dd_J_next_12 : decode cd_J_next 12 = .ok (.aload_n 2, 1) := by decide +kernel
theorem dd_J_next_13 : decode cd_J_next 13 = .ok (.getfield 109, 3) := by decide +kernel
theorem dd_J_next_16 : decode cd_J_next 16 = .ok (.iconst 4, 1) := by decide +kernel
theorem dd_J_next_17 : decode cd_J_next 17 = .ok (.if_icmp .eq 13, 3) := by decide +kernel
theorem dd_J_next_20 : decode cd_J_next 20 = .ok (.new 47, 3) := by decide +kernel
theorem dd_J_next_23 : decode cd_J_next 23 = .ok (.dup, 1) := by decide +kernel
theorem dd_J_next_24 : decode cd_J_next 24 = .ok (.ldc 146, 2) := by decide +kernel
theorem dd_J_next_26 : decode cd_J_next 26 = .ok (.invokespecial 51, 3) := by decide +kernel
theorem dd_J_next_29 : decode cd_J_next 29 = .ok (.athrow, 1) := by decide +kernel
theorem dd_J_next_30 : decode cd_J_next 30 = .ok (.aload_n 2, 1) := by decide +kernel
theorem dd_J_next_31 : decode cd_J_next 31 = .ok (.getfield 115, 3) := by decide +kernel
theorem dd_J_next_34 : decode cd_J_next 34 = .ok (.aload_n 0, 1) := by decide +kernel
theorem dd_J_next_35 : decode cd_J_next 35 = .ok (.getfield 21, 3) := by decide +kernel
theorem dd_J_next_38 : decode cd_J_next 38 = .ok (.aload_n 2, 1) := by decide +kernel
theorem dd_J_next_39 : decode cd_J_next 39 = .ok (.getfield 118, 3) := by decide +kernel
theorem dd_J_next_42 : decode cd_J_next 42 = .ok (.invokevirtual 148, 3) := by decide +kernel
theorem dd_J_next_45 : decode cd_J_next 45 = .ok (.if_icmp .lt 5, 3) := by decide +kernel
theorem dd_J_next_48 : decode cd_J_next 48 = .ok (.iconst 0, 1) := by decide +kernel
theorem dd_J_next_49 : decode cd_J_next 49 = .ok (.ireturn, 1) := by decide +kernel
theorem dd_J_next_50 : decode cd_J_next 50 = .ok (.aload_n 0, 1) := by decide +kernel
theorem dd_J_next_51 : decode cd_J_next 51 = .ok (.getfield 21, 3) := by decide +kernel
theorem dd_J_next_54 : decode cd_J_next 54 = .ok (.aload_n 2, 1) := by decide +kernel
theorem dd_J_next_55 : decode cd_J_next 55 = .ok (.getfield 118, 3) := by decide +kernel
theorem dd_J_next_58 : decode cd_J_next 58 = .ok (.aload_n 2, 1) := by decide +kernel
theorem dd_J_next_59 : decode cd_J_next 59 = .ok (.getfield 115, 3) := by decide +kernel
theorem dd_J_next_62 : decode cd_J_next 62 = .ok (.invokevirtual 151, 3) := by decide +kernel
theorem dd_J_next_65 : decode cd_J_next 65 = .ok (.istore_n 3, 1) := by decide +kernel
theorem dd_J_next_66 : decode cd_J_next 66 = .ok (.aload_n 2, 1) := by decide +kernel
theorem dd_J_next_67 : decode cd_J_next 67 = .ok (.dup, 1) := by decide +kernel
theorem dd_J_next_68 : decode cd_J_next 68 = .ok (.getfield 115, 3) := by decide +kernel
theorem dd_J_next_71 : decode cd_J_next 71 = .ok (.iconst 1, 1) := by decide +kernel
theorem dd_J_next_72 : decode cd_J_next 72 = .ok (.iadd, 1) := by decide +kernel
theorem dd_J_next_73 : decode cd_J_next 73 = .ok (.putfield 115, 3) := by decide +kernel
theorem dd_J_next_76 : decode cd_J_next 76 = .ok (.iload_n 3, 1) := by decide +kernel
theorem dd_J_next_77 : decode cd_J_next 77 = .ok (.ireturn, 1) := by decide +kernel
theorem dd_J_remove_0 : decode cd_J_remove 0 = .ok (.iload_n 1, 1) := by decide +kernel
theorem dd_J_remove_1 : decode cd_J_remove 1 = .ok (.invokestatic 39, 3) := by decide +kernel
theorem dd_J_remove_4 : decode cd_J_remove 4 = .ok (.aload_n 0, 1) := by decide +kernel
theorem dd_J_remove_5 : decode cd_J_remove 5 = .ok (.iload_n 1, 1) := by decide +kernel
theorem dd_J_remove_6 : decode cd_J_remove 6 = .ok (.invokevirtual 154, 3) := by decide +kernel
theorem dd_J_remove_9 : decode cd_J_remove 9 = .ok (.istore_n 2, 1) := by decide +kernel
theorem dd_J_remove_10 : decode cd_J_remove 10 = .ok (.iload_n 2, 1) := by decide +kernel
theorem dd_J_remove_11 : decode cd_J_remove 11 = .ok (.ifCond .ne 13, 3) := by decide +kernel
theorem dd_J_remove_14 : decode cd_J_remove 14 = .ok (.new 47, 3) := by decide +kernel
theorem dd_J_remove_17 : decode cd_J_remove 17 = .ok (.dup, 1) := by decide +kernel
theorem dd_J_remove_18 : decode cd_J_remove 18 = .ok (.ldc 157, 2) := by decide +kernel
theorem dd_J_remove_20 : decode cd_J_remove 20 = .ok (.invokespecial 51, 3) := by decide +kernel
theorem dd_J_remove_23 : decode cd_J_remove 23 = .ok (.athrow, 1) := by decide +kernel
theorem dd_J_remove_24 : decode cd_J_remove 24 = .ok (.aload_n 0, 1) := by decide +kernel
theorem dd_J_remove_25 : decode cd_J_remove 25 = .ok (.getfield 21, 3) := by decide +kernel
theorem dd_J_remove_28 : decode cd_J_remove 28 = .ok (.iload_n 2, 1) := by decide +kernel
theorem dd_J_remove_29 : decode cd_J_remove 29 = .ok (.invokevirtual 148, 3) := by decide +kernel
theorem dd_J_remove_32 : decode cd_J_remove 32 = .ok (.ifCond .le 13, 3) := by decide +kernel
theorem dd_J_remove_35 : decode cd_J_remove 35 = .ok (.new 47, 3) := by decide +kernel
theorem dd_J_remove_38 : decode cd_J_remove 38 = .ok (.dup, 1) := by decide +kernel
theorem dd_J_remove_39 : decode cd_J_remove 39 = .ok (.ldc 159, 2) := by decide +kernel
theorem dd_J_remove_41 : decode cd_J_remove 41 = .ok (.invokespecial 51, 3) := by decide +kernel
theorem dd_J_remove_44 : decode cd_J_remove 44 = .ok (.athrow, 1) := by decide +kernel
theorem dd_J_remove_45 : decode cd_J_remove 45 = .ok (.aload_n 0, 1) := by decide +kernel
theorem dd_J_remove_46 : decode cd_J_remove 46 = .ok (.getfield 21, 3) := by decide +kernel
theorem dd_J_remove_49 : decode cd_J_remove 49 = .ok (.aload_n 0, 1) := by decide +kernel
theorem dd_J_remove_50 : decode cd_J_remove 50 = .ok (.iload_n 1, 1) := by decide +kernel
theorem dd_J_remove_51 : decode cd_J_remove 51 = .ok (.invokestatic 161, 3) := by decide +kernel
theorem dd_J_remove_54 : decode cd_J_remove 54 = .ok (.invokevirtual 43, 3) := by decide +kernel
theorem dd_J_remove_57 : decode cd_J_remove 57 = .ok (.iload_n 1, 1) := by decide +kernel
theorem dd_J_remove_58 : decode cd_J_remove 58 = .ok (.sipush 255, 3) := by decide +kernel
theorem dd_J_remove_61 : decode cd_J_remove 61 = .ok (.iand, 1) := by decide +kernel
theorem dd_J_remove_62 : decode cd_J_remove 62 = .ok (.invokevirtual 164, 3) := by decide +kernel
theorem dd_J_remove_65 : decode cd_J_remove 65 = .ok (.aload_n 0, 1) := by decide +kernel
theorem dd_J_remove_66 : decode cd_J_remove 66 = .ok (.getfield 21, 3) := by decide +kernel
theorem dd_J_remove_69 : decode cd_J_remove 69 = .ok (.iload_n 2, 1) := by decide +kernel
theorem dd_J_remove_70 : decode cd_J_remove 70 = .ok (.invokevirtual 167, 3) := by decide +kernel
theorem dd_J_remove_73 : decode cd_J_remove 73 = .ok (.return_, 1) := by decide +kernel
theorem dd_J_inodeNeeded_0 : decode cd_J_inodeNeeded 0 = .ok (.aload_n 0, 1) := by decide +kernel
theorem dd_J_inodeNeeded_1 : decode cd_J_inodeNeeded 1 = .ok (.iload_n 1, 1) := by decide +kernel
theorem dd_J_inodeNeeded_2 : decode cd_J_inodeNeeded 2 = .ok (.invokevirtual 43, 3) := by decide +kernel
theorem dd_J_inodeNeeded_5 : decode cd_J_inodeNeeded 5 = .ok (.istore_n 2, 1) := by decide +kernel
theorem dd_J_inodeNeeded_6 : decode cd_J_inodeNeeded 6 = .ok (.iload_n 2, 1) := by decide +kernel
theorem dd_J_inodeNeeded_7 : decode cd_J_inodeNeeded 7 = .ok (.iconst (-1), 1) := by decide +kernel
theorem dd_J_inodeNeeded_8 : decode cd_J_inodeNeeded 8 = .ok (.if_icmp .ne 13, 3) := by decide +kernel
theorem dd_J_inodeNeeded_11 : decode cd_J_inodeNeeded 11 = .ok (.new 72, 3) := by decide +kernel
theorem dd_J_inodeNeeded_14 : decode cd_J_inodeNeeded 14 = .ok (.dup, 1) := by decide +kernel
theorem dd_J_inodeNeeded_15 : decode cd_J_inodeNeeded 15 = .ok (.ldc 242, 2) := by decide +kernel
theorem dd_J_inodeNeeded_17 : decode cd_J_inodeNeeded 17 = .ok (.invokespecial 76, 3) := by decide +kernel
theorem dd_J_inodeNeeded_20 : decode cd_J_inodeNeeded 20 = .ok (.athrow, 1) := by decide +kernel
theorem dd_J_inodeNeeded_21 : decode cd_J_inodeNeeded 21 = .ok (.iload_n 2, 1) := by decide +kernel
theorem dd_J_inodeNeeded_22 : decode cd_J_inodeNeeded 22 = .ok (.ireturn, 1) := by decide +kernel
theorem dd_J_rename_0 : decode cd_J_rename 0 = .ok (.iload_n 1, 1) := by decide +kernel
theorem dd_J_rename_1 : decode cd_J_rename 1 = .ok (.invokestatic 39, 3) := by decide +kernel
theorem dd_J_rename_4 : decode cd_J_rename 4 = .ok (.iload_n 2, 1) := by decide +kernel
theorem dd_J_rename_5 : decode cd_J_rename 5 = .ok (.invokestatic 39, 3) := by decide +kernel
theorem dd_J_rename_8 : decode cd_J_rename 8 = .ok (.aload_n 0, 1) := by decide +kernel
theorem dd_J_rename_9 : decode cd_J_rename 9 = .ok (.iload_n 1, 1) := by decide +kernel
theorem dd_J_rename_10 : decode cd_J_rename 10 = .ok (.invokevirtual 154, 3) := by decide +kernel
theorem dd_J_rename_13 : decode cd_J_rename 13 = .ok (.istore_n 3, 1) := by decide +kernel
theorem dd_J_rename_14 : decode cd_J_rename 14 = .ok (.aload_n 0, 1) := by decide +kernel
theorem dd_J_rename_15 : decode cd_J_rename 15 = .ok (.iload_n 2, 1) := by decide +kernel
theorem dd_J_rename_16 : decode cd_J_rename 16 = .ok (.invokevirtual 43, 3) := by decide +kernel
theorem dd_J_rename_19 : decode cd_J_rename 19 = .ok (.istore 4, 2) := by decide +kernel
theorem dd_J_rename_21 : decode cd_J_rename 21 = .ok (.aload_n 0, 1) := by decide +kernel
theorem dd_J_rename_22 : decode cd_J_rename 22 = .ok (.iload_n 2, 1) := by decide +kernel
theorem dd_J_rename_23 : decode cd_J_rename 23 = .ok (.invokevirtual 54, 3) := by decide +kernel
theorem dd_J_rename_26 : decode cd_J_rename 26 = .ok (.istore 5, 2) := by decide +kernel
theorem dd_J_rename_28 : decode cd_J_rename 28 = .ok (.aload_n 0, 1) := by decide +kernel
theorem dd_J_rename_29 : decode cd_J_rename 29 = .ok (.iload_n 1, 1) := by decide +kernel
theorem dd_J_rename_30 : decode cd_J_rename 30 = .ok (.iload_n 2, 1) := by decide +kernel
theorem dd_J_rename_31 : decode cd_J_rename 31 = .ok (.iload_n 3, 1) := by decide +kernel
theorem dd_J_rename_32 : decode cd_J_rename 32 = .ok (.iload 4, 2) := by decide +kernel
theorem dd_J_rename_34 : decode cd_J_rename 34 = .ok (.invokevirtual 170, 3) := by decide +kernel
theorem dd_J_rename_37 : decode cd_J_rename 37 = .ok (.aload_n 0, 1) := by decide +kernel
theorem dd_J_rename_38 : decode cd_J_rename 38 = .ok (.iload_n 1, 1) := by decide +kernel
theorem dd_J_rename_39 : decode cd_J_rename 39 = .ok (.invokestatic 161, 3) := by decide +kernel
theorem dd_J_rename_42 : decode cd_J_rename 42 = .ok (.invokevirtual 43, 3) := by decide +kernel
theorem dd_J_rename_45 : decode cd_J_rename 45 = .ok (.istore 6, 2) := by decide +kernel
theorem dd_J_rename_47 : decode cd_J_rename 47 = .ok (.iload 4, 2) := by decide +kernel
theorem dd_J_rename_49 : decode cd_J_rename 49 = .ok (.iconst (-1), 1) := by decide +kernel
theorem dd_J_rename_50 : decode cd_J_rename 50 = .ok (.if_icmp .ne 24, 3) := by decide +kernel
theorem dd_J_rename_53 : decode cd_J_rename 53 = .ok (.aload_n 0, 1) := by decide +kernel
theorem dd_J_rename_54 : decode cd_J_rename 54 = .ok (.iload 6, 2) := by decide +kernel
theorem dd_J_rename_56 : decode cd_J_rename 56 = .ok (.iload 5, 2) := by decide +kernel
theorem dd_J_rename_58 : decode cd_J_rename 58 = .ok (.invokevirtual 174, 3) := by decide +kernel
theorem dd_J_rename_61 : decode cd_J_rename 61 = .ok (.ifCond .ne 13, 3) := by decide +kernel
theorem dd_J_rename_64 : decode cd_J_rename 64 = .ok (.new 178, 3) := by decide +kernel
theorem dd_J_rename_67 : decode cd_J_rename 67 = .ok (.dup, 1) := by decide +kernel
theorem dd_J_rename_68 : decode cd_J_rename 68 = .ok (.ldc 180, 2) := by decide +kernel
theorem dd_J_rename_70 : decode cd_J_rename 70 = .ok (.invokespecial 182, 3) := by decide +kernel
theorem dd_J_rename_73 : decode cd_J_rename 73 = .ok (.athrow, 1) := by decide +kernel
theorem dd_J_rename_74 : decode cd_J_rename 74 = .ok (.aload_n 0, 1) := by decide +kernel
theorem dd_J_rename_75 : decode cd_J_rename 75 = .ok (.getfield 21, 3) := by decide +kernel
theorem dd_J_rename_78 : decode cd_J_rename 78 = .ok (.iload 6, 2) := by decide +kernel
theorem dd_J_rename_80 : decode cd_J_rename 80 = .ok (.iload_n 1, 1) := by decide +kernel
theorem dd_J_rename_81 : decode cd_J_rename 81 = .ok (.sipush 255, 3) := by decide +kernel
theorem dd_J_rename_84 : decode cd_J_rename 84 = .ok (.iand, 1) := by decide +kernel
theorem dd_J_rename_85 : decode cd_J_rename 85 = .ok (.invokevirtual 164, 3) := by decide +kernel
theorem dd_J_rename_88 : decode cd_J_rename 88 = .ok (.iload 4, 2) := by decide +kernel
theorem dd_J_rename_90 : decode cd_J_rename 90 = .ok (.iconst (-1), 1) := by decide +kernel
theorem dd_J_rename_91 : decode cd_J_rename 91 = .ok (.if_icmp .ne 21, 3) := by decide +kernel
theorem dd_J_rename_94 : decode cd_J_rename 94 = .ok (.aload_n 0, 1) := by decide +kernel
theorem dd_J_rename_95 : decode cd_J_rename 95 = .ok (.getfield 21, 3) := by decide +kernel
theorem dd_J_rename_98 : decode cd_J_rename 98 = .ok (.iload 5, 2) := by decide +kernel
theorem dd_J_rename_100 : decode cd_J_rename 100 = .ok (.iload_n 2, 1) := by decide +kernel
theorem dd_J_rename_101 : decode cd_J_rename 101 = .ok (.sipush 255, 3) := by decide +kernel
theorem dd_J_rename_104 : decode cd_J_rename 104 = .ok (.iand, 1) := by decide +kernel
theorem dd_J_rename_105 : decode cd_J_rename 105 = .ok (.iload_n 3, 1) := by decide +kernel
theorem dd_J_rename_106 : decode cd_J_rename 106 = .ok (.invokevirtual 183, 3) := by decide +kernel
theorem dd_J_rename_109 : decode cd_J_rename 109 = .ok (.goto 27, 3) := by decide +kernel
theorem dd_J_rename_112 : decode cd_J_rename 112 = .ok (.aload_n 0, 1) := by decide +kernel
theorem dd_J_rename_113 : decode cd_J_rename 113 = .ok (.getfield 21, 3) := by decide +kernel
theorem dd_J_rename_116 : decode cd_J_rename 116 = .ok (.iload 5, 2) := by decide +kernel
theorem dd_J_rename_118 : decode cd_J_rename 118 = .ok (.iload_n 2, 1) := by decide +kernel
theorem dd_J_rename_119 : decode cd_J_rename 119 = .ok (.sipush 255, 3) := by decide +kernel
theorem dd_J_rename_122 : decode cd_J_rename 122 = .ok (.iand, 1) := by decide +kernel
theorem dd_J_rename_123 : decode cd_J_rename 123 = .ok (.iload_n 3, 1) := by decide +kernel
theorem dd_J_rename_124 : decode cd_J_rename 124 = .ok (.invokevirtual 186, 3) := by decide +kernel
theorem dd_J_rename_127 : decode cd_J_rename 127 = .ok (.aload_n 0, 1) := by decide +kernel
theorem dd_J_rename_128 : decode cd_J_rename 128 = .ok (.getfield 21, 3) := by decide +kernel
theorem dd_J_rename_131 : decode cd_J_rename 131 = .ok (.iload 4, 2) := by decide +kernel
theorem dd_J_rename_133 : decode cd_J_rename 133 = .ok (.invokevirtual 167, 3) := by decide +kernel
theorem dd_J_rename_136 : decode cd_J_rename 136 = .ok (.return_, 1) := by decide +kernel
theorem dd_J_checkMove_0 : decode cd_J_checkMove 0 = .ok (.iload_n 1, 1) := by decide +kernel
theorem dd_J_checkMove_1 : decode cd_J_checkMove 1 = .ok (.ifCond .eq 15, 3) := by decide +kernel
theorem dd_J_checkMove_4 : decode cd_J_checkMove 4 = .ok (.iload_n 2, 1) := by decide +kernel
theorem dd_J_checkMove_5 : decode cd_J_checkMove 5 = .ok (.ifCond .eq 11, 3) := by decide +kernel
theorem dd_J_checkMove_8 : decode cd_J_checkMove 8 = .ok (.iload_n 2, 1) := by decide +kernel
theorem dd_J_checkMove_9 : decode cd_J_checkMove 9 = .ok (.iload_n 1, 1) := by decide +kernel
theorem dd_J_checkMove_10 : decode cd_J_checkMove 10 = .ok (.invokestatic 259, 3) := by decide +kernel
theorem dd_J_checkMove_13 : decode cd_J_checkMove 13 = .ok (.ifCond .eq 14, 3) := by decide +kernel
theorem dd_J_checkMove_16 : decode cd_J_checkMove 16 = .ok (.new 47, 3) := by decide +kernel
theorem dd_J_checkMove_19 : decode cd_J_checkMove 19 = .ok (.dup, 1) := by decide +kernel
theorem dd_J_checkMove_20 : decode cd_J_checkMove 20 = .ok (.ldc_w 262, 3) := by decide +kernel
theorem dd_J_checkMove_23 : decode cd_J_checkMove 23 = .ok (.invokespecial 51, 3) := by decide +kernel
theorem dd_J_checkMove_26 : decode cd_J_checkMove 26 = .ok (.athrow, 1) := by decide +kernel
theorem dd_J_checkMove_27 : decode cd_J_checkMove 27 = .ok (.iload 4, 2) := by decide +kernel
theorem dd_J_checkMove_29 : decode cd_J_checkMove 29 = .ok (.iconst (-1), 1) := by decide +kernel
theorem dd_J_checkMove_30 : decode cd_J_checkMove 30 = .ok (.if_icmp .ne 4, 3) := by decide +kernel
theorem dd_J_checkMove_33 : decode cd_J_checkMove 33 = .ok (.return_, 1) := by decide +kernel
theorem dd_J_checkMove_34 : decode cd_J_checkMove 34 = .ok (.aload_n 0, 1) := by decide +kernel
theorem dd_J_checkMove_35 : decode cd_J_checkMove 35 = .ok (.getfield 21, 3) := by decide +kernel
theorem dd_J_checkMove_38 : decode cd_J_checkMove 38 = .ok (.iload_n 3, 1) := by decide +kernel
theorem dd_J_checkMove_39 : decode cd_J_checkMove 39 = .ok (.invokevirtual 85, 3) := by decide +kernel
theorem dd_J_checkMove_42 : decode cd_J_checkMove 42 = .ok (.iconst 1, 1) := by decide +kernel
theorem dd_J_checkMove_43 : decode cd_J_checkMove 43 = .ok (.if_icmp .ne 16, 3) := by decide +kernel
theorem dd_J_checkMove_46 : decode cd_J_checkMove 46 = .ok (.aload_n 0, 1) := by decide +kernel
theorem dd_J_checkMove_47 : decode cd_J_checkMove 47 = .ok (.getfield 21, 3) := by decide +kernel
theorem dd_J_checkMove_50 : decode cd_J_checkMove 50 = .ok (.iload 4, 2) := by decide +kernel
theorem dd_J_checkMove_52 : decode cd_J_checkMove 52 = .ok (.invokevirtual 85, 3) := by decide +kernel
theorem dd_J_checkMove_55 : decode cd_J_checkMove 55 = .ok (.iconst 1, 1) := by decide +kernel
theorem dd_J_checkMove_56 : decode cd_J_checkMove 56 = .ok (.if_icmp .eq 14, 3) := by decide +kernel
theorem dd_J_checkMove_59 : decode cd_J_checkMove 59 = .ok (.new 47, 3) := by decide +kernel
theorem dd_J_checkMove_62 : decode cd_J_checkMove 62 = .ok (.dup, 1) := by decide +kernel
theorem dd_J_checkMove_63 : decode cd_J_checkMove 63 = .ok (.ldc_w 264, 3) := by decide +kernel
theorem dd_J_checkMove_66 : decode cd_J_checkMove 66 = .ok (.invokespecial 51, 3) := by decide +kernel
theorem dd_J_checkMove_69 : decode cd_J_checkMove 69 = .ok (.athrow, 1) := by decide +kernel
theorem dd_J_checkMove_70 : decode cd_J_checkMove 70 = .ok (.return_, 1) := by decide +kernel
theorem dd_J_isAtOrBelow_0 : decode cd_J_isAtOrBelow 0 = .ok (.iload_n 0, 1) := by decide +kernel
theorem dd_J_isAtOrBelow_1 : decode cd_J_isAtOrBelow 1 = .ok (.istore_n 2, 1) := by decide +kernel
theorem dd_J_isAtOrBelow_2 : decode cd_J_isAtOrBelow 2 = .ok (.iconst 0, 1) := by decide +kernel
theorem dd_J_isAtOrBelow_3 : decode cd_J_isAtOrBelow 3 = .ok (.istore_n 3, 1) := by decide +kernel
theorem dd_J_isAtOrBelow_4 : decode cd_J_isAtOrBelow 4 = .ok (.iload_n 3, 1) := by decide +kernel
theorem dd_J_isAtOrBelow_5 : decode cd_J_isAtOrBelow 5 = .ok (.iconst 4, 1) := by decide +kernel
theorem dd_J_isAtOrBelow_6 : decode cd_J_isAtOrBelow 6 = .ok (.if_icmp .ge 21, 3) := by decide +kernel
theorem dd_J_isAtOrBelow_9 : decode cd_J_isAtOrBelow 9 = .ok (.iload_n 2, 1) := by decide +kernel
theorem dd_J_isAtOrBelow_10 : decode cd_J_isAtOrBelow 10 = .ok (.iload_n 1, 1) := by decide +kernel
theorem dd_J_isAtOrBelow_11 : decode cd_J_isAtOrBelow 11 = .ok (.if_icmp .ne 5, 3) := by decide +kernel
theorem dd_J_isAtOrBelow_14 : decode cd_J_isAtOrBelow 14 = .ok (.iconst 1, 1) := by decide +kernel
theorem dd_J_isAtOrBelow_15 : decode cd_J_isAtOrBelow 15 = .ok (.ireturn, 1) := by decide +kernel
theorem dd_J_isAtOrBelow_16 : decode cd_J_isAtOrBelow 16 = .ok (.iload_n 2, 1) := by decide +kernel
theorem dd_J_isAtOrBelow_17 : decode cd_J_isAtOrBelow 17 = .ok (.invokestatic 161, 3) := by decide +kernel
theorem dd_J_isAtOrBelow_20 : decode cd_J_isAtOrBelow 20 = .ok (.istore_n 2, 1) := by decide +kernel
theorem dd_J_isAtOrBelow_21 : decode cd_J_isAtOrBelow 21 = .ok (.iinc 3 1, 3) := by decide +kernel
theorem dd_J_isAtOrBelow_24 : decode cd_J_isAtOrBelow 24 = .ok (.goto (-20), 3) := by decide +kernel
theorem dd_J_isAtOrBelow_27 : decode cd_J_isAtOrBelow 27 = .ok (.iload_n 1, 1) := by decide +kernel
theorem dd_J_isAtOrBelow_28 : decode cd_J_isAtOrBelow 28 = .ok (.ifCond .ne 7, 3) := by decide +kernel
theorem dd_J_isAtOrBelow_31 : decode cd_J_isAtOrBelow 31 = .ok (.iconst 1, 1) := by decide +kernel
theorem dd_J_isAtOrBelow_32 : decode cd_J_isAtOrBelow 32 = .ok (.goto 4, 3) := by decide +kernel
theorem dd_J_isAtOrBelow_35 : decode cd_J_isAtOrBelow 35 = .ok (.iconst 0, 1) := by decide +kernel
theorem dd_J_isAtOrBelow_36 : decode cd_J_isAtOrBelow 36 = .ok (.ireturn, 1) := by decide +kernel
theorem dd_J_hasRoomAfterLeaving_0 : decode cd_J_hasRoomAfterLeaving 0 = .ok (.aload_n 0, 1) := by decide +kernel
theorem dd_J_hasRoomAfterLeaving_1 : decode cd_J_hasRoomAfterLeaving 1 = .ok (.getfield 21, 3) := by decide +kernel
theorem dd_J_hasRoomAfterLeaving_4 : decode cd_J_hasRoomAfterLeaving 4 = .ok (.iload_n 1, 1) := by decide +kernel
theorem dd_J_hasRoomAfterLeaving_5 : decode cd_J_hasRoomAfterLeaving 5 = .ok (.invokevirtual 148, 3) := by decide +kernel
theorem dd_J_hasRoomAfterLeaving_8 : decode cd_J_hasRoomAfterLeaving 8 = .ok (.iconst 1, 1) := by decide +kernel
theorem dd_J_hasRoomAfterLeaving_9 : decode cd_J_hasRoomAfterLeaving 9 = .ok (.isub, 1) := by decide +kernel
theorem dd_J_hasRoomAfterLeaving_10 : decode cd_J_hasRoomAfterLeaving 10 = .ok (.istore_n 3, 1) := by decide +kernel
theorem dd_J_hasRoomAfterLeaving_11 : decode cd_J_hasRoomAfterLeaving 11 = .ok (.iload_n 1, 1) := by decide +kernel
theorem dd_J_hasRoomAfterLeaving_12 : decode cd_J_hasRoomAfterLeaving 12 = .ok (.iload_n 2, 1) := by decide +kernel
theorem dd_J_hasRoomAfterLeaving_13 : decode cd_J_hasRoomAfterLeaving 13 = .ok (.if_icmp .ne 7, 3) := by decide +kernel
theorem dd_J_hasRoomAfterLeaving_16 : decode cd_J_hasRoomAfterLeaving 16 = .ok (.iload_n 3, 1) := by decide +kernel
theorem dd_J_hasRoomAfterLeaving_17 : decode cd_J_hasRoomAfterLeaving 17 = .ok (.goto 11, 3) := by decide +kernel
theorem dd_J_hasRoomAfterLeaving_20 : decode cd_J_hasRoomAfterLeaving 20 = .ok (.aload_n 0, 1) := by decide +kernel
theorem dd_J_hasRoomAfterLeaving_21 : decode cd_J_hasRoomAfterLeaving 21 = .ok (.getfield 21, 3) := by decide +kernel
theorem dd_J_hasRoomAfterLeaving_24 : decode cd_J_hasRoomAfterLeaving 24 = .ok (.iload_n 2, 1) := by decide +kernel
theorem dd_J_hasRoomAfterLeaving_25 : decode cd_J_hasRoomAfterLeaving 25 = .ok (.invokevirtual 148, 3) := by decide +kernel
theorem dd_J_hasRoomAfterLeaving_28 : decode cd_J_hasRoomAfterLeaving 28 = .ok (.istore 4, 2) := by decide +kernel
theorem dd_J_hasRoomAfterLeaving_30 : decode cd_J_hasRoomAfterLeaving 30 = .ok (.iload 4, 2) := by decide +kernel
theorem dd_J_hasRoomAfterLeaving_32 : decode cd_J_hasRoomAfterLeaving 32 = .ok (.bipush 16, 2) := by decide +kernel
theorem dd_J_hasRoomAfterLeaving_34 : decode cd_J_hasRoomAfterLeaving 34 = .ok (.if_icmp .lt 5, 3) := by decide +kernel
theorem dd_J_hasRoomAfterLeaving_37 : decode cd_J_hasRoomAfterLeaving 37 = .ok (.iconst 0, 1) := by decide +kernel
theorem dd_J_hasRoomAfterLeaving_38 : decode cd_J_hasRoomAfterLeaving 38 = .ok (.ireturn, 1) := by decide +kernel
theorem dd_J_hasRoomAfterLeaving_39 : decode cd_J_hasRoomAfterLeaving 39 = .ok (.iload_n 3, 1) := by decide +kernel
theorem dd_J_hasRoomAfterLeaving_40 : decode cd_J_hasRoomAfterLeaving 40 = .ok (.invokestatic 266, 3) := by decide +kernel
theorem dd_J_hasRoomAfterLeaving_43 : decode cd_J_hasRoomAfterLeaving 43 = .ok (.ifCond .eq 7, 3) := by decide +kernel
theorem dd_J_hasRoomAfterLeaving_46 : decode cd_J_hasRoomAfterLeaving 46 = .ok (.iconst 1, 1) := by decide +kernel
theorem dd_J_hasRoomAfterLeaving_47 : decode cd_J_hasRoomAfterLeaving 47 = .ok (.goto 4, 3) := by decide +kernel
theorem dd_J_hasRoomAfterLeaving_50 : decode cd_J_hasRoomAfterLeaving 50 = .ok (.iconst 0, 1) := by decide +kernel
theorem dd_J_hasRoomAfterLeaving_51 : decode cd_J_hasRoomAfterLeaving 51 = .ok (.istore 5, 2) := by decide +kernel
theorem dd_J_hasRoomAfterLeaving_53 : decode cd_J_hasRoomAfterLeaving 53 = .ok (.iload 4, 2) := by decide +kernel
theorem dd_J_hasRoomAfterLeaving_55 : decode cd_J_hasRoomAfterLeaving 55 = .ok (.invokestatic 266, 3) := by decide +kernel
theorem dd_J_hasRoomAfterLeaving_58 : decode cd_J_hasRoomAfterLeaving 58 = .ok (.ifCond .eq 16, 3) := by decide +kernel
theorem dd_J_hasRoomAfterLeaving_61 : decode cd_J_hasRoomAfterLeaving 61 = .ok (.aload_n 0, 1) := by decide +kernel
theorem dd_J_hasRoomAfterLeaving_62 : decode cd_J_hasRoomAfterLeaving 62 = .ok (.getfield 12, 3) := by decide +kernel
theorem dd_J_hasRoomAfterLeaving_65 : decode cd_J_hasRoomAfterLeaving 65 = .ok (.invokevirtual 214, 3) := by decide +kernel
theorem dd_J_hasRoomAfterLeaving_68 : decode cd_J_hasRoomAfterLeaving 68 = .ok (.iload 5, 2) := by decide +kernel
theorem dd_J_hasRoomAfterLeaving_70 : decode cd_J_hasRoomAfterLeaving 70 = .ok (.iadd, 1) := by decide +kernel
theorem dd_J_hasRoomAfterLeaving_71 : decode cd_J_hasRoomAfterLeaving 71 = .ok (.ifCond .le 7, 3) := by decide +kernel
theorem dd_J_hasRoomAfterLeaving_74 : decode cd_J_hasRoomAfterLeaving 74 = .ok (.iconst 1, 1) := by decide +kernel
theorem dd_J_hasRoomAfterLeaving_75 : decode cd_J_hasRoomAfterLeaving 75 = .ok (.goto 4, 3) := by decide +kernel
theorem dd_J_hasRoomAfterLeaving_78 : decode cd_J_hasRoomAfterLeaving 78 = .ok (.iconst 0, 1) := by decide +kernel
theorem dd_J_hasRoomAfterLeaving_79 : decode cd_J_hasRoomAfterLeaving 79 = .ok (.ireturn, 1) := by decide +kernel
theorem dd_J_truncate_0 : decode cd_J_truncate 0 = .ok (.iload_n 1, 1) := by decide +kernel
theorem dd_J_truncate_1 : decode cd_J_truncate 1 = .ok (.invokestatic 39, 3) := by decide +kernel
theorem dd_J_truncate_4 : decode cd_J_truncate 4 = .ok (.iload_n 2, 1) := by decide +kernel
theorem dd_J_truncate_5 : decode cd_J_truncate 5 = .ok (.iconst 0, 1) := by decide +kernel
theorem dd_J_truncate_6 : decode cd_J_truncate 6 = .ok (.bipush 64, 2) := by decide +kernel
theorem dd_J_truncate_8 : decode cd_J_truncate 8 = .ok (.invokestatic 64, 3) := by decide +kernel
theorem dd_J_truncate_11 : decode cd_J_truncate 11 = .ok (.aload_n 0, 1) := by decide +kernel
theorem dd_J_truncate_12 : decode cd_J_truncate 12 = .ok (.iload_n 1, 1) := by decide +kernel
theorem dd_J_truncate_13 : decode cd_J_truncate 13 = .ok (.invokevirtual 154, 3) := by decide +kernel
theorem dd_J_truncate_16 : decode cd_J_truncate 16 = .ok (.istore_n 3, 1) := by decide +kernel
theorem dd_J_truncate_17 : decode cd_J_truncate 17 = .ok (.aload_n 0, 1) := by decide +kernel
theorem dd_J_truncate_18 : decode cd_J_truncate 18 = .ok (.getfield 21, 3) := by decide +kernel
theorem dd_J_truncate_21 : decode cd_J_truncate 21 = .ok (.iload_n 3, 1) := by decide +kernel
theorem dd_J_truncate_22 : decode cd_J_truncate 22 = .ok (.invokevirtual 85, 3) := by decide +kernel
theorem dd_J_truncate_25 : decode cd_J_truncate 25 = .ok (.iconst 1, 1) := by decide +kernel
theorem dd_J_truncate_26 : decode cd_J_truncate 26 = .ok (.if_icmp .eq 13, 3) := by decide +kernel
theorem dd_J_truncate_29 : decode cd_J_truncate 29 = .ok (.new 47, 3) := by decide +kernel
theorem dd_J_truncate_32 : decode cd_J_truncate 32 = .ok (.dup, 1) := by decide +kernel
theorem dd_J_truncate_33 : decode cd_J_truncate 33 = .ok (.ldc 189, 2) := by decide +kernel
theorem dd_J_truncate_35 : decode cd_J_truncate 35 = .ok (.invokespecial 51, 3) := by decide +kernel
theorem dd_J_truncate_38 : decode cd_J_truncate 38 = .ok (.athrow, 1) := by decide +kernel
theorem dd_J_truncate_39 : decode cd_J_truncate 39 = .ok (.aload_n 0, 1) := by decide +kernel
theorem dd_J_truncate_40 : decode cd_J_truncate 40 = .ok (.iload_n 3, 1) := by decide +kernel
theorem dd_J_truncate_41 : decode cd_J_truncate 41 = .ok (.iload_n 2, 1) := by decide +kernel
theorem dd_J_truncate_42 : decode cd_J_truncate 42 = .ok (.invokevirtual 127, 3) := by decide +kernel
theorem dd_J_truncate_45 : decode cd_J_truncate 45 = .ok (.aload_n 0, 1) := by decide +kernel
theorem dd_J_truncate_46 : decode cd_J_truncate 46 = .ok (.getfield 21, 3) := by decide +kernel
theorem dd_J_truncate_49 : decode cd_J_truncate 49 = .ok (.iload_n 3, 1) := by decide +kernel
theorem dd_J_truncate_50 : decode cd_J_truncate 50 = .ok (.iload_n 2, 1) := by decide +kernel
theorem dd_J_truncate_51 : decode cd_J_truncate 51 = .ok (.invokevirtual 93, 3) := by decide +kernel
theorem dd_J_truncate_54 : decode cd_J_truncate 54 = .ok (.return_, 1) := by decide +kernel
theorem dd_J_stat_0 : decode cd_J_stat 0 = .ok (.iload_n 1, 1) := by decide +kernel
theorem dd_J_stat_1 : decode cd_J_stat 1 = .ok (.invokestatic 39, 3) := by decide +kernel
theorem dd_J_stat_4 : decode cd_J_stat 4 = .ok (.iload_n 2, 1) := by decide +kernel
theorem dd_J_stat_5 : decode cd_J_stat 5 = .ok (.iconst 0, 1) := by decide +kernel
theorem dd_J_stat_6 : decode cd_J_stat 6 = .ok (.iconst 4, 1) := by decide +kernel
theorem dd_J_stat_7 : decode cd_J_stat 7 = .ok (.invokestatic 64, 3) := by decide +kernel
theorem dd_J_stat_10 : decode cd_J_stat 10 = .ok (.aload_n 0, 1) := by decide +kernel
theorem dd_J_stat_11 : decode cd_J_stat 11 = .ok (.iload_n 1, 1) := by decide +kernel
theorem dd_J_stat_12 : decode cd_J_stat 12 = .ok (.invokevirtual 154, 3) := by decide +kernel
theorem dd_J_stat_15 : decode cd_J_stat 15 = .ok (.istore_n 3, 1) := by decide +kernel
theorem dd_J_stat_16 : decode cd_J_stat 16 = .ok (.iload_n 2, 1) := by decide +kernel
theorem dd_J_stat_17 : decode cd_J_stat 17 = .ok (.tableswitch 60 0 3 #[31, 40, 49, 51], 31) := by decide +kernel
theorem dd_J_stat_48 : decode cd_J_stat 48 = .ok (.aload_n 0, 1) := by decide +kernel
theorem dd_J_stat_49 : decode cd_J_stat 49 = .ok (.getfield 21, 3) := by decide +kernel
theorem dd_J_stat_52 : decode cd_J_stat 52 = .ok (.iload_n 3, 1) := by decide +kernel
theorem dd_J_stat_53 : decode cd_J_stat 53 = .ok (.invokevirtual 85, 3) := by decide +kernel
theorem dd_J_stat_56 : decode cd_J_stat 56 = .ok (.ireturn, 1) := by decide +kernel
theorem dd_J_stat_57 : decode cd_J_stat 57 = .ok (.aload_n 0, 1) := by decide +kernel
theorem dd_J_stat_58 : decode cd_J_stat 58 = .ok (.getfield 21, 3) := by decide +kernel
theorem dd_J_stat_61 : decode cd_J_stat 61 = .ok (.iload_n 3, 1) := by decide +kernel
theorem dd_J_stat_62 : decode cd_J_stat 62 = .ok (.invokevirtual 96, 3) := by decide +kernel
theorem dd_J_stat_65 : decode cd_J_stat 65 = .ok (.ireturn, 1) := by decide +kernel
theorem dd_J_stat_66 : decode cd_J_stat 66 = .ok (.iload_n 3, 1) := by decide +kernel
theorem dd_J_stat_67 : decode cd_J_stat 67 = .ok (.ireturn, 1) := by decide +kernel
theorem dd_J_stat_68 : decode cd_J_stat 68 = .ok (.aload_n 0, 1) := by decide +kernel
theorem dd_J_stat_69 : decode cd_J_stat 69 = .ok (.getfield 21, 3) := by decide +kernel
theorem dd_J_stat_72 : decode cd_J_stat 72 = .ok (.iload_n 3, 1) := by decide +kernel
theorem dd_J_stat_73 : decode cd_J_stat 73 = .ok (.invokevirtual 191, 3) := by decide +kernel
theorem dd_J_stat_76 : decode cd_J_stat 76 = .ok (.ireturn, 1) := by decide +kernel
theorem dd_J_stat_77 : decode cd_J_stat 77 = .ok (.aload_n 0, 1) := by decide +kernel
theorem dd_J_stat_78 : decode cd_J_stat 78 = .ok (.getfield 21, 3) := by decide +kernel
theorem dd_J_stat_81 : decode cd_J_stat 81 = .ok (.iload_n 3, 1) := by decide +kernel
theorem dd_J_stat_82 : decode cd_J_stat 82 = .ok (.invokevirtual 148, 3) := by decide +kernel
theorem dd_J_stat_85 : decode cd_J_stat 85 = .ok (.ireturn, 1) := by decide +kernel
theorem dd_J_commit_0 : decode cd_J_commit 0 = .ok (.aload_n 0, 1) := by decide +kernel
theorem dd_J_commit_1 : decode cd_J_commit 1 = .ok (.getfield 12, 3) := by decide +kernel
theorem dd_J_commit_4 : decode cd_J_commit 4 = .ok (.invokevirtual 194, 3) := by decide +kernel
theorem dd_J_commit_7 : decode cd_J_commit 7 = .ok (.istore_n 1, 1) := by decide +kernel
theorem dd_J_commit_8 : decode cd_J_commit 8 = .ok (.iload_n 1, 1) := by decide +kernel
theorem dd_J_commit_9 : decode cd_J_commit 9 = .ok (.ifCond .ne 7, 3) := by decide +kernel
theorem dd_J_commit_12 : decode cd_J_commit 12 = .ok (.iconst 0, 1) := by decide +kernel
theorem dd_J_commit_13 : decode cd_J_commit 13 = .ok (.goto 6, 3) := by decide +kernel
theorem dd_J_commit_16 : decode cd_J_commit 16 = .ok (.iload_n 1, 1) := by decide +kernel
theorem dd_J_commit_17 : decode cd_J_commit 17 = .ok (.iconst 1, 1) := by decide +kernel
theorem dd_J_commit_18 : decode cd_J_commit 18 = .ok (.iadd, 1) := by decide +kernel
theorem dd_J_commit_19 : decode cd_J_commit 19 = .ok (.istore_n 2, 1) := by decide +kernel
theorem dd_J_commit_20 : decode cd_J_commit 20 = .ok (.iload_n 2, 1) := by decide +kernel
theorem dd_J_commit_21 : decode cd_J_commit 21 = .ok (.iload_n 1, 1) := by decide +kernel
theorem dd_J_commit_22 : decode cd_J_commit 22 = .ok (.iadd, 1) := by decide +kernel
theorem dd_J_commit_23 : decode cd_J_commit 23 = .ok (.istore_n 3, 1) := by decide +kernel
theorem dd_J_commit_24 : decode cd_J_commit 24 = .ok (.aload_n 0, 1) := by decide +kernel
theorem dd_J_commit_25 : decode cd_J_commit 25 = .ok (.getfield 197, 3) := by decide +kernel
theorem dd_J_commit_28 : decode cd_J_commit 28 = .ok (.ifCond .le 72, 3) := by decide +kernel
theorem dd_J_commit_31 : decode cd_J_commit 31 = .ok (.aload_n 0, 1) := by decide +kernel
theorem dd_J_commit_32 : decode cd_J_commit 32 = .ok (.getfield 197, 3) := by decide +kernel
theorem dd_J_commit_35 : decode cd_J_commit 35 = .ok (.iload_n 3, 1) := by decide +kernel
theorem dd_J_commit_36 : decode cd_J_commit 36 = .ok (.if_icmp .gt 64, 3) := by decide +kernel
theorem dd_J_commit_39 : decode cd_J_commit 39 = .ok (.aload_n 0, 1) := by decide +kernel
theorem dd_J_commit_40 : decode cd_J_commit 40 = .ok (.getfield 197, 3) := by decide +kernel
theorem dd_J_commit_43 : decode cd_J_commit 43 = .ok (.iload_n 2, 1) := by decide +kernel
theorem dd_J_commit_44 : decode cd_J_commit 44 = .ok (.if_icmp .le 7, 3) := by decide +kernel
theorem dd_J_commit_47 : decode cd_J_commit 47 = .ok (.iconst 1, 1) := by decide +kernel
theorem dd_J_commit_48 : decode cd_J_commit 48 = .ok (.goto 4, 3) := by decide +kernel
theorem dd_J_commit_51 : decode cd_J_commit 51 = .ok (.iconst 0, 1) := by decide +kernel
theorem dd_J_commit_52 : decode cd_J_commit 52 = .ok (.istore 4, 2) := by decide +kernel
theorem dd_J_commit_54 : decode cd_J_commit 54 = .ok (.aload_n 0, 1) := by decide +kernel
theorem dd_J_commit_55 : decode cd_J_commit 55 = .ok (.dup, 1) := by decide +kernel
theorem dd_J_commit_56 : decode cd_J_commit 56 = .ok (.getfield 200, 3) := by decide +kernel
theorem dd_J_commit_59 : decode cd_J_commit 59 = .ok (.aload_n 0, 1) := by decide +kernel
theorem dd_J_commit_60 : decode cd_J_commit 60 = .ok (.getfield 197, 3) := by decide +kernel
theorem dd_J_commit_63 : decode cd_J_commit 63 = .ok (.iconst 1, 1) := by decide +kernel
theorem dd_J_commit_64 : decode cd_J_commit 64 = .ok (.isub, 1) := by decide +kernel
theorem dd_J_commit_65 : decode cd_J_commit 65 = .ok (.iadd, 1) := by decide +kernel
theorem dd_J_commit_66 : decode cd_J_commit 66 = .ok (.putfield 200, 3) := by decide +kernel
theorem dd_J_commit_69 : decode cd_J_commit 69 = .ok (.aload_n 0, 1) := by decide +kernel
theorem dd_J_commit_70 : decode cd_J_commit 70 = .ok (.iconst 0, 1) := by decide +kernel
theorem dd_J_commit_71 : decode cd_J_commit 71 = .ok (.putfield 197, 3) := by decide +kernel
theorem dd_J_commit_74 : decode cd_J_commit 74 = .ok (.iload 4, 2) := by decide +kernel
theorem dd_J_commit_76 : decode cd_J_commit 76 = .ok (.ifCond .eq 10, 3) := by decide +kernel
theorem dd_J_commit_79 : decode cd_J_commit 79 = .ok (.aload_n 0, 1) := by decide +kernel
theorem dd_J_commit_80 : decode cd_J_commit 80 = .ok (.getfield 12, 3) := by decide +kernel
theorem dd_J_commit_83 : decode cd_J_commit 83 = .ok (.invokevirtual 36, 3) := by decide +kernel
theorem dd_J_commit_86 : decode cd_J_commit 86 = .ok (.aload_n 0, 1) := by decide +kernel
theorem dd_J_commit_87 : decode cd_J_commit 87 = .ok (.invokevirtual 203, 3) := by decide +kernel
theorem dd_J_commit_90 : decode cd_J_commit 90 = .ok (.new 47, 3) := by decide +kernel
theorem dd_J_commit_93 : decode cd_J_commit 93 = .ok (.dup, 1) := by decide +kernel
theorem dd_J_commit_94 : decode cd_J_commit 94 = .ok (.ldc 206, 2) := by decide +kernel
theorem dd_J_commit_96 : decode cd_J_commit 96 = .ok (.invokespecial 51, 3) := by decide +kernel
theorem dd_J_commit_99 : decode cd_J_commit 99 = .ok (.athrow, 1) := by decide +kernel
theorem dd_J_commit_100 : decode cd_J_commit 100 = .ok (.aload_n 0, 1) := by decide +kernel
theorem dd_J_commit_101 : decode cd_J_commit 101 = .ok (.getfield 197, 3) := by decide +kernel
theorem dd_J_commit_104 : decode cd_J_commit 104 = .ok (.ifCond .le 13, 3) := by decide +kernel
theorem dd_J_commit_107 : decode cd_J_commit 107 = .ok (.aload_n 0, 1) := by decide +kernel
theorem dd_J_commit_108 : decode cd_J_commit 108 = .ok (.dup, 1) := by decide +kernel
theorem dd_J_commit_109 : decode cd_J_commit 109 = .ok (.getfield 197, 3) := by decide +kernel
theorem dd_J_commit_112 : decode cd_J_commit 112 = .ok (.iload_n 3, 1) := by decide +kernel
theorem dd_J_commit_113 : decode cd_J_commit 113 = .ok (.isub, 1) := by decide +kernel
theorem dd_J_commit_114 : decode cd_J_commit 114 = .ok (.putfield 197, 3) := by decide +kernel
theorem dd_J_commit_117 : decode cd_J_commit 117 = .ok (.aload_n 0, 1) := by decide +kernel
theorem dd_J_commit_118 : decode cd_J_commit 118 = .ok (.dup, 1) := by decide +kernel
theorem dd_J_commit_119 : decode cd_J_commit 119 = .ok (.getfield 200, 3) := by decide +kernel
theorem dd_J_commit_122 : decode cd_J_commit 122 = .ok (.iload_n 3, 1) := by decide +kernel
theorem dd_J_commit_123 : decode cd_J_commit 123 = .ok (.iadd, 1) := by decide +kernel
theorem dd_J_commit_124 : decode cd_J_commit 124 = .ok (.putfield 200, 3) := by decide +kernel
theorem dd_J_commit_127 : decode cd_J_commit 127 = .ok (.aload_n 0, 1) := by decide +kernel
theorem dd_J_commit_128 : decode cd_J_commit 128 = .ok (.getfield 12, 3) := by decide +kernel
theorem dd_J_commit_131 : decode cd_J_commit 131 = .ok (.invokevirtual 36, 3) := by decide +kernel
theorem dd_J_commit_134 : decode cd_J_commit 134 = .ok (.iload_n 3, 1) := by decide +kernel
theorem dd_J_commit_135 : decode cd_J_commit 135 = .ok (.ireturn, 1) := by decide +kernel
theorem dd_J_cutPower_0 : decode cd_J_cutPower 0 = .ok (.iload_n 1, 1) := by decide +kernel
theorem dd_J_cutPower_1 : decode cd_J_cutPower 1 = .ok (.iconst 0, 1) := by decide +kernel
theorem dd_J_cutPower_2 : decode cd_J_cutPower 2 = .ok (.bipush 100, 2) := by decide +kernel
theorem dd_J_cutPower_4 : decode cd_J_cutPower 4 = .ok (.invokestatic 64, 3) := by decide +kernel
theorem dd_J_cutPower_7 : decode cd_J_cutPower 7 = .ok (.aload_n 0, 1) := by decide +kernel
theorem dd_J_cutPower_8 : decode cd_J_cutPower 8 = .ok (.iload_n 1, 1) := by decide +kernel
theorem dd_J_cutPower_9 : decode cd_J_cutPower 9 = .ok (.putfield 197, 3) := by decide +kernel
theorem dd_J_cutPower_12 : decode cd_J_cutPower 12 = .ok (.return_, 1) := by decide +kernel
theorem dd_J_block_0 : decode cd_J_block 0 = .ok (.iload_n 1, 1) := by decide +kernel
theorem dd_J_block_1 : decode cd_J_block 1 = .ok (.iconst 0, 1) := by decide +kernel
theorem dd_J_block_2 : decode cd_J_block 2 = .ok (.bipush 39, 2) := by decide +kernel
theorem dd_J_block_4 : decode cd_J_block 4 = .ok (.invokestatic 64, 3) := by decide +kernel
theorem dd_J_block_7 : decode cd_J_block 7 = .ok (.iload_n 2, 1) := by decide +kernel
theorem dd_J_block_8 : decode cd_J_block 8 = .ok (.iconst 0, 1) := by decide +kernel
theorem dd_J_block_9 : decode cd_J_block 9 = .ok (.bipush 15, 2) := by decide +kernel
theorem dd_J_block_11 : decode cd_J_block 11 = .ok (.invokestatic 64, 3) := by decide +kernel
theorem dd_J_block_14 : decode cd_J_block 14 = .ok (.iload_n 1, 1) := by decide +kernel
theorem dd_J_block_15 : decode cd_J_block 15 = .ok (.bipush 16, 2) := by decide +kernel
theorem dd_J_block_17 : decode cd_J_block 17 = .ok (.imul, 1) := by decide +kernel
theorem dd_J_block_18 : decode cd_J_block 18 = .ok (.iload_n 2, 1) := by decide +kernel
theorem dd_J_block_19 : decode cd_J_block 19 = .ok (.iadd, 1) := by decide +kernel
theorem dd_J_block_20 : decode cd_J_block 20 = .ok (.istore 4, 2) := by decide +kernel
theorem dd_J_block_22 : decode cd_J_block 22 = .ok (.iload_n 3, 1) := by decide +kernel
theorem dd_J_block_23 : decode cd_J_block 23 = .ok (.ifCond .eq 15, 3) := by decide +kernel
theorem dd_J_block_26 : decode cd_J_block 26 = .ok (.aload_n 0, 1) := by decide +kernel
theorem dd_J_block_27 : decode cd_J_block 27 = .ok (.getfield 12, 3) := by decide +kernel
theorem dd_J_block_30 : decode cd_J_block 30 = .ok (.iload 4, 2) := by decide +kernel
theorem dd_J_block_32 : decode cd_J_block 32 = .ok (.invokevirtual 208, 3) := by decide +kernel
theorem dd_J_block_35 : decode cd_J_block 35 = .ok (.goto 12, 3) := by decide +kernel
theorem dd_J_block_38 : decode cd_J_block 38 = .ok (.aload_n 0, 1) := by decide +kernel
theorem dd_J_block_39 : decode cd_J_block 39 = .ok (.getfield 12, 3) := by decide +kernel
theorem dd_J_block_42 : decode cd_J_block 42 = .ok (.iload 4, 2) := by decide +kernel
theorem dd_J_block_44 : decode cd_J_block 44 = .ok (.invokevirtual 211, 3) := by decide +kernel
theorem dd_J_block_47 : decode cd_J_block 47 = .ok (.ireturn, 1) := by decide +kernel
