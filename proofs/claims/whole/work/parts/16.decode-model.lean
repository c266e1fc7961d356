theorem dd_M_init_0 : decode cd_M_init 0 = .ok (.aload_n 0, 1) := by decide +kernel
theorem dd_M_init_1 : decode cd_M_init 1 = .ok (.invokespecial 1, 3) := by decide +kernel
theorem dd_M_init_4 : decode cd_M_init 4 = .ok (.aload_n 0, 1) := by decide +kernel
theorem dd_M_init_5 : decode cd_M_init 5 = .ok (.bipush 24, 2) := by decide +kernel
theorem dd_M_init_7 : decode cd_M_init 7 = .ok (.newarray .int, 2) := by decide +kernel
theorem dd_M_init_9 : decode cd_M_init 9 = .ok (.putfield 7, 3) := by decide +kernel
theorem dd_M_init_12 : decode cd_M_init 12 = .ok (.aload_n 0, 1) := by decide +kernel
theorem dd_M_init_13 : decode cd_M_init 13 = .ok (.bipush 24, 2) := by decide +kernel
theorem dd_M_init_15 : decode cd_M_init 15 = .ok (.newarray .int, 2) := by decide +kernel
theorem dd_M_init_17 : decode cd_M_init 17 = .ok (.putfield 13, 3) := by decide +kernel
theorem dd_M_init_20 : decode cd_M_init 20 = .ok (.aload_n 0, 1) := by decide +kernel
theorem dd_M_init_21 : decode cd_M_init 21 = .ok (.bipush 24, 2) := by decide +kernel
theorem dd_M_init_23 : decode cd_M_init 23 = .ok (.newarray .int, 2) := by decide +kernel
theorem dd_M_init_25 : decode cd_M_init 25 = .ok (.putfield 16, 3) := by decide +kernel
theorem dd_M_init_28 : decode cd_M_init 28 = .ok (.aload_n 0, 1) := by decide +kernel
theorem dd_M_init_29 : decode cd_M_init 29 = .ok (.bipush 96, 2) := by decide +kernel
theorem dd_M_init_31 : decode cd_M_init 31 = .ok (.newarray .int, 2) := by decide +kernel
theorem dd_M_init_33 : decode cd_M_init 33 = .ok (.putfield 19, 3) := by decide +kernel
theorem dd_M_init_36 : decode cd_M_init 36 = .ok (.aload_n 0, 1) := by decide +kernel
theorem dd_M_init_37 : decode cd_M_init 37 = .ok (.sipush 1536, 3) := by decide +kernel
theorem dd_M_init_40 : decode cd_M_init 40 = .ok (.newarray .int, 2) := by decide +kernel
theorem dd_M_init_42 : decode cd_M_init 42 = .ok (.putfield 22, 3) := by decide +kernel
theorem dd_M_init_45 : decode cd_M_init 45 = .ok (.aload_n 0, 1) := by decide +kernel
theorem dd_M_init_46 : decode cd_M_init 46 = .ok (.bipush 6, 2) := by decide +kernel
theorem dd_M_init_48 : decode cd_M_init 48 = .ok (.newarray .int, 2) := by decide +kernel
theorem dd_M_init_50 : decode cd_M_init 50 = .ok (.putfield 25, 3) := by decide +kernel
theorem dd_M_init_53 : decode cd_M_init 53 = .ok (.aload_n 0, 1) := by decide +kernel
theorem dd_M_init_54 : decode cd_M_init 54 = .ok (.bipush 6, 2) := by decide +kernel
theorem dd_M_init_56 : decode cd_M_init 56 = .ok (.newarray .int, 2) := by decide +kernel
theorem dd_M_init_58 : decode cd_M_init 58 = .ok (.putfield 28, 3) := by decide +kernel
theorem dd_M_init_61 : decode cd_M_init 61 = .ok (.aload_n 0, 1) := by decide +kernel
theorem dd_M_init_62 : decode cd_M_init 62 = .ok (.bipush 6, 2) := by decide +kernel
theorem dd_M_init_64 : decode cd_M_init 64 = .ok (.newarray .int, 2) := by decide +kernel
theorem dd_M_init_66 : decode cd_M_init 66 = .ok (.putfield 31, 3) := by decide +kernel
theorem dd_M_init_69 : decode cd_M_init 69 = .ok (.aload_n 0, 1) := by decide +kernel
theorem dd_M_init_70 : decode cd_M_init 70 = .ok (.bipush 6, 2) := by decide +kernel
theorem dd_M_init_72 : decode cd_M_init 72 = .ok (.newarray .int, 2) := by decide +kernel
theorem dd_M_init_74 : decode cd_M_init 74 = .ok (.putfield 34, 3) := by decide +kernel
theorem dd_M_init_77 : decode cd_M_init 77 = .ok (.iconst 0, 1) := by decide +kernel
theorem dd_M_init_78 : decode cd_M_init 78 = .ok (.istore_n 1, 1) := by decide +kernel
theorem dd_M_init_79 : decode cd_M_init 79 = .ok (.iload_n 1, 1) := by decide +kernel
theorem dd_M_init_80 : decode cd_M_init 80 = .ok (.bipush 24, 2) := by decide +kernel
theorem dd_M_init_82 : decode cd_M_init 82 = .ok (.if_icmp .ge 23, 3) := by decide +kernel
theorem dd_M_init_85 : decode cd_M_init 85 = .ok (.aload_n 0, 1) := by decide +kernel
theorem dd_M_init_86 : decode cd_M_init 86 = .ok (.getfield 7, 3) := by decide +kernel
theorem dd_M_init_89 : decode cd_M_init 89 = .ok (.iload_n 1, 1) := by decide +kernel
theorem dd_M_init_90 : decode cd_M_init 90 = .ok (.iconst 2, 1) := by decide +kernel
theorem dd_M_init_91 : decode cd_M_init 91 = .ok (.iastore, 1) := by decide +kernel
theorem dd_M_init_92 : decode cd_M_init 92 = .ok (.aload_n 0, 1) := by decide +kernel
theorem dd_M_init_93 : decode cd_M_init 93 = .ok (.getfield 16, 3) := by decide +kernel
theorem dd_M_init_96 : decode cd_M_init 96 = .ok (.iload_n 1, 1) := by decide +kernel
theorem dd_M_init_97 : decode cd_M_init 97 = .ok (.iconst 1, 1) := by decide +kernel
theorem dd_M_init_98 : decode cd_M_init 98 = .ok (.iastore, 1) := by decide +kernel
theorem dd_M_init_99 : decode cd_M_init 99 = .ok (.iinc 1 12, 3) := by decide +kernel
theorem dd_M_init_102 : decode cd_M_init 102 = .ok (.goto (-23), 3) := by decide +kernel
theorem dd_M_init_105 : decode cd_M_init 105 = .ok (.return_, 1) := by decide +kernel
theorem dd_M_thrown_0 : decode cd_M_thrown 0 = .ok (.aload_n 0, 1) := by decide +kernel
theorem dd_M_thrown_1 : decode cd_M_thrown 1 = .ok (.getfield 37, 3) := by decide +kernel
theorem dd_M_thrown_4 : decode cd_M_thrown 4 = .ok (.ireturn, 1) := by decide +kernel
theorem dd_M_directory_0 : decode cd_M_directory 0 = .ok (.aload_n 0, 1) := by decide +kernel
theorem dd_M_directory_1 : decode cd_M_directory 1 = .ok (.aload_n 0, 1) := by decide +kernel
theorem dd_M_directory_2 : decode cd_M_directory 2 = .ok (.iload_n 1, 1) := by decide +kernel
theorem dd_M_directory_3 : decode cd_M_directory 3 = .ok (.invokevirtual 79, 3) := by decide +kernel
theorem dd_M_directory_6 : decode cd_M_directory 6 = .ok (.ifCond .eq 7, 3) := by decide +kernel
theorem dd_M_directory_9 : decode cd_M_directory 9 = .ok (.iconst 1, 1) := by decide +kernel
theorem dd_M_directory_10 : decode cd_M_directory 10 = .ok (.goto 52, 3) := by decide +kernel
theorem dd_M_directory_13 : decode cd_M_directory 13 = .ok (.aload_n 0, 1) := by decide +kernel
theorem dd_M_directory_14 : decode cd_M_directory 14 = .ok (.iload_n 1, 1) := by decide +kernel
theorem dd_M_directory_15 : decode cd_M_directory 15 = .ok (.invokevirtual 83, 3) := by decide +kernel
theorem dd_M_directory_18 : decode cd_M_directory 18 = .ok (.ifCond .ne 7, 3) := by decide +kernel
theorem dd_M_directory_21 : decode cd_M_directory 21 = .ok (.iconst 2, 1) := by decide +kernel
theorem dd_M_directory_22 : decode cd_M_directory 22 = .ok (.goto 40, 3) := by decide +kernel
theorem dd_M_directory_25 : decode cd_M_directory 25 = .ok (.aload_n 0, 1) := by decide +kernel
theorem dd_M_directory_26 : decode cd_M_directory 26 = .ok (.getfield 69, 3) := by decide +kernel
theorem dd_M_directory_29 : decode cd_M_directory 29 = .ok (.ifCond .lt 7, 3) := by decide +kernel
theorem dd_M_directory_32 : decode cd_M_directory 32 = .ok (.iconst 3, 1) := by decide +kernel
theorem dd_M_directory_33 : decode cd_M_directory 33 = .ok (.goto 29, 3) := by decide +kernel
theorem dd_M_directory_36 : decode cd_M_directory 36 = .ok (.aload_n 0, 1) := by decide +kernel
theorem dd_M_directory_37 : decode cd_M_directory 37 = .ok (.invokevirtual 60, 3) := by decide +kernel
theorem dd_M_directory_40 : decode cd_M_directory 40 = .ok (.bipush 12, 2) := by decide +kernel
theorem dd_M_directory_42 : decode cd_M_directory 42 = .ok (.if_icmp .eq 15, 3) := by decide +kernel
theorem dd_M_directory_45 : decode cd_M_directory 45 = .ok (.aload_n 0, 1) := by decide +kernel
theorem dd_M_directory_46 : decode cd_M_directory 46 = .ok (.aload_n 0, 1) := by decide +kernel
theorem dd_M_directory_47 : decode cd_M_directory 47 = .ok (.getfield 63, 3) := by decide +kernel
theorem dd_M_directory_50 : decode cd_M_directory 50 = .ok (.iconst 0, 1) := by decide +kernel
theorem dd_M_directory_51 : decode cd_M_directory 51 = .ok (.invokevirtual 86, 3) := by decide +kernel
theorem dd_M_directory_54 : decode cd_M_directory 54 = .ok (.ifCond .ne 7, 3) := by decide +kernel
theorem dd_M_directory_57 : decode cd_M_directory 57 = .ok (.iconst 4, 1) := by decide +kernel
theorem dd_M_directory_58 : decode cd_M_directory 58 = .ok (.goto 4, 3) := by decide +kernel
theorem dd_M_directory_61 : decode cd_M_directory 61 = .ok (.iconst 0, 1) := by decide +kernel
theorem dd_M_directory_62 : decode cd_M_directory 62 = .ok (.putfield 37, 3) := by decide +kernel
theorem dd_M_directory_65 : decode cd_M_directory 65 = .ok (.aload_n 0, 1) := by decide +kernel
theorem dd_M_directory_66 : decode cd_M_directory 66 = .ok (.getfield 37, 3) := by decide +kernel
theorem dd_M_directory_69 : decode cd_M_directory 69 = .ok (.ifCond .eq 5, 3) := by decide +kernel
theorem dd_M_directory_72 : decode cd_M_directory 72 = .ok (.iconst 0, 1) := by decide +kernel
theorem dd_M_directory_73 : decode cd_M_directory 73 = .ok (.ireturn, 1) := by decide +kernel
theorem dd_M_directory_74 : decode cd_M_directory 74 = .ok (.aload_n 0, 1) := by decide +kernel
theorem dd_M_directory_75 : decode cd_M_directory 75 = .ok (.iconst 2, 1) := by decide +kernel
theorem dd_M_directory_76 : decode cd_M_directory 76 = .ok (.invokevirtual 89, 3) := by decide +kernel
theorem dd_M_directory_79 : decode cd_M_directory 79 = .ok (.istore_n 2, 1) := by decide +kernel
theorem dd_M_directory_80 : decode cd_M_directory 80 = .ok (.aload_n 0, 1) := by decide +kernel
theorem dd_M_directory_81 : decode cd_M_directory 81 = .ok (.aload_n 0, 1) := by decide +kernel
theorem dd_M_directory_82 : decode cd_M_directory 82 = .ok (.getfield 63, 3) := by decide +kernel
theorem dd_M_directory_85 : decode cd_M_directory 85 = .ok (.aload_n 0, 1) := by decide +kernel
theorem dd_M_directory_86 : decode cd_M_directory 86 = .ok (.getfield 72, 3) := by decide +kernel
theorem dd_M_directory_89 : decode cd_M_directory 89 = .ok (.iload_n 2, 1) := by decide +kernel
theorem dd_M_directory_90 : decode cd_M_directory 90 = .ok (.invokevirtual 92, 3) := by decide +kernel
theorem dd_M_directory_93 : decode cd_M_directory 93 = .ok (.iload_n 2, 1) := by decide +kernel
theorem dd_M_directory_94 : decode cd_M_directory 94 = .ok (.ireturn, 1) := by decide +kernel
theorem dd_M_badPath_0 : decode cd_M_badPath 0 = .ok (.iconst 0, 1) := by decide +kernel
theorem dd_M_badPath_1 : decode cd_M_badPath 1 = .ok (.istore_n 2, 1) := by decide +kernel
theorem dd_M_badPath_2 : decode cd_M_badPath 2 = .ok (.bipush 24, 2) := by decide +kernel
theorem dd_M_badPath_4 : decode cd_M_badPath 4 = .ok (.istore_n 3, 1) := by decide +kernel
theorem dd_M_badPath_5 : decode cd_M_badPath 5 = .ok (.iload_n 3, 1) := by decide +kernel
theorem dd_M_badPath_6 : decode cd_M_badPath 6 = .ok (.ifCond .lt 36, 3) := by decide +kernel
theorem dd_M_badPath_9 : decode cd_M_badPath 9 = .ok (.iload_n 1, 1) := by decide +kernel
theorem dd_M_badPath_10 : decode cd_M_badPath 10 = .ok (.iload_n 3, 1) := by decide +kernel
theorem dd_M_badPath_11 : decode cd_M_badPath 11 = .ok (.iushr, 1) := by decide +kernel
theorem dd_M_badPath_12 : decode cd_M_badPath 12 = .ok (.sipush 255, 3) := by decide +kernel
theorem dd_M_badPath_15 : decode cd_M_badPath 15 = .ok (.iand, 1) := by decide +kernel
theorem dd_M_badPath_16 : decode cd_M_badPath 16 = .ok (.istore 4, 2) := by decide +kernel
theorem dd_M_badPath_18 : decode cd_M_badPath 18 = .ok (.iload_n 2, 1) := by decide +kernel
theorem dd_M_badPath_19 : decode cd_M_badPath 19 = .ok (.ifCond .eq 10, 3) := by decide +kernel
theorem dd_M_badPath_22 : decode cd_M_badPath 22 = .ok (.iload 4, 2) := by decide +kernel
theorem dd_M_badPath_24 : decode cd_M_badPath 24 = .ok (.ifCond .ne 5, 3) := by decide +kernel
theorem dd_M_badPath_27 : decode cd_M_badPath 27 = .ok (.iconst 1, 1) := by decide +kernel
theorem dd_M_badPath_28 : decode cd_M_badPath 28 = .ok (.ireturn, 1) := by decide +kernel
theorem dd_M_badPath_29 : decode cd_M_badPath 29 = .ok (.iload 4, 2) := by decide +kernel
theorem dd_M_badPath_31 : decode cd_M_badPath 31 = .ok (.ifCond .eq 5, 3) := by decide +kernel
theorem dd_M_badPath_34 : decode cd_M_badPath 34 = .ok (.iconst 1, 1) := by decide +kernel
theorem dd_M_badPath_35 : decode cd_M_badPath 35 = .ok (.istore_n 2, 1) := by decide +kernel
theorem dd_M_badPath_36 : decode cd_M_badPath 36 = .ok (.iinc 3 (-8), 3) := by decide +kernel
theorem dd_M_badPath_39 : decode cd_M_badPath 39 = .ok (.goto (-34), 3) := by decide +kernel
theorem dd_M_badPath_42 : decode cd_M_badPath 42 = .ok (.iconst 0, 1) := by decide +kernel
theorem dd_M_badPath_43 : decode cd_M_badPath 43 = .ok (.ireturn, 1) := by decide +kernel
theorem dd_M_lead_0 : decode cd_M_lead 0 = .ok (.aload_n 0, 1) := by decide +kernel
theorem dd_M_lead_1 : decode cd_M_lead 1 = .ok (.iconst (-1), 1) := by decide +kernel
theorem dd_M_lead_2 : decode cd_M_lead 2 = .ok (.putfield 63, 3) := by decide +kernel
theorem dd_M_lead_5 : decode cd_M_lead 5 = .ok (.aload_n 0, 1) := by decide +kernel
theorem dd_M_lead_6 : decode cd_M_lead 6 = .ok (.iconst (-1), 1) := by decide +kernel
theorem dd_M_lead_7 : decode cd_M_lead 7 = .ok (.putfield 66, 3) := by decide +kernel
theorem dd_M_lead_10 : decode cd_M_lead 10 = .ok (.aload_n 0, 1) := by decide +kernel
theorem dd_M_lead_11 : decode cd_M_lead 11 = .ok (.iconst 0, 1) := by decide +kernel
theorem dd_M_lead_12 : decode cd_M_lead 12 = .ok (.putfield 69, 3) := by decide +kernel
theorem dd_M_lead_15 : decode cd_M_lead 15 = .ok (.aload_n 0, 1) := by decide +kernel
theorem dd_M_lead_16 : decode cd_M_lead 16 = .ok (.iconst 0, 1) := by decide +kernel
theorem dd_M_lead_17 : decode cd_M_lead 17 = .ok (.putfield 72, 3) := by decide +kernel
theorem dd_M_lead_20 : decode cd_M_lead 20 = .ok (.bipush 24, 2) := by decide +kernel
theorem dd_M_lead_22 : decode cd_M_lead 22 = .ok (.istore_n 2, 1) := by decide +kernel
theorem dd_M_lead_23 : decode cd_M_lead 23 = .ok (.iload_n 2, 1) := by decide +kernel
theorem dd_M_lead_24 : decode cd_M_lead 24 = .ok (.ifCond .lt 105, 3) := by decide +kernel
theorem dd_M_lead_27 : decode cd_M_lead 27 = .ok (.iload_n 1, 1) := by decide +kernel
theorem dd_M_lead_28 : decode cd_M_lead 28 = .ok (.iload_n 2, 1) := by decide +kernel
theorem dd_M_lead_29 : decode cd_M_lead 29 = .ok (.iushr, 1) := by decide +kernel
theorem dd_M_lead_30 : decode cd_M_lead 30 = .ok (.sipush 255, 3) := by decide +kernel
theorem dd_M_lead_33 : decode cd_M_lead 33 = .ok (.iand, 1) := by decide +kernel
theorem dd_M_lead_34 : decode cd_M_lead 34 = .ok (.istore_n 3, 1) := by decide +kernel
theorem dd_M_lead_35 : decode cd_M_lead 35 = .ok (.iload_n 3, 1) := by decide +kernel
theorem dd_M_lead_36 : decode cd_M_lead 36 = .ok (.ifCond .eq 87, 3) := by decide +kernel
theorem dd_M_lead_39 : decode cd_M_lead 39 = .ok (.aload_n 0, 1) := by decide +kernel
theorem dd_M_lead_40 : decode cd_M_lead 40 = .ok (.getfield 69, 3) := by decide +kernel
theorem dd_M_lead_43 : decode cd_M_lead 43 = .ok (.ifCond .lt 16, 3) := by decide +kernel
theorem dd_M_lead_46 : decode cd_M_lead 46 = .ok (.aload_n 0, 1) := by decide +kernel
theorem dd_M_lead_47 : decode cd_M_lead 47 = .ok (.getfield 7, 3) := by decide +kernel
theorem dd_M_lead_50 : decode cd_M_lead 50 = .ok (.aload_n 0, 1) := by decide +kernel
theorem dd_M_lead_51 : decode cd_M_lead 51 = .ok (.getfield 69, 3) := by decide +kernel
theorem dd_M_lead_54 : decode cd_M_lead 54 = .ok (.iaload, 1) := by decide +kernel
theorem dd_M_lead_55 : decode cd_M_lead 55 = .ok (.iconst 2, 1) := by decide +kernel
theorem dd_M_lead_56 : decode cd_M_lead 56 = .ok (.if_icmp .eq 5, 3) := by decide +kernel
theorem dd_M_lead_59 : decode cd_M_lead 59 = .ok (.iconst 0, 1) := by decide +kernel
theorem dd_M_lead_60 : decode cd_M_lead 60 = .ok (.ireturn, 1) := by decide +kernel
theorem dd_M_lead_61 : decode cd_M_lead 61 = .ok (.aload_n 0, 1) := by decide +kernel
theorem dd_M_lead_62 : decode cd_M_lead 62 = .ok (.aload_n 0, 1) := by decide +kernel
theorem dd_M_lead_63 : decode cd_M_lead 63 = .ok (.getfield 69, 3) := by decide +kernel
theorem dd_M_lead_66 : decode cd_M_lead 66 = .ok (.putfield 63, 3) := by decide +kernel
theorem dd_M_lead_69 : decode cd_M_lead 69 = .ok (.aload_n 0, 1) := by decide +kernel
theorem dd_M_lead_70 : decode cd_M_lead 70 = .ok (.iload_n 3, 1) := by decide +kernel
theorem dd_M_lead_71 : decode cd_M_lead 71 = .ok (.putfield 72, 3) := by decide +kernel
theorem dd_M_lead_74 : decode cd_M_lead 74 = .ok (.aload_n 0, 1) := by decide +kernel
theorem dd_M_lead_75 : decode cd_M_lead 75 = .ok (.aload_n 0, 1) := by decide +kernel
theorem dd_M_lead_76 : decode cd_M_lead 76 = .ok (.aload_n 0, 1) := by decide +kernel
theorem dd_M_lead_77 : decode cd_M_lead 77 = .ok (.getfield 63, 3) := by decide +kernel
theorem dd_M_lead_80 : decode cd_M_lead 80 = .ok (.iload_n 3, 1) := by decide +kernel
theorem dd_M_lead_81 : decode cd_M_lead 81 = .ok (.invokevirtual 75, 3) := by decide +kernel
theorem dd_M_lead_84 : decode cd_M_lead 84 = .ok (.putfield 66, 3) := by decide +kernel
theorem dd_M_lead_87 : decode cd_M_lead 87 = .ok (.aload_n 0, 1) := by decide +kernel
theorem dd_M_lead_88 : decode cd_M_lead 88 = .ok (.aload_n 0, 1) := by decide +kernel
theorem dd_M_lead_89 : decode cd_M_lead 89 = .ok (.getfield 66, 3) := by decide +kernel
theorem dd_M_lead_92 : decode cd_M_lead 92 = .ok (.ifCond .ge 7, 3) := by decide +kernel
theorem dd_M_lead_95 : decode cd_M_lead 95 = .ok (.iconst (-1), 1) := by decide +kernel
theorem dd_M_lead_96 : decode cd_M_lead 96 = .ok (.goto 24, 3) := by decide +kernel
theorem dd_M_lead_99 : decode cd_M_lead 99 = .ok (.aload_n 0, 1) := by decide +kernel
theorem dd_M_lead_100 : decode cd_M_lead 100 = .ok (.getfield 22, 3) := by decide +kernel
theorem dd_M_lead_103 : decode cd_M_lead 103 = .ok (.aload_n 0, 1) := by decide +kernel
theorem dd_M_lead_104 : decode cd_M_lead 104 = .ok (.getfield 63, 3) := by decide +kernel
theorem dd_M_lead_107 : decode cd_M_lead 107 = .ok (.bipush 64, 2) := by decide +kernel
theorem dd_M_lead_109 : decode cd_M_lead 109 = .ok (.imul, 1) := by decide +kernel
theorem dd_M_lead_110 : decode cd_M_lead 110 = .ok (.aload_n 0, 1) := by decide +kernel
theorem dd_M_lead_111 : decode cd_M_lead 111 = .ok (.getfield 66, 3) := by decide +kernel
theorem dd_M_lead_114 : decode cd_M_lead 114 = .ok (.iconst 2, 1) := by decide +kernel
theorem dd_M_lead_115 : decode cd_M_lead 115 = .ok (.imul, 1) := by decide +kernel
theorem dd_M_lead_116 : decode cd_M_lead 116 = .ok (.iadd, 1) := by decide +kernel
theorem dd_M_lead_117 : decode cd_M_lead 117 = .ok (.iconst 1, 1) := by decide +kernel
theorem dd_M_lead_118 : decode cd_M_lead 118 = .ok (.iadd, 1) := by decide +kernel
theorem dd_M_lead_119 : decode cd_M_lead 119 = .ok (.iaload, 1) := by decide +kernel
theorem dd_M_lead_120 : decode cd_M_lead 120 = .ok (.putfield 69, 3) := by decide +kernel
theorem dd_M_lead_123 : decode cd_M_lead 123 = .ok (.iinc 2 (-8), 3) := by decide +kernel
theorem dd_M_lead_126 : decode cd_M_lead 126 = .ok (.goto (-103), 3) := by decide +kernel
theorem dd_M_lead_129 : decode cd_M_lead 129 = .ok (.iconst 1, 1) := by decide +kernel
theorem dd_M_lead_130 : decode cd_M_lead 130 = .ok (.ireturn, 1) := by decide +kernel
theorem dd_M_entryOf_0 : decode cd_M_entryOf 0 = .ok (.iconst 0, 1) := by decide +kernel
theorem dd_M_entryOf_1 : decode cd_M_entryOf 1 = .ok (.istore_n 3, 1) := by decide +kernel
theorem dd_M_entryOf_2 : decode cd_M_entryOf 2 = .ok (.iload_n 3, 1) := by decide +kernel
theorem dd_M_entryOf_3 : decode cd_M_entryOf 3 = .ok (.aload_n 0, 1) := by decide +kernel
theorem dd_M_entryOf_4 : decode cd_M_entryOf 4 = .ok (.getfield 13, 3) := by decide +kernel
theorem dd_M_entryOf_7 : decode cd_M_entryOf 7 = .ok (.iload_n 1, 1) := by decide +kernel
theorem dd_M_entryOf_8 : decode cd_M_entryOf 8 = .ok (.iaload, 1) := by decide +kernel
theorem dd_M_entryOf_9 : decode cd_M_entryOf 9 = .ok (.iconst 2, 1) := by decide +kernel
theorem dd_M_entryOf_10 : decode cd_M_entryOf 10 = .ok (.idiv, 1) := by decide +kernel
theorem dd_M_entryOf_11 : decode cd_M_entryOf 11 = .ok (.if_icmp .ge 28, 3) := by decide +kernel
theorem dd_M_entryOf_14 : decode cd_M_entryOf 14 = .ok (.aload_n 0, 1) := by decide +kernel
theorem dd_M_entryOf_15 : decode cd_M_entryOf 15 = .ok (.getfield 22, 3) := by decide +kernel
theorem dd_M_entryOf_18 : decode cd_M_entryOf 18 = .ok (.iload_n 1, 1) := by decide +kernel
theorem dd_M_entryOf_19 : decode cd_M_entryOf 19 = .ok (.bipush 64, 2) := by decide +kernel
theorem dd_M_entryOf_21 : decode cd_M_entryOf 21 = .ok (.imul, 1) := by decide +kernel
theorem dd_M_entryOf_22 : decode cd_M_entryOf 22 = .ok (.iload_n 3, 1) := by decide +kernel
theorem dd_M_entryOf_23 : decode cd_M_entryOf 23 = .ok (.iconst 2, 1) := by decide +kernel
theorem dd_M_entryOf_24 : decode cd_M_entryOf 24 = .ok (.imul, 1) := by decide +kernel
theorem dd_M_entryOf_25 : decode cd_M_entryOf 25 = .ok (.iadd, 1) := by decide +kernel
theorem dd_M_entryOf_26 : decode cd_M_entryOf 26 = .ok (.iaload, 1) := by decide +kernel
theorem dd_M_entryOf_27 : decode cd_M_entryOf 27 = .ok (.iload_n 2, 1) := by decide +kernel
theorem dd_M_entryOf_28 : decode cd_M_entryOf 28 = .ok (.if_icmp .ne 5, 3) := by decide +kernel
theorem dd_M_entryOf_31 : decode cd_M_entryOf 31 = .ok (.iload_n 3, 1) := by decide +kernel
theorem dd_M_entryOf_32 : decode cd_M_entryOf 32 = .ok (.ireturn, 1) := by decide +kernel
theorem dd_M_entryOf_33 : decode cd_M_entryOf 33 = .ok (.iinc 3 1, 3) := by decide +kernel
theorem dd_M_entryOf_36 : decode cd_M_entryOf 36 = .ok (.goto (-34), 3) := by decide +kernel
theorem dd_M_entryOf_39 : decode cd_M_entryOf 39 = .ok (.iconst (-1), 1) := by decide +kernel
theorem dd_M_entryOf_40 : decode cd_M_entryOf 40 = .ok (.ireturn, 1) := by decide +kernel
theorem dd_M_newInode_0 : decode cd_M_newInode 0 = .ok (.iconst 0, 1) := by decide +kernel
theorem dd_M_newInode_1 : decode cd_M_newInode 1 = .ok (.istore_n 1, 1) := by decide +kernel
theorem dd_M_newInode_2 : decode cd_M_newInode 2 = .ok (.iload_n 1, 1) := by decide +kernel
theorem dd_M_newInode_3 : decode cd_M_newInode 3 = .ok (.bipush 12, 2) := by decide +kernel
theorem dd_M_newInode_5 : decode cd_M_newInode 5 = .ok (.if_icmp .ge 18, 3) := by decide +kernel
theorem dd_M_newInode_8 : decode cd_M_newInode 8 = .ok (.aload_n 0, 1) := by decide +kernel
theorem dd_M_newInode_9 : decode cd_M_newInode 9 = .ok (.getfield 7, 3) := by decide +kernel
theorem dd_M_newInode_12 : decode cd_M_newInode 12 = .ok (.iload_n 1, 1) := by decide +kernel
theorem dd_M_newInode_13 : decode cd_M_newInode 13 = .ok (.iaload, 1) := by decide +kernel
theorem dd_M_newInode_14 : decode cd_M_newInode 14 = .ok (.ifCond .eq 9, 3) := by decide +kernel
theorem dd_M_newInode_17 : decode cd_M_newInode 17 = .ok (.iinc 1 1, 3) := by decide +kernel
theorem dd_M_newInode_20 : decode cd_M_newInode 20 = .ok (.goto (-18), 3) := by decide +kernel
theorem dd_M_newInode_23 : decode cd_M_newInode 23 = .ok (.iload_n 1, 1) := by decide +kernel
theorem dd_M_newInode_24 : decode cd_M_newInode 24 = .ok (.ireturn, 1) := by decide +kernel
theorem dd_M_entryRoom_0 : decode cd_M_entryRoom 0 = .ok (.aload_n 0, 1) := by decide +kernel
theorem dd_M_entryRoom_1 : decode cd_M_entryRoom 1 = .ok (.getfield 13, 3) := by decide +kernel
theorem dd_M_entryRoom_4 : decode cd_M_entryRoom 4 = .ok (.iload_n 1, 1) := by decide +kernel
theorem dd_M_entryRoom_5 : decode cd_M_entryRoom 5 = .ok (.iaload, 1) := by decide +kernel
theorem dd_M_entryRoom_6 : decode cd_M_entryRoom 6 = .ok (.bipush 32, 2) := by decide +kernel
theorem dd_M_entryRoom_8 : decode cd_M_entryRoom 8 = .ok (.if_icmp .ge 39, 3) := by decide +kernel
theorem dd_M_entryRoom_11 : decode cd_M_entryRoom 11 = .ok (.aload_n 0, 1) := by decide +kernel
theorem dd_M_entryRoom_12 : decode cd_M_entryRoom 12 = .ok (.aload_n 0, 1) := by decide +kernel
theorem dd_M_entryRoom_13 : decode cd_M_entryRoom 13 = .ok (.getfield 13, 3) := by decide +kernel
theorem dd_M_entryRoom_16 : decode cd_M_entryRoom 16 = .ok (.iload_n 1, 1) := by decide +kernel
theorem dd_M_entryRoom_17 : decode cd_M_entryRoom 17 = .ok (.iaload, 1) := by decide +kernel
theorem dd_M_entryRoom_18 : decode cd_M_entryRoom 18 = .ok (.iconst 2, 1) := by decide +kernel
theorem dd_M_entryRoom_19 : decode cd_M_entryRoom 19 = .ok (.iadd, 1) := by decide +kernel
theorem dd_M_entryRoom_20 : decode cd_M_entryRoom 20 = .ok (.invokevirtual 45, 3) := by decide +kernel
theorem dd_M_entryRoom_23 : decode cd_M_entryRoom 23 = .ok (.aload_n 0, 1) := by decide +kernel
theorem dd_M_entryRoom_24 : decode cd_M_entryRoom 24 = .ok (.aload_n 0, 1) := by decide +kernel
theorem dd_M_entryRoom_25 : decode cd_M_entryRoom 25 = .ok (.getfield 13, 3) := by decide +kernel
theorem dd_M_entryRoom_28 : decode cd_M_entryRoom 28 = .ok (.iload_n 1, 1) := by decide +kernel
theorem dd_M_entryRoom_29 : decode cd_M_entryRoom 29 = .ok (.iaload, 1) := by decide +kernel
theorem dd_M_entryRoom_30 : decode cd_M_entryRoom 30 = .ok (.invokevirtual 45, 3) := by decide +kernel
theorem dd_M_entryRoom_33 : decode cd_M_entryRoom 33 = .ok (.isub, 1) := by decide +kernel
theorem dd_M_entryRoom_34 : decode cd_M_entryRoom 34 = .ok (.aload_n 0, 1) := by decide +kernel
theorem dd_M_entryRoom_35 : decode cd_M_entryRoom 35 = .ok (.invokevirtual 49, 3) := by decide +kernel
theorem dd_M_entryRoom_38 : decode cd_M_entryRoom 38 = .ok (.iload_n 2, 1) := by decide +kernel
theorem dd_M_entryRoom_39 : decode cd_M_entryRoom 39 = .ok (.iadd, 1) := by decide +kernel
theorem dd_M_entryRoom_40 : decode cd_M_entryRoom 40 = .ok (.if_icmp .gt 7, 3) := by decide +kernel
theorem dd_M_entryRoom_43 : decode cd_M_entryRoom 43 = .ok (.iconst 1, 1) := by decide +kernel
theorem dd_M_entryRoom_44 : decode cd_M_entryRoom 44 = .ok (.goto 4, 3) := by decide +kernel
theorem dd_M_entryRoom_47 : decode cd_M_entryRoom 47 = .ok (.iconst 0, 1) := by decide +kernel
theorem dd_M_entryRoom_48 : decode cd_M_entryRoom 48 = .ok (.ireturn, 1) := by decide +kernel
theorem dd_M_needed_0 : decode cd_M_needed 0 = .ok (.iload_n 1, 1) := by decide +kernel
theorem dd_M_needed_1 : decode cd_M_needed 1 = .ok (.bipush 15, 2) := by decide +kernel
theorem dd_M_needed_3 : decode cd_M_needed 3 = .ok (.iadd, 1) := by decide +kernel
theorem dd_M_needed_4 : decode cd_M_needed 4 = .ok (.bipush 16, 2) := by decide +kernel
theorem dd_M_needed_6 : decode cd_M_needed 6 = .ok (.idiv, 1) := by decide +kernel
theorem dd_M_needed_7 : decode cd_M_needed 7 = .ok (.ireturn, 1) := by decide +kernel
theorem dd_M_freeBlocks_0 : decode cd_M_freeBlocks 0 = .ok (.iconst 0, 1) := by decide +kernel
theorem dd_M_freeBlocks_1 : decode cd_M_freeBlocks 1 = .ok (.istore_n 1, 1) := by decide +kernel
theorem dd_M_freeBlocks_2 : decode cd_M_freeBlocks 2 = .ok (.bipush 9, 2) := by decide +kernel
theorem dd_M_freeBlocks_4 : decode cd_M_freeBlocks 4 = .ok (.istore_n 2, 1) := by decide +kernel
theorem dd_M_freeBlocks_5 : decode cd_M_freeBlocks 5 = .ok (.iload_n 2, 1) := by decide +kernel
theorem dd_M_freeBlocks_6 : decode cd_M_freeBlocks 6 = .ok (.bipush 40, 2) := by decide +kernel
theorem dd_M_freeBlocks_8 : decode cd_M_freeBlocks 8 = .ok (.if_icmp .ge 21, 3) := by decide +kernel
theorem dd_M_freeBlocks_11 : decode cd_M_freeBlocks 11 = .ok (.aload_n 0, 1) := by decide +kernel
theorem dd_M_freeBlocks_12 : decode cd_M_freeBlocks 12 = .ok (.iconst 0, 1) := by decide +kernel
theorem dd_M_freeBlocks_13 : decode cd_M_freeBlocks 13 = .ok (.iload_n 2, 1) := by decide +kernel
theorem dd_M_freeBlocks_14 : decode cd_M_freeBlocks 14 = .ok (.invokevirtual 41, 3) := by decide +kernel
theorem dd_M_freeBlocks_17 : decode cd_M_freeBlocks 17 = .ok (.ifCond .ne 6, 3) := by decide +kernel
theorem dd_M_freeBlocks_20 : decode cd_M_freeBlocks 20 = .ok (.iinc 1 1, 3) := by decide +kernel
theorem dd_M_freeBlocks_23 : decode cd_M_freeBlocks 23 = .ok (.iinc 2 1, 3) := by decide +kernel
theorem dd_M_freeBlocks_26 : decode cd_M_freeBlocks 26 = .ok (.goto (-21), 3) := by decide +kernel
theorem dd_M_freeBlocks_29 : decode cd_M_freeBlocks 29 = .ok (.iload_n 1, 1) := by decide +kernel
theorem dd_M_freeBlocks_30 : decode cd_M_freeBlocks 30 = .ok (.ireturn, 1) := by decide +kernel
theorem dd_M_isUsed_0 : decode cd_M_isUsed 0 = .ok (.iload_n 2, 1) := by decide +kernel
theorem dd_M_isUsed_1 : decode cd_M_isUsed 1 = .ok (.bipush 9, 2) := by decide +kernel
theorem dd_M_isUsed_3 : decode cd_M_isUsed 3 = .ok (.if_icmp .ge 5, 3) := by decide +kernel
theorem dd_M_isUsed_6 : decode cd_M_isUsed 6 = .ok (.iconst 1, 1) := by decide +kernel
theorem dd_M_isUsed_7 : decode cd_M_isUsed 7 = .ok (.ireturn, 1) := by decide +kernel
theorem dd_M_isUsed_8 : decode cd_M_isUsed 8 = .ok (.iload_n 1, 1) := by decide +kernel
theorem dd_M_isUsed_9 : decode cd_M_isUsed 9 = .ok (.iconst 4, 1) := by decide +kernel
theorem dd_M_isUsed_10 : decode cd_M_isUsed 10 = .ok (.imul, 1) := by decide +kernel
theorem dd_M_isUsed_11 : decode cd_M_isUsed 11 = .ok (.istore_n 3, 1) := by decide +kernel
theorem dd_M_isUsed_12 : decode cd_M_isUsed 12 = .ok (.iload_n 3, 1) := by decide +kernel
theorem dd_M_isUsed_13 : decode cd_M_isUsed 13 = .ok (.iload_n 1, 1) := by decide +kernel
theorem dd_M_isUsed_14 : decode cd_M_isUsed 14 = .ok (.iconst 4, 1) := by decide +kernel
theorem dd_M_isUsed_15 : decode cd_M_isUsed 15 = .ok (.imul, 1) := by decide +kernel
theorem dd_M_isUsed_16 : decode cd_M_isUsed 16 = .ok (.bipush 48, 2) := by decide +kernel
theorem dd_M_isUsed_18 : decode cd_M_isUsed 18 = .ok (.iadd, 1) := by decide +kernel
theorem dd_M_isUsed_19 : decode cd_M_isUsed 19 = .ok (.if_icmp .ge 21, 3) := by decide +kernel
theorem dd_M_isUsed_22 : decode cd_M_isUsed 22 = .ok (.aload_n 0, 1) := by decide +kernel
theorem dd_M_isUsed_23 : decode cd_M_isUsed 23 = .ok (.getfield 19, 3) := by decide +kernel
theorem dd_M_isUsed_26 : decode cd_M_isUsed 26 = .ok (.iload_n 3, 1) := by decide +kernel
theorem dd_M_isUsed_27 : decode cd_M_isUsed 27 = .ok (.iaload, 1) := by decide +kernel
theorem dd_M_isUsed_28 : decode cd_M_isUsed 28 = .ok (.iload_n 2, 1) := by decide +kernel
theorem dd_M_isUsed_29 : decode cd_M_isUsed 29 = .ok (.if_icmp .ne 5, 3) := by decide +kernel
theorem dd_M_isUsed_32 : decode cd_M_isUsed 32 = .ok (.iconst 1, 1) := by decide +kernel
theorem dd_M_isUsed_33 : decode cd_M_isUsed 33 = .ok (.ireturn, 1) := by decide +kernel
theorem dd_M_isUsed_34 : decode cd_M_isUsed 34 = .ok (.iinc 3 1, 3) := by decide +kernel
theorem dd_M_isUsed_37 : decode cd_M_isUsed 37 = .ok (.goto (-25), 3) := by decide +kernel
theorem dd_M_isUsed_40 : decode cd_M_isUsed 40 = .ok (.iconst 0, 1) := by decide +kernel
theorem dd_M_isUsed_41 : decode cd_M_isUsed 41 = .ok (.ireturn, 1) := by decide +kernel
theorem dd_M_create_0 : decode cd_M_create 0 = .ok (.aload_n 0, 1) := by decide +kernel
theorem dd_M_create_1 : decode cd_M_create 1 = .ok (.invokevirtual 60, 3) := by decide +kernel
theorem dd_M_create_4 : decode cd_M_create 4 = .ok (.istore_n 2, 1) := by decide +kernel
theorem dd_M_create_5 : decode cd_M_create 5 = .ok (.aload_n 0, 1) := by decide +kernel
theorem dd_M_create_6 : decode cd_M_create 6 = .ok (.getfield 7, 3) := by decide +kernel
theorem dd_M_create_9 : decode cd_M_create 9 = .ok (.iload_n 2, 1) := by decide +kernel
theorem dd_M_create_10 : decode cd_M_create 10 = .ok (.iload_n 1, 1) := by decide +kernel
theorem dd_M_create_11 : decode cd_M_create 11 = .ok (.iastore, 1) := by decide +kernel
theorem dd_M_create_12 : decode cd_M_create 12 = .ok (.aload_n 0, 1) := by decide +kernel
theorem dd_M_create_13 : decode cd_M_create 13 = .ok (.getfield 16, 3) := by decide +kernel
theorem dd_M_create_16 : decode cd_M_create 16 = .ok (.iload_n 2, 1) := by decide +kernel
theorem dd_M_create_17 : decode cd_M_create 17 = .ok (.aload_n 0, 1) := by decide +kernel
theorem dd_M_create_18 : decode cd_M_create 18 = .ok (.getfield 16, 3) := by decide +kernel
theorem dd_M_create_21 : decode cd_M_create 21 = .ok (.iload_n 2, 1) := by decide +kernel
theorem dd_M_create_22 : decode cd_M_create 22 = .ok (.iaload, 1) := by decide +kernel
theorem dd_M_create_23 : decode cd_M_create 23 = .ok (.iconst 1, 1) := by decide +kernel
theorem dd_M_create_24 : decode cd_M_create 24 = .ok (.iadd, 1) := by decide +kernel
theorem dd_M_create_25 : decode cd_M_create 25 = .ok (.sipush 256, 3) := by decide +kernel
theorem dd_M_create_28 : decode cd_M_create 28 = .ok (.irem, 1) := by decide +kernel
theorem dd_M_create_29 : decode cd_M_create 29 = .ok (.iastore, 1) := by decide +kernel
theorem dd_M_create_30 : decode cd_M_create 30 = .ok (.iload_n 2, 1) := by decide +kernel
theorem dd_M_create_31 : decode cd_M_create 31 = .ok (.ireturn, 1) := by decide +kernel
theorem dd_M_addEntry_0 : decode cd_M_addEntry 0 = .ok (.aload_n 0, 1) := by decide +kernel
theorem dd_M_addEntry_1 : decode cd_M_addEntry 1 = .ok (.getfield 13, 3) := by decide +kernel
theorem dd_M_addEntry_4 : decode cd_M_addEntry 4 = .ok (.iload_n 1, 1) := by decide +kernel
theorem dd_M_addEntry_5 : decode cd_M_addEntry 5 = .ok (.iaload, 1) := by decide +kernel
theorem dd_M_addEntry_6 : decode cd_M_addEntry 6 = .ok (.istore 4, 2) := by decide +kernel
theorem dd_M_addEntry_8 : decode cd_M_addEntry 8 = .ok (.aload_n 0, 1) := by decide +kernel
theorem dd_M_addEntry_9 : decode cd_M_addEntry 9 = .ok (.iload_n 1, 1) := by decide +kernel
theorem dd_M_addEntry_10 : decode cd_M_addEntry 10 = .ok (.iload 4, 2) := by decide +kernel
theorem dd_M_addEntry_12 : decode cd_M_addEntry 12 = .ok (.iconst 2, 1) := by decide +kernel
theorem dd_M_addEntry_13 : decode cd_M_addEntry 13 = .ok (.iadd, 1) := by decide +kernel
theorem dd_M_addEntry_14 : decode cd_M_addEntry 14 = .ok (.invokevirtual 56, 3) := by decide +kernel
theorem dd_M_addEntry_17 : decode cd_M_addEntry 17 = .ok (.aload_n 0, 1) := by decide +kernel
theorem dd_M_addEntry_18 : decode cd_M_addEntry 18 = .ok (.getfield 22, 3) := by decide +kernel
theorem dd_M_addEntry_21 : decode cd_M_addEntry 21 = .ok (.iload_n 1, 1) := by decide +kernel
theorem dd_M_addEntry_22 : decode cd_M_addEntry 22 = .ok (.bipush 64, 2) := by decide +kernel
theorem dd_M_addEntry_24 : decode cd_M_addEntry 24 = .ok (.imul, 1) := by decide +kernel
theorem dd_M_addEntry_25 : decode cd_M_addEntry 25 = .ok (.iload 4, 2) := by decide +kernel
theorem dd_M_addEntry_27 : decode cd_M_addEntry 27 = .ok (.iadd, 1) := by decide +kernel
theorem dd_M_addEntry_28 : decode cd_M_addEntry 28 = .ok (.iload_n 2, 1) := by decide +kernel
theorem dd_M_addEntry_29 : decode cd_M_addEntry 29 = .ok (.iastore, 1) := by decide +kernel
theorem dd_M_addEntry_30 : decode cd_M_addEntry 30 = .ok (.aload_n 0, 1) := by decide +kernel
theorem dd_M_addEntry_31 : decode cd_M_addEntry 31 = .ok (.getfield 22, 3) := by decide +kernel
theorem dd_M_addEntry_34 : decode cd_M_addEntry 34 = .ok (.iload_n 1, 1) := by decide +kernel
theorem dd_M_addEntry_35 : decode cd_M_addEntry 35 = .ok (.bipush 64, 2) := by decide +kernel
theorem dd_M_addEntry_37 : decode cd_M_addEntry 37 = .ok (.imul, 1) := by decide +kernel
theorem dd_M_addEntry_38 : decode cd_M_addEntry 38 = .ok (.iload 4, 2) := by decide +kernel
theorem dd_M_addEntry_40 : decode cd_M_addEntry 40 = .ok (.iadd, 1) := by decide +kernel
theorem dd_M_addEntry_41 : decode cd_M_addEntry 41 = .ok (.iconst 1, 1) := by decide +kernel
theorem dd_M_addEntry_42 : decode cd_M_addEntry 42 = .ok (.iadd, 1) := by decide +kernel
theorem dd_M_addEntry_43 : decode cd_M_addEntry 43 = .ok (.iload_n 3, 1) := by decide +kernel
theorem dd_M_addEntry_44 : decode cd_M_addEntry 44 = .ok (.iastore, 1) := by decide +kernel
theorem dd_M_addEntry_45 : decode cd_M_addEntry 45 = .ok (.return_, 1) := by decide +kernel
theorem dd_M_resize_0 : decode cd_M_resize 0 = .ok (.iconst 0, 1) := by decide +kernel
theorem dd_M_resize_1 : decode cd_M_resize 1 = .ok (.istore_n 3, 1) := by decide +kernel
theorem dd_M_resize_2 : decode cd_M_resize 2 = .ok (.iload_n 3, 1) := by decide +kernel
theorem dd_M_resize_3 : decode cd_M_resize 3 = .ok (.iconst 4, 1) := by decide +kernel
theorem dd_M_resize_4 : decode cd_M_resize 4 = .ok (.if_icmp .ge 65, 3) := by decide +kernel
theorem dd_M_resize_7 : decode cd_M_resize 7 = .ok (.iload_n 3, 1) := by decide +kernel
theorem dd_M_resize_8 : decode cd_M_resize 8 = .ok (.aload_n 0, 1) := by decide +kernel
theorem dd_M_resize_9 : decode cd_M_resize 9 = .ok (.iload_n 2, 1) := by decide +kernel
theorem dd_M_resize_10 : decode cd_M_resize 10 = .ok (.invokevirtual 45, 3) := by decide +kernel
theorem dd_M_resize_13 : decode cd_M_resize 13 = .ok (.if_icmp .ge 30, 3) := by decide +kernel
theorem dd_M_resize_16 : decode cd_M_resize 16 = .ok (.aload_n 0, 1) := by decide +kernel
theorem dd_M_resize_17 : decode cd_M_resize 17 = .ok (.getfield 19, 3) := by decide +kernel
theorem dd_M_resize_20 : decode cd_M_resize 20 = .ok (.iload_n 1, 1) := by decide +kernel
theorem dd_M_resize_21 : decode cd_M_resize 21 = .ok (.iconst 4, 1) := by decide +kernel
theorem dd_M_resize_22 : decode cd_M_resize 22 = .ok (.imul, 1) := by decide +kernel
theorem dd_M_resize_23 : decode cd_M_resize 23 = .ok (.iload_n 3, 1) := by decide +kernel
theorem dd_M_resize_24 : decode cd_M_resize 24 = .ok (.iadd, 1) := by decide +kernel
theorem dd_M_resize_25 : decode cd_M_resize 25 = .ok (.iaload, 1) := by decide +kernel
theorem dd_M_resize_26 : decode cd_M_resize 26 = .ok (.ifCond .ne 17, 3) := by decide +kernel
theorem dd_M_resize_29 : decode cd_M_resize 29 = .ok (.aload_n 0, 1) := by decide +kernel
theorem dd_M_resize_30 : decode cd_M_resize 30 = .ok (.getfield 19, 3) := by decide +kernel
theorem dd_M_resize_33 : decode cd_M_resize 33 = .ok (.iload_n 1, 1) := by decide +kernel
theorem dd_M_resize_34 : decode cd_M_resize 34 = .ok (.iconst 4, 1) := by decide +kernel
theorem dd_M_resize_35 : decode cd_M_resize 35 = .ok (.imul, 1) := by decide +kernel
theorem dd_M_resize_36 : decode cd_M_resize 36 = .ok (.iload_n 3, 1) := by decide +kernel
theorem dd_M_resize_37 : decode cd_M_resize 37 = .ok (.iadd, 1) := by decide +kernel
theorem dd_M_resize_38 : decode cd_M_resize 38 = .ok (.aload_n 0, 1) := by decide +kernel
theorem dd_M_resize_39 : decode cd_M_resize 39 = .ok (.invokevirtual 53, 3) := by decide +kernel
theorem dd_M_resize_42 : decode cd_M_resize 42 = .ok (.iastore, 1) := by decide +kernel
theorem dd_M_resize_43 : decode cd_M_resize 43 = .ok (.iload_n 3, 1) := by decide +kernel
theorem dd_M_resize_44 : decode cd_M_resize 44 = .ok (.aload_n 0, 1) := by decide +kernel
theorem dd_M_resize_45 : decode cd_M_resize 45 = .ok (.iload_n 2, 1) := by decide +kernel
theorem dd_M_resize_46 : decode cd_M_resize 46 = .ok (.invokevirtual 45, 3) := by decide +kernel
theorem dd_M_resize_49 : decode cd_M_resize 49 = .ok (.if_icmp .lt 14, 3) := by decide +kernel
theorem dd_M_resize_52 : decode cd_M_resize 52 = .ok (.aload_n 0, 1) := by decide +kernel
theorem dd_M_resize_53 : decode cd_M_resize 53 = .ok (.getfield 19, 3) := by decide +kernel
theorem dd_M_resize_56 : decode cd_M_resize 56 = .ok (.iload_n 1, 1) := by decide +kernel
theorem dd_M_resize_57 : decode cd_M_resize 57 = .ok (.iconst 4, 1) := by decide +kernel
theorem dd_M_resize_58 : decode cd_M_resize 58 = .ok (.imul, 1) := by decide +kernel
theorem dd_M_resize_59 : decode cd_M_resize 59 = .ok (.iload_n 3, 1) := by decide +kernel
theorem dd_M_resize_60 : decode cd_M_resize 60 = .ok (.iadd, 1) := by decide +kernel
theorem dd_M_resize_61 : decode cd_M_resize 61 = .ok (.iconst 0, 1) := by decide +kernel
theorem dd_M_resize_62 : decode cd_M_resize 62 = .ok (.iastore, 1) := by decide +kernel
theorem dd_M_resize_63 : decode cd_M_resize 63 = .ok (.iinc 3 1, 3) := by decide +kernel
theorem dd_M_resize_66 : decode cd_M_resize 66 = .ok (.goto (-64), 3) := by decide +kernel
theorem dd_M_resize_69 : decode cd_M_resize 69 = .ok (.iload_n 2, 1) := by decide +kernel
theorem dd_M_resize_70 : decode cd_M_resize 70 = .ok (.istore_n 3, 1) := by decide +kernel
theorem dd_M_resize_71 : decode cd_M_resize 71 = .ok (.iload_n 3, 1) := by decide +kernel
theorem dd_M_resize_72 : decode cd_M_resize 72 = .ok (.bipush 64, 2) := by decide +kernel
theorem dd_M_resize_74 : decode cd_M_resize 74 = .ok (.if_icmp .ge 21, 3) := by decide +kernel
theorem dd_M_resize_77 : decode cd_M_resize 77 = .ok (.aload_n 0, 1) := by decide +kernel
theorem dd_M_resize_78 : decode cd_M_resize 78 = .ok (.getfield 22, 3) := by decide +kernel
theorem dd_M_resize_81 : decode cd_M_resize 81 = .ok (.iload_n 1, 1) := by decide +kernel
theorem dd_M_resize_82 : decode cd_M_resize 82 = .ok (.bipush 64, 2) := by decide +kernel
theorem dd_M_resize_84 : decode cd_M_resize 84 = .ok (.imul, 1) := by decide +kernel
theorem dd_M_resize_85 : decode cd_M_resize 85 = .ok (.iload_n 3, 1) := by decide +kernel
theorem dd_M_resize_86 : decode cd_M_resize 86 = .ok (.iadd, 1) := by decide +kernel
theorem dd_M_resize_87 : decode cd_M_resize 87 = .ok (.iconst 0, 1) := by decide +kernel
theorem dd_M_resize_88 : decode cd_M_resize 88 = .ok (.iastore, 1) := by decide +kernel
theorem dd_M_resize_89 : decode cd_M_resize 89 = .ok (.iinc 3 1, 3) := by decide +kernel
theorem dd_M_resize_92 : decode cd_M_resize 92 = .ok (.goto (-21), 3) := by decide +kernel
theorem dd_M_resize_95 : decode cd_M_resize 95 = .ok (.aload_n 0, 1) := by decide +kernel
theorem dd_M_resize_96 : decode cd_M_resize 96 = .ok (.getfield 13, 3) := by decide +kernel
theorem dd_M_resize_99 : decode cd_M_resize 99 = .ok (.iload_n 1, 1) := by decide +kernel
theorem dd_M_resize_100 : decode cd_M_resize 100 = .ok (.iload_n 2, 1) := by decide +kernel
theorem dd_M_resize_101 : decode cd_M_resize 101 = .ok (.iastore, 1) := by decide +kernel
theorem dd_M_resize_102 : decode cd_M_resize 102 = .ok (.return_, 1) := by decide +kernel
theorem dd_M_newBlock_0 : decode cd_M_newBlock 0 = .ok (.bipush 9, 2) := by decide +kernel
theorem dd_M_newBlock_2 : decode cd_M_newBlock 2 = .ok (.istore_n 1, 1) := by decide +kernel
theorem dd_M_newBlock_3 : decode cd_M_newBlock 3 = .ok (.aload_n 0, 1) := by decide +kernel
theorem dd_M_newBlock_4 : decode cd_M_newBlock 4 = .ok (.iconst 0, 1) := by decide +kernel
theorem dd_M_newBlock_5 : decode cd_M_newBlock 5 = .ok (.iload_n 1, 1) := by decide +kernel
theorem dd_M_newBlock_6 : decode cd_M_newBlock 6 = .ok (.invokevirtual 41, 3) := by decide +kernel
theorem dd_M_newBlock_9 : decode cd_M_newBlock 9 = .ok (.ifCond .eq 9, 3) := by decide +kernel
theorem dd_M_newBlock_12 : decode cd_M_newBlock 12 = .ok (.iinc 1 1, 3) := by decide +kernel
theorem dd_M_newBlock_15 : decode cd_M_newBlock 15 = .ok (.goto (-12), 3) := by decide +kernel
theorem dd_M_newBlock_18 : decode cd_M_newBlock 18 = .ok (.iload_n 1, 1) := by decide +kernel
theorem dd_M_newBlock_19 : decode cd_M_newBlock 19 = .ok (.ireturn, 1) := by decide +kernel
theorem dd_M_open_0 : decode cd_M_open 0 = .ok (.iload_n 2, 1) := by decide +kernel
theorem dd_M_open_1 : decode cd_M_open 1 = .ok (.iconst 2, 1) := by decide +kernel
theorem dd_M_open_2 : decode cd_M_open 2 = .ok (.if_icmp .eq 8, 3) := by decide +kernel
theorem dd_M_open_5 : decode cd_M_open 5 = .ok (.iload_n 2, 1) := by decide +kernel
theorem dd_M_open_6 : decode cd_M_open 6 = .ok (.iconst 3, 1) := by decide +kernel
theorem dd_M_open_7 : decode cd_M_open 7 = .ok (.if_icmp .ne 7, 3) := by decide +kernel
theorem dd_M_open_10 : decode cd_M_open 10 = .ok (.iconst 1, 1) := by decide +kernel
theorem dd_M_open_11 : decode cd_M_open 11 = .ok (.goto 4, 3) := by decide +kernel
theorem dd_M_open_14 : decode cd_M_open 14 = .ok (.iconst 0, 1) := by decide +kernel
theorem dd_M_open_15 : decode cd_M_open 15 = .ok (.istore 6, 2) := by decide +kernel
theorem dd_M_open_17 : decode cd_M_open 17 = .ok (.aload_n 0, 1) := by decide +kernel
theorem dd_M_open_18 : decode cd_M_open 18 = .ok (.aload_n 0, 1) := by decide +kernel
theorem dd_M_open_19 : decode cd_M_open 19 = .ok (.iload_n 1, 1) := by decide +kernel
theorem dd_M_open_20 : decode cd_M_open 20 = .ok (.invokevirtual 79, 3) := by decide +kernel
theorem dd_M_open_23 : decode cd_M_open 23 = .ok (.ifCond .ne 13, 3) := by decide +kernel
theorem dd_M_open_26 : decode cd_M_open 26 = .ok (.iload_n 2, 1) := by decide +kernel
theorem dd_M_open_27 : decode cd_M_open 27 = .ok (.iconst 1, 1) := by decide +kernel
theorem dd_M_open_28 : decode cd_M_open 28 = .ok (.if_icmp .lt 8, 3) := by decide +kernel
theorem dd_M_open_31 : decode cd_M_open 31 = .ok (.iload_n 2, 1) := by decide +kernel
theorem dd_M_open_32 : decode cd_M_open 32 = .ok (.iconst 4, 1) := by decide +kernel
theorem dd_M_open_33 : decode cd_M_open 33 = .ok (.if_icmp .le 7, 3) := by decide +kernel
theorem dd_M_open_36 : decode cd_M_open 36 = .ok (.iconst 1, 1) := by decide +kernel
theorem dd_M_open_37 : decode cd_M_open 37 = .ok (.goto 32, 3) := by decide +kernel
theorem dd_M_open_40 : decode cd_M_open 40 = .ok (.aload_n 0, 1) := by decide +kernel
theorem dd_M_open_41 : decode cd_M_open 41 = .ok (.iload_n 1, 1) := by decide +kernel
theorem dd_M_open_42 : decode cd_M_open 42 = .ok (.invokevirtual 83, 3) := by decide +kernel
theorem dd_M_open_45 : decode cd_M_open 45 = .ok (.ifCond .eq 19, 3) := by decide +kernel
theorem dd_M_open_48 : decode cd_M_open 48 = .ok (.aload_n 0, 1) := by decide +kernel
theorem dd_M_open_49 : decode cd_M_open 49 = .ok (.getfield 69, 3) := by decide +kernel
theorem dd_M_open_52 : decode cd_M_open 52 = .ok (.ifCond .ge 16, 3) := by decide +kernel
theorem dd_M_open_55 : decode cd_M_open 55 = .ok (.iload_n 3, 1) := by decide +kernel
theorem dd_M_open_56 : decode cd_M_open 56 = .ok (.ifCond .eq 8, 3) := by decide +kernel
theorem dd_M_open_59 : decode cd_M_open 59 = .ok (.iload 6, 2) := by decide +kernel
theorem dd_M_open_61 : decode cd_M_open 61 = .ok (.ifCond .ne 7, 3) := by decide +kernel
theorem dd_M_open_64 : decode cd_M_open 64 = .ok (.iconst 2, 1) := by decide +kernel
theorem dd_M_open_65 : decode cd_M_open 65 = .ok (.goto 4, 3) := by decide +kernel
theorem dd_M_open_68 : decode cd_M_open 68 = .ok (.iconst 0, 1) := by decide +kernel
theorem dd_M_open_69 : decode cd_M_open 69 = .ok (.putfield 37, 3) := by decide +kernel
theorem dd_M_open_72 : decode cd_M_open 72 = .ok (.aload_n 0, 1) := by decide +kernel
theorem dd_M_open_73 : decode cd_M_open 73 = .ok (.getfield 37, 3) := by decide +kernel
theorem dd_M_open_76 : decode cd_M_open 76 = .ok (.ifCond .ne 37, 3) := by decide +kernel
theorem dd_M_open_79 : decode cd_M_open 79 = .ok (.aload_n 0, 1) := by decide +kernel
theorem dd_M_open_80 : decode cd_M_open 80 = .ok (.getfield 69, 3) := by decide +kernel
theorem dd_M_open_83 : decode cd_M_open 83 = .ok (.ifCond .lt 30, 3) := by decide +kernel
theorem dd_M_open_86 : decode cd_M_open 86 = .ok (.aload_n 0, 1) := by decide +kernel
theorem dd_M_open_87 : decode cd_M_open 87 = .ok (.getfield 7, 3) := by decide +kernel
theorem dd_M_open_90 : decode cd_M_open 90 = .ok (.aload_n 0, 1) := by decide +kernel
theorem dd_M_open_91 : decode cd_M_open 91 = .ok (.getfield 69, 3) := by decide +kernel
theorem dd_M_open_94 : decode cd_M_open 94 = .ok (.iaload, 1) := by decide +kernel
theorem dd_M_open_95 : decode cd_M_open 95 = .ok (.iload_n 2, 1) := by decide +kernel
theorem dd_M_open_96 : decode cd_M_open 96 = .ok (.iconst 4, 1) := by decide +kernel
theorem dd_M_open_97 : decode cd_M_open 97 = .ok (.if_icmp .ne 7, 3) := by decide +kernel
theorem dd_M_open_100 : decode cd_M_open 100 = .ok (.iconst 2, 1) := by decide +kernel
theorem dd_M_open_101 : decode cd_M_open 101 = .ok (.goto 4, 3) := by decide +kernel
theorem dd_M_open_104 : decode cd_M_open 104 = .ok (.iconst 1, 1) := by decide +kernel
theorem dd_M_open_105 : decode cd_M_open 105 = .ok (.if_icmp .eq 8, 3) := by decide +kernel
theorem dd_M_open_108 : decode cd_M_open 108 = .ok (.aload_n 0, 1) := by decide +kernel
theorem dd_M_open_109 : decode cd_M_open 109 = .ok (.iconst 3, 1) := by decide +kernel
theorem dd_M_open_110 : decode cd_M_open 110 = .ok (.putfield 37, 3) := by decide +kernel
theorem dd_M_open_113 : decode cd_M_open 113 = .ok (.aload_n 0, 1) := by decide +kernel
theorem dd_M_open_114 : decode cd_M_open 114 = .ok (.invokevirtual 96, 3) := by decide +kernel
theorem dd_M_open_117 : decode cd_M_open 117 = .ok (.istore 7, 2) := by decide +kernel
theorem dd_M_open_119 : decode cd_M_open 119 = .ok (.aload_n 0, 1) := by decide +kernel
theorem dd_M_open_120 : decode cd_M_open 120 = .ok (.getfield 37, 3) := by decide +kernel
theorem dd_M_open_123 : decode cd_M_open 123 = .ok (.ifCond .ne 43, 3) := by decide +kernel
theorem dd_M_open_126 : decode cd_M_open 126 = .ok (.iload 7, 2) := by decide +kernel
theorem dd_M_open_128 : decode cd_M_open 128 = .ok (.bipush 6, 2) := by decide +kernel
theorem dd_M_open_130 : decode cd_M_open 130 = .ok (.if_icmp .eq 31, 3) := by decide +kernel
theorem dd_M_open_133 : decode cd_M_open 133 = .ok (.aload_n 0, 1) := by decide +kernel
theorem dd_M_open_134 : decode cd_M_open 134 = .ok (.getfield 69, 3) := by decide +kernel
theorem dd_M_open_137 : decode cd_M_open 137 = .ok (.ifCond .ge 29, 3) := by decide +kernel
theorem dd_M_open_140 : decode cd_M_open 140 = .ok (.aload_n 0, 1) := by decide +kernel
theorem dd_M_open_141 : decode cd_M_open 141 = .ok (.invokevirtual 60, 3) := by decide +kernel
theorem dd_M_open_144 : decode cd_M_open 144 = .ok (.bipush 12, 2) := by decide +kernel
theorem dd_M_open_146 : decode cd_M_open 146 = .ok (.if_icmp .eq 15, 3) := by decide +kernel
theorem dd_M_open_149 : decode cd_M_open 149 = .ok (.aload_n 0, 1) := by decide +kernel
theorem dd_M_open_150 : decode cd_M_open 150 = .ok (.aload_n 0, 1) := by decide +kernel
theorem dd_M_open_151 : decode cd_M_open 151 = .ok (.getfield 63, 3) := by decide +kernel
theorem dd_M_open_154 : decode cd_M_open 154 = .ok (.iconst 0, 1) := by decide +kernel
theorem dd_M_open_155 : decode cd_M_open 155 = .ok (.invokevirtual 86, 3) := by decide +kernel
theorem dd_M_open_158 : decode cd_M_open 158 = .ok (.ifCond .ne 8, 3) := by decide +kernel
theorem dd_M_open_161 : decode cd_M_open 161 = .ok (.aload_n 0, 1) := by decide +kernel
theorem dd_M_open_162 : decode cd_M_open 162 = .ok (.iconst 4, 1) := by decide +kernel
theorem dd_M_open_163 : decode cd_M_open 163 = .ok (.putfield 37, 3) := by decide +kernel
theorem dd_M_open_166 : decode cd_M_open 166 = .ok (.aload_n 0, 1) := by decide +kernel
theorem dd_M_open_167 : decode cd_M_open 167 = .ok (.getfield 37, 3) := by decide +kernel
theorem dd_M_open_170 : decode cd_M_open 170 = .ok (.ifCond .eq 5, 3) := by decide +kernel
theorem dd_M_open_173 : decode cd_M_open 173 = .ok (.iconst 0, 1) := by decide +kernel
theorem dd_M_open_174 : decode cd_M_open 174 = .ok (.ireturn, 1) := by decide +kernel
theorem dd_M_open_175 : decode cd_M_open 175 = .ok (.aload_n 0, 1) := by decide +kernel
theorem dd_M_open_176 : decode cd_M_open 176 = .ok (.getfield 69, 3) := by decide +kernel
theorem dd_M_open_179 : decode cd_M_open 179 = .ok (.istore 8, 2) := by decide +kernel
theorem dd_M_open_181 : decode cd_M_open 181 = .ok (.iload 8, 2) := by decide +kernel
theorem dd_M_open_183 : decode cd_M_open 183 = .ok (.ifCond .ge 24, 3) := by decide +kernel
theorem dd_M_open_186 : decode cd_M_open 186 = .ok (.aload_n 0, 1) := by decide +kernel
theorem dd_M_open_187 : decode cd_M_open 187 = .ok (.iconst 1, 1) := by decide +kernel
theorem dd_M_open_188 : decode cd_M_open 188 = .ok (.invokevirtual 89, 3) := by decide +kernel
theorem dd_M_open_191 : decode cd_M_open 191 = .ok (.istore 8, 2) := by decide +kernel
theorem dd_M_open_193 : decode cd_M_open 193 = .ok (.aload_n 0, 1) := by decide +kernel
theorem dd_M_open_194 : decode cd_M_open 194 = .ok (.aload_n 0, 1) := by decide +kernel
theorem dd_M_open_195 : decode cd_M_open 195 = .ok (.getfield 63, 3) := by decide +kernel
theorem dd_M_open_198 : decode cd_M_open 198 = .ok (.aload_n 0, 1) := by decide +kernel
theorem dd_M_open_199 : decode cd_M_open 199 = .ok (.getfield 72, 3) := by decide +kernel
theorem dd_M_open_202 : decode cd_M_open 202 = .ok (.iload 8, 2) := by decide +kernel
theorem dd_M_open_204 : decode cd_M_open 204 = .ok (.invokevirtual 92, 3) := by decide +kernel
theorem dd_M_open_207 : decode cd_M_open 207 = .ok (.iload 5, 2) := by decide +kernel
theorem dd_M_open_209 : decode cd_M_open 209 = .ok (.ifCond .eq 15, 3) := by decide +kernel
theorem dd_M_open_212 : decode cd_M_open 212 = .ok (.iload 6, 2) := by decide +kernel
theorem dd_M_open_214 : decode cd_M_open 214 = .ok (.ifCond .eq 10, 3) := by decide +kernel
theorem dd_M_open_217 : decode cd_M_open 217 = .ok (.aload_n 0, 1) := by decide +kernel
theorem dd_M_open_218 : decode cd_M_open 218 = .ok (.iload 8, 2) := by decide +kernel
theorem dd_M_open_220 : decode cd_M_open 220 = .ok (.iconst 0, 1) := by decide +kernel
theorem dd_M_open_221 : decode cd_M_open 221 = .ok (.invokevirtual 56, 3) := by decide +kernel
theorem dd_M_open_224 : decode cd_M_open 224 = .ok (.aload_n 0, 1) := by decide +kernel
theorem dd_M_open_225 : decode cd_M_open 225 = .ok (.getfield 25, 3) := by decide +kernel
theorem dd_M_open_228 : decode cd_M_open 228 = .ok (.iload 7, 2) := by decide +kernel
theorem dd_M_open_230 : decode cd_M_open 230 = .ok (.iload 8, 2) := by decide +kernel
theorem dd_M_open_232 : decode cd_M_open 232 = .ok (.iconst 1, 1) := by decide +kernel
theorem dd_M_open_233 : decode cd_M_open 233 = .ok (.iadd, 1) := by decide +kernel
theorem dd_M_open_234 : decode cd_M_open 234 = .ok (.iastore, 1) := by decide +kernel
theorem dd_M_open_235 : decode cd_M_open 235 = .ok (.aload_n 0, 1) := by decide +kernel
theorem dd_M_open_236 : decode cd_M_open 236 = .ok (.getfield 28, 3) := by decide +kernel
theorem dd_M_open_239 : decode cd_M_open 239 = .ok (.iload 7, 2) := by decide +kernel
theorem dd_M_open_241 : decode cd_M_open 241 = .ok (.aload_n 0, 1) := by decide +kernel
theorem dd_M_open_242 : decode cd_M_open 242 = .ok (.getfield 16, 3) := by decide +kernel
theorem dd_M_open_245 : decode cd_M_open 245 = .ok (.iload 8, 2) := by decide +kernel
theorem dd_M_open_247 : decode cd_M_open 247 = .ok (.iaload, 1) := by decide +kernel
theorem dd_M_open_248 : decode cd_M_open 248 = .ok (.iastore, 1) := by decide +kernel
theorem dd_M_open_249 : decode cd_M_open 249 = .ok (.aload_n 0, 1) := by decide +kernel
theorem dd_M_open_250 : decode cd_M_open 250 = .ok (.getfield 31, 3) := by decide +kernel
theorem dd_M_open_253 : decode cd_M_open 253 = .ok (.iload 7, 2) := by decide +kernel
theorem dd_M_open_255 : decode cd_M_open 255 = .ok (.iload_n 2, 1) := by decide +kernel
theorem dd_M_open_256 : decode cd_M_open 256 = .ok (.iastore, 1) := by decide +kernel
theorem dd_M_open_257 : decode cd_M_open 257 = .ok (.aload_n 0, 1) := by decide +kernel
theorem dd_M_open_258 : decode cd_M_open 258 = .ok (.getfield 34, 3) := by decide +kernel
theorem dd_M_open_261 : decode cd_M_open 261 = .ok (.iload 7, 2) := by decide +kernel
theorem dd_M_open_263 : decode cd_M_open 263 = .ok (.iload 4, 2) := by decide +kernel
theorem dd_M_open_265 : decode cd_M_open 265 = .ok (.ifCond .eq 18, 3) := by decide +kernel
theorem dd_M_open_268 : decode cd_M_open 268 = .ok (.iload_n 2, 1) := by decide +kernel
theorem dd_M_open_269 : decode cd_M_open 269 = .ok (.iconst 4, 1) := by decide +kernel
theorem dd_M_open_270 : decode cd_M_open 270 = .ok (.if_icmp .ge 13, 3) := by decide +kernel
theorem dd_M_open_273 : decode cd_M_open 273 = .ok (.aload_n 0, 1) := by decide +kernel
theorem dd_M_open_274 : decode cd_M_open 274 = .ok (.getfield 13, 3) := by decide +kernel
theorem dd_M_open_277 : decode cd_M_open 277 = .ok (.iload 8, 2) := by decide +kernel
theorem dd_M_open_279 : decode cd_M_open 279 = .ok (.iaload, 1) := by decide +kernel
theorem dd_M_open_280 : decode cd_M_open 280 = .ok (.goto 4, 3) := by decide +kernel
theorem dd_M_open_283 : decode cd_M_open 283 = .ok (.iconst 0, 1) := by decide +kernel
theorem dd_M_open_284 : decode cd_M_open 284 = .ok (.iastore, 1) := by decide +kernel
theorem dd_M_open_285 : decode cd_M_open 285 = .ok (.iload 7, 2) := by decide +kernel
theorem dd_M_open_287 : decode cd_M_open 287 = .ok (.ireturn, 1) := by decide +kernel
theorem dd_M_closedHandle_0 : decode cd_M_closedHandle 0 = .ok (.iconst 0, 1) := by decide +kernel
theorem dd_M_closedHandle_1 : decode cd_M_closedHandle 1 = .ok (.istore_n 1, 1) := by decide +kernel
theorem dd_M_closedHandle_2 : decode cd_M_closedHandle 2 = .ok (.iload_n 1, 1) := by decide +kernel
theorem dd_M_closedHandle_3 : decode cd_M_closedHandle 3 = .ok (.bipush 6, 2) := by decide +kernel
theorem dd_M_closedHandle_5 : decode cd_M_closedHandle 5 = .ok (.if_icmp .ge 18, 3) := by decide +kernel
theorem dd_M_closedHandle_8 : decode cd_M_closedHandle 8 = .ok (.aload_n 0, 1) := by decide +kernel
theorem dd_M_closedHandle_9 : decode cd_M_closedHandle 9 = .ok (.getfield 25, 3) := by decide +kernel
theorem dd_M_closedHandle_12 : decode cd_M_closedHandle 12 = .ok (.iload_n 1, 1) := by decide +kernel
theorem dd_M_closedHandle_13 : decode cd_M_closedHandle 13 = .ok (.iaload, 1) := by decide +kernel
theorem dd_M_closedHandle_14 : decode cd_M_closedHandle 14 = .ok (.ifCond .eq 9, 3) := by decide +kernel
theorem dd_M_closedHandle_17 : decode cd_M_closedHandle 17 = .ok (.iinc 1 1, 3) := by decide +kernel
theorem dd_M_closedHandle_20 : decode cd_M_closedHandle 20 = .ok (.goto (-18), 3) := by decide +kernel
theorem dd_M_closedHandle_23 : decode cd_M_closedHandle 23 = .ok (.iload_n 1, 1) := by decide +kernel
theorem dd_M_closedHandle_24 : decode cd_M_closedHandle 24 = .ok (.ireturn, 1) := by decide +kernel
theorem dd_M_close_0 : decode cd_M_close 0 = .ok (.aload_n 0, 1) := by decide +kernel
theorem dd_M_close_1 : decode cd_M_close 1 = .ok (.iload_n 1, 1) := by decide +kernel
theorem dd_M_close_2 : decode cd_M_close 2 = .ok (.ifCond .lt 8, 3) := by decide +kernel
theorem dd_M_close_5 : decode cd_M_close 5 = .ok (.iload_n 1, 1) := by decide +kernel
theorem dd_M_close_6 : decode cd_M_close 6 = .ok (.iconst 5, 1) := by decide +kernel
theorem dd_M_close_7 : decode cd_M_close 7 = .ok (.if_icmp .le 7, 3) := by decide +kernel
theorem dd_M_close_10 : decode cd_M_close 10 = .ok (.iconst 1, 1) := by decide +kernel
theorem dd_M_close_11 : decode cd_M_close 11 = .ok (.goto 17, 3) := by decide +kernel
theorem dd_M_close_14 : decode cd_M_close 14 = .ok (.aload_n 0, 1) := by decide +kernel
theorem dd_M_close_15 : decode cd_M_close 15 = .ok (.getfield 25, 3) := by decide +kernel
theorem dd_M_close_18 : decode cd_M_close 18 = .ok (.iload_n 1, 1) := by decide +kernel
theorem dd_M_close_19 : decode cd_M_close 19 = .ok (.iaload, 1) := by decide +kernel
theorem dd_M_close_20 : decode cd_M_close 20 = .ok (.ifCond .ne 7, 3) := by decide +kernel
theorem dd_M_close_23 : decode cd_M_close 23 = .ok (.iconst 2, 1) := by decide +kernel
theorem dd_M_close_24 : decode cd_M_close 24 = .ok (.goto 4, 3) := by decide +kernel
theorem dd_M_close_27 : decode cd_M_close 27 = .ok (.iconst 0, 1) := by decide +kernel
theorem dd_M_close_28 : decode cd_M_close 28 = .ok (.putfield 37, 3) := by decide +kernel
theorem dd_M_close_31 : decode cd_M_close 31 = .ok (.aload_n 0, 1) := by decide +kernel
theorem dd_M_close_32 : decode cd_M_close 32 = .ok (.getfield 37, 3) := by decide +kernel
theorem dd_M_close_35 : decode cd_M_close 35 = .ok (.ifCond .ne 10, 3) := by decide +kernel
theorem dd_M_close_38 : decode cd_M_close 38 = .ok (.aload_n 0, 1) := by decide +kernel
theorem dd_M_close_39 : decode cd_M_close 39 = .ok (.getfield 25, 3) := by decide +kernel
theorem dd_M_close_42 : decode cd_M_close 42 = .ok (.iload_n 1, 1) := by decide +kernel
theorem dd_M_close_43 : decode cd_M_close 43 = .ok (.iconst 0, 1) := by decide +kernel
theorem dd_M_close_44 : decode cd_M_close 44 = .ok (.iastore, 1) := by decide +kernel
theorem dd_M_close_45 : decode cd_M_close 45 = .ok (.return_, 1) := by decide +kernel
theorem dd_M_write_0 : decode cd_M_write 0 = .ok (.aload_n 0, 1) := by decide +kernel
theorem dd_M_write_1 : decode cd_M_write 1 = .ok (.iload_n 1, 1) := by decide +kernel
theorem dd_M_write_2 : decode cd_M_write 2 = .ok (.ifCond .lt 20, 3) := by decide +kernel
theorem dd_M_write_5 : decode cd_M_write 5 = .ok (.iload_n 1, 1) := by decide +kernel
theorem dd_M_write_6 : decode cd_M_write 6 = .ok (.iconst 5, 1) := by decide +kernel
theorem dd_M_write_7 : decode cd_M_write 7 = .ok (.if_icmp .gt 15, 3) := by decide +kernel
theorem dd_M_write_10 : decode cd_M_write 10 = .ok (.iload 4, 2) := by decide +kernel
theorem dd_M_write_12 : decode cd_M_write 12 = .ok (.ifCond .lt 10, 3) := by decide +kernel
theorem dd_M_write_15 : decode cd_M_write 15 = .ok (.iload 4, 2) := by decide +kernel
theorem dd_M_write_17 : decode cd_M_write 17 = .ok (.bipush 8, 2) := by decide +kernel
theorem dd_M_write_19 : decode cd_M_write 19 = .ok (.if_icmp .le 7, 3) := by decide +kernel
theorem dd_M_write_22 : decode cd_M_write 22 = .ok (.iconst 1, 1) := by decide +kernel
theorem dd_M_write_23 : decode cd_M_write 23 = .ok (.goto 10, 3) := by decide +kernel
theorem dd_M_write_26 : decode cd_M_write 26 = .ok (.aload_n 0, 1) := by decide +kernel
theorem dd_M_write_27 : decode cd_M_write 27 = .ok (.iload_n 1, 1) := by decide +kernel
theorem dd_M_write_28 : decode cd_M_write 28 = .ok (.iconst 2, 1) := by decide +kernel
theorem dd_M_write_29 : decode cd_M_write 29 = .ok (.iconst 2, 1) := by decide +kernel
theorem dd_M_write_30 : decode cd_M_write 30 = .ok (.invokevirtual 102, 3) := by decide +kernel
theorem dd_M_write_33 : decode cd_M_write 33 = .ok (.putfield 37, 3) := by decide +kernel
theorem dd_M_write_36 : decode cd_M_write 36 = .ok (.aload_n 0, 1) := by decide +kernel
theorem dd_M_write_37 : decode cd_M_write 37 = .ok (.getfield 37, 3) := by decide +kernel
theorem dd_M_write_40 : decode cd_M_write 40 = .ok (.ifCond .ne 8, 3) := by decide +kernel
theorem dd_M_write_43 : decode cd_M_write 43 = .ok (.iload 4, 2) := by decide +kernel
theorem dd_M_write_45 : decode cd_M_write 45 = .ok (.ifCond .ne 4, 3) := by decide +kernel
theorem dd_M_write_48 : decode cd_M_write 48 = .ok (.return_, 1) := by decide +kernel
theorem dd_M_write_49 : decode cd_M_write 49 = .ok (.aload_n 0, 1) := by decide +kernel
theorem dd_M_write_50 : decode cd_M_write 50 = .ok (.getfield 25, 3) := by decide +kernel
theorem dd_M_write_53 : decode cd_M_write 53 = .ok (.iload_n 1, 1) := by decide +kernel
theorem dd_M_write_54 : decode cd_M_write 54 = .ok (.iaload, 1) := by decide +kernel
theorem dd_M_write_55 : decode cd_M_write 55 = .ok (.iconst 1, 1) := by decide +kernel
theorem dd_M_write_56 : decode cd_M_write 56 = .ok (.isub, 1) := by decide +kernel
theorem dd_M_write_57 : decode cd_M_write 57 = .ok (.istore 5, 2) := by decide +kernel
theorem dd_M_write_59 : decode cd_M_write 59 = .ok (.aload_n 0, 1) := by decide +kernel
theorem dd_M_write_60 : decode cd_M_write 60 = .ok (.getfield 34, 3) := by decide +kernel
theorem dd_M_write_63 : decode cd_M_write 63 = .ok (.iload_n 1, 1) := by decide +kernel
theorem dd_M_write_64 : decode cd_M_write 64 = .ok (.iaload, 1) := by decide +kernel
theorem dd_M_write_65 : decode cd_M_write 65 = .ok (.iload 4, 2) := by decide +kernel
theorem dd_M_write_67 : decode cd_M_write 67 = .ok (.iadd, 1) := by decide +kernel
theorem dd_M_write_68 : decode cd_M_write 68 = .ok (.istore 6, 2) := by decide +kernel
theorem dd_M_write_70 : decode cd_M_write 70 = .ok (.iload 6, 2) := by decide +kernel
theorem dd_M_write_72 : decode cd_M_write 72 = .ok (.aload_n 0, 1) := by decide +kernel
theorem dd_M_write_73 : decode cd_M_write 73 = .ok (.getfield 13, 3) := by decide +kernel
theorem dd_M_write_76 : decode cd_M_write 76 = .ok (.iload 5, 2) := by decide +kernel
theorem dd_M_write_78 : decode cd_M_write 78 = .ok (.iaload, 1) := by decide +kernel
theorem dd_M_write_79 : decode cd_M_write 79 = .ok (.if_icmp .le 8, 3) := by decide +kernel
theorem dd_M_write_82 : decode cd_M_write 82 = .ok (.iload 6, 2) := by decide +kernel
theorem dd_M_write_84 : decode cd_M_write 84 = .ok (.goto 10, 3) := by decide +kernel
theorem dd_M_write_87 : decode cd_M_write 87 = .ok (.aload_n 0, 1) := by decide +kernel
theorem dd_M_write_88 : decode cd_M_write 88 = .ok (.getfield 13, 3) := by decide +kernel
theorem dd_M_write_91 : decode cd_M_write 91 = .ok (.iload 5, 2) := by decide +kernel
theorem dd_M_write_93 : decode cd_M_write 93 = .ok (.iaload, 1) := by decide +kernel
theorem dd_M_write_94 : decode cd_M_write 94 = .ok (.istore 7, 2) := by decide +kernel
theorem dd_M_write_96 : decode cd_M_write 96 = .ok (.iload 6, 2) := by decide +kernel
theorem dd_M_write_98 : decode cd_M_write 98 = .ok (.bipush 64, 2) := by decide +kernel
theorem dd_M_write_100 : decode cd_M_write 100 = .ok (.if_icmp .gt 14, 3) := by decide +kernel
theorem dd_M_write_103 : decode cd_M_write 103 = .ok (.aload_n 0, 1) := by decide +kernel
theorem dd_M_write_104 : decode cd_M_write 104 = .ok (.iload 5, 2) := by decide +kernel
theorem dd_M_write_106 : decode cd_M_write 106 = .ok (.iload 7, 2) := by decide +kernel
theorem dd_M_write_108 : decode cd_M_write 108 = .ok (.invokevirtual 106, 3) := by decide +kernel
theorem dd_M_write_111 : decode cd_M_write 111 = .ok (.ifCond .ne 9, 3) := by decide +kernel
theorem dd_M_write_114 : decode cd_M_write 114 = .ok (.aload_n 0, 1) := by decide +kernel
theorem dd_M_write_115 : decode cd_M_write 115 = .ok (.iconst 3, 1) := by decide +kernel
theorem dd_M_write_116 : decode cd_M_write 116 = .ok (.putfield 37, 3) := by decide +kernel
theorem dd_M_write_119 : decode cd_M_write 119 = .ok (.return_, 1) := by decide +kernel
theorem dd_M_write_120 : decode cd_M_write 120 = .ok (.aload_n 0, 1) := by decide +kernel
theorem dd_M_write_121 : decode cd_M_write 121 = .ok (.iload 5, 2) := by decide +kernel
theorem dd_M_write_123 : decode cd_M_write 123 = .ok (.iload 7, 2) := by decide +kernel
theorem dd_M_write_125 : decode cd_M_write 125 = .ok (.invokevirtual 56, 3) := by decide +kernel
theorem dd_M_write_128 : decode cd_M_write 128 = .ok (.iconst 0, 1) := by decide +kernel
theorem dd_M_write_129 : decode cd_M_write 129 = .ok (.istore 8, 2) := by decide +kernel
theorem dd_M_write_131 : decode cd_M_write 131 = .ok (.iload 8, 2) := by decide +kernel
theorem dd_M_write_133 : decode cd_M_write 133 = .ok (.iload 4, 2) := by decide +kernel
theorem dd_M_write_135 : decode cd_M_write 135 = .ok (.if_icmp .ge 41, 3) := by decide +kernel
theorem dd_M_write_138 : decode cd_M_write 138 = .ok (.aload_n 0, 1) := by decide +kernel
theorem dd_M_write_139 : decode cd_M_write 139 = .ok (.getfield 22, 3) := by decide +kernel
theorem dd_M_write_142 : decode cd_M_write 142 = .ok (.iload 5, 2) := by decide +kernel
theorem dd_M_write_144 : decode cd_M_write 144 = .ok (.bipush 64, 2) := by decide +kernel
theorem dd_M_write_146 : decode cd_M_write 146 = .ok (.imul, 1) := by decide +kernel
theorem dd_M_write_147 : decode cd_M_write 147 = .ok (.aload_n 0, 1) := by decide +kernel
theorem dd_M_write_148 : decode cd_M_write 148 = .ok (.getfield 34, 3) := by decide +kernel
theorem dd_M_write_151 : decode cd_M_write 151 = .ok (.iload_n 1, 1) := by decide +kernel
theorem dd_M_write_152 : decode cd_M_write 152 = .ok (.iaload, 1) := by decide +kernel
theorem dd_M_write_153 : decode cd_M_write 153 = .ok (.iadd, 1) := by decide +kernel
theorem dd_M_write_154 : decode cd_M_write 154 = .ok (.iload 8, 2) := by decide +kernel
theorem dd_M_write_156 : decode cd_M_write 156 = .ok (.iadd, 1) := by decide +kernel
theorem dd_M_write_157 : decode cd_M_write 157 = .ok (.lload_n 2, 1) := by decide +kernel
theorem dd_M_write_158 : decode cd_M_write 158 = .ok (.bipush 8, 2) := by decide +kernel
theorem dd_M_write_160 : decode cd_M_write 160 = .ok (.iload 8, 2) := by decide +kernel
theorem dd_M_write_162 : decode cd_M_write 162 = .ok (.imul, 1) := by decide +kernel
theorem dd_M_write_163 : decode cd_M_write 163 = .ok (.lushr, 1) := by decide +kernel
theorem dd_M_write_164 : decode cd_M_write 164 = .ok (.ldc2_w 109, 3) := by decide +kernel
theorem dd_M_write_167 : decode cd_M_write 167 = .ok (.land, 1) := by decide +kernel
theorem dd_M_write_168 : decode cd_M_write 168 = .ok (.l2i, 1) := by decide +kernel
theorem dd_M_write_169 : decode cd_M_write 169 = .ok (.iastore, 1) := by decide +kernel
theorem dd_M_write_170 : decode cd_M_write 170 = .ok (.iinc 8 1, 3) := by decide +kernel
theorem dd_M_write_173 : decode cd_M_write 173 = .ok (.goto (-42), 3) := by decide +kernel
theorem dd_M_write_176 : decode cd_M_write 176 = .ok (.aload_n 0, 1) := by decide +kernel
theorem dd_M_write_177 : decode cd_M_write 177 = .ok (.getfield 34, 3) := by decide +kernel
theorem dd_M_write_180 : decode cd_M_write 180 = .ok (.iload_n 1, 1) := by decide +kernel
theorem dd_M_write_181 : decode cd_M_write 181 = .ok (.iload 6, 2) := by decide +kernel
theorem dd_M_write_183 : decode cd_M_write 183 = .ok (.iastore, 1) := by decide +kernel
theorem dd_M_write_184 : decode cd_M_write 184 = .ok (.return_, 1) := by decide +kernel
theorem dd_M_wrong_0 : decode cd_M_wrong 0 = .ok (.iload_n 1, 1) := by decide +kernel
theorem dd_M_wrong_1 : decode cd_M_wrong 1 = .ok (.ifCond .lt 8, 3) := by decide +kernel
theorem dd_M_wrong_4 : decode cd_M_wrong 4 = .ok (.iload_n 1, 1) := by decide +kernel
theorem dd_M_wrong_5 : decode cd_M_wrong 5 = .ok (.iconst 5, 1) := by decide +kernel
theorem dd_M_wrong_6 : decode cd_M_wrong 6 = .ok (.if_icmp .le 5, 3) := by decide +kernel
theorem dd_M_wrong_9 : decode cd_M_wrong 9 = .ok (.iconst 1, 1) := by decide +kernel
theorem dd_M_wrong_10 : decode cd_M_wrong 10 = .ok (.ireturn, 1) := by decide +kernel
theorem dd_M_wrong_11 : decode cd_M_wrong 11 = .ok (.aload_n 0, 1) := by decide +kernel
theorem dd_M_wrong_12 : decode cd_M_wrong 12 = .ok (.getfield 25, 3) := by decide +kernel
theorem dd_M_wrong_15 : decode cd_M_wrong 15 = .ok (.iload_n 1, 1) := by decide +kernel
theorem dd_M_wrong_16 : decode cd_M_wrong 16 = .ok (.iaload, 1) := by decide +kernel
theorem dd_M_wrong_17 : decode cd_M_wrong 17 = .ok (.ifCond .eq 46, 3) := by decide +kernel
theorem dd_M_wrong_20 : decode cd_M_wrong 20 = .ok (.aload_n 0, 1) := by decide +kernel
theorem dd_M_wrong_21 : decode cd_M_wrong 21 = .ok (.iload_n 1, 1) := by decide +kernel
theorem dd_M_wrong_22 : decode cd_M_wrong 22 = .ok (.invokevirtual 99, 3) := by decide +kernel
theorem dd_M_wrong_25 : decode cd_M_wrong 25 = .ok (.ifCond .ne 38, 3) := by decide +kernel
theorem dd_M_wrong_28 : decode cd_M_wrong 28 = .ok (.aload_n 0, 1) := by decide +kernel
theorem dd_M_wrong_29 : decode cd_M_wrong 29 = .ok (.getfield 31, 3) := by decide +kernel
theorem dd_M_wrong_32 : decode cd_M_wrong 32 = .ok (.iload_n 1, 1) := by decide +kernel
theorem dd_M_wrong_33 : decode cd_M_wrong 33 = .ok (.iaload, 1) := by decide +kernel
theorem dd_M_wrong_34 : decode cd_M_wrong 34 = .ok (.iload_n 2, 1) := by decide +kernel
theorem dd_M_wrong_35 : decode cd_M_wrong 35 = .ok (.if_icmp .eq 32, 3) := by decide +kernel
theorem dd_M_wrong_38 : decode cd_M_wrong 38 = .ok (.aload_n 0, 1) := by decide +kernel
theorem dd_M_wrong_39 : decode cd_M_wrong 39 = .ok (.getfield 31, 3) := by decide +kernel
theorem dd_M_wrong_42 : decode cd_M_wrong 42 = .ok (.iload_n 1, 1) := by decide +kernel
theorem dd_M_wrong_43 : decode cd_M_wrong 43 = .ok (.iaload, 1) := by decide +kernel
theorem dd_M_wrong_44 : decode cd_M_wrong 44 = .ok (.iload_n 3, 1) := by decide +kernel
theorem dd_M_wrong_45 : decode cd_M_wrong 45 = .ok (.if_icmp .eq 22, 3) := by decide +kernel
theorem dd_M_wrong_48 : decode cd_M_wrong 48 = .ok (.aload_n 0, 1) := by decide +kernel
theorem dd_M_wrong_49 : decode cd_M_wrong 49 = .ok (.getfield 31, 3) := by decide +kernel
theorem dd_M_wrong_52 : decode cd_M_wrong 52 = .ok (.iload_n 1, 1) := by decide +kernel
theorem dd_M_wrong_53 : decode cd_M_wrong 53 = .ok (.iaload, 1) := by decide +kernel
theorem dd_M_wrong_54 : decode cd_M_wrong 54 = .ok (.iconst 3, 1) := by decide +kernel
theorem dd_M_wrong_55 : decode cd_M_wrong 55 = .ok (.if_icmp .ne 8, 3) := by decide +kernel
theorem dd_M_wrong_58 : decode cd_M_wrong 58 = .ok (.iload_n 2, 1) := by decide +kernel
theorem dd_M_wrong_59 : decode cd_M_wrong 59 = .ok (.iconst 4, 1) := by decide +kernel
theorem dd_M_wrong_60 : decode cd_M_wrong 60 = .ok (.if_icmp .lt 7, 3) := by decide +kernel
theorem dd_M_wrong_63 : decode cd_M_wrong 63 = .ok (.iconst 2, 1) := by decide +kernel
theorem dd_M_wrong_64 : decode cd_M_wrong 64 = .ok (.goto 4, 3) := by decide +kernel
theorem dd_M_wrong_67 : decode cd_M_wrong 67 = .ok (.iconst 0, 1) := by decide +kernel
theorem dd_M_wrong_68 : decode cd_M_wrong 68 = .ok (.ireturn, 1) := by decide +kernel
theorem dd_M_stale_0 : decode cd_M_stale 0 = .ok (.aload_n 0, 1) := by decide +kernel
theorem dd_M_stale_1 : decode cd_M_stale 1 = .ok (.getfield 25, 3) := by decide +kernel
theorem dd_M_stale_4 : decode cd_M_stale 4 = .ok (.iload_n 1, 1) := by decide +kernel
theorem dd_M_stale_5 : decode cd_M_stale 5 = .ok (.iaload, 1) := by decide +kernel
theorem dd_M_stale_6 : decode cd_M_stale 6 = .ok (.iconst 1, 1) := by decide +kernel
theorem dd_M_stale_7 : decode cd_M_stale 7 = .ok (.isub, 1) := by decide +kernel
theorem dd_M_stale_8 : decode cd_M_stale 8 = .ok (.istore_n 2, 1) := by decide +kernel
theorem dd_M_stale_9 : decode cd_M_stale 9 = .ok (.aload_n 0, 1) := by decide +kernel
theorem dd_M_stale_10 : decode cd_M_stale 10 = .ok (.getfield 16, 3) := by decide +kernel
theorem dd_M_stale_13 : decode cd_M_stale 13 = .ok (.iload_n 2, 1) := by decide +kernel
theorem dd_M_stale_14 : decode cd_M_stale 14 = .ok (.iaload, 1) := by decide +kernel
theorem dd_M_stale_15 : decode cd_M_stale 15 = .ok (.aload_n 0, 1) := by decide +kernel
theorem dd_M_stale_16 : decode cd_M_stale 16 = .ok (.getfield 28, 3) := by decide +kernel
theorem dd_M_stale_19 : decode cd_M_stale 19 = .ok (.iload_n 1, 1) := by decide +kernel
theorem dd_M_stale_20 : decode cd_M_stale 20 = .ok (.iaload, 1) := by decide +kernel
theorem dd_M_stale_21 : decode cd_M_stale 21 = .ok (.if_icmp .ne 27, 3) := by decide +kernel
theorem dd_M_stale_24 : decode cd_M_stale 24 = .ok (.aload_n 0, 1) := by decide +kernel
theorem dd_M_stale_25 : decode cd_M_stale 25 = .ok (.getfield 7, 3) := by decide +kernel
theorem dd_M_stale_28 : decode cd_M_stale 28 = .ok (.iload_n 2, 1) := by decide +kernel
theorem dd_M_stale_29 : decode cd_M_stale 29 = .ok (.iaload, 1) := by decide +kernel
theorem dd_M_stale_30 : decode cd_M_stale 30 = .ok (.aload_n 0, 1) := by decide +kernel
theorem dd_M_stale_31 : decode cd_M_stale 31 = .ok (.getfield 31, 3) := by decide +kernel
theorem dd_M_stale_34 : decode cd_M_stale 34 = .ok (.iload_n 1, 1) := by decide +kernel
theorem dd_M_stale_35 : decode cd_M_stale 35 = .ok (.iaload, 1) := by decide +kernel
theorem dd_M_stale_36 : decode cd_M_stale 36 = .ok (.iconst 4, 1) := by decide +kernel
theorem dd_M_stale_37 : decode cd_M_stale 37 = .ok (.if_icmp .ne 7, 3) := by decide +kernel
theorem dd_M_stale_40 : decode cd_M_stale 40 = .ok (.iconst 2, 1) := by decide +kernel
theorem dd_M_stale_41 : decode cd_M_stale 41 = .ok (.goto 4, 3) := by decide +kernel
theorem dd_M_stale_44 : decode cd_M_stale 44 = .ok (.iconst 1, 1) := by decide +kernel
theorem dd_M_stale_45 : decode cd_M_stale 45 = .ok (.if_icmp .eq 7, 3) := by decide +kernel
theorem dd_M_stale_48 : decode cd_M_stale 48 = .ok (.iconst 1, 1) := by decide +kernel
theorem dd_M_stale_49 : decode cd_M_stale 49 = .ok (.goto 4, 3) := by decide +kernel
theorem dd_M_stale_52 : decode cd_M_stale 52 = .ok (.iconst 0, 1) := by decide +kernel
theorem dd_M_stale_53 : decode cd_M_stale 53 = .ok (.ireturn, 1) := by decide +kernel
theorem dd_M_roomFor_0 : decode cd_M_roomFor 0 = .ok (.aload_n 0, 1) := by decide +kernel
theorem dd_M_roomFor_1 : decode cd_M_roomFor 1 = .ok (.iload_n 2, 1) := by decide +kernel
theorem dd_M_roomFor_2 : decode cd_M_roomFor 2 = .ok (.invokevirtual 45, 3) := by decide +kernel
theorem dd_M_roomFor_5 : decode cd_M_roomFor 5 = .ok (.aload_n 0, 1) := by decide +kernel
theorem dd_M_roomFor_6 : decode cd_M_roomFor 6 = .ok (.aload_n 0, 1) := by decide +kernel
theorem dd_M_roomFor_7 : decode cd_M_roomFor 7 = .ok (.getfield 13, 3) := by decide +kernel
theorem dd_M_roomFor_10 : decode cd_M_roomFor 10 = .ok (.iload_n 1, 1) := by decide +kernel
theorem dd_M_roomFor_11 : decode cd_M_roomFor 11 = .ok (.iaload, 1) := by decide +kernel
theorem dd_M_roomFor_12 : decode cd_M_roomFor 12 = .ok (.invokevirtual 45, 3) := by decide +kernel
theorem dd_M_roomFor_15 : decode cd_M_roomFor 15 = .ok (.isub, 1) := by decide +kernel
theorem dd_M_roomFor_16 : decode cd_M_roomFor 16 = .ok (.aload_n 0, 1) := by decide +kernel
theorem dd_M_roomFor_17 : decode cd_M_roomFor 17 = .ok (.invokevirtual 49, 3) := by decide +kernel
theorem dd_M_roomFor_20 : decode cd_M_roomFor 20 = .ok (.if_icmp .gt 7, 3) := by decide +kernel
theorem dd_M_roomFor_23 : decode cd_M_roomFor 23 = .ok (.iconst 1, 1) := by decide +kernel
theorem dd_M_roomFor_24 : decode cd_M_roomFor 24 = .ok (.goto 4, 3) := by decide +kernel
theorem dd_M_roomFor_27 : decode cd_M_roomFor 27 = .ok (.iconst 0, 1) := by decide +kernel
theorem dd_M_roomFor_28 : decode cd_M_roomFor 28 = .ok (.ireturn, 1) := by decide +kernel
theorem dd_M_read_0 : decode cd_M_read 0 = .ok (.aload_n 0, 1) := by decide +kernel
theorem dd_M_read_1 : decode cd_M_read 1 = .ok (.iload_n 1, 1) := by decide +kernel
theorem dd_M_read_2 : decode cd_M_read 2 = .ok (.ifCond .lt 18, 3) := by decide +kernel
theorem dd_M_read_5 : decode cd_M_read 5 = .ok (.iload_n 1, 1) := by decide +kernel
theorem dd_M_read_6 : decode cd_M_read 6 = .ok (.iconst 5, 1) := by decide +kernel
theorem dd_M_read_7 : decode cd_M_read 7 = .ok (.if_icmp .gt 13, 3) := by decide +kernel
theorem dd_M_read_10 : decode cd_M_read 10 = .ok (.iload_n 2, 1) := by decide +kernel
theorem dd_M_read_11 : decode cd_M_read 11 = .ok (.ifCond .lt 9, 3) := by decide +kernel
theorem dd_M_read_14 : decode cd_M_read 14 = .ok (.iload_n 2, 1) := by decide +kernel
theorem dd_M_read_15 : decode cd_M_read 15 = .ok (.bipush 8, 2) := by decide +kernel
theorem dd_M_read_17 : decode cd_M_read 17 = .ok (.if_icmp .le 7, 3) := by decide +kernel
theorem dd_M_read_20 : decode cd_M_read 20 = .ok (.iconst 1, 1) := by decide +kernel
theorem dd_M_read_21 : decode cd_M_read 21 = .ok (.goto 10, 3) := by decide +kernel
theorem dd_M_read_24 : decode cd_M_read 24 = .ok (.aload_n 0, 1) := by decide +kernel
theorem dd_M_read_25 : decode cd_M_read 25 = .ok (.iload_n 1, 1) := by decide +kernel
theorem dd_M_read_26 : decode cd_M_read 26 = .ok (.iconst 1, 1) := by decide +kernel
theorem dd_M_read_27 : decode cd_M_read 27 = .ok (.iconst 1, 1) := by decide +kernel
theorem dd_M_read_28 : decode cd_M_read 28 = .ok (.invokevirtual 102, 3) := by decide +kernel
theorem dd_M_read_31 : decode cd_M_read 31 = .ok (.putfield 37, 3) := by decide +kernel
theorem dd_M_read_34 : decode cd_M_read 34 = .ok (.aload_n 0, 1) := by decide +kernel
theorem dd_M_read_35 : decode cd_M_read 35 = .ok (.getfield 37, 3) := by decide +kernel
theorem dd_M_read_38 : decode cd_M_read 38 = .ok (.ifCond .eq 5, 3) := by decide +kernel
theorem dd_M_read_41 : decode cd_M_read 41 = .ok (.lconst 0, 1) := by decide +kernel
theorem dd_M_read_42 : decode cd_M_read 42 = .ok (.lreturn, 1) := by decide +kernel
theorem dd_M_read_43 : decode cd_M_read 43 = .ok (.aload_n 0, 1) := by decide +kernel
theorem dd_M_read_44 : decode cd_M_read 44 = .ok (.getfield 25, 3) := by decide +kernel
theorem dd_M_read_47 : decode cd_M_read 47 = .ok (.iload_n 1, 1) := by decide +kernel
theorem dd_M_read_48 : decode cd_M_read 48 = .ok (.iaload, 1) := by decide +kernel
theorem dd_M_read_49 : decode cd_M_read 49 = .ok (.iconst 1, 1) := by decide +kernel
theorem dd_M_read_50 : decode cd_M_read 50 = .ok (.isub, 1) := by decide +kernel
theorem dd_M_read_51 : decode cd_M_read 51 = .ok (.istore_n 3, 1) := by decide +kernel
theorem dd_M_read_52 : decode cd_M_read 52 = .ok (.lconst 0, 1) := by decide +kernel
theorem dd_M_read_53 : decode cd_M_read 53 = .ok (.lstore 4, 2) := by decide +kernel
theorem dd_M_read_55 : decode cd_M_read 55 = .ok (.iconst 0, 1) := by decide +kernel
theorem dd_M_read_56 : decode cd_M_read 56 = .ok (.istore 6, 2) := by decide +kernel
theorem dd_M_read_58 : decode cd_M_read 58 = .ok (.iload 6, 2) := by decide +kernel
theorem dd_M_read_60 : decode cd_M_read 60 = .ok (.iload_n 2, 1) := by decide +kernel
theorem dd_M_read_61 : decode cd_M_read 61 = .ok (.if_icmp .ge 62, 3) := by decide +kernel
theorem dd_M_read_64 : decode cd_M_read 64 = .ok (.aload_n 0, 1) := by decide +kernel
theorem dd_M_read_65 : decode cd_M_read 65 = .ok (.getfield 34, 3) := by decide +kernel
theorem dd_M_read_68 : decode cd_M_read 68 = .ok (.iload_n 1, 1) := by decide +kernel
theorem dd_M_read_69 : decode cd_M_read 69 = .ok (.iaload, 1) := by decide +kernel
theorem dd_M_read_70 : decode cd_M_read 70 = .ok (.aload_n 0, 1) := by decide +kernel
theorem dd_M_read_71 : decode cd_M_read 71 = .ok (.getfield 13, 3) := by decide +kernel
theorem dd_M_read_74 : decode cd_M_read 74 = .ok (.iload_n 3, 1) := by decide +kernel
theorem dd_M_read_75 : decode cd_M_read 75 = .ok (.iaload, 1) := by decide +kernel
theorem dd_M_read_76 : decode cd_M_read 76 = .ok (.if_icmp .ge 47, 3) := by decide +kernel
theorem dd_M_read_79 : decode cd_M_read 79 = .ok (.lload 4, 2) := by decide +kernel
theorem dd_M_read_81 : decode cd_M_read 81 = .ok (.aload_n 0, 1) := by decide +kernel
theorem dd_M_read_82 : decode cd_M_read 82 = .ok (.getfield 22, 3) := by decide +kernel
theorem dd_M_read_85 : decode cd_M_read 85 = .ok (.iload_n 3, 1) := by decide +kernel
theorem dd_M_read_86 : decode cd_M_read 86 = .ok (.bipush 64, 2) := by decide +kernel
theorem dd_M_read_88 : decode cd_M_read 88 = .ok (.imul, 1) := by decide +kernel
theorem dd_M_read_89 : decode cd_M_read 89 = .ok (.aload_n 0, 1) := by decide +kernel
theorem dd_M_read_90 : decode cd_M_read 90 = .ok (.getfield 34, 3) := by decide +kernel
theorem dd_M_read_93 : decode cd_M_read 93 = .ok (.iload_n 1, 1) := by decide +kernel
theorem dd_M_read_94 : decode cd_M_read 94 = .ok (.iaload, 1) := by decide +kernel
theorem dd_M_read_95 : decode cd_M_read 95 = .ok (.iadd, 1) := by decide +kernel
theorem dd_M_read_96 : decode cd_M_read 96 = .ok (.iaload, 1) := by decide +kernel
theorem dd_M_read_97 : decode cd_M_read 97 = .ok (.i2l, 1) := by decide +kernel
theorem dd_M_read_98 : decode cd_M_read 98 = .ok (.bipush 8, 2) := by decide +kernel
theorem dd_M_read_100 : decode cd_M_read 100 = .ok (.iload 6, 2) := by decide +kernel
theorem dd_M_read_102 : decode cd_M_read 102 = .ok (.imul, 1) := by decide +kernel
theorem dd_M_read_103 : decode cd_M_read 103 = .ok (.lshl, 1) := by decide +kernel
theorem dd_M_read_104 : decode cd_M_read 104 = .ok (.lor, 1) := by decide +kernel
theorem dd_M_read_105 : decode cd_M_read 105 = .ok (.lstore 4, 2) := by decide +kernel
theorem dd_M_read_107 : decode cd_M_read 107 = .ok (.aload_n 0, 1) := by decide +kernel
theorem dd_M_read_108 : decode cd_M_read 108 = .ok (.getfield 34, 3) := by decide +kernel
theorem dd_M_read_111 : decode cd_M_read 111 = .ok (.iload_n 1, 1) := by decide +kernel
theorem dd_M_read_112 : decode cd_M_read 112 = .ok (.dup2, 1) := by decide +kernel
theorem dd_M_read_113 : decode cd_M_read 113 = .ok (.iaload, 1) := by decide +kernel
theorem dd_M_read_114 : decode cd_M_read 114 = .ok (.iconst 1, 1) := by decide +kernel
theorem dd_M_read_115 : decode cd_M_read 115 = .ok (.iadd, 1) := by decide +kernel
theorem dd_M_read_116 : decode cd_M_read 116 = .ok (.iastore, 1) := by decide +kernel
theorem dd_M_read_117 : decode cd_M_read 117 = .ok (.iinc 6 1, 3) := by decide +kernel
theorem dd_M_read_120 : decode cd_M_read 120 = .ok (.goto (-62), 3) := by decide +kernel
theorem dd_M_read_123 : decode cd_M_read 123 = .ok (.lload 4, 2) := by decide +kernel
theorem dd_M_read_125 : decode cd_M_read 125 = .ok (.lreturn, 1) := by decide +kernel
theorem dd_M_seek_0 : decode cd_M_seek 0 = .ok (.aload_n 0, 1) := by decide +kernel
theorem dd_M_seek_1 : decode cd_M_seek 1 = .ok (.iload_n 1, 1) := by decide +kernel
theorem dd_M_seek_2 : decode cd_M_seek 2 = .ok (.ifCond .lt 18, 3) := by decide +kernel
theorem dd_M_seek_5 : decode cd_M_seek 5 = .ok (.iload_n 1, 1) := by decide +kernel
theorem dd_M_seek_6 : decode cd_M_seek 6 = .ok (.iconst 5, 1) := by decide +kernel
theorem dd_M_seek_7 : decode cd_M_seek 7 = .ok (.if_icmp .gt 13, 3) := by decide +kernel
theorem dd_M_seek_10 : decode cd_M_seek 10 = .ok (.iload_n 2, 1) := by decide +kernel
theorem dd_M_seek_11 : decode cd_M_seek 11 = .ok (.ifCond .lt 9, 3) := by decide +kernel
theorem dd_M_seek_14 : decode cd_M_seek 14 = .ok (.iload_n 2, 1) := by decide +kernel
theorem dd_M_seek_15 : decode cd_M_seek 15 = .ok (.bipush 64, 2) := by decide +kernel
theorem dd_M_seek_17 : decode cd_M_seek 17 = .ok (.if_icmp .le 7, 3) := by decide +kernel
theorem dd_M_seek_20 : decode cd_M_seek 20 = .ok (.iconst 1, 1) := by decide +kernel
theorem dd_M_seek_21 : decode cd_M_seek 21 = .ok (.goto 10, 3) := by decide +kernel
theorem dd_M_seek_24 : decode cd_M_seek 24 = .ok (.aload_n 0, 1) := by decide +kernel
theorem dd_M_seek_25 : decode cd_M_seek 25 = .ok (.iload_n 1, 1) := by decide +kernel
theorem dd_M_seek_26 : decode cd_M_seek 26 = .ok (.iconst 1, 1) := by decide +kernel
theorem dd_M_seek_27 : decode cd_M_seek 27 = .ok (.iconst 2, 1) := by decide +kernel
theorem dd_M_seek_28 : decode cd_M_seek 28 = .ok (.invokevirtual 102, 3) := by decide +kernel
theorem dd_M_seek_31 : decode cd_M_seek 31 = .ok (.putfield 37, 3) := by decide +kernel
theorem dd_M_seek_34 : decode cd_M_seek 34 = .ok (.aload_n 0, 1) := by decide +kernel
theorem dd_M_seek_35 : decode cd_M_seek 35 = .ok (.getfield 37, 3) := by decide +kernel
theorem dd_M_seek_38 : decode cd_M_seek 38 = .ok (.ifCond .ne 10, 3) := by decide +kernel
theorem dd_M_seek_41 : decode cd_M_seek 41 = .ok (.aload_n 0, 1) := by decide +kernel
theorem dd_M_seek_42 : decode cd_M_seek 42 = .ok (.getfield 34, 3) := by decide +kernel
theorem dd_M_seek_45 : decode cd_M_seek 45 = .ok (.iload_n 1, 1) := by decide +kernel
theorem dd_M_seek_46 : decode cd_M_seek 46 = .ok (.iload_n 2, 1) := by decide +kernel
theorem dd_M_seek_47 : decode cd_M_seek 47 = .ok (.iastore, 1) := by decide +kernel
theorem dd_M_seek_48 : decode cd_M_seek 48 = .ok (.return_, 1) := by decide +kernel
theorem dd_M_next_0 : decode cd_M_next 0 = .ok (.aload_n 0, 1) := by decide +kernel
theorem dd_M_next_1 : decode cd_M_next 1 = .ok (.aload_n 0, 1) := by decide +kernel
theorem dd_M_next_2 : decode cd_M_next 2 = .ok (.iload_n 1, 1) := by decide +kernel
theorem dd_M_next_3 : decode cd_M_next 3 = .ok (.iconst 4, 1) := by decide +kernel
theorem dd_M_next_4 : decode cd_M_next 4 = .ok (.iconst 4, 1) := by decide +kernel
theorem dd_M_next_5 : decode cd_M_next 5 = .ok (.invokevirtual 102, 3) := by decide +kernel
theorem dd_M_next_8 : decode cd_M_next 8 = .ok (.putfield 37, 3) := by decide +kernel
theorem dd_M_next_11 : decode cd_M_next 11 = .ok (.aload_n 0, 1) := by decide +kernel
theorem dd_M_next_12 : decode cd_M_next 12 = .ok (.getfield 37, 3) := by decide +kernel
theorem dd_M_next_15 : decode cd_M_next 15 = .ok (.ifCond .eq 5, 3) := by decide +kernel
theorem dd_M_next_18 : decode cd_M_next 18 = .ok (.iconst 0, 1) := by decide +kernel
theorem dd_M_next_19 : decode cd_M_next 19 = .ok (.ireturn, 1) := by decide +kernel
theorem dd_M_next_20 : decode cd_M_next 20 = .ok (.aload_n 0, 1) := by decide +kernel
theorem dd_M_next_21 : decode cd_M_next 21 = .ok (.getfield 25, 3) := by decide +kernel
theorem dd_M_next_24 : decode cd_M_next 24 = .ok (.iload_n 1, 1) := by decide +kernel
theorem dd_M_next_25 : decode cd_M_next 25 = .ok (.iaload, 1) := by decide +kernel
theorem dd_M_next_26 : decode cd_M_next 26 = .ok (.iconst 1, 1) := by decide +kernel
theorem dd_M_next_27 : decode cd_M_next 27 = .ok (.isub, 1) := by decide +kernel
theorem dd_M_next_28 : decode cd_M_next 28 = .ok (.istore_n 2, 1) := by decide +kernel
theorem dd_M_next_29 : decode cd_M_next 29 = .ok (.aload_n 0, 1) := by decide +kernel
theorem dd_M_next_30 : decode cd_M_next 30 = .ok (.getfield 34, 3) := by decide +kernel
theorem dd_M_next_33 : decode cd_M_next 33 = .ok (.iload_n 1, 1) := by decide +kernel
theorem dd_M_next_34 : decode cd_M_next 34 = .ok (.iaload, 1) := by decide +kernel
theorem dd_M_next_35 : decode cd_M_next 35 = .ok (.aload_n 0, 1) := by decide +kernel
theorem dd_M_next_36 : decode cd_M_next 36 = .ok (.getfield 13, 3) := by decide +kernel
theorem dd_M_next_39 : decode cd_M_next 39 = .ok (.iload_n 2, 1) := by decide +kernel
theorem dd_M_next_40 : decode cd_M_next 40 = .ok (.iaload, 1) := by decide +kernel
theorem dd_M_next_41 : decode cd_M_next 41 = .ok (.iconst 2, 1) := by decide +kernel
theorem dd_M_next_42 : decode cd_M_next 42 = .ok (.idiv, 1) := by decide +kernel
theorem dd_M_next_43 : decode cd_M_next 43 = .ok (.if_icmp .lt 5, 3) := by decide +kernel
theorem dd_M_next_46 : decode cd_M_next 46 = .ok (.iconst 0, 1) := by decide +kernel
theorem dd_M_next_47 : decode cd_M_next 47 = .ok (.ireturn, 1) := by decide +kernel
theorem dd_M_next_48 : decode cd_M_next 48 = .ok (.aload_n 0, 1) := by decide +kernel
theorem dd_M_next_49 : decode cd_M_next 49 = .ok (.getfield 34, 3) := by decide +kernel
theorem dd_M_next_52 : decode cd_M_next 52 = .ok (.iload_n 1, 1) := by decide +kernel
theorem dd_M_next_53 : decode cd_M_next 53 = .ok (.dup2, 1) := by decide +kernel
theorem dd_M_next_54 : decode cd_M_next 54 = .ok (.iaload, 1) := by decide +kernel
theorem dd_M_next_55 : decode cd_M_next 55 = .ok (.iconst 1, 1) := by decide +kernel
theorem dd_M_next_56 : decode cd_M_next 56 = .ok (.iadd, 1) := by decide +kernel
theorem dd_M_next_57 : decode cd_M_next 57 = .ok (.iastore, 1) := by decide +kernel
theorem dd_M_next_58 : decode cd_M_next 58 = .ok (.aload_n 0, 1) := by decide +kernel
theorem dd_M_next_59 : decode cd_M_next 59 = .ok (.getfield 22, 3) := by decide +kernel
theorem dd_M_next_62 : decode cd_M_next 62 = .ok (.iload_n 2, 1) := by decide +kernel
theorem dd_M_next_63 : decode cd_M_next 63 = .ok (.bipush 64, 2) := by decide +kernel
theorem dd_M_next_65 : decode cd_M_next 65 = .ok (.imul, 1) := by decide +kernel
theorem dd_M_next_66 : decode cd_M_next 66 = .ok (.aload_n 0, 1) := by decide +kernel
theorem dd_M_next_67 : decode cd_M_next 67 = .ok (.getfield 34, 3) := by decide +kernel
theorem dd_M_next_70 : decode cd_M_next 70 = .ok (.iload_n 1, 1) := by decide +kernel
theorem dd_M_next_71 : decode cd_M_next 71 = .ok (.iaload, 1) := by decide +kernel
theorem dd_M_next_72 : decode cd_M_next 72 = .ok (.iconst 2, 1) := by decide +kernel
theorem dd_M_next_73 : decode cd_M_next 73 = .ok (.imul, 1) := by decide +kernel
theorem dd_M_next_74 : decode cd_M_next 74 = .ok (.iadd, 1) := by decide +kernel
theorem dd_M_next_75 : decode cd_M_next 75 = .ok (.iconst 2, 1) := by decide +kernel
theorem dd_M_next_76 : decode cd_M_next 76 = .ok (.isub, 1) := by decide +kernel
theorem dd_M_next_77 : decode cd_M_next 77 = .ok (.iaload, 1) := by decide +kernel
theorem dd_M_next_78 : decode cd_M_next 78 = .ok (.ireturn, 1) := by decide +kernel
theorem dd_M_remove_0 : decode cd_M_remove 0 = .ok (.aload_n 0, 1) := by decide +kernel
theorem dd_M_remove_1 : decode cd_M_remove 1 = .ok (.aload_n 0, 1) := by decide +kernel
theorem dd_M_remove_2 : decode cd_M_remove 2 = .ok (.iload_n 1, 1) := by decide +kernel
theorem dd_M_remove_3 : decode cd_M_remove 3 = .ok (.invokevirtual 79, 3) := by decide +kernel
theorem dd_M_remove_6 : decode cd_M_remove 6 = .ok (.ifCond .eq 7, 3) := by decide +kernel
theorem dd_M_remove_9 : decode cd_M_remove 9 = .ok (.iconst 1, 1) := by decide +kernel
theorem dd_M_remove_10 : decode cd_M_remove 10 = .ok (.goto 59, 3) := by decide +kernel
theorem dd_M_remove_13 : decode cd_M_remove 13 = .ok (.aload_n 0, 1) := by decide +kernel
theorem dd_M_remove_14 : decode cd_M_remove 14 = .ok (.iload_n 1, 1) := by decide +kernel
theorem dd_M_remove_15 : decode cd_M_remove 15 = .ok (.invokevirtual 83, 3) := by decide +kernel
theorem dd_M_remove_18 : decode cd_M_remove 18 = .ok (.ifCond .eq 10, 3) := by decide +kernel
theorem dd_M_remove_21 : decode cd_M_remove 21 = .ok (.aload_n 0, 1) := by decide +kernel
theorem dd_M_remove_22 : decode cd_M_remove 22 = .ok (.getfield 69, 3) := by decide +kernel
theorem dd_M_remove_25 : decode cd_M_remove 25 = .ok (.ifCond .ge 7, 3) := by decide +kernel
theorem dd_M_remove_28 : decode cd_M_remove 28 = .ok (.iconst 2, 1) := by decide +kernel
theorem dd_M_remove_29 : decode cd_M_remove 29 = .ok (.goto 40, 3) := by decide +kernel
theorem dd_M_remove_32 : decode cd_M_remove 32 = .ok (.aload_n 0, 1) := by decide +kernel
theorem dd_M_remove_33 : decode cd_M_remove 33 = .ok (.getfield 63, 3) := by decide +kernel
theorem dd_M_remove_36 : decode cd_M_remove 36 = .ok (.ifCond .lt 28, 3) := by decide +kernel
theorem dd_M_remove_39 : decode cd_M_remove 39 = .ok (.aload_n 0, 1) := by decide +kernel
theorem dd_M_remove_40 : decode cd_M_remove 40 = .ok (.getfield 7, 3) := by decide +kernel
theorem dd_M_remove_43 : decode cd_M_remove 43 = .ok (.aload_n 0, 1) := by decide +kernel
theorem dd_M_remove_44 : decode cd_M_remove 44 = .ok (.getfield 69, 3) := by decide +kernel
theorem dd_M_remove_47 : decode cd_M_remove 47 = .ok (.iaload, 1) := by decide +kernel
theorem dd_M_remove_48 : decode cd_M_remove 48 = .ok (.iconst 2, 1) := by decide +kernel
theorem dd_M_remove_49 : decode cd_M_remove 49 = .ok (.if_icmp .ne 19, 3) := by decide +kernel
theorem dd_M_remove_52 : decode cd_M_remove 52 = .ok (.aload_n 0, 1) := by decide +kernel
theorem dd_M_remove_53 : decode cd_M_remove 53 = .ok (.getfield 13, 3) := by decide +kernel
theorem dd_M_remove_56 : decode cd_M_remove 56 = .ok (.aload_n 0, 1) := by decide +kernel
theorem dd_M_remove_57 : decode cd_M_remove 57 = .ok (.getfield 69, 3) := by decide +kernel
theorem dd_M_remove_60 : decode cd_M_remove 60 = .ok (.iaload, 1) := by decide +kernel
theorem dd_M_remove_61 : decode cd_M_remove 61 = .ok (.ifCond .le 7, 3) := by decide +kernel
theorem dd_M_remove_64 : decode cd_M_remove 64 = .ok (.iconst 3, 1) := by decide +kernel
theorem dd_M_remove_65 : decode cd_M_remove 65 = .ok (.goto 4, 3) := by decide +kernel
theorem dd_M_remove_68 : decode cd_M_remove 68 = .ok (.iconst 0, 1) := by decide +kernel
theorem dd_M_remove_69 : decode cd_M_remove 69 = .ok (.putfield 37, 3) := by decide +kernel
theorem dd_M_remove_72 : decode cd_M_remove 72 = .ok (.aload_n 0, 1) := by decide +kernel
theorem dd_M_remove_73 : decode cd_M_remove 73 = .ok (.getfield 37, 3) := by decide +kernel
theorem dd_M_remove_76 : decode cd_M_remove 76 = .ok (.ifCond .eq 4, 3) := by decide +kernel
theorem dd_M_remove_79 : decode cd_M_remove 79 = .ok (.return_, 1) := by decide +kernel
theorem dd_M_remove_80 : decode cd_M_remove 80 = .ok (.aload_n 0, 1) := by decide +kernel
theorem dd_M_remove_81 : decode cd_M_remove 81 = .ok (.getfield 69, 3) := by decide +kernel
theorem dd_M_remove_84 : decode cd_M_remove 84 = .ok (.istore_n 2, 1) := by decide +kernel
theorem dd_M_remove_85 : decode cd_M_remove 85 = .ok (.aload_n 0, 1) := by decide +kernel
theorem dd_M_remove_86 : decode cd_M_remove 86 = .ok (.aload_n 0, 1) := by decide +kernel
theorem dd_M_remove_87 : decode cd_M_remove 87 = .ok (.getfield 63, 3) := by decide +kernel
theorem dd_M_remove_90 : decode cd_M_remove 90 = .ok (.aload_n 0, 1) := by decide +kernel
theorem dd_M_remove_91 : decode cd_M_remove 91 = .ok (.getfield 66, 3) := by decide +kernel
theorem dd_M_remove_94 : decode cd_M_remove 94 = .ok (.invokevirtual 111, 3) := by decide +kernel
theorem dd_M_remove_97 : decode cd_M_remove 97 = .ok (.aload_n 0, 1) := by decide +kernel
theorem dd_M_remove_98 : decode cd_M_remove 98 = .ok (.iload_n 2, 1) := by decide +kernel
theorem dd_M_remove_99 : decode cd_M_remove 99 = .ok (.invokevirtual 114, 3) := by decide +kernel
theorem dd_M_remove_102 : decode cd_M_remove 102 = .ok (.return_, 1) := by decide +kernel
theorem dd_M_dropEntry_0 : decode cd_M_dropEntry 0 = .ok (.aload_n 0, 1) := by decide +kernel
theorem dd_M_dropEntry_1 : decode cd_M_dropEntry 1 = .ok (.getfield 13, 3) := by decide +kernel
theorem dd_M_dropEntry_4 : decode cd_M_dropEntry 4 = .ok (.iload_n 1, 1) := by decide +kernel
theorem dd_M_dropEntry_5 : decode cd_M_dropEntry 5 = .ok (.iaload, 1) := by decide +kernel
theorem dd_M_dropEntry_6 : decode cd_M_dropEntry 6 = .ok (.iconst 2, 1) := by decide +kernel
theorem dd_M_dropEntry_7 : decode cd_M_dropEntry 7 = .ok (.isub, 1) := by decide +kernel
theorem dd_M_dropEntry_8 : decode cd_M_dropEntry 8 = .ok (.istore_n 3, 1) := by decide +kernel
theorem dd_M_dropEntry_9 : decode cd_M_dropEntry 9 = .ok (.aload_n 0, 1) := by decide +kernel
theorem dd_M_dropEntry_10 : decode cd_M_dropEntry 10 = .ok (.getfield 22, 3) := by decide +kernel
theorem dd_M_dropEntry_13 : decode cd_M_dropEntry 13 = .ok (.iload_n 1, 1) := by decide +kernel
theorem dd_M_dropEntry_14 : decode cd_M_dropEntry 14 = .ok (.bipush 64, 2) := by decide +kernel
theorem dd_M_dropEntry_16 : decode cd_M_dropEntry 16 = .ok (.imul, 1) := by decide +kernel
theorem dd_M_dropEntry_17 : decode cd_M_dropEntry 17 = .ok (.iload_n 2, 1) := by decide +kernel
theorem dd_M_dropEntry_18 : decode cd_M_dropEntry 18 = .ok (.iconst 2, 1) := by decide +kernel
theorem dd_M_dropEntry_19 : decode cd_M_dropEntry 19 = .ok (.imul, 1) := by decide +kernel
theorem dd_M_dropEntry_20 : decode cd_M_dropEntry 20 = .ok (.iadd, 1) := by decide +kernel
theorem dd_M_dropEntry_21 : decode cd_M_dropEntry 21 = .ok (.aload_n 0, 1) := by decide +kernel
theorem dd_M_dropEntry_22 : decode cd_M_dropEntry 22 = .ok (.getfield 22, 3) := by decide +kernel
theorem dd_M_dropEntry_25 : decode cd_M_dropEntry 25 = .ok (.iload_n 1, 1) := by decide +kernel
theorem dd_M_dropEntry_26 : decode cd_M_dropEntry 26 = .ok (.bipush 64, 2) := by decide +kernel
theorem dd_M_dropEntry_28 : decode cd_M_dropEntry 28 = .ok (.imul, 1) := by decide +kernel
theorem dd_M_dropEntry_29 : decode cd_M_dropEntry 29 = .ok (.iload_n 3, 1) := by decide +kernel
theorem dd_M_dropEntry_30 : decode cd_M_dropEntry 30 = .ok (.iadd, 1) := by decide +kernel
theorem dd_M_dropEntry_31 : decode cd_M_dropEntry 31 = .ok (.iaload, 1) := by decide +kernel
theorem dd_M_dropEntry_32 : decode cd_M_dropEntry 32 = .ok (.iastore, 1) := by decide +kernel
theorem dd_M_dropEntry_33 : decode cd_M_dropEntry 33 = .ok (.aload_n 0, 1) := by decide +kernel
theorem dd_M_dropEntry_34 : decode cd_M_dropEntry 34 = .ok (.getfield 22, 3) := by decide +kernel
theorem dd_M_dropEntry_37 : decode cd_M_dropEntry 37 = .ok (.iload_n 1, 1) := by decide +kernel
theorem dd_M_dropEntry_38 : decode cd_M_dropEntry 38 = .ok (.bipush 64, 2) := by decide +kernel
theorem dd_M_dropEntry_40 : decode cd_M_dropEntry 40 = .ok (.imul, 1) := by decide +kernel
theorem dd_M_dropEntry_41 : decode cd_M_dropEntry 41 = .ok (.iload_n 2, 1) := by decide +kernel
theorem dd_M_dropEntry_42 : decode cd_M_dropEntry 42 = .ok (.iconst 2, 1) := by decide +kernel
theorem dd_M_dropEntry_43 : decode cd_M_dropEntry 43 = .ok (.imul, 1) := by decide +kernel
theorem dd_M_dropEntry_44 : decode cd_M_dropEntry 44 = .ok (.iadd, 1) := by decide +kernel
theorem dd_M_dropEntry_45 : decode cd_M_dropEntry 45 = .ok (.iconst 1, 1) := by decide +kernel
theorem dd_M_dropEntry_46 : decode cd_M_dropEntry 46 = .ok (.iadd, 1) := by decide +kernel
theorem dd_M_dropEntry_47 : decode cd_M_dropEntry 47 = .ok (.aload_n 0, 1) := by decide +kernel
theorem dd_M_dropEntry_48 : decode cd_M_dropEntry 48 = .ok (.getfield 22, 3) := by decide +kernel
theorem dd_M_dropEntry_51 : decode cd_M_dropEntry 51 = .ok (.iload_n 1, 1) := by decide +kernel
theorem dd_M_dropEntry_52 : decode cd_M_dropEntry 52 = .ok (.bipush 64, 2) := by decide +kernel
theorem dd_M_dropEntry_54 : decode cd_M_dropEntry 54 = .ok (.imul, 1) := by decide +kernel
theorem dd_M_dropEntry_55 : decode cd_M_dropEntry 55 = .ok (.iload_n 3, 1) := by decide +kernel
theorem dd_M_dropEntry_56 : decode cd_M_dropEntry 56 = .ok (.iadd, 1) := by decide +kernel
theorem dd_M_dropEntry_57 : decode cd_M_dropEntry 57 = .ok (.iconst 1, 1) := by decide +kernel
theorem dd_M_dropEntry_58 : decode cd_M_dropEntry 58 = .ok (.iadd, 1) := by decide +kernel
theorem dd_M_dropEntry_59 : decode cd_M_dropEntry 59 = .ok (.iaload, 1) := by decide +kernel
theorem dd_M_dropEntry_60 : decode cd_M_dropEntry 60 = .ok (.iastore, 1) := by decide +kernel
theorem dd_M_dropEntry_61 : decode cd_M_dropEntry 61 = .ok (.aload_n 0, 1) := by decide +kernel
theorem dd_M_dropEntry_62 : decode cd_M_dropEntry 62 = .ok (.iload_n 1, 1) := by decide +kernel
theorem dd_M_dropEntry_63 : decode cd_M_dropEntry 63 = .ok (.iload_n 3, 1) := by decide +kernel
theorem dd_M_dropEntry_64 : decode cd_M_dropEntry 64 = .ok (.invokevirtual 56, 3) := by decide +kernel
theorem dd_M_dropEntry_67 : decode cd_M_dropEntry 67 = .ok (.return_, 1) := by decide +kernel
theorem dd_M_release_0 : decode cd_M_release 0 = .ok (.aload_n 0, 1) := by decide +kernel
theorem dd_M_release_1 : decode cd_M_release 1 = .ok (.iload_n 1, 1) := by decide +kernel
theorem dd_M_release_2 : decode cd_M_release 2 = .ok (.iconst 0, 1) := by decide +kernel
theorem dd_M_release_3 : decode cd_M_release 3 = .ok (.invokevirtual 56, 3) := by decide +kernel
theorem dd_M_release_6 : decode cd_M_release 6 = .ok (.aload_n 0, 1) := by decide +kernel
theorem dd_M_release_7 : decode cd_M_release 7 = .ok (.getfield 7, 3) := by decide +kernel
theorem dd_M_release_10 : decode cd_M_release 10 = .ok (.iload_n 1, 1) := by decide +kernel
theorem dd_M_release_11 : decode cd_M_release 11 = .ok (.iconst 0, 1) := by decide +kernel
theorem dd_M_release_12 : decode cd_M_release 12 = .ok (.iastore, 1) := by decide +kernel
theorem dd_M_release_13 : decode cd_M_release 13 = .ok (.return_, 1) := by decide +kernel
theorem dd_M_rename_0 : decode cd_M_rename 0 = .ok (.aload_n 0, 1) := by decide +kernel
theorem dd_M_rename_1 : decode cd_M_rename 1 = .ok (.aload_n 0, 1) := by decide +kernel
theorem dd_M_rename_2 : decode cd_M_rename 2 = .ok (.iload_n 1, 1) := by decide +kernel
theorem dd_M_rename_3 : decode cd_M_rename 3 = .ok (.invokevirtual 79, 3) := by decide +kernel
theorem dd_M_rename_6 : decode cd_M_rename 6 = .ok (.ifCond .ne 11, 3) := by decide +kernel
theorem dd_M_rename_9 : decode cd_M_rename 9 = .ok (.aload_n 0, 1) := by decide +kernel
theorem dd_M_rename_10 : decode cd_M_rename 10 = .ok (.iload_n 2, 1) := by decide +kernel
theorem dd_M_rename_11 : decode cd_M_rename 11 = .ok (.invokevirtual 79, 3) := by decide +kernel
theorem dd_M_rename_14 : decode cd_M_rename 14 = .ok (.ifCond .eq 7, 3) := by decide +kernel
theorem dd_M_rename_17 : decode cd_M_rename 17 = .ok (.iconst 1, 1) := by decide +kernel
theorem dd_M_rename_18 : decode cd_M_rename 18 = .ok (.goto 23, 3) := by decide +kernel
theorem dd_M_rename_21 : decode cd_M_rename 21 = .ok (.aload_n 0, 1) := by decide +kernel
theorem dd_M_rename_22 : decode cd_M_rename 22 = .ok (.iload_n 1, 1) := by decide +kernel
theorem dd_M_rename_23 : decode cd_M_rename 23 = .ok (.invokevirtual 83, 3) := by decide +kernel
theorem dd_M_rename_26 : decode cd_M_rename 26 = .ok (.ifCond .eq 10, 3) := by decide +kernel
theorem dd_M_rename_29 : decode cd_M_rename 29 = .ok (.aload_n 0, 1) := by decide +kernel
theorem dd_M_rename_30 : decode cd_M_rename 30 = .ok (.getfield 69, 3) := by decide +kernel
theorem dd_M_rename_33 : decode cd_M_rename 33 = .ok (.ifCond .ge 7, 3) := by decide +kernel
theorem dd_M_rename_36 : decode cd_M_rename 36 = .ok (.iconst 2, 1) := by decide +kernel
theorem dd_M_rename_37 : decode cd_M_rename 37 = .ok (.goto 4, 3) := by decide +kernel
theorem dd_M_rename_40 : decode cd_M_rename 40 = .ok (.iconst 0, 1) := by decide +kernel
theorem dd_M_rename_41 : decode cd_M_rename 41 = .ok (.putfield 37, 3) := by decide +kernel
theorem dd_M_rename_44 : decode cd_M_rename 44 = .ok (.aload_n 0, 1) := by decide +kernel
theorem dd_M_rename_45 : decode cd_M_rename 45 = .ok (.getfield 37, 3) := by decide +kernel
theorem dd_M_rename_48 : decode cd_M_rename 48 = .ok (.ifCond .eq 4, 3) := by decide +kernel
theorem dd_M_rename_51 : decode cd_M_rename 51 = .ok (.return_, 1) := by decide +kernel
theorem dd_M_rename_52 : decode cd_M_rename 52 = .ok (.aload_n 0, 1) := by decide +kernel
theorem dd_M_rename_53 : decode cd_M_rename 53 = .ok (.getfield 69, 3) := by decide +kernel
theorem dd_M_rename_56 : decode cd_M_rename 56 = .ok (.istore_n 3, 1) := by decide +kernel
theorem dd_M_rename_57 : decode cd_M_rename 57 = .ok (.aload_n 0, 1) := by decide +kernel
theorem dd_M_rename_58 : decode cd_M_rename 58 = .ok (.getfield 63, 3) := by decide +kernel
theorem dd_M_rename_61 : decode cd_M_rename 61 = .ok (.istore 4, 2) := by decide +kernel
theorem dd_M_rename_63 : decode cd_M_rename 63 = .ok (.aload_n 0, 1) := by decide +kernel
theorem dd_M_rename_64 : decode cd_M_rename 64 = .ok (.getfield 66, 3) := by decide +kernel
theorem dd_M_rename_67 : decode cd_M_rename 67 = .ok (.istore 5, 2) := by decide +kernel
theorem dd_M_rename_69 : decode cd_M_rename 69 = .ok (.aload_n 0, 1) := by decide +kernel
theorem dd_M_rename_70 : decode cd_M_rename 70 = .ok (.iload_n 2, 1) := by decide +kernel
theorem dd_M_rename_71 : decode cd_M_rename 71 = .ok (.invokevirtual 83, 3) := by decide +kernel
theorem dd_M_rename_74 : decode cd_M_rename 74 = .ok (.ifCond .ne 9, 3) := by decide +kernel
theorem dd_M_rename_77 : decode cd_M_rename 77 = .ok (.aload_n 0, 1) := by decide +kernel
theorem dd_M_rename_78 : decode cd_M_rename 78 = .ok (.iconst 2, 1) := by decide +kernel
theorem dd_M_rename_79 : decode cd_M_rename 79 = .ok (.putfield 37, 3) := by decide +kernel
theorem dd_M_rename_82 : decode cd_M_rename 82 = .ok (.return_, 1) := by decide +kernel
theorem dd_M_rename_83 : decode cd_M_rename 83 = .ok (.iload_n 1, 1) := by decide +kernel
theorem dd_M_rename_84 : decode cd_M_rename 84 = .ok (.ifCond .eq 46, 3) := by decide +kernel
theorem dd_M_rename_87 : decode cd_M_rename 87 = .ok (.iload_n 2, 1) := by decide +kernel
theorem dd_M_rename_88 : decode cd_M_rename 88 = .ok (.ifCond .eq 42, 3) := by decide +kernel
theorem dd_M_rename_91 : decode cd_M_rename 91 = .ok (.aload_n 0, 1) := by decide +kernel
theorem dd_M_rename_92 : decode cd_M_rename 92 = .ok (.iload_n 2, 1) := by decide +kernel
theorem dd_M_rename_93 : decode cd_M_rename 93 = .ok (.iload_n 1, 1) := by decide +kernel
theorem dd_M_rename_94 : decode cd_M_rename 94 = .ok (.invokevirtual 118, 3) := by decide +kernel
theorem dd_M_rename_97 : decode cd_M_rename 97 = .ok (.ifCond .ne 33, 3) := by decide +kernel
theorem dd_M_rename_100 : decode cd_M_rename 100 = .ok (.aload_n 0, 1) := by decide +kernel
theorem dd_M_rename_101 : decode cd_M_rename 101 = .ok (.getfield 69, 3) := by decide +kernel
theorem dd_M_rename_104 : decode cd_M_rename 104 = .ok (.ifCond .lt 32, 3) := by decide +kernel
theorem dd_M_rename_107 : decode cd_M_rename 107 = .ok (.aload_n 0, 1) := by decide +kernel
theorem dd_M_rename_108 : decode cd_M_rename 108 = .ok (.getfield 7, 3) := by decide +kernel
theorem dd_M_rename_111 : decode cd_M_rename 111 = .ok (.aload_n 0, 1) := by decide +kernel
theorem dd_M_rename_112 : decode cd_M_rename 112 = .ok (.getfield 69, 3) := by decide +kernel
theorem dd_M_rename_115 : decode cd_M_rename 115 = .ok (.iaload, 1) := by decide +kernel
theorem dd_M_rename_116 : decode cd_M_rename 116 = .ok (.iconst 1, 1) := by decide +kernel
theorem dd_M_rename_117 : decode cd_M_rename 117 = .ok (.if_icmp .ne 13, 3) := by decide +kernel
theorem dd_M_rename_120 : decode cd_M_rename 120 = .ok (.aload_n 0, 1) := by decide +kernel
theorem dd_M_rename_121 : decode cd_M_rename 121 = .ok (.getfield 7, 3) := by decide +kernel
theorem dd_M_rename_124 : decode cd_M_rename 124 = .ok (.iload_n 3, 1) := by decide +kernel
theorem dd_M_rename_125 : decode cd_M_rename 125 = .ok (.iaload, 1) := by decide +kernel
theorem dd_M_rename_126 : decode cd_M_rename 126 = .ok (.iconst 1, 1) := by decide +kernel
theorem dd_M_rename_127 : decode cd_M_rename 127 = .ok (.if_icmp .eq 9, 3) := by decide +kernel
theorem dd_M_rename_130 : decode cd_M_rename 130 = .ok (.aload_n 0, 1) := by decide +kernel
theorem dd_M_rename_131 : decode cd_M_rename 131 = .ok (.iconst 3, 1) := by decide +kernel
theorem dd_M_rename_132 : decode cd_M_rename 132 = .ok (.putfield 37, 3) := by decide +kernel
theorem dd_M_rename_135 : decode cd_M_rename 135 = .ok (.return_, 1) := by decide +kernel
theorem dd_M_rename_136 : decode cd_M_rename 136 = .ok (.aload_n 0, 1) := by decide +kernel
theorem dd_M_rename_137 : decode cd_M_rename 137 = .ok (.getfield 69, 3) := by decide +kernel
theorem dd_M_rename_140 : decode cd_M_rename 140 = .ok (.istore 6, 2) := by decide +kernel
theorem dd_M_rename_142 : decode cd_M_rename 142 = .ok (.aload_n 0, 1) := by decide +kernel
theorem dd_M_rename_143 : decode cd_M_rename 143 = .ok (.getfield 63, 3) := by decide +kernel
theorem dd_M_rename_146 : decode cd_M_rename 146 = .ok (.istore 7, 2) := by decide +kernel
theorem dd_M_rename_148 : decode cd_M_rename 148 = .ok (.aload_n 0, 1) := by decide +kernel
theorem dd_M_rename_149 : decode cd_M_rename 149 = .ok (.getfield 72, 3) := by decide +kernel
theorem dd_M_rename_152 : decode cd_M_rename 152 = .ok (.istore 8, 2) := by decide +kernel
theorem dd_M_rename_154 : decode cd_M_rename 154 = .ok (.iload 6, 2) := by decide +kernel
theorem dd_M_rename_156 : decode cd_M_rename 156 = .ok (.ifCond .ge 54, 3) := by decide +kernel
theorem dd_M_rename_159 : decode cd_M_rename 159 = .ok (.iload 4, 2) := by decide +kernel
theorem dd_M_rename_161 : decode cd_M_rename 161 = .ok (.iload 7, 2) := by decide +kernel
theorem dd_M_rename_163 : decode cd_M_rename 163 = .ok (.if_icmp .eq 47, 3) := by decide +kernel
theorem dd_M_rename_166 : decode cd_M_rename 166 = .ok (.aload_n 0, 1) := by decide +kernel
theorem dd_M_rename_167 : decode cd_M_rename 167 = .ok (.aload_n 0, 1) := by decide +kernel
theorem dd_M_rename_168 : decode cd_M_rename 168 = .ok (.getfield 13, 3) := by decide +kernel
theorem dd_M_rename_171 : decode cd_M_rename 171 = .ok (.iload 4, 2) := by decide +kernel
theorem dd_M_rename_173 : decode cd_M_rename 173 = .ok (.iaload, 1) := by decide +kernel
theorem dd_M_rename_174 : decode cd_M_rename 174 = .ok (.invokevirtual 45, 3) := by decide +kernel
theorem dd_M_rename_177 : decode cd_M_rename 177 = .ok (.aload_n 0, 1) := by decide +kernel
theorem dd_M_rename_178 : decode cd_M_rename 178 = .ok (.aload_n 0, 1) := by decide +kernel
theorem dd_M_rename_179 : decode cd_M_rename 179 = .ok (.getfield 13, 3) := by decide +kernel
theorem dd_M_rename_182 : decode cd_M_rename 182 = .ok (.iload 4, 2) := by decide +kernel
theorem dd_M_rename_184 : decode cd_M_rename 184 = .ok (.iaload, 1) := by decide +kernel
theorem dd_M_rename_185 : decode cd_M_rename 185 = .ok (.iconst 2, 1) := by decide +kernel
theorem dd_M_rename_186 : decode cd_M_rename 186 = .ok (.isub, 1) := by decide +kernel
theorem dd_M_rename_187 : decode cd_M_rename 187 = .ok (.invokevirtual 45, 3) := by decide +kernel
theorem dd_M_rename_190 : decode cd_M_rename 190 = .ok (.isub, 1) := by decide +kernel
theorem dd_M_rename_191 : decode cd_M_rename 191 = .ok (.istore 9, 2) := by decide +kernel
theorem dd_M_rename_193 : decode cd_M_rename 193 = .ok (.aload_n 0, 1) := by decide +kernel
theorem dd_M_rename_194 : decode cd_M_rename 194 = .ok (.iload 7, 2) := by decide +kernel
theorem dd_M_rename_196 : decode cd_M_rename 196 = .ok (.iload 9, 2) := by decide +kernel
theorem dd_M_rename_198 : decode cd_M_rename 198 = .ok (.invokevirtual 86, 3) := by decide +kernel
theorem dd_M_rename_201 : decode cd_M_rename 201 = .ok (.ifCond .ne 9, 3) := by decide +kernel
theorem dd_M_rename_204 : decode cd_M_rename 204 = .ok (.aload_n 0, 1) := by decide +kernel
theorem dd_M_rename_205 : decode cd_M_rename 205 = .ok (.iconst 4, 1) := by decide +kernel
theorem dd_M_rename_206 : decode cd_M_rename 206 = .ok (.putfield 37, 3) := by decide +kernel
theorem dd_M_rename_209 : decode cd_M_rename 209 = .ok (.return_, 1) := by decide +kernel
theorem dd_M_rename_210 : decode cd_M_rename 210 = .ok (.aload_n 0, 1) := by decide +kernel
theorem dd_M_rename_211 : decode cd_M_rename 211 = .ok (.iload 4, 2) := by decide +kernel
theorem dd_M_rename_213 : decode cd_M_rename 213 = .ok (.iload 5, 2) := by decide +kernel
theorem dd_M_rename_215 : decode cd_M_rename 215 = .ok (.invokevirtual 111, 3) := by decide +kernel
theorem dd_M_rename_218 : decode cd_M_rename 218 = .ok (.iload 6, 2) := by decide +kernel
theorem dd_M_rename_220 : decode cd_M_rename 220 = .ok (.ifCond .ge 15, 3) := by decide +kernel
theorem dd_M_rename_223 : decode cd_M_rename 223 = .ok (.aload_n 0, 1) := by decide +kernel
theorem dd_M_rename_224 : decode cd_M_rename 224 = .ok (.iload 7, 2) := by decide +kernel
theorem dd_M_rename_226 : decode cd_M_rename 226 = .ok (.iload 8, 2) := by decide +kernel
theorem dd_M_rename_228 : decode cd_M_rename 228 = .ok (.iload_n 3, 1) := by decide +kernel
theorem dd_M_rename_229 : decode cd_M_rename 229 = .ok (.invokevirtual 92, 3) := by decide +kernel
theorem dd_M_rename_232 : decode cd_M_rename 232 = .ok (.goto 33, 3) := by decide +kernel
theorem dd_M_rename_235 : decode cd_M_rename 235 = .ok (.aload_n 0, 1) := by decide +kernel
theorem dd_M_rename_236 : decode cd_M_rename 236 = .ok (.getfield 22, 3) := by decide +kernel
theorem dd_M_rename_239 : decode cd_M_rename 239 = .ok (.iload 7, 2) := by decide +kernel
theorem dd_M_rename_241 : decode cd_M_rename 241 = .ok (.bipush 64, 2) := by decide +kernel
theorem dd_M_rename_243 : decode cd_M_rename 243 = .ok (.imul, 1) := by decide +kernel
theorem dd_M_rename_244 : decode cd_M_rename 244 = .ok (.aload_n 0, 1) := by decide +kernel
theorem dd_M_rename_245 : decode cd_M_rename 245 = .ok (.iload 7, 2) := by decide +kernel
theorem dd_M_rename_247 : decode cd_M_rename 247 = .ok (.iload 8, 2) := by decide +kernel
theorem dd_M_rename_249 : decode cd_M_rename 249 = .ok (.invokevirtual 75, 3) := by decide +kernel
theorem dd_M_rename_252 : decode cd_M_rename 252 = .ok (.iconst 2, 1) := by decide +kernel
theorem dd_M_rename_253 : decode cd_M_rename 253 = .ok (.imul, 1) := by decide +kernel
theorem dd_M_rename_254 : decode cd_M_rename 254 = .ok (.iadd, 1) := by decide +kernel
theorem dd_M_rename_255 : decode cd_M_rename 255 = .ok (.iconst 1, 1) := by decide +kernel
theorem dd_M_rename_256 : decode cd_M_rename 256 = .ok (.iadd, 1) := by decide +kernel
theorem dd_M_rename_257 : decode cd_M_rename 257 = .ok (.iload_n 3, 1) := by decide +kernel
theorem dd_M_rename_258 : decode cd_M_rename 258 = .ok (.iastore, 1) := by decide +kernel
theorem dd_M_rename_259 : decode cd_M_rename 259 = .ok (.aload_n 0, 1) := by decide +kernel
theorem dd_M_rename_260 : decode cd_M_rename 260 = .ok (.iload 6, 2) := by decide +kernel
theorem dd_M_rename_262 : decode cd_M_rename 262 = .ok (.invokevirtual 114, 3) := by decide +kernel
theorem dd_M_rename_265 : decode cd_M_rename 265 = .ok (.return_, 1) := by decide +kernel
theorem dd_M_within_0 : decode cd_M_within 0 = .ok (.iconst 0, 1) := by decide +kernel
theorem dd_M_within_1 : decode cd_M_within 1 = .ok (.istore_n 3, 1) := by decide +kernel
theorem dd_M_within_2 : decode cd_M_within 2 = .ok (.iload_n 3, 1) := by decide +kernel
theorem dd_M_within_3 : decode cd_M_within 3 = .ok (.bipush 24, 2) := by decide +kernel
theorem dd_M_within_5 : decode cd_M_within 5 = .ok (.if_icmp .gt 18, 3) := by decide +kernel
theorem dd_M_within_8 : decode cd_M_within 8 = .ok (.iload_n 1, 1) := by decide +kernel
theorem dd_M_within_9 : decode cd_M_within 9 = .ok (.iload_n 3, 1) := by decide +kernel
theorem dd_M_within_10 : decode cd_M_within 10 = .ok (.iushr, 1) := by decide +kernel
theorem dd_M_within_11 : decode cd_M_within 11 = .ok (.iload_n 2, 1) := by decide +kernel
theorem dd_M_within_12 : decode cd_M_within 12 = .ok (.if_icmp .ne 5, 3) := by decide +kernel
theorem dd_M_within_15 : decode cd_M_within 15 = .ok (.iconst 1, 1) := by decide +kernel
theorem dd_M_within_16 : decode cd_M_within 16 = .ok (.ireturn, 1) := by decide +kernel
theorem dd_M_within_17 : decode cd_M_within 17 = .ok (.iinc 3 8, 3) := by decide +kernel
theorem dd_M_within_20 : decode cd_M_within 20 = .ok (.goto (-18), 3) := by decide +kernel
theorem dd_M_within_23 : decode cd_M_within 23 = .ok (.iconst 0, 1) := by decide +kernel
theorem dd_M_within_24 : decode cd_M_within 24 = .ok (.ireturn, 1) := by decide +kernel
theorem dd_M_truncate_0 : decode cd_M_truncate 0 = .ok (.aload_n 0, 1) := by decide +kernel
theorem dd_M_truncate_1 : decode cd_M_truncate 1 = .ok (.aload_n 0, 1) := by decide +kernel
theorem dd_M_truncate_2 : decode cd_M_truncate 2 = .ok (.iload_n 1, 1) := by decide +kernel
theorem dd_M_truncate_3 : decode cd_M_truncate 3 = .ok (.invokevirtual 79, 3) := by decide +kernel
theorem dd_M_truncate_6 : decode cd_M_truncate 6 = .ok (.ifCond .ne 13, 3) := by decide +kernel
theorem dd_M_truncate_9 : decode cd_M_truncate 9 = .ok (.iload_n 2, 1) := by decide +kernel
theorem dd_M_truncate_10 : decode cd_M_truncate 10 = .ok (.ifCond .lt 9, 3) := by decide +kernel
theorem dd_M_truncate_13 : decode cd_M_truncate 13 = .ok (.iload_n 2, 1) := by decide +kernel
theorem dd_M_truncate_14 : decode cd_M_truncate 14 = .ok (.bipush 64, 2) := by decide +kernel
theorem dd_M_truncate_16 : decode cd_M_truncate 16 = .ok (.if_icmp .le 7, 3) := by decide +kernel
theorem dd_M_truncate_19 : decode cd_M_truncate 19 = .ok (.iconst 1, 1) := by decide +kernel
theorem dd_M_truncate_20 : decode cd_M_truncate 20 = .ok (.goto 56, 3) := by decide +kernel
theorem dd_M_truncate_23 : decode cd_M_truncate 23 = .ok (.aload_n 0, 1) := by decide +kernel
theorem dd_M_truncate_24 : decode cd_M_truncate 24 = .ok (.iload_n 1, 1) := by decide +kernel
theorem dd_M_truncate_25 : decode cd_M_truncate 25 = .ok (.invokevirtual 83, 3) := by decide +kernel
theorem dd_M_truncate_28 : decode cd_M_truncate 28 = .ok (.ifCond .eq 10, 3) := by decide +kernel
theorem dd_M_truncate_31 : decode cd_M_truncate 31 = .ok (.aload_n 0, 1) := by decide +kernel
theorem dd_M_truncate_32 : decode cd_M_truncate 32 = .ok (.getfield 69, 3) := by decide +kernel
theorem dd_M_truncate_35 : decode cd_M_truncate 35 = .ok (.ifCond .ge 7, 3) := by decide +kernel
theorem dd_M_truncate_38 : decode cd_M_truncate 38 = .ok (.iconst 2, 1) := by decide +kernel
theorem dd_M_truncate_39 : decode cd_M_truncate 39 = .ok (.goto 37, 3) := by decide +kernel
theorem dd_M_truncate_42 : decode cd_M_truncate 42 = .ok (.aload_n 0, 1) := by decide +kernel
theorem dd_M_truncate_43 : decode cd_M_truncate 43 = .ok (.getfield 7, 3) := by decide +kernel
theorem dd_M_truncate_46 : decode cd_M_truncate 46 = .ok (.aload_n 0, 1) := by decide +kernel
theorem dd_M_truncate_47 : decode cd_M_truncate 47 = .ok (.getfield 69, 3) := by decide +kernel
theorem dd_M_truncate_50 : decode cd_M_truncate 50 = .ok (.iaload, 1) := by decide +kernel
theorem dd_M_truncate_51 : decode cd_M_truncate 51 = .ok (.iconst 1, 1) := by decide +kernel
theorem dd_M_truncate_52 : decode cd_M_truncate 52 = .ok (.if_icmp .eq 7, 3) := by decide +kernel
theorem dd_M_truncate_55 : decode cd_M_truncate 55 = .ok (.iconst 3, 1) := by decide +kernel
theorem dd_M_truncate_56 : decode cd_M_truncate 56 = .ok (.goto 20, 3) := by decide +kernel
theorem dd_M_truncate_59 : decode cd_M_truncate 59 = .ok (.aload_n 0, 1) := by decide +kernel
theorem dd_M_truncate_60 : decode cd_M_truncate 60 = .ok (.aload_n 0, 1) := by decide +kernel
theorem dd_M_truncate_61 : decode cd_M_truncate 61 = .ok (.getfield 69, 3) := by decide +kernel
theorem dd_M_truncate_64 : decode cd_M_truncate 64 = .ok (.iload_n 2, 1) := by decide +kernel
theorem dd_M_truncate_65 : decode cd_M_truncate 65 = .ok (.invokevirtual 106, 3) := by decide +kernel
theorem dd_M_truncate_68 : decode cd_M_truncate 68 = .ok (.ifCond .ne 7, 3) := by decide +kernel
theorem dd_M_truncate_71 : decode cd_M_truncate 71 = .ok (.iconst 4, 1) := by decide +kernel
theorem dd_M_truncate_72 : decode cd_M_truncate 72 = .ok (.goto 4, 3) := by decide +kernel
theorem dd_M_truncate_75 : decode cd_M_truncate 75 = .ok (.iconst 0, 1) := by decide +kernel
theorem dd_M_truncate_76 : decode cd_M_truncate 76 = .ok (.putfield 37, 3) := by decide +kernel
theorem dd_M_truncate_79 : decode cd_M_truncate 79 = .ok (.aload_n 0, 1) := by decide +kernel
theorem dd_M_truncate_80 : decode cd_M_truncate 80 = .ok (.getfield 37, 3) := by decide +kernel
theorem dd_M_truncate_83 : decode cd_M_truncate 83 = .ok (.ifCond .ne 12, 3) := by decide +kernel
theorem dd_M_truncate_86 : decode cd_M_truncate 86 = .ok (.aload_n 0, 1) := by decide +kernel
theorem dd_M_truncate_87 : decode cd_M_truncate 87 = .ok (.aload_n 0, 1) := by decide +kernel
theorem dd_M_truncate_88 : decode cd_M_truncate 88 = .ok (.getfield 69, 3) := by decide +kernel
theorem dd_M_truncate_91 : decode cd_M_truncate 91 = .ok (.iload_n 2, 1) := by decide +kernel
theorem dd_M_truncate_92 : decode cd_M_truncate 92 = .ok (.invokevirtual 56, 3) := by decide +kernel
theorem dd_M_truncate_95 : decode cd_M_truncate 95 = .ok (.return_, 1) := by decide +kernel
theorem dd_M_stat_0 : decode cd_M_stat 0 = .ok (.aload_n 0, 1) := by decide +kernel
theorem dd_M_stat_1 : decode cd_M_stat 1 = .ok (.aload_n 0, 1) := by decide +kernel
theorem dd_M_stat_2 : decode cd_M_stat 2 = .ok (.iload_n 1, 1) := by decide +kernel
theorem dd_M_stat_3 : decode cd_M_stat 3 = .ok (.invokevirtual 79, 3) := by decide +kernel
theorem dd_M_stat_6 : decode cd_M_stat 6 = .ok (.ifCond .ne 12, 3) := by decide +kernel
theorem dd_M_stat_9 : decode cd_M_stat 9 = .ok (.iload_n 2, 1) := by decide +kernel
theorem dd_M_stat_10 : decode cd_M_stat 10 = .ok (.ifCond .lt 8, 3) := by decide +kernel
theorem dd_M_stat_13 : decode cd_M_stat 13 = .ok (.iload_n 2, 1) := by decide +kernel
theorem dd_M_stat_14 : decode cd_M_stat 14 = .ok (.iconst 4, 1) := by decide +kernel
theorem dd_M_stat_15 : decode cd_M_stat 15 = .ok (.if_icmp .le 7, 3) := by decide +kernel
theorem dd_M_stat_18 : decode cd_M_stat 18 = .ok (.iconst 1, 1) := by decide +kernel
theorem dd_M_stat_19 : decode cd_M_stat 19 = .ok (.goto 23, 3) := by decide +kernel
theorem dd_M_stat_22 : decode cd_M_stat 22 = .ok (.aload_n 0, 1) := by decide +kernel
theorem dd_M_stat_23 : decode cd_M_stat 23 = .ok (.iload_n 1, 1) := by decide +kernel
theorem dd_M_stat_24 : decode cd_M_stat 24 = .ok (.invokevirtual 83, 3) := by decide +kernel
theorem dd_M_stat_27 : decode cd_M_stat 27 = .ok (.ifCond .eq 10, 3) := by decide +kernel
theorem dd_M_stat_30 : decode cd_M_stat 30 = .ok (.aload_n 0, 1) := by decide +kernel
theorem dd_M_stat_31 : decode cd_M_stat 31 = .ok (.getfield 69, 3) := by decide +kernel
theorem dd_M_stat_34 : decode cd_M_stat 34 = .ok (.ifCond .ge 7, 3) := by decide +kernel
theorem dd_M_stat_37 : decode cd_M_stat 37 = .ok (.iconst 2, 1) := by decide +kernel
theorem dd_M_stat_38 : decode cd_M_stat 38 = .ok (.goto 4, 3) := by decide +kernel
theorem dd_M_stat_41 : decode cd_M_stat 41 = .ok (.iconst 0, 1) := by decide +kernel
theorem dd_M_stat_42 : decode cd_M_stat 42 = .ok (.putfield 37, 3) := by decide +kernel
theorem dd_M_stat_45 : decode cd_M_stat 45 = .ok (.aload_n 0, 1) := by decide +kernel
theorem dd_M_stat_46 : decode cd_M_stat 46 = .ok (.getfield 37, 3) := by decide +kernel
theorem dd_M_stat_49 : decode cd_M_stat 49 = .ok (.ifCond .eq 5, 3) := by decide +kernel
theorem dd_M_stat_52 : decode cd_M_stat 52 = .ok (.iconst 0, 1) := by decide +kernel
theorem dd_M_stat_53 : decode cd_M_stat 53 = .ok (.ireturn, 1) := by decide +kernel
theorem dd_M_stat_54 : decode cd_M_stat 54 = .ok (.iload_n 2, 1) := by decide +kernel
theorem dd_M_stat_55 : decode cd_M_stat 55 = .ok (.ifCond .ne 13, 3) := by decide +kernel
theorem dd_M_stat_58 : decode cd_M_stat 58 = .ok (.aload_n 0, 1) := by decide +kernel
theorem dd_M_stat_59 : decode cd_M_stat 59 = .ok (.getfield 7, 3) := by decide +kernel
theorem dd_M_stat_62 : decode cd_M_stat 62 = .ok (.aload_n 0, 1) := by decide +kernel
theorem dd_M_stat_63 : decode cd_M_stat 63 = .ok (.getfield 69, 3) := by decide +kernel
theorem dd_M_stat_66 : decode cd_M_stat 66 = .ok (.iaload, 1) := by decide +kernel
theorem dd_M_stat_67 : decode cd_M_stat 67 = .ok (.ireturn, 1) := by decide +kernel
theorem dd_M_stat_68 : decode cd_M_stat 68 = .ok (.iload_n 2, 1) := by decide +kernel
theorem dd_M_stat_69 : decode cd_M_stat 69 = .ok (.iconst 1, 1) := by decide +kernel
theorem dd_M_stat_70 : decode cd_M_stat 70 = .ok (.if_icmp .ne 13, 3) := by decide +kernel
theorem dd_M_stat_73 : decode cd_M_stat 73 = .ok (.aload_n 0, 1) := by decide +kernel
theorem dd_M_stat_74 : decode cd_M_stat 74 = .ok (.getfield 13, 3) := by decide +kernel
theorem dd_M_stat_77 : decode cd_M_stat 77 = .ok (.aload_n 0, 1) := by decide +kernel
theorem dd_M_stat_78 : decode cd_M_stat 78 = .ok (.getfield 69, 3) := by decide +kernel
theorem dd_M_stat_81 : decode cd_M_stat 81 = .ok (.iaload, 1) := by decide +kernel
theorem dd_M_stat_82 : decode cd_M_stat 82 = .ok (.ireturn, 1) := by decide +kernel
theorem dd_M_stat_83 : decode cd_M_stat 83 = .ok (.iload_n 2, 1) := by decide +kernel
theorem dd_M_stat_84 : decode cd_M_stat 84 = .ok (.iconst 2, 1) := by decide +kernel
theorem dd_M_stat_85 : decode cd_M_stat 85 = .ok (.if_icmp .ne 8, 3) := by decide +kernel
theorem dd_M_stat_88 : decode cd_M_stat 88 = .ok (.aload_n 0, 1) := by decide +kernel
theorem dd_M_stat_89 : decode cd_M_stat 89 = .ok (.getfield 69, 3) := by decide +kernel
theorem dd_M_stat_92 : decode cd_M_stat 92 = .ok (.ireturn, 1) := by decide +kernel
theorem dd_M_stat_93 : decode cd_M_stat 93 = .ok (.iload_n 2, 1) := by decide +kernel
theorem dd_M_stat_94 : decode cd_M_stat 94 = .ok (.iconst 3, 1) := by decide +kernel
theorem dd_M_stat_95 : decode cd_M_stat 95 = .ok (.if_icmp .ne 13, 3) := by decide +kernel
theorem dd_M_stat_98 : decode cd_M_stat 98 = .ok (.aload_n 0, 1) := by decide +kernel
theorem dd_M_stat_99 : decode cd_M_stat 99 = .ok (.getfield 16, 3) := by decide +kernel
theorem dd_M_stat_102 : decode cd_M_stat 102 = .ok (.aload_n 0, 1) := by decide +kernel
theorem dd_M_stat_103 : decode cd_M_stat 103 = .ok (.getfield 69, 3) := by decide +kernel
theorem dd_M_stat_106 : decode cd_M_stat 106 = .ok (.iaload, 1) := by decide +kernel
theorem dd_M_stat_107 : decode cd_M_stat 107 = .ok (.ireturn, 1) := by decide +kernel
theorem dd_M_stat_108 : decode cd_M_stat 108 = .ok (.aload_n 0, 1) := by decide +kernel
theorem dd_M_stat_109 : decode cd_M_stat 109 = .ok (.getfield 7, 3) := by decide +kernel
theorem dd_M_stat_112 : decode cd_M_stat 112 = .ok (.aload_n 0, 1) := by decide +kernel
theorem dd_M_stat_113 : decode cd_M_stat 113 = .ok (.getfield 69, 3) := by decide +kernel
theorem dd_M_stat_116 : decode cd_M_stat 116 = .ok (.iaload, 1) := by decide +kernel
theorem dd_M_stat_117 : decode cd_M_stat 117 = .ok (.iconst 2, 1) := by decide +kernel
theorem dd_M_stat_118 : decode cd_M_stat 118 = .ok (.if_icmp .ne 17, 3) := by decide +kernel
theorem dd_M_stat_121 : decode cd_M_stat 121 = .ok (.aload_n 0, 1) := by decide +kernel
theorem dd_M_stat_122 : decode cd_M_stat 122 = .ok (.getfield 13, 3) := by decide +kernel
theorem dd_M_stat_125 : decode cd_M_stat 125 = .ok (.aload_n 0, 1) := by decide +kernel
theorem dd_M_stat_126 : decode cd_M_stat 126 = .ok (.getfield 69, 3) := by decide +kernel
theorem dd_M_stat_129 : decode cd_M_stat 129 = .ok (.iaload, 1) := by decide +kernel
theorem dd_M_stat_130 : decode cd_M_stat 130 = .ok (.iconst 2, 1) := by decide +kernel
theorem dd_M_stat_131 : decode cd_M_stat 131 = .ok (.idiv, 1) := by decide +kernel
theorem dd_M_stat_132 : decode cd_M_stat 132 = .ok (.goto 4, 3) := by decide +kernel
theorem dd_M_stat_135 : decode cd_M_stat 135 = .ok (.iconst 0, 1) := by decide +kernel
theorem dd_M_stat_136 : decode cd_M_stat 136 = .ok (.ireturn, 1) := by decide +kernel
theorem dd_M_commit_0 : decode cd_M_commit 0 = .ok (.aload_n 0, 1) := by decide +kernel
theorem dd_M_commit_1 : decode cd_M_commit 1 = .ok (.invokevirtual 130, 3) := by decide +kernel
theorem dd_M_commit_4 : decode cd_M_commit 4 = .ok (.istore_n 1, 1) := by decide +kernel
theorem dd_M_commit_5 : decode cd_M_commit 5 = .ok (.aload_n 0, 1) := by decide +kernel
theorem dd_M_commit_6 : decode cd_M_commit 6 = .ok (.iconst 0, 1) := by decide +kernel
theorem dd_M_commit_7 : decode cd_M_commit 7 = .ok (.putfield 37, 3) := by decide +kernel
theorem dd_M_commit_10 : decode cd_M_commit 10 = .ok (.iload_n 1, 1) := by decide +kernel
theorem dd_M_commit_11 : decode cd_M_commit 11 = .ok (.ifCond .ne 5, 3) := by decide +kernel
theorem dd_M_commit_14 : decode cd_M_commit 14 = .ok (.iconst 0, 1) := by decide +kernel
theorem dd_M_commit_15 : decode cd_M_commit 15 = .ok (.ireturn, 1) := by decide +kernel
theorem dd_M_commit_16 : decode cd_M_commit 16 = .ok (.iconst 2, 1) := by decide +kernel
theorem dd_M_commit_17 : decode cd_M_commit 17 = .ok (.iload_n 1, 1) := by decide +kernel
theorem dd_M_commit_18 : decode cd_M_commit 18 = .ok (.imul, 1) := by decide +kernel
theorem dd_M_commit_19 : decode cd_M_commit 19 = .ok (.iconst 1, 1) := by decide +kernel
theorem dd_M_commit_20 : decode cd_M_commit 20 = .ok (.iadd, 1) := by decide +kernel
theorem dd_M_commit_21 : decode cd_M_commit 21 = .ok (.istore_n 2, 1) := by decide +kernel
theorem dd_M_commit_22 : decode cd_M_commit 22 = .ok (.aload_n 0, 1) := by decide +kernel
theorem dd_M_commit_23 : decode cd_M_commit 23 = .ok (.getfield 133, 3) := by decide +kernel
theorem dd_M_commit_26 : decode cd_M_commit 26 = .ok (.ifCond .eq 11, 3) := by decide +kernel
theorem dd_M_commit_29 : decode cd_M_commit 29 = .ok (.aload_n 0, 1) := by decide +kernel
theorem dd_M_commit_30 : decode cd_M_commit 30 = .ok (.getfield 133, 3) := by decide +kernel
theorem dd_M_commit_33 : decode cd_M_commit 33 = .ok (.iload_n 2, 1) := by decide +kernel
theorem dd_M_commit_34 : decode cd_M_commit 34 = .ok (.if_icmp .le 39, 3) := by decide +kernel
theorem dd_M_commit_37 : decode cd_M_commit 37 = .ok (.aload_n 0, 1) := by decide +kernel
theorem dd_M_commit_38 : decode cd_M_commit 38 = .ok (.getfield 133, 3) := by decide +kernel
theorem dd_M_commit_41 : decode cd_M_commit 41 = .ok (.ifCond .le 13, 3) := by decide +kernel
theorem dd_M_commit_44 : decode cd_M_commit 44 = .ok (.aload_n 0, 1) := by decide +kernel
theorem dd_M_commit_45 : decode cd_M_commit 45 = .ok (.dup, 1) := by decide +kernel
theorem dd_M_commit_46 : decode cd_M_commit 46 = .ok (.getfield 133, 3) := by decide +kernel
theorem dd_M_commit_49 : decode cd_M_commit 49 = .ok (.iload_n 2, 1) := by decide +kernel
theorem dd_M_commit_50 : decode cd_M_commit 50 = .ok (.isub, 1) := by decide +kernel
theorem dd_M_commit_51 : decode cd_M_commit 51 = .ok (.putfield 133, 3) := by decide +kernel
theorem dd_M_commit_54 : decode cd_M_commit 54 = .ok (.aload_n 0, 1) := by decide +kernel
theorem dd_M_commit_55 : decode cd_M_commit 55 = .ok (.dup, 1) := by decide +kernel
theorem dd_M_commit_56 : decode cd_M_commit 56 = .ok (.getfield 136, 3) := by decide +kernel
theorem dd_M_commit_59 : decode cd_M_commit 59 = .ok (.iload_n 2, 1) := by decide +kernel
theorem dd_M_commit_60 : decode cd_M_commit 60 = .ok (.iadd, 1) := by decide +kernel
theorem dd_M_commit_61 : decode cd_M_commit 61 = .ok (.putfield 136, 3) := by decide +kernel
theorem dd_M_commit_64 : decode cd_M_commit 64 = .ok (.aload_n 0, 1) := by decide +kernel
theorem dd_M_commit_65 : decode cd_M_commit 65 = .ok (.iconst 0, 1) := by decide +kernel
theorem dd_M_commit_66 : decode cd_M_commit 66 = .ok (.bipush 12, 2) := by decide +kernel
theorem dd_M_commit_68 : decode cd_M_commit 68 = .ok (.invokevirtual 139, 3) := by decide +kernel
theorem dd_M_commit_71 : decode cd_M_commit 71 = .ok (.iload_n 2, 1) := by decide +kernel
theorem dd_M_commit_72 : decode cd_M_commit 72 = .ok (.ireturn, 1) := by decide +kernel
theorem dd_M_commit_73 : decode cd_M_commit 73 = .ok (.aload_n 0, 1) := by decide +kernel
theorem dd_M_commit_74 : decode cd_M_commit 74 = .ok (.dup, 1) := by decide +kernel
theorem dd_M_commit_75 : decode cd_M_commit 75 = .ok (.getfield 136, 3) := by decide +kernel
theorem dd_M_commit_78 : decode cd_M_commit 78 = .ok (.aload_n 0, 1) := by decide +kernel
theorem dd_M_commit_79 : decode cd_M_commit 79 = .ok (.getfield 133, 3) := by decide +kernel
theorem dd_M_commit_82 : decode cd_M_commit 82 = .ok (.iconst 1, 1) := by decide +kernel
theorem dd_M_commit_83 : decode cd_M_commit 83 = .ok (.isub, 1) := by decide +kernel
theorem dd_M_commit_84 : decode cd_M_commit 84 = .ok (.iadd, 1) := by decide +kernel
theorem dd_M_commit_85 : decode cd_M_commit 85 = .ok (.putfield 136, 3) := by decide +kernel
theorem dd_M_commit_88 : decode cd_M_commit 88 = .ok (.aload_n 0, 1) := by decide +kernel
theorem dd_M_commit_89 : decode cd_M_commit 89 = .ok (.getfield 133, 3) := by decide +kernel
theorem dd_M_commit_92 : decode cd_M_commit 92 = .ok (.iload_n 1, 1) := by decide +kernel
theorem dd_M_commit_93 : decode cd_M_commit 93 = .ok (.iconst 1, 1) := by decide +kernel
theorem dd_M_commit_94 : decode cd_M_commit 94 = .ok (.iadd, 1) := by decide +kernel
theorem dd_M_commit_95 : decode cd_M_commit 95 = .ok (.if_icmp .le 10, 3) := by decide +kernel
theorem dd_M_commit_98 : decode cd_M_commit 98 = .ok (.aload_n 0, 1) := by decide +kernel
theorem dd_M_commit_99 : decode cd_M_commit 99 = .ok (.iconst 0, 1) := by decide +kernel
theorem dd_M_commit_100 : decode cd_M_commit 100 = .ok (.bipush 12, 2) := by decide +kernel
theorem dd_M_commit_102 : decode cd_M_commit 102 = .ok (.invokevirtual 139, 3) := by decide +kernel
theorem dd_M_commit_105 : decode cd_M_commit 105 = .ok (.aload_n 0, 1) := by decide +kernel
theorem dd_M_commit_106 : decode cd_M_commit 106 = .ok (.iconst 0, 1) := by decide +kernel
theorem dd_M_commit_107 : decode cd_M_commit 107 = .ok (.putfield 133, 3) := by decide +kernel
theorem dd_M_commit_110 : decode cd_M_commit 110 = .ok (.aload_n 0, 1) := by decide +kernel
theorem dd_M_commit_111 : decode cd_M_commit 111 = .ok (.invokevirtual 142, 3) := by decide +kernel
theorem dd_M_commit_114 : decode cd_M_commit 114 = .ok (.aload_n 0, 1) := by decide +kernel
theorem dd_M_commit_115 : decode cd_M_commit 115 = .ok (.iconst 1, 1) := by decide +kernel
theorem dd_M_commit_116 : decode cd_M_commit 116 = .ok (.putfield 37, 3) := by decide +kernel
theorem dd_M_commit_119 : decode cd_M_commit 119 = .ok (.iconst 0, 1) := by decide +kernel
theorem dd_M_commit_120 : decode cd_M_commit 120 = .ok (.ireturn, 1) := by decide +kernel
theorem dd_M_differing_0 : decode cd_M_differing 0 = .ok (.iconst 0, 1) := by decide +kernel
theorem dd_M_differing_1 : decode cd_M_differing 1 = .ok (.istore_n 1, 1) := by decide +kernel
theorem dd_M_differing_2 : decode cd_M_differing 2 = .ok (.iconst 0, 1) := by decide +kernel
theorem dd_M_differing_3 : decode cd_M_differing 3 = .ok (.istore_n 2, 1) := by decide +kernel
theorem dd_M_differing_4 : decode cd_M_differing 4 = .ok (.iload_n 2, 1) := by decide +kernel
theorem dd_M_differing_5 : decode cd_M_differing 5 = .ok (.bipush 40, 2) := by decide +kernel
theorem dd_M_differing_7 : decode cd_M_differing 7 = .ok (.if_icmp .ge 56, 3) := by decide +kernel
theorem dd_M_differing_10 : decode cd_M_differing 10 = .ok (.iconst 0, 1) := by decide +kernel
theorem dd_M_differing_11 : decode cd_M_differing 11 = .ok (.istore_n 3, 1) := by decide +kernel
theorem dd_M_differing_12 : decode cd_M_differing 12 = .ok (.iconst 0, 1) := by decide +kernel
theorem dd_M_differing_13 : decode cd_M_differing 13 = .ok (.istore 4, 2) := by decide +kernel
theorem dd_M_differing_15 : decode cd_M_differing 15 = .ok (.iload 4, 2) := by decide +kernel
theorem dd_M_differing_17 : decode cd_M_differing 17 = .ok (.bipush 16, 2) := by decide +kernel
theorem dd_M_differing_19 : decode cd_M_differing 19 = .ok (.if_icmp .ge 31, 3) := by decide +kernel
theorem dd_M_differing_22 : decode cd_M_differing 22 = .ok (.aload_n 0, 1) := by decide +kernel
theorem dd_M_differing_23 : decode cd_M_differing 23 = .ok (.iconst 0, 1) := by decide +kernel
theorem dd_M_differing_24 : decode cd_M_differing 24 = .ok (.iload_n 2, 1) := by decide +kernel
theorem dd_M_differing_25 : decode cd_M_differing 25 = .ok (.iload 4, 2) := by decide +kernel
theorem dd_M_differing_27 : decode cd_M_differing 27 = .ok (.invokevirtual 127, 3) := by decide +kernel
theorem dd_M_differing_30 : decode cd_M_differing 30 = .ok (.aload_n 0, 1) := by decide +kernel
theorem dd_M_differing_31 : decode cd_M_differing 31 = .ok (.bipush 12, 2) := by decide +kernel
theorem dd_M_differing_33 : decode cd_M_differing 33 = .ok (.iload_n 2, 1) := by decide +kernel
theorem dd_M_differing_34 : decode cd_M_differing 34 = .ok (.iload 4, 2) := by decide +kernel
theorem dd_M_differing_36 : decode cd_M_differing 36 = .ok (.invokevirtual 127, 3) := by decide +kernel
theorem dd_M_differing_39 : decode cd_M_differing 39 = .ok (.if_icmp .eq 5, 3) := by decide +kernel
theorem dd_M_differing_42 : decode cd_M_differing 42 = .ok (.iconst 1, 1) := by decide +kernel
theorem dd_M_differing_43 : decode cd_M_differing 43 = .ok (.istore_n 3, 1) := by decide +kernel
theorem dd_M_differing_44 : decode cd_M_differing 44 = .ok (.iinc 4 1, 3) := by decide +kernel
theorem dd_M_differing_47 : decode cd_M_differing 47 = .ok (.goto (-32), 3) := by decide +kernel
theorem dd_M_differing_50 : decode cd_M_differing 50 = .ok (.iload_n 3, 1) := by decide +kernel
theorem dd_M_differing_51 : decode cd_M_differing 51 = .ok (.ifCond .eq 6, 3) := by decide +kernel
theorem dd_M_differing_54 : decode cd_M_differing 54 = .ok (.iinc 1 1, 3) := by decide +kernel
theorem dd_M_differing_57 : decode cd_M_differing 57 = .ok (.iinc 2 1, 3) := by decide +kernel
theorem dd_M_differing_60 : decode cd_M_differing 60 = .ok (.goto (-56), 3) := by decide +kernel
theorem dd_M_differing_63 : decode cd_M_differing 63 = .ok (.iload_n 1, 1) := by decide +kernel
theorem dd_M_differing_64 : decode cd_M_differing 64 = .ok (.ireturn, 1) := by decide +kernel
theorem dd_M_byteOf_0 : decode cd_M_byteOf 0 = .ok (.iload_n 2, 1) := by decide +kernel
theorem dd_M_byteOf_1 : decode cd_M_byteOf 1 = .ok (.ifCond .ne 19, 3) := by decide +kernel
theorem dd_M_byteOf_4 : decode cd_M_byteOf 4 = .ok (.iload_n 3, 1) := by decide +kernel
theorem dd_M_byteOf_5 : decode cd_M_byteOf 5 = .ok (.iconst 5, 1) := by decide +kernel
theorem dd_M_byteOf_6 : decode cd_M_byteOf 6 = .ok (.if_icmp .ge 12, 3) := by decide +kernel
theorem dd_M_byteOf_9 : decode cd_M_byteOf 9 = .ok (.aload_n 0, 1) := by decide +kernel
theorem dd_M_byteOf_10 : decode cd_M_byteOf 10 = .ok (.iload_n 1, 1) := by decide +kernel
theorem dd_M_byteOf_11 : decode cd_M_byteOf 11 = .ok (.iload_n 3, 1) := by decide +kernel
theorem dd_M_byteOf_12 : decode cd_M_byteOf 12 = .ok (.invokevirtual 121, 3) := by decide +kernel
theorem dd_M_byteOf_15 : decode cd_M_byteOf 15 = .ok (.goto 4, 3) := by decide +kernel
theorem dd_M_byteOf_18 : decode cd_M_byteOf 18 = .ok (.iconst 0, 1) := by decide +kernel
theorem dd_M_byteOf_19 : decode cd_M_byteOf 19 = .ok (.ireturn, 1) := by decide +kernel
theorem dd_M_byteOf_20 : decode cd_M_byteOf 20 = .ok (.iload_n 2, 1) := by decide +kernel
theorem dd_M_byteOf_21 : decode cd_M_byteOf 21 = .ok (.bipush 7, 2) := by decide +kernel
theorem dd_M_byteOf_23 : decode cd_M_byteOf 23 = .ok (.if_icmp .ge 24, 3) := by decide +kernel
theorem dd_M_byteOf_26 : decode cd_M_byteOf 26 = .ok (.aload_n 0, 1) := by decide +kernel
theorem dd_M_byteOf_27 : decode cd_M_byteOf 27 = .ok (.iload_n 1, 1) := by decide +kernel
theorem dd_M_byteOf_28 : decode cd_M_byteOf 28 = .ok (.iload_n 2, 1) := by decide +kernel
theorem dd_M_byteOf_29 : decode cd_M_byteOf 29 = .ok (.iconst 1, 1) := by decide +kernel
theorem dd_M_byteOf_30 : decode cd_M_byteOf 30 = .ok (.isub, 1) := by decide +kernel
theorem dd_M_byteOf_31 : decode cd_M_byteOf 31 = .ok (.iconst 2, 1) := by decide +kernel
theorem dd_M_byteOf_32 : decode cd_M_byteOf 32 = .ok (.imul, 1) := by decide +kernel
theorem dd_M_byteOf_33 : decode cd_M_byteOf 33 = .ok (.iadd, 1) := by decide +kernel
theorem dd_M_byteOf_34 : decode cd_M_byteOf 34 = .ok (.iload_n 3, 1) := by decide +kernel
theorem dd_M_byteOf_35 : decode cd_M_byteOf 35 = .ok (.bipush 8, 2) := by decide +kernel
theorem dd_M_byteOf_37 : decode cd_M_byteOf 37 = .ok (.idiv, 1) := by decide +kernel
theorem dd_M_byteOf_38 : decode cd_M_byteOf 38 = .ok (.iadd, 1) := by decide +kernel
theorem dd_M_byteOf_39 : decode cd_M_byteOf 39 = .ok (.iload_n 3, 1) := by decide +kernel
theorem dd_M_byteOf_40 : decode cd_M_byteOf 40 = .ok (.bipush 8, 2) := by decide +kernel
theorem dd_M_byteOf_42 : decode cd_M_byteOf 42 = .ok (.irem, 1) := by decide +kernel
theorem dd_M_byteOf_43 : decode cd_M_byteOf 43 = .ok (.invokevirtual 124, 3) := by decide +kernel
theorem dd_M_byteOf_46 : decode cd_M_byteOf 46 = .ok (.ireturn, 1) := by decide +kernel
theorem dd_M_byteOf_47 : decode cd_M_byteOf 47 = .ok (.iload_n 1, 1) := by decide +kernel
theorem dd_M_byteOf_48 : decode cd_M_byteOf 48 = .ok (.iconst 4, 1) := by decide +kernel
theorem dd_M_byteOf_49 : decode cd_M_byteOf 49 = .ok (.imul, 1) := by decide +kernel
theorem dd_M_byteOf_50 : decode cd_M_byteOf 50 = .ok (.istore 4, 2) := by decide +kernel
theorem dd_M_byteOf_52 : decode cd_M_byteOf 52 = .ok (.iload 4, 2) := by decide +kernel
theorem dd_M_byteOf_54 : decode cd_M_byteOf 54 = .ok (.iload_n 1, 1) := by decide +kernel
theorem dd_M_byteOf_55 : decode cd_M_byteOf 55 = .ok (.iconst 4, 1) := by decide +kernel
theorem dd_M_byteOf_56 : decode cd_M_byteOf 56 = .ok (.imul, 1) := by decide +kernel
theorem dd_M_byteOf_57 : decode cd_M_byteOf 57 = .ok (.bipush 48, 2) := by decide +kernel
theorem dd_M_byteOf_59 : decode cd_M_byteOf 59 = .ok (.iadd, 1) := by decide +kernel
theorem dd_M_byteOf_60 : decode cd_M_byteOf 60 = .ok (.if_icmp .ge 49, 3) := by decide +kernel
theorem dd_M_byteOf_63 : decode cd_M_byteOf 63 = .ok (.iload_n 2, 1) := by decide +kernel
theorem dd_M_byteOf_64 : decode cd_M_byteOf 64 = .ok (.bipush 8, 2) := by decide +kernel
theorem dd_M_byteOf_66 : decode cd_M_byteOf 66 = .ok (.if_icmp .le 43, 3) := by decide +kernel
theorem dd_M_byteOf_69 : decode cd_M_byteOf 69 = .ok (.aload_n 0, 1) := by decide +kernel
theorem dd_M_byteOf_70 : decode cd_M_byteOf 70 = .ok (.getfield 19, 3) := by decide +kernel
theorem dd_M_byteOf_73 : decode cd_M_byteOf 73 = .ok (.iload 4, 2) := by decide +kernel
theorem dd_M_byteOf_75 : decode cd_M_byteOf 75 = .ok (.iaload, 1) := by decide +kernel
theorem dd_M_byteOf_76 : decode cd_M_byteOf 76 = .ok (.iload_n 2, 1) := by decide +kernel
theorem dd_M_byteOf_77 : decode cd_M_byteOf 77 = .ok (.if_icmp .ne 26, 3) := by decide +kernel
theorem dd_M_byteOf_80 : decode cd_M_byteOf 80 = .ok (.aload_n 0, 1) := by decide +kernel
theorem dd_M_byteOf_81 : decode cd_M_byteOf 81 = .ok (.getfield 22, 3) := by decide +kernel
theorem dd_M_byteOf_84 : decode cd_M_byteOf 84 = .ok (.iload 4, 2) := by decide +kernel
theorem dd_M_byteOf_86 : decode cd_M_byteOf 86 = .ok (.iconst 4, 1) := by decide +kernel
theorem dd_M_byteOf_87 : decode cd_M_byteOf 87 = .ok (.idiv, 1) := by decide +kernel
theorem dd_M_byteOf_88 : decode cd_M_byteOf 88 = .ok (.bipush 64, 2) := by decide +kernel
theorem dd_M_byteOf_90 : decode cd_M_byteOf 90 = .ok (.imul, 1) := by decide +kernel
theorem dd_M_byteOf_91 : decode cd_M_byteOf 91 = .ok (.iload 4, 2) := by decide +kernel
theorem dd_M_byteOf_93 : decode cd_M_byteOf 93 = .ok (.iconst 4, 1) := by decide +kernel
theorem dd_M_byteOf_94 : decode cd_M_byteOf 94 = .ok (.irem, 1) := by decide +kernel
theorem dd_M_byteOf_95 : decode cd_M_byteOf 95 = .ok (.bipush 16, 2) := by decide +kernel
theorem dd_M_byteOf_97 : decode cd_M_byteOf 97 = .ok (.imul, 1) := by decide +kernel
theorem dd_M_byteOf_98 : decode cd_M_byteOf 98 = .ok (.iadd, 1) := by decide +kernel
theorem dd_M_byteOf_99 : decode cd_M_byteOf 99 = .ok (.iload_n 3, 1) := by decide +kernel
theorem dd_M_byteOf_100 : decode cd_M_byteOf 100 = .ok (.iadd, 1) := by decide +kernel
theorem dd_M_byteOf_101 : decode cd_M_byteOf 101 = .ok (.iaload, 1) := by decide +kernel
theorem dd_M_byteOf_102 : decode cd_M_byteOf 102 = .ok (.ireturn, 1) := by decide +kernel
theorem dd_M_byteOf_103 : decode cd_M_byteOf 103 = .ok (.iinc 4 1, 3) := by decide +kernel
theorem dd_M_byteOf_106 : decode cd_M_byteOf 106 = .ok (.goto (-54), 3) := by decide +kernel
theorem dd_M_byteOf_109 : decode cd_M_byteOf 109 = .ok (.iconst 0, 1) := by decide +kernel
theorem dd_M_byteOf_110 : decode cd_M_byteOf 110 = .ok (.ireturn, 1) := by decide +kernel
theorem dd_M_mapByte_0 : decode cd_M_mapByte 0 = .ok (.iconst 0, 1) := by decide +kernel
theorem dd_M_mapByte_1 : decode cd_M_mapByte 1 = .ok (.istore_n 3, 1) := by decide +kernel
theorem dd_M_mapByte_2 : decode cd_M_mapByte 2 = .ok (.iload_n 2, 1) := by decide +kernel
theorem dd_M_mapByte_3 : decode cd_M_mapByte 3 = .ok (.bipush 8, 2) := by decide +kernel
theorem dd_M_mapByte_5 : decode cd_M_mapByte 5 = .ok (.imul, 1) := by decide +kernel
theorem dd_M_mapByte_6 : decode cd_M_mapByte 6 = .ok (.istore 4, 2) := by decide +kernel
theorem dd_M_mapByte_8 : decode cd_M_mapByte 8 = .ok (.iload 4, 2) := by decide +kernel
theorem dd_M_mapByte_10 : decode cd_M_mapByte 10 = .ok (.iload_n 2, 1) := by decide +kernel
theorem dd_M_mapByte_11 : decode cd_M_mapByte 11 = .ok (.bipush 8, 2) := by decide +kernel
theorem dd_M_mapByte_13 : decode cd_M_mapByte 13 = .ok (.imul, 1) := by decide +kernel
theorem dd_M_mapByte_14 : decode cd_M_mapByte 14 = .ok (.bipush 8, 2) := by decide +kernel
theorem dd_M_mapByte_16 : decode cd_M_mapByte 16 = .ok (.iadd, 1) := by decide +kernel
theorem dd_M_mapByte_17 : decode cd_M_mapByte 17 = .ok (.if_icmp .ge 36, 3) := by decide +kernel
theorem dd_M_mapByte_20 : decode cd_M_mapByte 20 = .ok (.iload 4, 2) := by decide +kernel
theorem dd_M_mapByte_22 : decode cd_M_mapByte 22 = .ok (.bipush 40, 2) := by decide +kernel
theorem dd_M_mapByte_24 : decode cd_M_mapByte 24 = .ok (.if_icmp .ge 29, 3) := by decide +kernel
theorem dd_M_mapByte_27 : decode cd_M_mapByte 27 = .ok (.aload_n 0, 1) := by decide +kernel
theorem dd_M_mapByte_28 : decode cd_M_mapByte 28 = .ok (.iload_n 1, 1) := by decide +kernel
theorem dd_M_mapByte_29 : decode cd_M_mapByte 29 = .ok (.iload 4, 2) := by decide +kernel
theorem dd_M_mapByte_31 : decode cd_M_mapByte 31 = .ok (.invokevirtual 41, 3) := by decide +kernel
theorem dd_M_mapByte_34 : decode cd_M_mapByte 34 = .ok (.ifCond .eq 13, 3) := by decide +kernel
theorem dd_M_mapByte_37 : decode cd_M_mapByte 37 = .ok (.iload_n 3, 1) := by decide +kernel
theorem dd_M_mapByte_38 : decode cd_M_mapByte 38 = .ok (.iconst 1, 1) := by decide +kernel
theorem dd_M_mapByte_39 : decode cd_M_mapByte 39 = .ok (.iload 4, 2) := by decide +kernel
theorem dd_M_mapByte_41 : decode cd_M_mapByte 41 = .ok (.bipush 8, 2) := by decide +kernel
theorem dd_M_mapByte_43 : decode cd_M_mapByte 43 = .ok (.irem, 1) := by decide +kernel
theorem dd_M_mapByte_44 : decode cd_M_mapByte 44 = .ok (.ishl, 1) := by decide +kernel
theorem dd_M_mapByte_45 : decode cd_M_mapByte 45 = .ok (.ior, 1) := by decide +kernel
theorem dd_M_mapByte_46 : decode cd_M_mapByte 46 = .ok (.istore_n 3, 1) := by decide +kernel
theorem dd_M_mapByte_47 : decode cd_M_mapByte 47 = .ok (.iinc 4 1, 3) := by decide +kernel
theorem dd_M_mapByte_50 : decode cd_M_mapByte 50 = .ok (.goto (-42), 3) := by decide +kernel
theorem dd_M_mapByte_53 : decode cd_M_mapByte 53 = .ok (.iload_n 3, 1) := by decide +kernel
theorem dd_M_mapByte_54 : decode cd_M_mapByte 54 = .ok (.ireturn, 1) := by decide +kernel
theorem dd_M_inodeByte_0 : decode cd_M_inodeByte 0 = .ok (.iload_n 2, 1) := by decide +kernel
theorem dd_M_inodeByte_1 : decode cd_M_inodeByte 1 = .ok (.tableswitch 67 0 3 #[31, 38, 45, 60], 31) := by decide +kernel
theorem dd_M_inodeByte_32 : decode cd_M_inodeByte 32 = .ok (.aload_n 0, 1) := by decide +kernel
theorem dd_M_inodeByte_33 : decode cd_M_inodeByte 33 = .ok (.getfield 7, 3) := by decide +kernel
theorem dd_M_inodeByte_36 : decode cd_M_inodeByte 36 = .ok (.iload_n 1, 1) := by decide +kernel
theorem dd_M_inodeByte_37 : decode cd_M_inodeByte 37 = .ok (.iaload, 1) := by decide +kernel
theorem dd_M_inodeByte_38 : decode cd_M_inodeByte 38 = .ok (.ireturn, 1) := by decide +kernel
theorem dd_M_inodeByte_39 : decode cd_M_inodeByte 39 = .ok (.aload_n 0, 1) := by decide +kernel
theorem dd_M_inodeByte_40 : decode cd_M_inodeByte 40 = .ok (.getfield 13, 3) := by decide +kernel
theorem dd_M_inodeByte_43 : decode cd_M_inodeByte 43 = .ok (.iload_n 1, 1) := by decide +kernel
theorem dd_M_inodeByte_44 : decode cd_M_inodeByte 44 = .ok (.iaload, 1) := by decide +kernel
theorem dd_M_inodeByte_45 : decode cd_M_inodeByte 45 = .ok (.ireturn, 1) := by decide +kernel
theorem dd_M_inodeByte_46 : decode cd_M_inodeByte 46 = .ok (.aload_n 0, 1) := by decide +kernel
theorem dd_M_inodeByte_47 : decode cd_M_inodeByte 47 = .ok (.getfield 7, 3) := by decide +kernel
theorem dd_M_inodeByte_50 : decode cd_M_inodeByte 50 = .ok (.iload_n 1, 1) := by decide +kernel
theorem dd_M_inodeByte_51 : decode cd_M_inodeByte 51 = .ok (.iaload, 1) := by decide +kernel
theorem dd_M_inodeByte_52 : decode cd_M_inodeByte 52 = .ok (.ifCond .ne 7, 3) := by decide +kernel
theorem dd_M_inodeByte_55 : decode cd_M_inodeByte 55 = .ok (.iconst 0, 1) := by decide +kernel
theorem dd_M_inodeByte_56 : decode cd_M_inodeByte 56 = .ok (.goto 4, 3) := by decide +kernel
theorem dd_M_inodeByte_59 : decode cd_M_inodeByte 59 = .ok (.iconst 1, 1) := by decide +kernel
theorem dd_M_inodeByte_60 : decode cd_M_inodeByte 60 = .ok (.ireturn, 1) := by decide +kernel
theorem dd_M_inodeByte_61 : decode cd_M_inodeByte 61 = .ok (.aload_n 0, 1) := by decide +kernel
theorem dd_M_inodeByte_62 : decode cd_M_inodeByte 62 = .ok (.getfield 16, 3) := by decide +kernel
theorem dd_M_inodeByte_65 : decode cd_M_inodeByte 65 = .ok (.iload_n 1, 1) := by decide +kernel
theorem dd_M_inodeByte_66 : decode cd_M_inodeByte 66 = .ok (.iaload, 1) := by decide +kernel
theorem dd_M_inodeByte_67 : decode cd_M_inodeByte 67 = .ok (.ireturn, 1) := by decide +kernel
theorem dd_M_inodeByte_68 : decode cd_M_inodeByte 68 = .ok (.aload_n 0, 1) := by decide +kernel
theorem dd_M_inodeByte_69 : decode cd_M_inodeByte 69 = .ok (.getfield 19, 3) := by decide +kernel
theorem dd_M_inodeByte_72 : decode cd_M_inodeByte 72 = .ok (.iload_n 1, 1) := by decide +kernel
theorem dd_M_inodeByte_73 : decode cd_M_inodeByte 73 = .ok (.iconst 4, 1) := by decide +kernel
theorem dd_M_inodeByte_74 : decode cd_M_inodeByte 74 = .ok (.imul, 1) := by decide +kernel
theorem dd_M_inodeByte_75 : decode cd_M_inodeByte 75 = .ok (.iload_n 2, 1) := by decide +kernel
theorem dd_M_inodeByte_76 : decode cd_M_inodeByte 76 = .ok (.iadd, 1) := by decide +kernel
theorem dd_M_inodeByte_77 : decode cd_M_inodeByte 77 = .ok (.iconst 4, 1) := by decide +kernel
theorem dd_M_inodeByte_78 : decode cd_M_inodeByte 78 = .ok (.isub, 1) := by decide +kernel
theorem dd_M_inodeByte_79 : decode cd_M_inodeByte 79 = .ok (.iaload, 1) := by decide +kernel
theorem dd_M_inodeByte_80 : decode cd_M_inodeByte 80 = .ok (.ireturn, 1) := by decide +kernel
theorem dd_M_copyTables_0 : decode cd_M_copyTables 0 = .ok (.iconst 0, 1) := by decide +kernel
theorem dd_M_copyTables_1 : decode cd_M_copyTables 1 = .ok (.istore_n 3, 1) := by decide +kernel
theorem dd_M_copyTables_2 : decode cd_M_copyTables 2 = .ok (.iload_n 3, 1) := by decide +kernel
theorem dd_M_copyTables_3 : decode cd_M_copyTables 3 = .ok (.bipush 12, 2) := by decide +kernel
theorem dd_M_copyTables_5 : decode cd_M_copyTables 5 = .ok (.if_icmp .ge 57, 3) := by decide +kernel
theorem dd_M_copyTables_8 : decode cd_M_copyTables 8 = .ok (.aload_n 0, 1) := by decide +kernel
theorem dd_M_copyTables_9 : decode cd_M_copyTables 9 = .ok (.getfield 7, 3) := by decide +kernel
theorem dd_M_copyTables_12 : decode cd_M_copyTables 12 = .ok (.iload_n 2, 1) := by decide +kernel
theorem dd_M_copyTables_13 : decode cd_M_copyTables 13 = .ok (.iload_n 3, 1) := by decide +kernel
theorem dd_M_copyTables_14 : decode cd_M_copyTables 14 = .ok (.iadd, 1) := by decide +kernel
theorem dd_M_copyTables_15 : decode cd_M_copyTables 15 = .ok (.aload_n 0, 1) := by decide +kernel
theorem dd_M_copyTables_16 : decode cd_M_copyTables 16 = .ok (.getfield 7, 3) := by decide +kernel
theorem dd_M_copyTables_19 : decode cd_M_copyTables 19 = .ok (.iload_n 1, 1) := by decide +kernel
theorem dd_M_copyTables_20 : decode cd_M_copyTables 20 = .ok (.iload_n 3, 1) := by decide +kernel
theorem dd_M_copyTables_21 : decode cd_M_copyTables 21 = .ok (.iadd, 1) := by decide +kernel
theorem dd_M_copyTables_22 : decode cd_M_copyTables 22 = .ok (.iaload, 1) := by decide +kernel
theorem dd_M_copyTables_23 : decode cd_M_copyTables 23 = .ok (.iastore, 1) := by decide +kernel
theorem dd_M_copyTables_24 : decode cd_M_copyTables 24 = .ok (.aload_n 0, 1) := by decide +kernel
theorem dd_M_copyTables_25 : decode cd_M_copyTables 25 = .ok (.getfield 13, 3) := by decide +kernel
theorem dd_M_copyTables_28 : decode cd_M_copyTables 28 = .ok (.iload_n 2, 1) := by decide +kernel
theorem dd_M_copyTables_29 : decode cd_M_copyTables 29 = .ok (.iload_n 3, 1) := by decide +kernel
theorem dd_M_copyTables_30 : decode cd_M_copyTables 30 = .ok (.iadd, 1) := by decide +kernel
theorem dd_M_copyTables_31 : decode cd_M_copyTables 31 = .ok (.aload_n 0, 1) := by decide +kernel
theorem dd_M_copyTables_32 : decode cd_M_copyTables 32 = .ok (.getfield 13, 3) := by decide +kernel
theorem dd_M_copyTables_35 : decode cd_M_copyTables 35 = .ok (.iload_n 1, 1) := by decide +kernel
theorem dd_M_copyTables_36 : decode cd_M_copyTables 36 = .ok (.iload_n 3, 1) := by decide +kernel
theorem dd_M_copyTables_37 : decode cd_M_copyTables 37 = .ok (.iadd, 1) := by decide +kernel
theorem dd_M_copyTables_38 : decode cd_M_copyTables 38 = .ok (.iaload, 1) := by decide +kernel
theorem dd_M_copyTables_39 : decode cd_M_copyTables 39 = .ok (.iastore, 1) := by decide +kernel
theorem dd_M_copyTables_40 : decode cd_M_copyTables 40 = .ok (.aload_n 0, 1) := by decide +kernel
theorem dd_M_copyTables_41 : decode cd_M_copyTables 41 = .ok (.getfield 16, 3) := by decide +kernel
theorem dd_M_copyTables_44 : decode cd_M_copyTables 44 = .ok (.iload_n 2, 1) := by decide +kernel
theorem dd_M_copyTables_45 : decode cd_M_copyTables 45 = .ok (.iload_n 3, 1) := by decide +kernel
theorem dd_M_copyTables_46 : decode cd_M_copyTables 46 = .ok (.iadd, 1) := by decide +kernel
theorem dd_M_copyTables_47 : decode cd_M_copyTables 47 = .ok (.aload_n 0, 1) := by decide +kernel
theorem dd_M_copyTables_48 : decode cd_M_copyTables 48 = .ok (.getfield 16, 3) := by decide +kernel
theorem dd_M_copyTables_51 : decode cd_M_copyTables 51 = .ok (.iload_n 1, 1) := by decide +kernel
theorem dd_M_copyTables_52 : decode cd_M_copyTables 52 = .ok (.iload_n 3, 1) := by decide +kernel
theorem dd_M_copyTables_53 : decode cd_M_copyTables 53 = .ok (.iadd, 1) := by decide +kernel
theorem dd_M_copyTables_54 : decode cd_M_copyTables 54 = .ok (.iaload, 1) := by decide +kernel
theorem dd_M_copyTables_55 : decode cd_M_copyTables 55 = .ok (.iastore, 1) := by decide +kernel
theorem dd_M_copyTables_56 : decode cd_M_copyTables 56 = .ok (.iinc 3 1, 3) := by decide +kernel
theorem dd_M_copyTables_59 : decode cd_M_copyTables 59 = .ok (.goto (-57), 3) := by decide +kernel
theorem dd_M_copyTables_62 : decode cd_M_copyTables 62 = .ok (.iconst 0, 1) := by decide +kernel
theorem dd_M_copyTables_63 : decode cd_M_copyTables 63 = .ok (.istore_n 3, 1) := by decide +kernel
theorem dd_M_copyTables_64 : decode cd_M_copyTables 64 = .ok (.iload_n 3, 1) := by decide +kernel
theorem dd_M_copyTables_65 : decode cd_M_copyTables 65 = .ok (.bipush 48, 2) := by decide +kernel
theorem dd_M_copyTables_67 : decode cd_M_copyTables 67 = .ok (.if_icmp .ge 29, 3) := by decide +kernel
theorem dd_M_copyTables_70 : decode cd_M_copyTables 70 = .ok (.aload_n 0, 1) := by decide +kernel
theorem dd_M_copyTables_71 : decode cd_M_copyTables 71 = .ok (.getfield 19, 3) := by decide +kernel
theorem dd_M_copyTables_74 : decode cd_M_copyTables 74 = .ok (.iload_n 2, 1) := by decide +kernel
theorem dd_M_copyTables_75 : decode cd_M_copyTables 75 = .ok (.iconst 4, 1) := by decide +kernel
theorem dd_M_copyTables_76 : decode cd_M_copyTables 76 = .ok (.imul, 1) := by decide +kernel
theorem dd_M_copyTables_77 : decode cd_M_copyTables 77 = .ok (.iload_n 3, 1) := by decide +kernel
theorem dd_M_copyTables_78 : decode cd_M_copyTables 78 = .ok (.iadd, 1) := by decide +kernel
theorem dd_M_copyTables_79 : decode cd_M_copyTables 79 = .ok (.aload_n 0, 1) := by decide +kernel
theorem dd_M_copyTables_80 : decode cd_M_copyTables 80 = .ok (.getfield 19, 3) := by decide +kernel
theorem dd_M_copyTables_83 : decode cd_M_copyTables 83 = .ok (.iload_n 1, 1) := by decide +kernel
theorem dd_M_copyTables_84 : decode cd_M_copyTables 84 = .ok (.iconst 4, 1) := by decide +kernel
theorem dd_M_copyTables_85 : decode cd_M_copyTables 85 = .ok (.imul, 1) := by decide +kernel
theorem dd_M_copyTables_86 : decode cd_M_copyTables 86 = .ok (.iload_n 3, 1) := by decide +kernel
theorem dd_M_copyTables_87 : decode cd_M_copyTables 87 = .ok (.iadd, 1) := by decide +kernel
theorem dd_M_copyTables_88 : decode cd_M_copyTables 88 = .ok (.iaload, 1) := by decide +kernel
theorem dd_M_copyTables_89 : decode cd_M_copyTables 89 = .ok (.iastore, 1) := by decide +kernel
theorem dd_M_copyTables_90 : decode cd_M_copyTables 90 = .ok (.iinc 3 1, 3) := by decide +kernel
theorem dd_M_copyTables_93 : decode cd_M_copyTables 93 = .ok (.goto (-29), 3) := by decide +kernel
theorem dd_M_copyTables_96 : decode cd_M_copyTables 96 = .ok (.iconst 0, 1) := by decide +kernel
theorem dd_M_copyTables_97 : decode cd_M_copyTables 97 = .ok (.istore_n 3, 1) := by decide +kernel
theorem dd_M_copyTables_98 : decode cd_M_copyTables 98 = .ok (.iload_n 3, 1) := by decide +kernel
theorem dd_M_copyTables_99 : decode cd_M_copyTables 99 = .ok (.sipush 768, 3) := by decide +kernel
theorem dd_M_copyTables_102 : decode cd_M_copyTables 102 = .ok (.if_icmp .ge 31, 3) := by decide +kernel
theorem dd_M_copyTables_105 : decode cd_M_copyTables 105 = .ok (.aload_n 0, 1) := by decide +kernel
theorem dd_M_copyTables_106 : decode cd_M_copyTables 106 = .ok (.getfield 22, 3) := by decide +kernel
theorem dd_M_copyTables_109 : decode cd_M_copyTables 109 = .ok (.iload_n 2, 1) := by decide +kernel
theorem dd_M_copyTables_110 : decode cd_M_copyTables 110 = .ok (.bipush 64, 2) := by decide +kernel
theorem dd_M_copyTables_112 : decode cd_M_copyTables 112 = .ok (.imul, 1) := by decide +kernel
theorem dd_M_copyTables_113 : decode cd_M_copyTables 113 = .ok (.iload_n 3, 1) := by decide +kernel
theorem dd_M_copyTables_114 : decode cd_M_copyTables 114 = .ok (.iadd, 1) := by decide +kernel
theorem dd_M_copyTables_115 : decode cd_M_copyTables 115 = .ok (.aload_n 0, 1) := by decide +kernel
theorem dd_M_copyTables_116 : decode cd_M_copyTables 116 = .ok (.getfield 22, 3) := by decide +kernel
theorem dd_M_copyTables_119 : decode cd_M_copyTables 119 = .ok (.iload_n 1, 1) := by decide +kernel
theorem dd_M_copyTables_120 : decode cd_M_copyTables 120 = .ok (.bipush 64, 2) := by decide +kernel
theorem dd_M_copyTables_122 : decode cd_M_copyTables 122 = .ok (.imul, 1) := by decide +kernel
theorem dd_M_copyTables_123 : decode cd_M_copyTables 123 = .ok (.iload_n 3, 1) := by decide +kernel
theorem dd_M_copyTables_124 : decode cd_M_copyTables 124 = .ok (.iadd, 1) := by decide +kernel
theorem dd_M_copyTables_125 : decode cd_M_copyTables 125 = .ok (.iaload, 1) := by decide +kernel
theorem dd_M_copyTables_126 : decode cd_M_copyTables 126 = .ok (.iastore, 1) := by decide +kernel
theorem dd_M_copyTables_127 : decode cd_M_copyTables 127 = .ok (.iinc 3 1, 3) := by decide +kernel
theorem dd_M_copyTables_130 : decode cd_M_copyTables 130 = .ok (.goto (-32), 3) := by decide +kernel
theorem dd_M_copyTables_133 : decode cd_M_copyTables 133 = .ok (.return_, 1) := by decide +kernel
theorem dd_M_crash_0 : decode cd_M_crash 0 = .ok (.aload_n 0, 1) := by decide +kernel
theorem dd_M_crash_1 : decode cd_M_crash 1 = .ok (.iconst 0, 1) := by decide +kernel
theorem dd_M_crash_2 : decode cd_M_crash 2 = .ok (.putfield 37, 3) := by decide +kernel
theorem dd_M_crash_5 : decode cd_M_crash 5 = .ok (.aload_n 0, 1) := by decide +kernel
theorem dd_M_crash_6 : decode cd_M_crash 6 = .ok (.bipush 12, 2) := by decide +kernel
theorem dd_M_crash_8 : decode cd_M_crash 8 = .ok (.iconst 0, 1) := by decide +kernel
theorem dd_M_crash_9 : decode cd_M_crash 9 = .ok (.invokevirtual 139, 3) := by decide +kernel
theorem dd_M_crash_12 : decode cd_M_crash 12 = .ok (.iconst 0, 1) := by decide +kernel
theorem dd_M_crash_13 : decode cd_M_crash 13 = .ok (.istore_n 1, 1) := by decide +kernel
theorem dd_M_crash_14 : decode cd_M_crash 14 = .ok (.iload_n 1, 1) := by decide +kernel
theorem dd_M_crash_15 : decode cd_M_crash 15 = .ok (.bipush 6, 2) := by decide +kernel
theorem dd_M_crash_17 : decode cd_M_crash 17 = .ok (.if_icmp .ge 16, 3) := by decide +kernel
theorem dd_M_crash_20 : decode cd_M_crash 20 = .ok (.aload_n 0, 1) := by decide +kernel
theorem dd_M_crash_21 : decode cd_M_crash 21 = .ok (.getfield 25, 3) := by decide +kernel
theorem dd_M_crash_24 : decode cd_M_crash 24 = .ok (.iload_n 1, 1) := by decide +kernel
theorem dd_M_crash_25 : decode cd_M_crash 25 = .ok (.iconst 0, 1) := by decide +kernel
theorem dd_M_crash_26 : decode cd_M_crash 26 = .ok (.iastore, 1) := by decide +kernel
theorem dd_M_crash_27 : decode cd_M_crash 27 = .ok (.iinc 1 1, 3) := by decide +kernel
theorem dd_M_crash_30 : decode cd_M_crash 30 = .ok (.goto (-16), 3) := by decide +kernel
theorem dd_M_crash_33 : decode cd_M_crash 33 = .ok (.aload_n 0, 1) := by decide +kernel
theorem dd_M_crash_34 : decode cd_M_crash 34 = .ok (.dup, 1) := by decide +kernel
theorem dd_M_crash_35 : decode cd_M_crash 35 = .ok (.getfield 145, 3) := by decide +kernel
theorem dd_M_crash_38 : decode cd_M_crash 38 = .ok (.iconst 1, 1) := by decide +kernel
theorem dd_M_crash_39 : decode cd_M_crash 39 = .ok (.iadd, 1) := by decide +kernel
theorem dd_M_crash_40 : decode cd_M_crash 40 = .ok (.putfield 145, 3) := by decide +kernel
theorem dd_M_crash_43 : decode cd_M_crash 43 = .ok (.return_, 1) := by decide +kernel
theorem dd_M_cutPower_0 : decode cd_M_cutPower 0 = .ok (.aload_n 0, 1) := by decide +kernel
theorem dd_M_cutPower_1 : decode cd_M_cutPower 1 = .ok (.iload_n 1, 1) := by decide +kernel
theorem dd_M_cutPower_2 : decode cd_M_cutPower 2 = .ok (.ifCond .lt 9, 3) := by decide +kernel
theorem dd_M_cutPower_5 : decode cd_M_cutPower 5 = .ok (.iload_n 1, 1) := by decide +kernel
theorem dd_M_cutPower_6 : decode cd_M_cutPower 6 = .ok (.bipush 100, 2) := by decide +kernel
theorem dd_M_cutPower_8 : decode cd_M_cutPower 8 = .ok (.if_icmp .le 7, 3) := by decide +kernel
theorem dd_M_cutPower_11 : decode cd_M_cutPower 11 = .ok (.iconst 1, 1) := by decide +kernel
theorem dd_M_cutPower_12 : decode cd_M_cutPower 12 = .ok (.goto 4, 3) := by decide +kernel
theorem dd_M_cutPower_15 : decode cd_M_cutPower 15 = .ok (.iconst 0, 1) := by decide +kernel
theorem dd_M_cutPower_16 : decode cd_M_cutPower 16 = .ok (.putfield 37, 3) := by decide +kernel
theorem dd_M_cutPower_19 : decode cd_M_cutPower 19 = .ok (.aload_n 0, 1) := by decide +kernel
theorem dd_M_cutPower_20 : decode cd_M_cutPower 20 = .ok (.getfield 37, 3) := by decide +kernel
theorem dd_M_cutPower_23 : decode cd_M_cutPower 23 = .ok (.ifCond .ne 8, 3) := by decide +kernel
theorem dd_M_cutPower_26 : decode cd_M_cutPower 26 = .ok (.aload_n 0, 1) := by decide +kernel
theorem dd_M_cutPower_27 : decode cd_M_cutPower 27 = .ok (.iload_n 1, 1) := by decide +kernel
theorem dd_M_cutPower_28 : decode cd_M_cutPower 28 = .ok (.putfield 133, 3) := by decide +kernel
theorem dd_M_cutPower_31 : decode cd_M_cutPower 31 = .ok (.return_, 1) := by decide +kernel
theorem dd_M_block_0 : decode cd_M_block 0 = .ok (.aload_n 0, 1) := by decide +kernel
theorem dd_M_block_1 : decode cd_M_block 1 = .ok (.iload_n 1, 1) := by decide +kernel
theorem dd_M_block_2 : decode cd_M_block 2 = .ok (.ifCond .lt 19, 3) := by decide +kernel
theorem dd_M_block_5 : decode cd_M_block 5 = .ok (.iload_n 1, 1) := by decide +kernel
theorem dd_M_block_6 : decode cd_M_block 6 = .ok (.bipush 39, 2) := by decide +kernel
theorem dd_M_block_8 : decode cd_M_block 8 = .ok (.if_icmp .gt 13, 3) := by decide +kernel
theorem dd_M_block_11 : decode cd_M_block 11 = .ok (.iload_n 2, 1) := by decide +kernel
theorem dd_M_block_12 : decode cd_M_block 12 = .ok (.ifCond .lt 9, 3) := by decide +kernel
theorem dd_M_block_15 : decode cd_M_block 15 = .ok (.iload_n 2, 1) := by decide +kernel
theorem dd_M_block_16 : decode cd_M_block 16 = .ok (.bipush 15, 2) := by decide +kernel
theorem dd_M_block_18 : decode cd_M_block 18 = .ok (.if_icmp .le 7, 3) := by decide +kernel
theorem dd_M_block_21 : decode cd_M_block 21 = .ok (.iconst 1, 1) := by decide +kernel
theorem dd_M_block_22 : decode cd_M_block 22 = .ok (.goto 4, 3) := by decide +kernel
theorem dd_M_block_25 : decode cd_M_block 25 = .ok (.iconst 0, 1) := by decide +kernel
theorem dd_M_block_26 : decode cd_M_block 26 = .ok (.putfield 37, 3) := by decide +kernel
theorem dd_M_block_29 : decode cd_M_block 29 = .ok (.aload_n 0, 1) := by decide +kernel
theorem dd_M_block_30 : decode cd_M_block 30 = .ok (.getfield 37, 3) := by decide +kernel
theorem dd_M_block_33 : decode cd_M_block 33 = .ok (.ifCond .ne 22, 3) := by decide +kernel
theorem dd_M_block_36 : decode cd_M_block 36 = .ok (.aload_n 0, 1) := by decide +kernel
theorem dd_M_block_37 : decode cd_M_block 37 = .ok (.iload_n 3, 1) := by decide +kernel
theorem dd_M_block_38 : decode cd_M_block 38 = .ok (.ifCond .eq 8, 3) := by decide +kernel
theorem dd_M_block_41 : decode cd_M_block 41 = .ok (.bipush 12, 2) := by decide +kernel
theorem dd_M_block_43 : decode cd_M_block 43 = .ok (.goto 4, 3) := by decide +kernel
theorem dd_M_block_46 : decode cd_M_block 46 = .ok (.iconst 0, 1) := by decide +kernel
theorem dd_M_block_47 : decode cd_M_block 47 = .ok (.iload_n 1, 1) := by decide +kernel
theorem dd_M_block_48 : decode cd_M_block 48 = .ok (.iload_n 2, 1) := by decide +kernel
theorem dd_M_block_49 : decode cd_M_block 49 = .ok (.invokevirtual 127, 3) := by decide +kernel
theorem dd_M_block_52 : decode cd_M_block 52 = .ok (.goto 4, 3) := by decide +kernel
theorem dd_M_block_55 : decode cd_M_block 55 = .ok (.iconst 0, 1) := by decide +kernel
theorem dd_M_block_56 : decode cd_M_block 56 = .ok (.ireturn, 1) := by decide +kernel
theorem dd_M_count_0 : decode cd_M_count 0 = .ok (.aload_n 0, 1) := by decide +kernel
theorem dd_M_count_1 : decode cd_M_count 1 = .ok (.iconst 0, 1) := by decide +kernel
theorem dd_M_count_2 : decode cd_M_count 2 = .ok (.putfield 37, 3) := by decide +kernel
theorem dd_M_count_5 : decode cd_M_count 5 = .ok (.iload_n 1, 1) := by decide +kernel
theorem dd_M_count_6 : decode cd_M_count 6 = .ok (.ifCond .ne 8, 3) := by decide +kernel
theorem dd_M_count_9 : decode cd_M_count 9 = .ok (.aload_n 0, 1) := by decide +kernel
theorem dd_M_count_10 : decode cd_M_count 10 = .ok (.invokevirtual 49, 3) := by decide +kernel
theorem dd_M_count_13 : decode cd_M_count 13 = .ok (.ireturn, 1) := by decide +kernel
theorem dd_M_count_14 : decode cd_M_count 14 = .ok (.iload_n 1, 1) := by decide +kernel
theorem dd_M_count_15 : decode cd_M_count 15 = .ok (.iconst 3, 1) := by decide +kernel
theorem dd_M_count_16 : decode cd_M_count 16 = .ok (.if_icmp .ne 8, 3) := by decide +kernel
theorem dd_M_count_19 : decode cd_M_count 19 = .ok (.aload_n 0, 1) := by decide +kernel
theorem dd_M_count_20 : decode cd_M_count 20 = .ok (.invokevirtual 130, 3) := by decide +kernel
theorem dd_M_count_23 : decode cd_M_count 23 = .ok (.ireturn, 1) := by decide +kernel
theorem dd_M_count_24 : decode cd_M_count 24 = .ok (.iload_n 1, 1) := by decide +kernel
theorem dd_M_count_25 : decode cd_M_count 25 = .ok (.iconst 4, 1) := by decide +kernel
theorem dd_M_count_26 : decode cd_M_count 26 = .ok (.if_icmp .ne 8, 3) := by decide +kernel
theorem dd_M_count_29 : decode cd_M_count 29 = .ok (.aload_n 0, 1) := by decide +kernel
theorem dd_M_count_30 : decode cd_M_count 30 = .ok (.getfield 136, 3) := by decide +kernel
theorem dd_M_count_33 : decode cd_M_count 33 = .ok (.ireturn, 1) := by decide +kernel
theorem dd_M_count_34 : decode cd_M_count 34 = .ok (.iload_n 1, 1) := by decide +kernel
theorem dd_M_count_35 : decode cd_M_count 35 = .ok (.iconst 5, 1) := by decide +kernel
theorem dd_M_count_36 : decode cd_M_count 36 = .ok (.if_icmp .ne 8, 3) := by decide +kernel
theorem dd_M_count_39 : decode cd_M_count 39 = .ok (.aload_n 0, 1) := by decide +kernel
theorem dd_M_count_40 : decode cd_M_count 40 = .ok (.getfield 145, 3) := by decide +kernel
theorem dd_M_count_43 : decode cd_M_count 43 = .ok (.ireturn, 1) := by decide +kernel
theorem dd_M_count_44 : decode cd_M_count 44 = .ok (.iload_n 1, 1) := by decide +kernel
theorem dd_M_count_45 : decode cd_M_count 45 = .ok (.iconst 1, 1) := by decide +kernel
theorem dd_M_count_46 : decode cd_M_count 46 = .ok (.if_icmp .eq 16, 3) := by decide +kernel
theorem dd_M_count_49 : decode cd_M_count 49 = .ok (.iload_n 1, 1) := by decide +kernel
theorem dd_M_count_50 : decode cd_M_count 50 = .ok (.iconst 2, 1) := by decide +kernel
theorem dd_M_count_51 : decode cd_M_count 51 = .ok (.if_icmp .eq 11, 3) := by decide +kernel
theorem dd_M_count_54 : decode cd_M_count 54 = .ok (.iload_n 1, 1) := by decide +kernel
theorem dd_M_count_55 : decode cd_M_count 55 = .ok (.bipush 6, 2) := by decide +kernel
theorem dd_M_count_57 : decode cd_M_count 57 = .ok (.if_icmp .eq 5, 3) := by decide +kernel
theorem dd_M_count_60 : decode cd_M_count 60 = .ok (.iconst (-1), 1) := by decide +kernel
theorem dd_M_count_61 : decode cd_M_count 61 = .ok (.ireturn, 1) := by decide +kernel
theorem dd_M_count_62 : decode cd_M_count 62 = .ok (.iconst 0, 1) := by decide +kernel
theorem dd_M_count_63 : decode cd_M_count 63 = .ok (.istore_n 2, 1) := by decide +kernel
theorem dd_M_count_64 : decode cd_M_count 64 = .ok (.iconst 0, 1) := by decide +kernel
theorem dd_M_count_65 : decode cd_M_count 65 = .ok (.istore_n 3, 1) := by decide +kernel
theorem dd_M_count_66 : decode cd_M_count 66 = .ok (.iload_n 3, 1) := by decide +kernel
theorem dd_M_count_67 : decode cd_M_count 67 = .ok (.bipush 12, 2) := by decide +kernel
theorem dd_M_count_69 : decode cd_M_count 69 = .ok (.if_icmp .ge 26, 3) := by decide +kernel
theorem dd_M_count_72 : decode cd_M_count 72 = .ok (.iload_n 1, 1) := by decide +kernel
theorem dd_M_count_73 : decode cd_M_count 73 = .ok (.iconst 1, 1) := by decide +kernel
theorem dd_M_count_74 : decode cd_M_count 74 = .ok (.if_icmp .ne 21, 3) := by decide +kernel
theorem dd_M_count_77 : decode cd_M_count 77 = .ok (.aload_n 0, 1) := by decide +kernel
theorem dd_M_count_78 : decode cd_M_count 78 = .ok (.getfield 7, 3) := by decide +kernel
theorem dd_M_count_81 : decode cd_M_count 81 = .ok (.iload_n 3, 1) := by decide +kernel
theorem dd_M_count_82 : decode cd_M_count 82 = .ok (.iaload, 1) := by decide +kernel
theorem dd_M_count_83 : decode cd_M_count 83 = .ok (.ifCond .ne 6, 3) := by decide +kernel
theorem dd_M_count_86 : decode cd_M_count 86 = .ok (.iinc 2 1, 3) := by decide +kernel
theorem dd_M_count_89 : decode cd_M_count 89 = .ok (.iinc 3 1, 3) := by decide +kernel
theorem dd_M_count_92 : decode cd_M_count 92 = .ok (.goto (-26), 3) := by decide +kernel
theorem dd_M_count_95 : decode cd_M_count 95 = .ok (.iconst 0, 1) := by decide +kernel
theorem dd_M_count_96 : decode cd_M_count 96 = .ok (.istore_n 3, 1) := by decide +kernel
theorem dd_M_count_97 : decode cd_M_count 97 = .ok (.iload_n 3, 1) := by decide +kernel
theorem dd_M_count_98 : decode cd_M_count 98 = .ok (.bipush 6, 2) := by decide +kernel
theorem dd_M_count_100 : decode cd_M_count 100 = .ok (.if_icmp .ge 39, 3) := by decide +kernel
theorem dd_M_count_103 : decode cd_M_count 103 = .ok (.iload_n 1, 1) := by decide +kernel
theorem dd_M_count_104 : decode cd_M_count 104 = .ok (.iconst 1, 1) := by decide +kernel
theorem dd_M_count_105 : decode cd_M_count 105 = .ok (.if_icmp .eq 34, 3) := by decide +kernel
theorem dd_M_count_108 : decode cd_M_count 108 = .ok (.aload_n 0, 1) := by decide +kernel
theorem dd_M_count_109 : decode cd_M_count 109 = .ok (.getfield 25, 3) := by decide +kernel
theorem dd_M_count_112 : decode cd_M_count 112 = .ok (.iload_n 3, 1) := by decide +kernel
theorem dd_M_count_113 : decode cd_M_count 113 = .ok (.iaload, 1) := by decide +kernel
theorem dd_M_count_114 : decode cd_M_count 114 = .ok (.ifCond .eq 19, 3) := by decide +kernel
theorem dd_M_count_117 : decode cd_M_count 117 = .ok (.iload_n 1, 1) := by decide +kernel
theorem dd_M_count_118 : decode cd_M_count 118 = .ok (.iconst 2, 1) := by decide +kernel
theorem dd_M_count_119 : decode cd_M_count 119 = .ok (.if_icmp .eq 11, 3) := by decide +kernel
theorem dd_M_count_122 : decode cd_M_count 122 = .ok (.aload_n 0, 1) := by decide +kernel
theorem dd_M_count_123 : decode cd_M_count 123 = .ok (.iload_n 3, 1) := by decide +kernel
theorem dd_M_count_124 : decode cd_M_count 124 = .ok (.invokevirtual 99, 3) := by decide +kernel
theorem dd_M_count_127 : decode cd_M_count 127 = .ok (.ifCond .eq 6, 3) := by decide +kernel
theorem dd_M_count_130 : decode cd_M_count 130 = .ok (.iinc 2 1, 3) := by decide +kernel
theorem dd_M_count_133 : decode cd_M_count 133 = .ok (.iinc 3 1, 3) := by decide +kernel
theorem dd_M_count_136 : decode cd_M_count 136 = .ok (.goto (-39), 3) := by decide +kernel
theorem dd_M_count_139 : decode cd_M_count 139 = .ok (.iload_n 2, 1) := by decide +kernel
theorem dd_M_count_140 : decode cd_M_count 140 = .ok (.ireturn, 1) := by decide +kernel
