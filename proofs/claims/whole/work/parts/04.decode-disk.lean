theorem dd_D_init_0 : decode cd_D_init 0 = .ok (.aload_n 0, 1) := by decide +kernel
theorem dd_D_init_1 : decode cd_D_init 1 = .ok (.invokespecial 3, 3) := by decide +kernel
theorem dd_D_init_4 : decode cd_D_init 4 = .ok (.aload_n 0, 1) := by decide +kernel
theorem dd_D_init_5 : decode cd_D_init 5 = .ok (.sipush 640, 3) := by decide +kernel
theorem dd_D_init_8 : decode cd_D_init 8 = .ok (.newarray .int, 2) := by decide +kernel
theorem dd_D_init_10 : decode cd_D_init 10 = .ok (.putfield 9, 3) := by decide +kernel
theorem dd_D_init_13 : decode cd_D_init 13 = .ok (.aload_n 0, 1) := by decide +kernel
theorem dd_D_init_14 : decode cd_D_init 14 = .ok (.sipush 640, 3) := by decide +kernel
theorem dd_D_init_17 : decode cd_D_init 17 = .ok (.newarray .int, 2) := by decide +kernel
theorem dd_D_init_19 : decode cd_D_init 19 = .ok (.putfield 15, 3) := by decide +kernel
theorem dd_D_init_22 : decode cd_D_init 22 = .ok (.iconst 0, 1) := by decide +kernel
theorem dd_D_init_23 : decode cd_D_init 23 = .ok (.istore_n 1, 1) := by decide +kernel
theorem dd_D_init_24 : decode cd_D_init 24 = .ok (.iload_n 1, 1) := by decide +kernel
theorem dd_D_init_25 : decode cd_D_init 25 = .ok (.bipush 9, 2) := by decide +kernel
theorem dd_D_init_27 : decode cd_D_init 27 = .ok (.if_icmp .ge 15, 3) := by decide +kernel
theorem dd_D_init_30 : decode cd_D_init 30 = .ok (.aload_n 0, 1) := by decide +kernel
theorem dd_D_init_31 : decode cd_D_init 31 = .ok (.iload_n 1, 1) := by decide +kernel
theorem dd_D_init_32 : decode cd_D_init 32 = .ok (.iconst 1, 1) := by decide +kernel
theorem dd_D_init_33 : decode cd_D_init 33 = .ok (.invokevirtual 18, 3) := by decide +kernel
theorem dd_D_init_36 : decode cd_D_init 36 = .ok (.iinc 1 1, 3) := by decide +kernel
theorem dd_D_init_39 : decode cd_D_init 39 = .ok (.goto (-15), 3) := by decide +kernel
theorem dd_D_init_42 : decode cd_D_init 42 = .ok (.return_, 1) := by decide +kernel
theorem dd_D_mark_0 : decode cd_D_mark 0 = .ok (.iconst 1, 1) := by decide +kernel
theorem dd_D_mark_1 : decode cd_D_mark 1 = .ok (.iload_n 1, 1) := by decide +kernel
theorem dd_D_mark_2 : decode cd_D_mark 2 = .ok (.bipush 8, 2) := by decide +kernel
theorem dd_D_mark_4 : decode cd_D_mark 4 = .ok (.irem, 1) := by decide +kernel
theorem dd_D_mark_5 : decode cd_D_mark 5 = .ok (.ishl, 1) := by decide +kernel
theorem dd_D_mark_6 : decode cd_D_mark 6 = .ok (.istore_n 3, 1) := by decide +kernel
theorem dd_D_mark_7 : decode cd_D_mark 7 = .ok (.aload_n 0, 1) := by decide +kernel
theorem dd_D_mark_8 : decode cd_D_mark 8 = .ok (.iload_n 1, 1) := by decide +kernel
theorem dd_D_mark_9 : decode cd_D_mark 9 = .ok (.bipush 8, 2) := by decide +kernel
theorem dd_D_mark_11 : decode cd_D_mark 11 = .ok (.idiv, 1) := by decide +kernel
theorem dd_D_mark_12 : decode cd_D_mark 12 = .ok (.invokevirtual 22, 3) := by decide +kernel
theorem dd_D_mark_15 : decode cd_D_mark 15 = .ok (.iload_n 3, 1) := by decide +kernel
theorem dd_D_mark_16 : decode cd_D_mark 16 = .ok (.iconst (-1), 1) := by decide +kernel
theorem dd_D_mark_17 : decode cd_D_mark 17 = .ok (.ixor, 1) := by decide +kernel
theorem dd_D_mark_18 : decode cd_D_mark 18 = .ok (.iand, 1) := by decide +kernel
theorem dd_D_mark_19 : decode cd_D_mark 19 = .ok (.istore 4, 2) := by decide +kernel
theorem dd_D_mark_21 : decode cd_D_mark 21 = .ok (.aload_n 0, 1) := by decide +kernel
theorem dd_D_mark_22 : decode cd_D_mark 22 = .ok (.iload_n 1, 1) := by decide +kernel
theorem dd_D_mark_23 : decode cd_D_mark 23 = .ok (.bipush 8, 2) := by decide +kernel
theorem dd_D_mark_25 : decode cd_D_mark 25 = .ok (.idiv, 1) := by decide +kernel
theorem dd_D_mark_26 : decode cd_D_mark 26 = .ok (.iload_n 2, 1) := by decide +kernel
theorem dd_D_mark_27 : decode cd_D_mark 27 = .ok (.ifCond .eq 10, 3) := by decide +kernel
theorem dd_D_mark_30 : decode cd_D_mark 30 = .ok (.iload 4, 2) := by decide +kernel
theorem dd_D_mark_32 : decode cd_D_mark 32 = .ok (.iload_n 3, 1) := by decide +kernel
theorem dd_D_mark_33 : decode cd_D_mark 33 = .ok (.ior, 1) := by decide +kernel
theorem dd_D_mark_34 : decode cd_D_mark 34 = .ok (.goto 5, 3) := by decide +kernel
theorem dd_D_mark_37 : decode cd_D_mark 37 = .ok (.iload 4, 2) := by decide +kernel
theorem dd_D_mark_39 : decode cd_D_mark 39 = .ok (.invokevirtual 26, 3) := by decide +kernel
theorem dd_D_mark_42 : decode cd_D_mark 42 = .ok (.return_, 1) := by decide +kernel
theorem dd_D_get_0 : decode cd_D_get 0 = .ok (.iload_n 1, 1) := by decide +kernel
theorem dd_D_get_1 : decode cd_D_get 1 = .ok (.ifCond .lt 19, 3) := by decide +kernel
theorem dd_D_get_4 : decode cd_D_get 4 = .ok (.iload_n 1, 1) := by decide +kernel
theorem dd_D_get_5 : decode cd_D_get 5 = .ok (.sipush 640, 3) := by decide +kernel
theorem dd_D_get_8 : decode cd_D_get 8 = .ok (.if_icmp .ge 12, 3) := by decide +kernel
theorem dd_D_get_11 : decode cd_D_get 11 = .ok (.aload_n 0, 1) := by decide +kernel
theorem dd_D_get_12 : decode cd_D_get 12 = .ok (.getfield 9, 3) := by decide +kernel
theorem dd_D_get_15 : decode cd_D_get 15 = .ok (.iload_n 1, 1) := by decide +kernel
theorem dd_D_get_16 : decode cd_D_get 16 = .ok (.iaload, 1) := by decide +kernel
theorem dd_D_get_17 : decode cd_D_get 17 = .ok (.goto 4, 3) := by decide +kernel
theorem dd_D_get_20 : decode cd_D_get 20 = .ok (.iconst 0, 1) := by decide +kernel
theorem dd_D_get_21 : decode cd_D_get 21 = .ok (.ireturn, 1) := by decide +kernel
theorem dd_D_put_0 : decode cd_D_put 0 = .ok (.iload_n 1, 1) := by decide +kernel
theorem dd_D_put_1 : decode cd_D_put 1 = .ok (.ifCond .lt 17, 3) := by decide +kernel
theorem dd_D_put_4 : decode cd_D_put 4 = .ok (.iload_n 1, 1) := by decide +kernel
theorem dd_D_put_5 : decode cd_D_put 5 = .ok (.sipush 640, 3) := by decide +kernel
theorem dd_D_put_8 : decode cd_D_put 8 = .ok (.if_icmp .ge 10, 3) := by decide +kernel
theorem dd_D_put_11 : decode cd_D_put 11 = .ok (.aload_n 0, 1) := by decide +kernel
theorem dd_D_put_12 : decode cd_D_put 12 = .ok (.getfield 9, 3) := by decide +kernel
theorem dd_D_put_15 : decode cd_D_put 15 = .ok (.iload_n 1, 1) := by decide +kernel
theorem dd_D_put_16 : decode cd_D_put 16 = .ok (.iload_n 2, 1) := by decide +kernel
theorem dd_D_put_17 : decode cd_D_put 17 = .ok (.iastore, 1) := by decide +kernel
theorem dd_D_put_18 : decode cd_D_put 18 = .ok (.return_, 1) := by decide +kernel
theorem dd_I_init_0 : decode cd_I_init 0 = .ok (.aload_n 0, 1) := by decide +kernel
theorem dd_I_init_1 : decode cd_I_init 1 = .ok (.invokespecial 3, 3) := by decide +kernel
theorem dd_I_init_4 : decode cd_I_init 4 = .ok (.aload_n 0, 1) := by decide +kernel
theorem dd_I_init_5 : decode cd_I_init 5 = .ok (.aload_n 1, 1) := by decide +kernel
theorem dd_I_init_6 : decode cd_I_init 6 = .ok (.putfield 9, 3) := by decide +kernel
theorem dd_I_init_9 : decode cd_I_init 9 = .ok (.return_, 1) := by decide +kernel
theorem dd_H_init_0 : decode cd_H_init 0 = .ok (.aload_n 0, 1) := by decide +kernel
theorem dd_H_init_1 : decode cd_H_init 1 = .ok (.invokespecial 1, 3) := by decide +kernel
theorem dd_H_init_4 : decode cd_H_init 4 = .ok (.return_, 1) := by decide +kernel
theorem dd_I_occupy_0 : decode cd_I_occupy 0 = .ok (.aload_n 0, 1) := by decide +kernel
theorem dd_I_occupy_1 : decode cd_I_occupy 1 = .ok (.iload_n 1, 1) := by decide +kernel
theorem dd_I_occupy_2 : decode cd_I_occupy 2 = .ok (.iconst 0, 1) := by decide +kernel
theorem dd_I_occupy_3 : decode cd_I_occupy 3 = .ok (.iload_n 2, 1) := by decide +kernel
theorem dd_I_occupy_4 : decode cd_I_occupy 4 = .ok (.invokevirtual 35, 3) := by decide +kernel
theorem dd_I_occupy_7 : decode cd_I_occupy 7 = .ok (.aload_n 0, 1) := by decide +kernel
theorem dd_I_occupy_8 : decode cd_I_occupy 8 = .ok (.iload_n 1, 1) := by decide +kernel
theorem dd_I_occupy_9 : decode cd_I_occupy 9 = .ok (.iconst 2, 1) := by decide +kernel
theorem dd_I_occupy_10 : decode cd_I_occupy 10 = .ok (.iconst 1, 1) := by decide +kernel
theorem dd_I_occupy_11 : decode cd_I_occupy 11 = .ok (.invokevirtual 35, 3) := by decide +kernel
theorem dd_I_occupy_14 : decode cd_I_occupy 14 = .ok (.aload_n 0, 1) := by decide +kernel
theorem dd_I_occupy_15 : decode cd_I_occupy 15 = .ok (.iload_n 1, 1) := by decide +kernel
theorem dd_I_occupy_16 : decode cd_I_occupy 16 = .ok (.iconst 3, 1) := by decide +kernel
theorem dd_I_occupy_17 : decode cd_I_occupy 17 = .ok (.aload_n 0, 1) := by decide +kernel
theorem dd_I_occupy_18 : decode cd_I_occupy 18 = .ok (.iload_n 1, 1) := by decide +kernel
theorem dd_I_occupy_19 : decode cd_I_occupy 19 = .ok (.invokevirtual 39, 3) := by decide +kernel
theorem dd_I_occupy_22 : decode cd_I_occupy 22 = .ok (.iconst 1, 1) := by decide +kernel
theorem dd_I_occupy_23 : decode cd_I_occupy 23 = .ok (.iadd, 1) := by decide +kernel
theorem dd_I_occupy_24 : decode cd_I_occupy 24 = .ok (.sipush 256, 3) := by decide +kernel
theorem dd_I_occupy_27 : decode cd_I_occupy 27 = .ok (.irem, 1) := by decide +kernel
theorem dd_I_occupy_28 : decode cd_I_occupy 28 = .ok (.invokevirtual 35, 3) := by decide +kernel
theorem dd_I_occupy_31 : decode cd_I_occupy 31 = .ok (.return_, 1) := by decide +kernel
theorem dd_I_putField_0 : decode cd_I_putField 0 = .ok (.aload_n 0, 1) := by decide +kernel
theorem dd_I_putField_1 : decode cd_I_putField 1 = .ok (.getfield 9, 3) := by decide +kernel
theorem dd_I_putField_4 : decode cd_I_putField 4 = .ok (.bipush 16, 2) := by decide +kernel
theorem dd_I_putField_6 : decode cd_I_putField 6 = .ok (.iload_n 1, 1) := by decide +kernel
theorem dd_I_putField_7 : decode cd_I_putField 7 = .ok (.bipush 8, 2) := by decide +kernel
theorem dd_I_putField_9 : decode cd_I_putField 9 = .ok (.imul, 1) := by decide +kernel
theorem dd_I_putField_10 : decode cd_I_putField 10 = .ok (.iadd, 1) := by decide +kernel
theorem dd_I_putField_11 : decode cd_I_putField 11 = .ok (.iload_n 2, 1) := by decide +kernel
theorem dd_I_putField_12 : decode cd_I_putField 12 = .ok (.iadd, 1) := by decide +kernel
theorem dd_I_putField_13 : decode cd_I_putField 13 = .ok (.iload_n 3, 1) := by decide +kernel
theorem dd_I_putField_14 : decode cd_I_putField 14 = .ok (.invokevirtual 21, 3) := by decide +kernel
theorem dd_I_putField_17 : decode cd_I_putField 17 = .ok (.return_, 1) := by decide +kernel
theorem dd_I_generation_0 : decode cd_I_generation 0 = .ok (.aload_n 0, 1) := by decide +kernel
theorem dd_I_generation_1 : decode cd_I_generation 1 = .ok (.iload_n 1, 1) := by decide +kernel
theorem dd_I_generation_2 : decode cd_I_generation 2 = .ok (.iconst 3, 1) := by decide +kernel
theorem dd_I_generation_3 : decode cd_I_generation 3 = .ok (.invokevirtual 25, 3) := by decide +kernel
theorem dd_I_generation_6 : decode cd_I_generation 6 = .ok (.ireturn, 1) := by decide +kernel
theorem dd_I_field_0 : decode cd_I_field 0 = .ok (.aload_n 0, 1) := by decide +kernel
theorem dd_I_field_1 : decode cd_I_field 1 = .ok (.getfield 9, 3) := by decide +kernel
theorem dd_I_field_4 : decode cd_I_field 4 = .ok (.bipush 16, 2) := by decide +kernel
theorem dd_I_field_6 : decode cd_I_field 6 = .ok (.iload_n 1, 1) := by decide +kernel
theorem dd_I_field_7 : decode cd_I_field 7 = .ok (.bipush 8, 2) := by decide +kernel
theorem dd_I_field_9 : decode cd_I_field 9 = .ok (.imul, 1) := by decide +kernel
theorem dd_I_field_10 : decode cd_I_field 10 = .ok (.iadd, 1) := by decide +kernel
theorem dd_I_field_11 : decode cd_I_field 11 = .ok (.iload_n 2, 1) := by decide +kernel
theorem dd_I_field_12 : decode cd_I_field 12 = .ok (.iadd, 1) := by decide +kernel
theorem dd_I_field_13 : decode cd_I_field 13 = .ok (.invokevirtual 15, 3) := by decide +kernel
theorem dd_I_field_16 : decode cd_I_field 16 = .ok (.ireturn, 1) := by decide +kernel
theorem dd_D_keep_0 : decode cd_D_keep 0 = .ok (.aload_n 0, 1) := by decide +kernel
theorem dd_D_keep_1 : decode cd_D_keep 1 = .ok (.getfield 9, 3) := by decide +kernel
theorem dd_D_keep_4 : decode cd_D_keep 4 = .ok (.iconst 0, 1) := by decide +kernel
theorem dd_D_keep_5 : decode cd_D_keep 5 = .ok (.aload_n 0, 1) := by decide +kernel
theorem dd_D_keep_6 : decode cd_D_keep 6 = .ok (.getfield 15, 3) := by decide +kernel
theorem dd_D_keep_9 : decode cd_D_keep 9 = .ok (.iconst 0, 1) := by decide +kernel
theorem dd_D_keep_10 : decode cd_D_keep 10 = .ok (.sipush 640, 3) := by decide +kernel
theorem dd_D_keep_13 : decode cd_D_keep 13 = .ok (.invokestatic 40, 3) := by decide +kernel
theorem dd_D_keep_16 : decode cd_D_keep 16 = .ok (.return_, 1) := by decide +kernel
theorem dd_D_goBack_0 : decode cd_D_goBack 0 = .ok (.aload_n 0, 1) := by decide +kernel
theorem dd_D_goBack_1 : decode cd_D_goBack 1 = .ok (.getfield 15, 3) := by decide +kernel
theorem dd_D_goBack_4 : decode cd_D_goBack 4 = .ok (.iconst 0, 1) := by decide +kernel
theorem dd_D_goBack_5 : decode cd_D_goBack 5 = .ok (.aload_n 0, 1) := by decide +kernel
theorem dd_D_goBack_6 : decode cd_D_goBack 6 = .ok (.getfield 9, 3) := by decide +kernel
theorem dd_D_goBack_9 : decode cd_D_goBack 9 = .ok (.iconst 0, 1) := by decide +kernel
theorem dd_D_goBack_10 : decode cd_D_goBack 10 = .ok (.sipush 640, 3) := by decide +kernel
theorem dd_D_goBack_13 : decode cd_D_goBack 13 = .ok (.invokestatic 40, 3) := by decide +kernel
theorem dd_D_goBack_16 : decode cd_D_goBack 16 = .ok (.return_, 1) := by decide +kernel
theorem dd_D_freeBlocks_0 : decode cd_D_freeBlocks 0 = .ok (.iconst 0, 1) := by decide +kernel
theorem dd_D_freeBlocks_1 : decode cd_D_freeBlocks 1 = .ok (.istore_n 1, 1) := by decide +kernel
theorem dd_D_freeBlocks_2 : decode cd_D_freeBlocks 2 = .ok (.bipush 9, 2) := by decide +kernel
theorem dd_D_freeBlocks_4 : decode cd_D_freeBlocks 4 = .ok (.istore_n 2, 1) := by decide +kernel
theorem dd_D_freeBlocks_5 : decode cd_D_freeBlocks 5 = .ok (.iload_n 2, 1) := by decide +kernel
theorem dd_D_freeBlocks_6 : decode cd_D_freeBlocks 6 = .ok (.bipush 40, 2) := by decide +kernel
theorem dd_D_freeBlocks_8 : decode cd_D_freeBlocks 8 = .ok (.if_icmp .ge 20, 3) := by decide +kernel
theorem dd_D_freeBlocks_11 : decode cd_D_freeBlocks 11 = .ok (.aload_n 0, 1) := by decide +kernel
theorem dd_D_freeBlocks_12 : decode cd_D_freeBlocks 12 = .ok (.iload_n 2, 1) := by decide +kernel
theorem dd_D_freeBlocks_13 : decode cd_D_freeBlocks 13 = .ok (.invokevirtual 30, 3) := by decide +kernel
theorem dd_D_freeBlocks_16 : decode cd_D_freeBlocks 16 = .ok (.ifCond .ne 6, 3) := by decide +kernel
theorem dd_D_freeBlocks_19 : decode cd_D_freeBlocks 19 = .ok (.iinc 1 1, 3) := by decide +kernel
theorem dd_D_freeBlocks_22 : decode cd_D_freeBlocks 22 = .ok (.iinc 2 1, 3) := by decide +kernel
theorem dd_D_freeBlocks_25 : decode cd_D_freeBlocks 25 = .ok (.goto (-20), 3) := by decide +kernel
theorem dd_D_freeBlocks_28 : decode cd_D_freeBlocks 28 = .ok (.iload_n 1, 1) := by decide +kernel
theorem dd_D_freeBlocks_29 : decode cd_D_freeBlocks 29 = .ok (.ireturn, 1) := by decide +kernel
theorem dd_D_isUsed_0 : decode cd_D_isUsed 0 = .ok (.aload_n 0, 1) := by decide +kernel
theorem dd_D_isUsed_1 : decode cd_D_isUsed 1 = .ok (.iload_n 1, 1) := by decide +kernel
theorem dd_D_isUsed_2 : decode cd_D_isUsed 2 = .ok (.bipush 8, 2) := by decide +kernel
theorem dd_D_isUsed_4 : decode cd_D_isUsed 4 = .ok (.idiv, 1) := by decide +kernel
theorem dd_D_isUsed_5 : decode cd_D_isUsed 5 = .ok (.invokevirtual 22, 3) := by decide +kernel
theorem dd_D_isUsed_8 : decode cd_D_isUsed 8 = .ok (.iload_n 1, 1) := by decide +kernel
theorem dd_D_isUsed_9 : decode cd_D_isUsed 9 = .ok (.bipush 8, 2) := by decide +kernel
theorem dd_D_isUsed_11 : decode cd_D_isUsed 11 = .ok (.irem, 1) := by decide +kernel
theorem dd_D_isUsed_12 : decode cd_D_isUsed 12 = .ok (.ishr, 1) := by decide +kernel
theorem dd_D_isUsed_13 : decode cd_D_isUsed 13 = .ok (.iconst 1, 1) := by decide +kernel
theorem dd_D_isUsed_14 : decode cd_D_isUsed 14 = .ok (.iand, 1) := by decide +kernel
theorem dd_D_isUsed_15 : decode cd_D_isUsed 15 = .ok (.iconst 1, 1) := by decide +kernel
theorem dd_D_isUsed_16 : decode cd_D_isUsed 16 = .ok (.if_icmp .ne 7, 3) := by decide +kernel
theorem dd_D_isUsed_19 : decode cd_D_isUsed 19 = .ok (.iconst 1, 1) := by decide +kernel
theorem dd_D_isUsed_20 : decode cd_D_isUsed 20 = .ok (.goto 4, 3) := by decide +kernel
theorem dd_D_isUsed_23 : decode cd_D_isUsed 23 = .ok (.iconst 0, 1) := by decide +kernel
theorem dd_D_isUsed_24 : decode cd_D_isUsed 24 = .ok (.ireturn, 1) := by decide +kernel
theorem dd_I_freeInodes_0 : decode cd_I_freeInodes 0 = .ok (.iconst 0, 1) := by decide +kernel
theorem dd_I_freeInodes_1 : decode cd_I_freeInodes 1 = .ok (.istore_n 1, 1) := by decide +kernel
theorem dd_I_freeInodes_2 : decode cd_I_freeInodes 2 = .ok (.iconst 0, 1) := by decide +kernel
theorem dd_I_freeInodes_3 : decode cd_I_freeInodes 3 = .ok (.istore_n 2, 1) := by decide +kernel
theorem dd_I_freeInodes_4 : decode cd_I_freeInodes 4 = .ok (.iload_n 2, 1) := by decide +kernel
theorem dd_I_freeInodes_5 : decode cd_I_freeInodes 5 = .ok (.bipush 12, 2) := by decide +kernel
theorem dd_I_freeInodes_7 : decode cd_I_freeInodes 7 = .ok (.if_icmp .ge 20, 3) := by decide +kernel
theorem dd_I_freeInodes_10 : decode cd_I_freeInodes 10 = .ok (.aload_n 0, 1) := by decide +kernel
theorem dd_I_freeInodes_11 : decode cd_I_freeInodes 11 = .ok (.iload_n 2, 1) := by decide +kernel
theorem dd_I_freeInodes_12 : decode cd_I_freeInodes 12 = .ok (.invokevirtual 29, 3) := by decide +kernel
theorem dd_I_freeInodes_15 : decode cd_I_freeInodes 15 = .ok (.ifCond .ne 6, 3) := by decide +kernel
theorem dd_I_freeInodes_18 : decode cd_I_freeInodes 18 = .ok (.iinc 1 1, 3) := by decide +kernel
theorem dd_I_freeInodes_21 : decode cd_I_freeInodes 21 = .ok (.iinc 2 1, 3) := by decide +kernel
theorem dd_I_freeInodes_24 : decode cd_I_freeInodes 24 = .ok (.goto (-20), 3) := by decide +kernel
theorem dd_I_freeInodes_27 : decode cd_I_freeInodes 27 = .ok (.iload_n 1, 1) := by decide +kernel
theorem dd_I_freeInodes_28 : decode cd_I_freeInodes 28 = .ok (.ireturn, 1) := by decide +kernel
theorem dd_I_kind_0 : decode cd_I_kind 0 = .ok (.aload_n 0, 1) := by decide +kernel
theorem dd_I_kind_1 : decode cd_I_kind 1 = .ok (.iload_n 1, 1) := by decide +kernel
theorem dd_I_kind_2 : decode cd_I_kind 2 = .ok (.iconst 0, 1) := by decide +kernel
theorem dd_I_kind_3 : decode cd_I_kind 3 = .ok (.invokevirtual 25, 3) := by decide +kernel
theorem dd_I_kind_6 : decode cd_I_kind 6 = .ok (.ireturn, 1) := by decide +kernel
theorem dd_D_differingBlocks_0 : decode cd_D_differingBlocks 0 = .ok (.iconst 0, 1) := by decide +kernel
theorem dd_D_differingBlocks_1 : decode cd_D_differingBlocks 1 = .ok (.istore_n 1, 1) := by decide +kernel
theorem dd_D_differingBlocks_2 : decode cd_D_differingBlocks 2 = .ok (.iconst 0, 1) := by decide +kernel
theorem dd_D_differingBlocks_3 : decode cd_D_differingBlocks 3 = .ok (.istore_n 2, 1) := by decide +kernel
theorem dd_D_differingBlocks_4 : decode cd_D_differingBlocks 4 = .ok (.iload_n 2, 1) := by decide +kernel
theorem dd_D_differingBlocks_5 : decode cd_D_differingBlocks 5 = .ok (.bipush 40, 2) := by decide +kernel
theorem dd_D_differingBlocks_7 : decode cd_D_differingBlocks 7 = .ok (.if_icmp .ge 20, 3) := by decide +kernel
theorem dd_D_differingBlocks_10 : decode cd_D_differingBlocks 10 = .ok (.aload_n 0, 1) := by decide +kernel
theorem dd_D_differingBlocks_11 : decode cd_D_differingBlocks 11 = .ok (.iload_n 2, 1) := by decide +kernel
theorem dd_D_differingBlocks_12 : decode cd_D_differingBlocks 12 = .ok (.invokevirtual 34, 3) := by decide +kernel
theorem dd_D_differingBlocks_15 : decode cd_D_differingBlocks 15 = .ok (.ifCond .eq 6, 3) := by decide +kernel
theorem dd_D_differingBlocks_18 : decode cd_D_differingBlocks 18 = .ok (.iinc 1 1, 3) := by decide +kernel
theorem dd_D_differingBlocks_21 : decode cd_D_differingBlocks 21 = .ok (.iinc 2 1, 3) := by decide +kernel
theorem dd_D_differingBlocks_24 : decode cd_D_differingBlocks 24 = .ok (.goto (-20), 3) := by decide +kernel
theorem dd_D_differingBlocks_27 : decode cd_D_differingBlocks 27 = .ok (.iload_n 1, 1) := by decide +kernel
theorem dd_D_differingBlocks_28 : decode cd_D_differingBlocks 28 = .ok (.ireturn, 1) := by decide +kernel
theorem dd_D_differs_0 : decode cd_D_differs 0 = .ok (.iconst 0, 1) := by decide +kernel
theorem dd_D_differs_1 : decode cd_D_differs 1 = .ok (.istore_n 2, 1) := by decide +kernel
theorem dd_D_differs_2 : decode cd_D_differs 2 = .ok (.iload_n 2, 1) := by decide +kernel
theorem dd_D_differs_3 : decode cd_D_differs 3 = .ok (.bipush 16, 2) := by decide +kernel
theorem dd_D_differs_5 : decode cd_D_differs 5 = .ok (.if_icmp .ge 31, 3) := by decide +kernel
theorem dd_D_differs_8 : decode cd_D_differs 8 = .ok (.iload_n 1, 1) := by decide +kernel
theorem dd_D_differs_9 : decode cd_D_differs 9 = .ok (.bipush 16, 2) := by decide +kernel
theorem dd_D_differs_11 : decode cd_D_differs 11 = .ok (.imul, 1) := by decide +kernel
theorem dd_D_differs_12 : decode cd_D_differs 12 = .ok (.iload_n 2, 1) := by decide +kernel
theorem dd_D_differs_13 : decode cd_D_differs 13 = .ok (.iadd, 1) := by decide +kernel
theorem dd_D_differs_14 : decode cd_D_differs 14 = .ok (.istore_n 3, 1) := by decide +kernel
theorem dd_D_differs_15 : decode cd_D_differs 15 = .ok (.aload_n 0, 1) := by decide +kernel
theorem dd_D_differs_16 : decode cd_D_differs 16 = .ok (.iload_n 3, 1) := by decide +kernel
theorem dd_D_differs_17 : decode cd_D_differs 17 = .ok (.invokevirtual 22, 3) := by decide +kernel
theorem dd_D_differs_20 : decode cd_D_differs 20 = .ok (.aload_n 0, 1) := by decide +kernel
theorem dd_D_differs_21 : decode cd_D_differs 21 = .ok (.iload_n 3, 1) := by decide +kernel
theorem dd_D_differs_22 : decode cd_D_differs 22 = .ok (.invokevirtual 37, 3) := by decide +kernel
theorem dd_D_differs_25 : decode cd_D_differs 25 = .ok (.if_icmp .eq 5, 3) := by decide +kernel
theorem dd_D_differs_28 : decode cd_D_differs 28 = .ok (.iconst 1, 1) := by decide +kernel
theorem dd_D_differs_29 : decode cd_D_differs 29 = .ok (.ireturn, 1) := by decide +kernel
theorem dd_D_differs_30 : decode cd_D_differs 30 = .ok (.iinc 2 1, 3) := by decide +kernel
theorem dd_D_differs_33 : decode cd_D_differs 33 = .ok (.goto (-31), 3) := by decide +kernel
theorem dd_D_differs_36 : decode cd_D_differs 36 = .ok (.iconst 0, 1) := by decide +kernel
theorem dd_D_differs_37 : decode cd_D_differs 37 = .ok (.ireturn, 1) := by decide +kernel
theorem dd_D_getKept_0 : decode cd_D_getKept 0 = .ok (.iload_n 1, 1) := by decide +kernel
theorem dd_D_getKept_1 : decode cd_D_getKept 1 = .ok (.ifCond .lt 19, 3) := by decide +kernel
theorem dd_D_getKept_4 : decode cd_D_getKept 4 = .ok (.iload_n 1, 1) := by decide +kernel
theorem dd_D_getKept_5 : decode cd_D_getKept 5 = .ok (.sipush 640, 3) := by decide +kernel
theorem dd_D_getKept_8 : decode cd_D_getKept 8 = .ok (.if_icmp .ge 12, 3) := by decide +kernel
theorem dd_D_getKept_11 : decode cd_D_getKept 11 = .ok (.aload_n 0, 1) := by decide +kernel
theorem dd_D_getKept_12 : decode cd_D_getKept 12 = .ok (.getfield 15, 3) := by decide +kernel
theorem dd_D_getKept_15 : decode cd_D_getKept 15 = .ok (.iload_n 1, 1) := by decide +kernel
theorem dd_D_getKept_16 : decode cd_D_getKept 16 = .ok (.iaload, 1) := by decide +kernel
theorem dd_D_getKept_17 : decode cd_D_getKept 17 = .ok (.goto 4, 3) := by decide +kernel
theorem dd_D_getKept_20 : decode cd_D_getKept 20 = .ok (.iconst 0, 1) := by decide +kernel
theorem dd_D_getKept_21 : decode cd_D_getKept 21 = .ok (.ireturn, 1) := by decide +kernel
theorem dd_I_findEntry_0 : decode cd_I_findEntry 0 = .ok (.aload_n 0, 1) := by decide +kernel
theorem dd_I_findEntry_1 : decode cd_I_findEntry 1 = .ok (.iload_n 1, 1) := by decide +kernel
theorem dd_I_findEntry_2 : decode cd_I_findEntry 2 = .ok (.invokevirtual 68, 3) := by decide +kernel
theorem dd_I_findEntry_5 : decode cd_I_findEntry 5 = .ok (.istore_n 3, 1) := by decide +kernel
theorem dd_I_findEntry_6 : decode cd_I_findEntry 6 = .ok (.iconst 0, 1) := by decide +kernel
theorem dd_I_findEntry_7 : decode cd_I_findEntry 7 = .ok (.istore 4, 2) := by decide +kernel
theorem dd_I_findEntry_9 : decode cd_I_findEntry 9 = .ok (.iload 4, 2) := by decide +kernel
theorem dd_I_findEntry_11 : decode cd_I_findEntry 11 = .ok (.iload_n 3, 1) := by decide +kernel
theorem dd_I_findEntry_12 : decode cd_I_findEntry 12 = .ok (.if_icmp .ge 25, 3) := by decide +kernel
theorem dd_I_findEntry_15 : decode cd_I_findEntry 15 = .ok (.aload_n 0, 1) := by decide +kernel
theorem dd_I_findEntry_16 : decode cd_I_findEntry 16 = .ok (.iload_n 1, 1) := by decide +kernel
theorem dd_I_findEntry_17 : decode cd_I_findEntry 17 = .ok (.iload 4, 2) := by decide +kernel
theorem dd_I_findEntry_19 : decode cd_I_findEntry 19 = .ok (.iconst 2, 1) := by decide +kernel
theorem dd_I_findEntry_20 : decode cd_I_findEntry 20 = .ok (.imul, 1) := by decide +kernel
theorem dd_I_findEntry_21 : decode cd_I_findEntry 21 = .ok (.invokevirtual 65, 3) := by decide +kernel
theorem dd_I_findEntry_24 : decode cd_I_findEntry 24 = .ok (.iload_n 2, 1) := by decide +kernel
theorem dd_I_findEntry_25 : decode cd_I_findEntry 25 = .ok (.if_icmp .ne 6, 3) := by decide +kernel
theorem dd_I_findEntry_28 : decode cd_I_findEntry 28 = .ok (.iload 4, 2) := by decide +kernel
theorem dd_I_findEntry_30 : decode cd_I_findEntry 30 = .ok (.ireturn, 1) := by decide +kernel
theorem dd_I_findEntry_31 : decode cd_I_findEntry 31 = .ok (.iinc 4 1, 3) := by decide +kernel
theorem dd_I_findEntry_34 : decode cd_I_findEntry 34 = .ok (.goto (-25), 3) := by decide +kernel
theorem dd_I_findEntry_37 : decode cd_I_findEntry 37 = .ok (.iconst (-1), 1) := by decide +kernel
theorem dd_I_findEntry_38 : decode cd_I_findEntry 38 = .ok (.ireturn, 1) := by decide +kernel
theorem dd_I_entries_0 : decode cd_I_entries 0 = .ok (.aload_n 0, 1) := by decide +kernel
theorem dd_I_entries_1 : decode cd_I_entries 1 = .ok (.iload_n 1, 1) := by decide +kernel
theorem dd_I_entries_2 : decode cd_I_entries 2 = .ok (.invokevirtual 29, 3) := by decide +kernel
theorem dd_I_entries_5 : decode cd_I_entries 5 = .ok (.iconst 2, 1) := by decide +kernel
theorem dd_I_entries_6 : decode cd_I_entries 6 = .ok (.if_icmp .ne 13, 3) := by decide +kernel
theorem dd_I_entries_9 : decode cd_I_entries 9 = .ok (.aload_n 0, 1) := by decide +kernel
theorem dd_I_entries_10 : decode cd_I_entries 10 = .ok (.iload_n 1, 1) := by decide +kernel
theorem dd_I_entries_11 : decode cd_I_entries 11 = .ok (.invokevirtual 32, 3) := by decide +kernel
theorem dd_I_entries_14 : decode cd_I_entries 14 = .ok (.iconst 2, 1) := by decide +kernel
theorem dd_I_entries_15 : decode cd_I_entries 15 = .ok (.idiv, 1) := by decide +kernel
theorem dd_I_entries_16 : decode cd_I_entries 16 = .ok (.goto 4, 3) := by decide +kernel
theorem dd_I_entries_19 : decode cd_I_entries 19 = .ok (.iconst 0, 1) := by decide +kernel
theorem dd_I_entries_20 : decode cd_I_entries 20 = .ok (.ireturn, 1) := by decide +kernel
theorem dd_I_size_0 : decode cd_I_size 0 = .ok (.aload_n 0, 1) := by decide +kernel
theorem dd_I_size_1 : decode cd_I_size 1 = .ok (.iload_n 1, 1) := by decide +kernel
theorem dd_I_size_2 : decode cd_I_size 2 = .ok (.iconst 1, 1) := by decide +kernel
theorem dd_I_size_3 : decode cd_I_size 3 = .ok (.invokevirtual 25, 3) := by decide +kernel
theorem dd_I_size_6 : decode cd_I_size 6 = .ok (.ireturn, 1) := by decide +kernel
theorem dd_I_byteOf_0 : decode cd_I_byteOf 0 = .ok (.aload_n 0, 1) := by decide +kernel
theorem dd_I_byteOf_1 : decode cd_I_byteOf 1 = .ok (.getfield 9, 3) := by decide +kernel
theorem dd_I_byteOf_4 : decode cd_I_byteOf 4 = .ok (.aload_n 0, 1) := by decide +kernel
theorem dd_I_byteOf_5 : decode cd_I_byteOf 5 = .ok (.iload_n 1, 1) := by decide +kernel
theorem dd_I_byteOf_6 : decode cd_I_byteOf 6 = .ok (.iload_n 2, 1) := by decide +kernel
theorem dd_I_byteOf_7 : decode cd_I_byteOf 7 = .ok (.invokevirtual 45, 3) := by decide +kernel
theorem dd_I_byteOf_10 : decode cd_I_byteOf 10 = .ok (.invokevirtual 15, 3) := by decide +kernel
theorem dd_I_byteOf_13 : decode cd_I_byteOf 13 = .ok (.ireturn, 1) := by decide +kernel
theorem dd_I_placeOf_0 : decode cd_I_placeOf 0 = .ok (.bipush 16, 2) := by decide +kernel
theorem dd_I_placeOf_2 : decode cd_I_placeOf 2 = .ok (.iload_n 1, 1) := by decide +kernel
theorem dd_I_placeOf_3 : decode cd_I_placeOf 3 = .ok (.bipush 8, 2) := by decide +kernel
theorem dd_I_placeOf_5 : decode cd_I_placeOf 5 = .ok (.imul, 1) := by decide +kernel
theorem dd_I_placeOf_6 : decode cd_I_placeOf 6 = .ok (.iadd, 1) := by decide +kernel
theorem dd_I_placeOf_7 : decode cd_I_placeOf 7 = .ok (.iconst 4, 1) := by decide +kernel
theorem dd_I_placeOf_8 : decode cd_I_placeOf 8 = .ok (.iadd, 1) := by decide +kernel
theorem dd_I_placeOf_9 : decode cd_I_placeOf 9 = .ok (.iload_n 2, 1) := by decide +kernel
theorem dd_I_placeOf_10 : decode cd_I_placeOf 10 = .ok (.bipush 16, 2) := by decide +kernel
theorem dd_I_placeOf_12 : decode cd_I_placeOf 12 = .ok (.idiv, 1) := by decide +kernel
theorem dd_I_placeOf_13 : decode cd_I_placeOf 13 = .ok (.iadd, 1) := by decide +kernel
theorem dd_I_placeOf_14 : decode cd_I_placeOf 14 = .ok (.istore_n 3, 1) := by decide +kernel
theorem dd_I_placeOf_15 : decode cd_I_placeOf 15 = .ok (.aload_n 0, 1) := by decide +kernel
theorem dd_I_placeOf_16 : decode cd_I_placeOf 16 = .ok (.getfield 9, 3) := by decide +kernel
theorem dd_I_placeOf_19 : decode cd_I_placeOf 19 = .ok (.iload_n 3, 1) := by decide +kernel
theorem dd_I_placeOf_20 : decode cd_I_placeOf 20 = .ok (.invokevirtual 15, 3) := by decide +kernel
theorem dd_I_placeOf_23 : decode cd_I_placeOf 23 = .ok (.bipush 16, 2) := by decide +kernel
theorem dd_I_placeOf_25 : decode cd_I_placeOf 25 = .ok (.imul, 1) := by decide +kernel
theorem dd_I_placeOf_26 : decode cd_I_placeOf 26 = .ok (.iload_n 2, 1) := by decide +kernel
theorem dd_I_placeOf_27 : decode cd_I_placeOf 27 = .ok (.bipush 16, 2) := by decide +kernel
theorem dd_I_placeOf_29 : decode cd_I_placeOf 29 = .ok (.irem, 1) := by decide +kernel
theorem dd_I_placeOf_30 : decode cd_I_placeOf 30 = .ok (.iadd, 1) := by decide +kernel
theorem dd_I_placeOf_31 : decode cd_I_placeOf 31 = .ok (.ireturn, 1) := by decide +kernel
theorem dd_I_entryInode_0 : decode cd_I_entryInode 0 = .ok (.aload_n 0, 1) := by decide +kernel
theorem dd_I_entryInode_1 : decode cd_I_entryInode 1 = .ok (.iload_n 1, 1) := by decide +kernel
theorem dd_I_entryInode_2 : decode cd_I_entryInode 2 = .ok (.iload_n 2, 1) := by decide +kernel
theorem dd_I_entryInode_3 : decode cd_I_entryInode 3 = .ok (.iconst 2, 1) := by decide +kernel
theorem dd_I_entryInode_4 : decode cd_I_entryInode 4 = .ok (.imul, 1) := by decide +kernel
theorem dd_I_entryInode_5 : decode cd_I_entryInode 5 = .ok (.iconst 1, 1) := by decide +kernel
theorem dd_I_entryInode_6 : decode cd_I_entryInode 6 = .ok (.iadd, 1) := by decide +kernel
theorem dd_I_entryInode_7 : decode cd_I_entryInode 7 = .ok (.invokevirtual 65, 3) := by decide +kernel
theorem dd_I_entryInode_10 : decode cd_I_entryInode 10 = .ok (.ireturn, 1) := by decide +kernel
theorem dd_I_leastFree_0 : decode cd_I_leastFree 0 = .ok (.iconst 0, 1) := by decide +kernel
theorem dd_I_leastFree_1 : decode cd_I_leastFree 1 = .ok (.istore_n 1, 1) := by decide +kernel
theorem dd_I_leastFree_2 : decode cd_I_leastFree 2 = .ok (.iload_n 1, 1) := by decide +kernel
theorem dd_I_leastFree_3 : decode cd_I_leastFree 3 = .ok (.bipush 12, 2) := by decide +kernel
theorem dd_I_leastFree_5 : decode cd_I_leastFree 5 = .ok (.if_icmp .ge 19, 3) := by decide +kernel
theorem dd_I_leastFree_8 : decode cd_I_leastFree 8 = .ok (.aload_n 0, 1) := by decide +kernel
theorem dd_I_leastFree_9 : decode cd_I_leastFree 9 = .ok (.iload_n 1, 1) := by decide +kernel
theorem dd_I_leastFree_10 : decode cd_I_leastFree 10 = .ok (.invokevirtual 29, 3) := by decide +kernel
theorem dd_I_leastFree_13 : decode cd_I_leastFree 13 = .ok (.ifCond .ne 5, 3) := by decide +kernel
theorem dd_I_leastFree_16 : decode cd_I_leastFree 16 = .ok (.iload_n 1, 1) := by decide +kernel
theorem dd_I_leastFree_17 : decode cd_I_leastFree 17 = .ok (.ireturn, 1) := by decide +kernel
theorem dd_I_leastFree_18 : decode cd_I_leastFree 18 = .ok (.iinc 1 1, 3) := by decide +kernel
theorem dd_I_leastFree_21 : decode cd_I_leastFree 21 = .ok (.goto (-19), 3) := by decide +kernel
theorem dd_I_leastFree_24 : decode cd_I_leastFree 24 = .ok (.iconst (-1), 1) := by decide +kernel
theorem dd_I_leastFree_25 : decode cd_I_leastFree 25 = .ok (.ireturn, 1) := by decide +kernel
theorem dd_I_hasRoomForEntry_0 : decode cd_I_hasRoomForEntry 0 = .ok (.aload_n 0, 1) := by decide +kernel
theorem dd_I_hasRoomForEntry_1 : decode cd_I_hasRoomForEntry 1 = .ok (.iload_n 1, 1) := by decide +kernel
theorem dd_I_hasRoomForEntry_2 : decode cd_I_hasRoomForEntry 2 = .ok (.invokevirtual 68, 3) := by decide +kernel
theorem dd_I_hasRoomForEntry_5 : decode cd_I_hasRoomForEntry 5 = .ok (.istore_n 2, 1) := by decide +kernel
theorem dd_I_hasRoomForEntry_6 : decode cd_I_hasRoomForEntry 6 = .ok (.iload_n 2, 1) := by decide +kernel
theorem dd_I_hasRoomForEntry_7 : decode cd_I_hasRoomForEntry 7 = .ok (.bipush 16, 2) := by decide +kernel
theorem dd_I_hasRoomForEntry_9 : decode cd_I_hasRoomForEntry 9 = .ok (.if_icmp .ge 24, 3) := by decide +kernel
theorem dd_I_hasRoomForEntry_12 : decode cd_I_hasRoomForEntry 12 = .ok (.iload_n 2, 1) := by decide +kernel
theorem dd_I_hasRoomForEntry_13 : decode cd_I_hasRoomForEntry 13 = .ok (.invokestatic 71, 3) := by decide +kernel
theorem dd_I_hasRoomForEntry_16 : decode cd_I_hasRoomForEntry 16 = .ok (.ifCond .eq 13, 3) := by decide +kernel
theorem dd_I_hasRoomForEntry_19 : decode cd_I_hasRoomForEntry 19 = .ok (.aload_n 0, 1) := by decide +kernel
theorem dd_I_hasRoomForEntry_20 : decode cd_I_hasRoomForEntry 20 = .ok (.getfield 9, 3) := by decide +kernel
theorem dd_I_hasRoomForEntry_23 : decode cd_I_hasRoomForEntry 23 = .ok (.invokevirtual 51, 3) := by decide +kernel
theorem dd_I_hasRoomForEntry_26 : decode cd_I_hasRoomForEntry 26 = .ok (.ifCond .le 7, 3) := by decide +kernel
theorem dd_I_hasRoomForEntry_29 : decode cd_I_hasRoomForEntry 29 = .ok (.iconst 1, 1) := by decide +kernel
theorem dd_I_hasRoomForEntry_30 : decode cd_I_hasRoomForEntry 30 = .ok (.goto 4, 3) := by decide +kernel
theorem dd_I_hasRoomForEntry_33 : decode cd_I_hasRoomForEntry 33 = .ok (.iconst 0, 1) := by decide +kernel
theorem dd_I_hasRoomForEntry_34 : decode cd_I_hasRoomForEntry 34 = .ok (.ireturn, 1) := by decide +kernel
theorem dd_I_startsBlock_0 : decode cd_I_startsBlock 0 = .ok (.iload_n 0, 1) := by decide +kernel
theorem dd_I_startsBlock_1 : decode cd_I_startsBlock 1 = .ok (.iconst 2, 1) := by decide +kernel
theorem dd_I_startsBlock_2 : decode cd_I_startsBlock 2 = .ok (.imul, 1) := by decide +kernel
theorem dd_I_startsBlock_3 : decode cd_I_startsBlock 3 = .ok (.bipush 16, 2) := by decide +kernel
theorem dd_I_startsBlock_5 : decode cd_I_startsBlock 5 = .ok (.irem, 1) := by decide +kernel
theorem dd_I_startsBlock_6 : decode cd_I_startsBlock 6 = .ok (.ifCond .ne 7, 3) := by decide +kernel
theorem dd_I_startsBlock_9 : decode cd_I_startsBlock 9 = .ok (.iconst 1, 1) := by decide +kernel
theorem dd_I_startsBlock_10 : decode cd_I_startsBlock 10 = .ok (.goto 4, 3) := by decide +kernel
theorem dd_I_startsBlock_13 : decode cd_I_startsBlock 13 = .ok (.iconst 0, 1) := by decide +kernel
theorem dd_I_startsBlock_14 : decode cd_I_startsBlock 14 = .ok (.ireturn, 1) := by decide +kernel
theorem dd_I_addEntry_0 : decode cd_I_addEntry 0 = .ok (.aload_n 0, 1) := by decide +kernel
theorem dd_I_addEntry_1 : decode cd_I_addEntry 1 = .ok (.iload_n 1, 1) := by decide +kernel
theorem dd_I_addEntry_2 : decode cd_I_addEntry 2 = .ok (.invokevirtual 68, 3) := by decide +kernel
theorem dd_I_addEntry_5 : decode cd_I_addEntry 5 = .ok (.istore 4, 2) := by decide +kernel
theorem dd_I_addEntry_7 : decode cd_I_addEntry 7 = .ok (.aload_n 0, 1) := by decide +kernel
theorem dd_I_addEntry_8 : decode cd_I_addEntry 8 = .ok (.iload_n 1, 1) := by decide +kernel
theorem dd_I_addEntry_9 : decode cd_I_addEntry 9 = .ok (.iload 4, 2) := by decide +kernel
theorem dd_I_addEntry_11 : decode cd_I_addEntry 11 = .ok (.iconst 1, 1) := by decide +kernel
theorem dd_I_addEntry_12 : decode cd_I_addEntry 12 = .ok (.iadd, 1) := by decide +kernel
theorem dd_I_addEntry_13 : decode cd_I_addEntry 13 = .ok (.iconst 2, 1) := by decide +kernel
theorem dd_I_addEntry_14 : decode cd_I_addEntry 14 = .ok (.imul, 1) := by decide +kernel
theorem dd_I_addEntry_15 : decode cd_I_addEntry 15 = .ok (.invokevirtual 42, 3) := by decide +kernel
theorem dd_I_addEntry_18 : decode cd_I_addEntry 18 = .ok (.aload_n 0, 1) := by decide +kernel
theorem dd_I_addEntry_19 : decode cd_I_addEntry 19 = .ok (.iload_n 1, 1) := by decide +kernel
theorem dd_I_addEntry_20 : decode cd_I_addEntry 20 = .ok (.iload 4, 2) := by decide +kernel
theorem dd_I_addEntry_22 : decode cd_I_addEntry 22 = .ok (.iload_n 2, 1) := by decide +kernel
theorem dd_I_addEntry_23 : decode cd_I_addEntry 23 = .ok (.iload_n 3, 1) := by decide +kernel
theorem dd_I_addEntry_24 : decode cd_I_addEntry 24 = .ok (.invokevirtual 75, 3) := by decide +kernel
theorem dd_I_addEntry_27 : decode cd_I_addEntry 27 = .ok (.return_, 1) := by decide +kernel
theorem dd_I_resize_0 : decode cd_I_resize 0 = .ok (.aload_n 0, 1) := by decide +kernel
theorem dd_I_resize_1 : decode cd_I_resize 1 = .ok (.iload_n 1, 1) := by decide +kernel
theorem dd_I_resize_2 : decode cd_I_resize 2 = .ok (.invokevirtual 32, 3) := by decide +kernel
theorem dd_I_resize_5 : decode cd_I_resize 5 = .ok (.istore_n 3, 1) := by decide +kernel
theorem dd_I_resize_6 : decode cd_I_resize 6 = .ok (.iload_n 2, 1) := by decide +kernel
theorem dd_I_resize_7 : decode cd_I_resize 7 = .ok (.istore 4, 2) := by decide +kernel
theorem dd_I_resize_9 : decode cd_I_resize 9 = .ok (.iload 4, 2) := by decide +kernel
theorem dd_I_resize_11 : decode cd_I_resize 11 = .ok (.iload_n 3, 1) := by decide +kernel
theorem dd_I_resize_12 : decode cd_I_resize 12 = .ok (.if_icmp .ge 17, 3) := by decide +kernel
theorem dd_I_resize_15 : decode cd_I_resize 15 = .ok (.aload_n 0, 1) := by decide +kernel
theorem dd_I_resize_16 : decode cd_I_resize 16 = .ok (.iload_n 1, 1) := by decide +kernel
theorem dd_I_resize_17 : decode cd_I_resize 17 = .ok (.iload 4, 2) := by decide +kernel
theorem dd_I_resize_19 : decode cd_I_resize 19 = .ok (.iconst 0, 1) := by decide +kernel
theorem dd_I_resize_20 : decode cd_I_resize 20 = .ok (.invokevirtual 55, 3) := by decide +kernel
theorem dd_I_resize_23 : decode cd_I_resize 23 = .ok (.iinc 4 1, 3) := by decide +kernel
theorem dd_I_resize_26 : decode cd_I_resize 26 = .ok (.goto (-17), 3) := by decide +kernel
theorem dd_I_resize_29 : decode cd_I_resize 29 = .ok (.iload_n 2, 1) := by decide +kernel
theorem dd_I_resize_30 : decode cd_I_resize 30 = .ok (.invokestatic 48, 3) := by decide +kernel
theorem dd_I_resize_33 : decode cd_I_resize 33 = .ok (.istore 4, 2) := by decide +kernel
theorem dd_I_resize_35 : decode cd_I_resize 35 = .ok (.iload 4, 2) := by decide +kernel
theorem dd_I_resize_37 : decode cd_I_resize 37 = .ok (.iload_n 3, 1) := by decide +kernel
theorem dd_I_resize_38 : decode cd_I_resize 38 = .ok (.invokestatic 48, 3) := by decide +kernel
theorem dd_I_resize_41 : decode cd_I_resize 41 = .ok (.if_icmp .ge 35, 3) := by decide +kernel
theorem dd_I_resize_44 : decode cd_I_resize 44 = .ok (.aload_n 0, 1) := by decide +kernel
theorem dd_I_resize_45 : decode cd_I_resize 45 = .ok (.getfield 9, 3) := by decide +kernel
theorem dd_I_resize_48 : decode cd_I_resize 48 = .ok (.aload_n 0, 1) := by decide +kernel
theorem dd_I_resize_49 : decode cd_I_resize 49 = .ok (.iload_n 1, 1) := by decide +kernel
theorem dd_I_resize_50 : decode cd_I_resize 50 = .ok (.iconst 4, 1) := by decide +kernel
theorem dd_I_resize_51 : decode cd_I_resize 51 = .ok (.iload 4, 2) := by decide +kernel
theorem dd_I_resize_53 : decode cd_I_resize 53 = .ok (.iadd, 1) := by decide +kernel
theorem dd_I_resize_54 : decode cd_I_resize 54 = .ok (.invokevirtual 25, 3) := by decide +kernel
theorem dd_I_resize_57 : decode cd_I_resize 57 = .ok (.invokevirtual 58, 3) := by decide +kernel
theorem dd_I_resize_60 : decode cd_I_resize 60 = .ok (.aload_n 0, 1) := by decide +kernel
theorem dd_I_resize_61 : decode cd_I_resize 61 = .ok (.iload_n 1, 1) := by decide +kernel
theorem dd_I_resize_62 : decode cd_I_resize 62 = .ok (.iconst 4, 1) := by decide +kernel
theorem dd_I_resize_63 : decode cd_I_resize 63 = .ok (.iload 4, 2) := by decide +kernel
theorem dd_I_resize_65 : decode cd_I_resize 65 = .ok (.iadd, 1) := by decide +kernel
theorem dd_I_resize_66 : decode cd_I_resize 66 = .ok (.iconst 0, 1) := by decide +kernel
theorem dd_I_resize_67 : decode cd_I_resize 67 = .ok (.invokevirtual 35, 3) := by decide +kernel
theorem dd_I_resize_70 : decode cd_I_resize 70 = .ok (.iinc 4 1, 3) := by decide +kernel
theorem dd_I_resize_73 : decode cd_I_resize 73 = .ok (.goto (-38), 3) := by decide +kernel
theorem dd_I_resize_76 : decode cd_I_resize 76 = .ok (.iload_n 3, 1) := by decide +kernel
theorem dd_I_resize_77 : decode cd_I_resize 77 = .ok (.invokestatic 48, 3) := by decide +kernel
theorem dd_I_resize_80 : decode cd_I_resize 80 = .ok (.istore 4, 2) := by decide +kernel
theorem dd_I_resize_82 : decode cd_I_resize 82 = .ok (.iload 4, 2) := by decide +kernel
theorem dd_I_resize_84 : decode cd_I_resize 84 = .ok (.iload_n 2, 1) := by decide +kernel
theorem dd_I_resize_85 : decode cd_I_resize 85 = .ok (.invokestatic 48, 3) := by decide +kernel
theorem dd_I_resize_88 : decode cd_I_resize 88 = .ok (.if_icmp .ge 25, 3) := by decide +kernel
theorem dd_I_resize_91 : decode cd_I_resize 91 = .ok (.aload_n 0, 1) := by decide +kernel
theorem dd_I_resize_92 : decode cd_I_resize 92 = .ok (.iload_n 1, 1) := by decide +kernel
theorem dd_I_resize_93 : decode cd_I_resize 93 = .ok (.iconst 4, 1) := by decide +kernel
theorem dd_I_resize_94 : decode cd_I_resize 94 = .ok (.iload 4, 2) := by decide +kernel
theorem dd_I_resize_96 : decode cd_I_resize 96 = .ok (.iadd, 1) := by decide +kernel
theorem dd_I_resize_97 : decode cd_I_resize 97 = .ok (.aload_n 0, 1) := by decide +kernel
theorem dd_I_resize_98 : decode cd_I_resize 98 = .ok (.getfield 9, 3) := by decide +kernel
theorem dd_I_resize_101 : decode cd_I_resize 101 = .ok (.invokevirtual 62, 3) := by decide +kernel
theorem dd_I_resize_104 : decode cd_I_resize 104 = .ok (.invokevirtual 35, 3) := by decide +kernel
theorem dd_I_resize_107 : decode cd_I_resize 107 = .ok (.iinc 4 1, 3) := by decide +kernel
theorem dd_I_resize_110 : decode cd_I_resize 110 = .ok (.goto (-28), 3) := by decide +kernel
theorem dd_I_resize_113 : decode cd_I_resize 113 = .ok (.aload_n 0, 1) := by decide +kernel
theorem dd_I_resize_114 : decode cd_I_resize 114 = .ok (.iload_n 1, 1) := by decide +kernel
theorem dd_I_resize_115 : decode cd_I_resize 115 = .ok (.iconst 1, 1) := by decide +kernel
theorem dd_I_resize_116 : decode cd_I_resize 116 = .ok (.iload_n 2, 1) := by decide +kernel
theorem dd_I_resize_117 : decode cd_I_resize 117 = .ok (.invokevirtual 35, 3) := by decide +kernel
theorem dd_I_resize_120 : decode cd_I_resize 120 = .ok (.return_, 1) := by decide +kernel
theorem dd_I_putByte_0 : decode cd_I_putByte 0 = .ok (.aload_n 0, 1) := by decide +kernel
theorem dd_I_putByte_1 : decode cd_I_putByte 1 = .ok (.getfield 9, 3) := by decide +kernel
theorem dd_I_putByte_4 : decode cd_I_putByte 4 = .ok (.aload_n 0, 1) := by decide +kernel
theorem dd_I_putByte_5 : decode cd_I_putByte 5 = .ok (.iload_n 1, 1) := by decide +kernel
theorem dd_I_putByte_6 : decode cd_I_putByte 6 = .ok (.iload_n 2, 1) := by decide +kernel
theorem dd_I_putByte_7 : decode cd_I_putByte 7 = .ok (.invokevirtual 45, 3) := by decide +kernel
theorem dd_I_putByte_10 : decode cd_I_putByte 10 = .ok (.iload_n 3, 1) := by decide +kernel
theorem dd_I_putByte_11 : decode cd_I_putByte 11 = .ok (.invokevirtual 21, 3) := by decide +kernel
theorem dd_I_putByte_14 : decode cd_I_putByte 14 = .ok (.return_, 1) := by decide +kernel
theorem dd_I_blocksFor_0 : decode cd_I_blocksFor 0 = .ok (.iload_n 0, 1) := by decide +kernel
theorem dd_I_blocksFor_1 : decode cd_I_blocksFor 1 = .ok (.bipush 16, 2) := by decide +kernel
theorem dd_I_blocksFor_3 : decode cd_I_blocksFor 3 = .ok (.iadd, 1) := by decide +kernel
theorem dd_I_blocksFor_4 : decode cd_I_blocksFor 4 = .ok (.iconst 1, 1) := by decide +kernel
theorem dd_I_blocksFor_5 : decode cd_I_blocksFor 5 = .ok (.isub, 1) := by decide +kernel
theorem dd_I_blocksFor_6 : decode cd_I_blocksFor 6 = .ok (.bipush 16, 2) := by decide +kernel
theorem dd_I_blocksFor_8 : decode cd_I_blocksFor 8 = .ok (.idiv, 1) := by decide +kernel
theorem dd_I_blocksFor_9 : decode cd_I_blocksFor 9 = .ok (.ireturn, 1) := by decide +kernel
theorem dd_D_giveBack_0 : decode cd_D_giveBack 0 = .ok (.aload_n 0, 1) := by decide +kernel
theorem dd_D_giveBack_1 : decode cd_D_giveBack 1 = .ok (.iload_n 1, 1) := by decide +kernel
theorem dd_D_giveBack_2 : decode cd_D_giveBack 2 = .ok (.iconst 0, 1) := by decide +kernel
theorem dd_D_giveBack_3 : decode cd_D_giveBack 3 = .ok (.invokevirtual 18, 3) := by decide +kernel
theorem dd_D_giveBack_6 : decode cd_D_giveBack 6 = .ok (.return_, 1) := by decide +kernel
theorem dd_D_takeBlock_0 : decode cd_D_takeBlock 0 = .ok (.bipush 9, 2) := by decide +kernel
theorem dd_D_takeBlock_2 : decode cd_D_takeBlock 2 = .ok (.istore_n 1, 1) := by decide +kernel
theorem dd_D_takeBlock_3 : decode cd_D_takeBlock 3 = .ok (.iload_n 1, 1) := by decide +kernel
theorem dd_D_takeBlock_4 : decode cd_D_takeBlock 4 = .ok (.bipush 40, 2) := by decide +kernel
theorem dd_D_takeBlock_6 : decode cd_D_takeBlock 6 = .ok (.if_icmp .ge 25, 3) := by decide +kernel
theorem dd_D_takeBlock_9 : decode cd_D_takeBlock 9 = .ok (.aload_n 0, 1) := by decide +kernel
theorem dd_D_takeBlock_10 : decode cd_D_takeBlock 10 = .ok (.iload_n 1, 1) := by decide +kernel
theorem dd_D_takeBlock_11 : decode cd_D_takeBlock 11 = .ok (.invokevirtual 30, 3) := by decide +kernel
theorem dd_D_takeBlock_14 : decode cd_D_takeBlock 14 = .ok (.ifCond .ne 11, 3) := by decide +kernel
theorem dd_D_takeBlock_17 : decode cd_D_takeBlock 17 = .ok (.aload_n 0, 1) := by decide +kernel
theorem dd_D_takeBlock_18 : decode cd_D_takeBlock 18 = .ok (.iload_n 1, 1) := by decide +kernel
theorem dd_D_takeBlock_19 : decode cd_D_takeBlock 19 = .ok (.iconst 1, 1) := by decide +kernel
theorem dd_D_takeBlock_20 : decode cd_D_takeBlock 20 = .ok (.invokevirtual 18, 3) := by decide +kernel
theorem dd_D_takeBlock_23 : decode cd_D_takeBlock 23 = .ok (.iload_n 1, 1) := by decide +kernel
theorem dd_D_takeBlock_24 : decode cd_D_takeBlock 24 = .ok (.ireturn, 1) := by decide +kernel
theorem dd_D_takeBlock_25 : decode cd_D_takeBlock 25 = .ok (.iinc 1 1, 3) := by decide +kernel
theorem dd_D_takeBlock_28 : decode cd_D_takeBlock 28 = .ok (.goto (-25), 3) := by decide +kernel
theorem dd_D_takeBlock_31 : decode cd_D_takeBlock 31 = .ok (.iconst 0, 1) := by decide +kernel
theorem dd_D_takeBlock_32 : decode cd_D_takeBlock 32 = .ok (.ireturn, 1) := by decide +kernel
theorem dd_I_putEntry_0 : decode cd_I_putEntry 0 = .ok (.aload_n 0, 1) := by decide +kernel
theorem dd_I_putEntry_1 : decode cd_I_putEntry 1 = .ok (.iload_n 1, 1) := by decide +kernel
theorem dd_I_putEntry_2 : decode cd_I_putEntry 2 = .ok (.iload_n 2, 1) := by decide +kernel
theorem dd_I_putEntry_3 : decode cd_I_putEntry 3 = .ok (.iconst 2, 1) := by decide +kernel
theorem dd_I_putEntry_4 : decode cd_I_putEntry 4 = .ok (.imul, 1) := by decide +kernel
theorem dd_I_putEntry_5 : decode cd_I_putEntry 5 = .ok (.iload_n 3, 1) := by decide +kernel
theorem dd_I_putEntry_6 : decode cd_I_putEntry 6 = .ok (.invokevirtual 55, 3) := by decide +kernel
theorem dd_I_putEntry_9 : decode cd_I_putEntry 9 = .ok (.aload_n 0, 1) := by decide +kernel
theorem dd_I_putEntry_10 : decode cd_I_putEntry 10 = .ok (.iload_n 1, 1) := by decide +kernel
theorem dd_I_putEntry_11 : decode cd_I_putEntry 11 = .ok (.iload_n 2, 1) := by decide +kernel
theorem dd_I_putEntry_12 : decode cd_I_putEntry 12 = .ok (.iconst 2, 1) := by decide +kernel
theorem dd_I_putEntry_13 : decode cd_I_putEntry 13 = .ok (.imul, 1) := by decide +kernel
theorem dd_I_putEntry_14 : decode cd_I_putEntry 14 = .ok (.iconst 1, 1) := by decide +kernel
theorem dd_I_putEntry_15 : decode cd_I_putEntry 15 = .ok (.iadd, 1) := by decide +kernel
theorem dd_I_putEntry_16 : decode cd_I_putEntry 16 = .ok (.iload 4, 2) := by decide +kernel
theorem dd_I_putEntry_18 : decode cd_I_putEntry 18 = .ok (.invokevirtual 55, 3) := by decide +kernel
theorem dd_I_putEntry_21 : decode cd_I_putEntry 21 = .ok (.return_, 1) := by decide +kernel
theorem dd_I_hasRoomForSize_0 : decode cd_I_hasRoomForSize 0 = .ok (.iload_n 2, 1) := by decide +kernel
theorem dd_I_hasRoomForSize_1 : decode cd_I_hasRoomForSize 1 = .ok (.invokestatic 48, 3) := by decide +kernel
theorem dd_I_hasRoomForSize_4 : decode cd_I_hasRoomForSize 4 = .ok (.aload_n 0, 1) := by decide +kernel
theorem dd_I_hasRoomForSize_5 : decode cd_I_hasRoomForSize 5 = .ok (.iload_n 1, 1) := by decide +kernel
theorem dd_I_hasRoomForSize_6 : decode cd_I_hasRoomForSize 6 = .ok (.invokevirtual 32, 3) := by decide +kernel
theorem dd_I_hasRoomForSize_9 : decode cd_I_hasRoomForSize 9 = .ok (.invokestatic 48, 3) := by decide +kernel
theorem dd_I_hasRoomForSize_12 : decode cd_I_hasRoomForSize 12 = .ok (.isub, 1) := by decide +kernel
theorem dd_I_hasRoomForSize_13 : decode cd_I_hasRoomForSize 13 = .ok (.aload_n 0, 1) := by decide +kernel
theorem dd_I_hasRoomForSize_14 : decode cd_I_hasRoomForSize 14 = .ok (.getfield 9, 3) := by decide +kernel
theorem dd_I_hasRoomForSize_17 : decode cd_I_hasRoomForSize 17 = .ok (.invokevirtual 51, 3) := by decide +kernel
theorem dd_I_hasRoomForSize_20 : decode cd_I_hasRoomForSize 20 = .ok (.if_icmp .gt 7, 3) := by decide +kernel
theorem dd_I_hasRoomForSize_23 : decode cd_I_hasRoomForSize 23 = .ok (.iconst 1, 1) := by decide +kernel
theorem dd_I_hasRoomForSize_24 : decode cd_I_hasRoomForSize 24 = .ok (.goto 4, 3) := by decide +kernel
theorem dd_I_hasRoomForSize_27 : decode cd_I_hasRoomForSize 27 = .ok (.iconst 0, 1) := by decide +kernel
theorem dd_I_hasRoomForSize_28 : decode cd_I_hasRoomForSize 28 = .ok (.ireturn, 1) := by decide +kernel
theorem dd_I_entryName_0 : decode cd_I_entryName 0 = .ok (.aload_n 0, 1) := by decide +kernel
theorem dd_I_entryName_1 : decode cd_I_entryName 1 = .ok (.iload_n 1, 1) := by decide +kernel
theorem dd_I_entryName_2 : decode cd_I_entryName 2 = .ok (.iload_n 2, 1) := by decide +kernel
theorem dd_I_entryName_3 : decode cd_I_entryName 3 = .ok (.iconst 2, 1) := by decide +kernel
theorem dd_I_entryName_4 : decode cd_I_entryName 4 = .ok (.imul, 1) := by decide +kernel
theorem dd_I_entryName_5 : decode cd_I_entryName 5 = .ok (.invokevirtual 65, 3) := by decide +kernel
theorem dd_I_entryName_8 : decode cd_I_entryName 8 = .ok (.ireturn, 1) := by decide +kernel
theorem dd_I_dropEntry_0 : decode cd_I_dropEntry 0 = .ok (.aload_n 0, 1) := by decide +kernel
theorem dd_I_dropEntry_1 : decode cd_I_dropEntry 1 = .ok (.iload_n 1, 1) := by decide +kernel
theorem dd_I_dropEntry_2 : decode cd_I_dropEntry 2 = .ok (.iload_n 2, 1) := by decide +kernel
theorem dd_I_dropEntry_3 : decode cd_I_dropEntry 3 = .ok (.invokevirtual 79, 3) := by decide +kernel
theorem dd_I_dropEntry_6 : decode cd_I_dropEntry 6 = .ok (.istore_n 3, 1) := by decide +kernel
theorem dd_I_dropEntry_7 : decode cd_I_dropEntry 7 = .ok (.iload_n 3, 1) := by decide +kernel
theorem dd_I_dropEntry_8 : decode cd_I_dropEntry 8 = .ok (.iconst (-1), 1) := by decide +kernel
theorem dd_I_dropEntry_9 : decode cd_I_dropEntry 9 = .ok (.if_icmp .ne 4, 3) := by decide +kernel
theorem dd_I_dropEntry_12 : decode cd_I_dropEntry 12 = .ok (.return_, 1) := by decide +kernel
theorem dd_I_dropEntry_13 : decode cd_I_dropEntry 13 = .ok (.aload_n 0, 1) := by decide +kernel
theorem dd_I_dropEntry_14 : decode cd_I_dropEntry 14 = .ok (.iload_n 1, 1) := by decide +kernel
theorem dd_I_dropEntry_15 : decode cd_I_dropEntry 15 = .ok (.invokevirtual 68, 3) := by decide +kernel
theorem dd_I_dropEntry_18 : decode cd_I_dropEntry 18 = .ok (.iconst 1, 1) := by decide +kernel
theorem dd_I_dropEntry_19 : decode cd_I_dropEntry 19 = .ok (.isub, 1) := by decide +kernel
theorem dd_I_dropEntry_20 : decode cd_I_dropEntry 20 = .ok (.istore 4, 2) := by decide +kernel
theorem dd_I_dropEntry_22 : decode cd_I_dropEntry 22 = .ok (.aload_n 0, 1) := by decide +kernel
theorem dd_I_dropEntry_23 : decode cd_I_dropEntry 23 = .ok (.iload_n 1, 1) := by decide +kernel
theorem dd_I_dropEntry_24 : decode cd_I_dropEntry 24 = .ok (.iload_n 3, 1) := by decide +kernel
theorem dd_I_dropEntry_25 : decode cd_I_dropEntry 25 = .ok (.aload_n 0, 1) := by decide +kernel
theorem dd_I_dropEntry_26 : decode cd_I_dropEntry 26 = .ok (.iload_n 1, 1) := by decide +kernel
theorem dd_I_dropEntry_27 : decode cd_I_dropEntry 27 = .ok (.iload 4, 2) := by decide +kernel
theorem dd_I_dropEntry_29 : decode cd_I_dropEntry 29 = .ok (.invokevirtual 82, 3) := by decide +kernel
theorem dd_I_dropEntry_32 : decode cd_I_dropEntry 32 = .ok (.aload_n 0, 1) := by decide +kernel
theorem dd_I_dropEntry_33 : decode cd_I_dropEntry 33 = .ok (.iload_n 1, 1) := by decide +kernel
theorem dd_I_dropEntry_34 : decode cd_I_dropEntry 34 = .ok (.iload 4, 2) := by decide +kernel
theorem dd_I_dropEntry_36 : decode cd_I_dropEntry 36 = .ok (.invokevirtual 85, 3) := by decide +kernel
theorem dd_I_dropEntry_39 : decode cd_I_dropEntry 39 = .ok (.invokevirtual 75, 3) := by decide +kernel
theorem dd_I_dropEntry_42 : decode cd_I_dropEntry 42 = .ok (.aload_n 0, 1) := by decide +kernel
theorem dd_I_dropEntry_43 : decode cd_I_dropEntry 43 = .ok (.iload_n 1, 1) := by decide +kernel
theorem dd_I_dropEntry_44 : decode cd_I_dropEntry 44 = .ok (.iload 4, 2) := by decide +kernel
theorem dd_I_dropEntry_46 : decode cd_I_dropEntry 46 = .ok (.iconst 2, 1) := by decide +kernel
theorem dd_I_dropEntry_47 : decode cd_I_dropEntry 47 = .ok (.imul, 1) := by decide +kernel
theorem dd_I_dropEntry_48 : decode cd_I_dropEntry 48 = .ok (.invokevirtual 42, 3) := by decide +kernel
theorem dd_I_dropEntry_51 : decode cd_I_dropEntry 51 = .ok (.return_, 1) := by decide +kernel
theorem dd_I_vacate_0 : decode cd_I_vacate 0 = .ok (.aload_n 0, 1) := by decide +kernel
theorem dd_I_vacate_1 : decode cd_I_vacate 1 = .ok (.iload_n 1, 1) := by decide +kernel
theorem dd_I_vacate_2 : decode cd_I_vacate 2 = .ok (.iconst 0, 1) := by decide +kernel
theorem dd_I_vacate_3 : decode cd_I_vacate 3 = .ok (.invokevirtual 42, 3) := by decide +kernel
theorem dd_I_vacate_6 : decode cd_I_vacate 6 = .ok (.aload_n 0, 1) := by decide +kernel
theorem dd_I_vacate_7 : decode cd_I_vacate 7 = .ok (.iload_n 1, 1) := by decide +kernel
theorem dd_I_vacate_8 : decode cd_I_vacate 8 = .ok (.iconst 0, 1) := by decide +kernel
theorem dd_I_vacate_9 : decode cd_I_vacate 9 = .ok (.iconst 0, 1) := by decide +kernel
theorem dd_I_vacate_10 : decode cd_I_vacate 10 = .ok (.invokevirtual 35, 3) := by decide +kernel
theorem dd_I_vacate_13 : decode cd_I_vacate 13 = .ok (.aload_n 0, 1) := by decide +kernel
theorem dd_I_vacate_14 : decode cd_I_vacate 14 = .ok (.iload_n 1, 1) := by decide +kernel
theorem dd_I_vacate_15 : decode cd_I_vacate 15 = .ok (.iconst 2, 1) := by decide +kernel
theorem dd_I_vacate_16 : decode cd_I_vacate 16 = .ok (.iconst 0, 1) := by decide +kernel
theorem dd_I_vacate_17 : decode cd_I_vacate 17 = .ok (.invokevirtual 35, 3) := by decide +kernel
theorem dd_I_vacate_20 : decode cd_I_vacate 20 = .ok (.return_, 1) := by decide +kernel
theorem dd_I_redirectEntry_0 : decode cd_I_redirectEntry 0 = .ok (.aload_n 0, 1) := by decide +kernel
theorem dd_I_redirectEntry_1 : decode cd_I_redirectEntry 1 = .ok (.iload_n 1, 1) := by decide +kernel
theorem dd_I_redirectEntry_2 : decode cd_I_redirectEntry 2 = .ok (.iload_n 2, 1) := by decide +kernel
theorem dd_I_redirectEntry_3 : decode cd_I_redirectEntry 3 = .ok (.invokevirtual 79, 3) := by decide +kernel
theorem dd_I_redirectEntry_6 : decode cd_I_redirectEntry 6 = .ok (.istore 4, 2) := by decide +kernel
theorem dd_I_redirectEntry_8 : decode cd_I_redirectEntry 8 = .ok (.iload 4, 2) := by decide +kernel
theorem dd_I_redirectEntry_10 : decode cd_I_redirectEntry 10 = .ok (.iconst (-1), 1) := by decide +kernel
theorem dd_I_redirectEntry_11 : decode cd_I_redirectEntry 11 = .ok (.if_icmp .eq 12, 3) := by decide +kernel
theorem dd_I_redirectEntry_14 : decode cd_I_redirectEntry 14 = .ok (.aload_n 0, 1) := by decide +kernel
theorem dd_I_redirectEntry_15 : decode cd_I_redirectEntry 15 = .ok (.iload_n 1, 1) := by decide +kernel
theorem dd_I_redirectEntry_16 : decode cd_I_redirectEntry 16 = .ok (.iload 4, 2) := by decide +kernel
theorem dd_I_redirectEntry_18 : decode cd_I_redirectEntry 18 = .ok (.iload_n 2, 1) := by decide +kernel
theorem dd_I_redirectEntry_19 : decode cd_I_redirectEntry 19 = .ok (.iload_n 3, 1) := by decide +kernel
theorem dd_I_redirectEntry_20 : decode cd_I_redirectEntry 20 = .ok (.invokevirtual 75, 3) := by decide +kernel
theorem dd_I_redirectEntry_23 : decode cd_I_redirectEntry 23 = .ok (.return_, 1) := by decide +kernel
