theorem dd_L_directory_0 : decode cd_L_directory 0 = .ok (.aload_n 2, 1) := by decide +kernel
theorem dd_L_directory_1 : decode cd_L_directory 1 = .ok (.iconst 0, 1) := by decide +kernel
theorem dd_L_directory_2 : decode cd_L_directory 2 = .ok (.aload_n 0, 1) := by decide +kernel
theorem dd_L_directory_3 : decode cd_L_directory 3 = .ok (.iload_n 1, 1) := by decide +kernel
theorem dd_L_directory_4 : decode cd_L_directory 4 = .ok (.invokevirtual 7, 3) := by decide +kernel
theorem dd_L_directory_7 : decode cd_L_directory 7 = .ok (.i2l, 1) := by decide +kernel
theorem dd_L_directory_8 : decode cd_L_directory 8 = .ok (.lastore, 1) := by decide +kernel
theorem dd_L_directory_9 : decode cd_L_directory 9 = .ok (.goto 15, 3) := by decide +kernel
theorem dd_L_directory_12 : decode cd_L_directory 12 = .ok (.astore_n 3, 1) := by decide +kernel
theorem dd_L_directory_13 : decode cd_L_directory 13 = .ok (.iconst 1, 1) := by decide +kernel
theorem dd_L_directory_14 : decode cd_L_directory 14 = .ok (.ireturn, 1) := by decide +kernel
theorem dd_L_directory_15 : decode cd_L_directory 15 = .ok (.astore_n 3, 1) := by decide +kernel
theorem dd_L_directory_16 : decode cd_L_directory 16 = .ok (.iconst 2, 1) := by decide +kernel
theorem dd_L_directory_17 : decode cd_L_directory 17 = .ok (.ireturn, 1) := by decide +kernel
theorem dd_L_directory_18 : decode cd_L_directory 18 = .ok (.astore_n 3, 1) := by decide +kernel
theorem dd_L_directory_19 : decode cd_L_directory 19 = .ok (.iconst 3, 1) := by decide +kernel
theorem dd_L_directory_20 : decode cd_L_directory 20 = .ok (.ireturn, 1) := by decide +kernel
theorem dd_L_directory_21 : decode cd_L_directory 21 = .ok (.astore_n 3, 1) := by decide +kernel
theorem dd_L_directory_22 : decode cd_L_directory 22 = .ok (.iconst 4, 1) := by decide +kernel
theorem dd_L_directory_23 : decode cd_L_directory 23 = .ok (.ireturn, 1) := by decide +kernel
theorem dd_L_directory_24 : decode cd_L_directory 24 = .ok (.iconst 0, 1) := by decide +kernel
theorem dd_L_directory_25 : decode cd_L_directory 25 = .ok (.ireturn, 1) := by decide +kernel
theorem dd_L_open_0 : decode cd_L_open 0 = .ok (.aload 6, 2) := by decide +kernel
theorem dd_L_open_2 : decode cd_L_open 2 = .ok (.iconst 0, 1) := by decide +kernel
theorem dd_L_open_3 : decode cd_L_open 3 = .ok (.aload_n 0, 1) := by decide +kernel
theorem dd_L_open_4 : decode cd_L_open 4 = .ok (.iload_n 1, 1) := by decide +kernel
theorem dd_L_open_5 : decode cd_L_open 5 = .ok (.iload_n 2, 1) := by decide +kernel
theorem dd_L_open_6 : decode cd_L_open 6 = .ok (.iload_n 3, 1) := by decide +kernel
theorem dd_L_open_7 : decode cd_L_open 7 = .ok (.iload 4, 2) := by decide +kernel
theorem dd_L_open_9 : decode cd_L_open 9 = .ok (.iload 5, 2) := by decide +kernel
theorem dd_L_open_11 : decode cd_L_open 11 = .ok (.invokevirtual 21, 3) := by decide +kernel
theorem dd_L_open_14 : decode cd_L_open 14 = .ok (.i2l, 1) := by decide +kernel
theorem dd_L_open_15 : decode cd_L_open 15 = .ok (.lastore, 1) := by decide +kernel
theorem dd_L_open_16 : decode cd_L_open 16 = .ok (.goto 19, 3) := by decide +kernel
theorem dd_L_open_19 : decode cd_L_open 19 = .ok (.astore 7, 2) := by decide +kernel
theorem dd_L_open_21 : decode cd_L_open 21 = .ok (.iconst 1, 1) := by decide +kernel
theorem dd_L_open_22 : decode cd_L_open 22 = .ok (.ireturn, 1) := by decide +kernel
theorem dd_L_open_23 : decode cd_L_open 23 = .ok (.astore 7, 2) := by decide +kernel
theorem dd_L_open_25 : decode cd_L_open 25 = .ok (.iconst 2, 1) := by decide +kernel
theorem dd_L_open_26 : decode cd_L_open 26 = .ok (.ireturn, 1) := by decide +kernel
theorem dd_L_open_27 : decode cd_L_open 27 = .ok (.astore 7, 2) := by decide +kernel
theorem dd_L_open_29 : decode cd_L_open 29 = .ok (.iconst 3, 1) := by decide +kernel
theorem dd_L_open_30 : decode cd_L_open 30 = .ok (.ireturn, 1) := by decide +kernel
theorem dd_L_open_31 : decode cd_L_open 31 = .ok (.astore 7, 2) := by decide +kernel
theorem dd_L_open_33 : decode cd_L_open 33 = .ok (.iconst 4, 1) := by decide +kernel
theorem dd_L_open_34 : decode cd_L_open 34 = .ok (.ireturn, 1) := by decide +kernel
theorem dd_L_open_35 : decode cd_L_open 35 = .ok (.iconst 0, 1) := by decide +kernel
theorem dd_L_open_36 : decode cd_L_open 36 = .ok (.ireturn, 1) := by decide +kernel
theorem dd_L_close_0 : decode cd_L_close 0 = .ok (.aload_n 0, 1) := by decide +kernel
theorem dd_L_close_1 : decode cd_L_close 1 = .ok (.iload_n 1, 1) := by decide +kernel
theorem dd_L_close_2 : decode cd_L_close 2 = .ok (.invokevirtual 25, 3) := by decide +kernel
theorem dd_L_close_5 : decode cd_L_close 5 = .ok (.goto 9, 3) := by decide +kernel
theorem dd_L_close_8 : decode cd_L_close 8 = .ok (.astore_n 2, 1) := by decide +kernel
theorem dd_L_close_9 : decode cd_L_close 9 = .ok (.iconst 1, 1) := by decide +kernel
theorem dd_L_close_10 : decode cd_L_close 10 = .ok (.ireturn, 1) := by decide +kernel
theorem dd_L_close_11 : decode cd_L_close 11 = .ok (.astore_n 2, 1) := by decide +kernel
theorem dd_L_close_12 : decode cd_L_close 12 = .ok (.iconst 2, 1) := by decide +kernel
theorem dd_L_close_13 : decode cd_L_close 13 = .ok (.ireturn, 1) := by decide +kernel
theorem dd_L_close_14 : decode cd_L_close 14 = .ok (.iconst 0, 1) := by decide +kernel
theorem dd_L_close_15 : decode cd_L_close 15 = .ok (.ireturn, 1) := by decide +kernel
theorem dd_L_write_0 : decode cd_L_write 0 = .ok (.aload_n 0, 1) := by decide +kernel
theorem dd_L_write_1 : decode cd_L_write 1 = .ok (.iload_n 1, 1) := by decide +kernel
theorem dd_L_write_2 : decode cd_L_write 2 = .ok (.lload_n 2, 1) := by decide +kernel
theorem dd_L_write_3 : decode cd_L_write 3 = .ok (.iload 4, 2) := by decide +kernel
theorem dd_L_write_5 : decode cd_L_write 5 = .ok (.invokevirtual 29, 3) := by decide +kernel
theorem dd_L_write_8 : decode cd_L_write 8 = .ok (.goto 15, 3) := by decide +kernel
theorem dd_L_write_11 : decode cd_L_write 11 = .ok (.astore 5, 2) := by decide +kernel
theorem dd_L_write_13 : decode cd_L_write 13 = .ok (.iconst 1, 1) := by decide +kernel
theorem dd_L_write_14 : decode cd_L_write 14 = .ok (.ireturn, 1) := by decide +kernel
theorem dd_L_write_15 : decode cd_L_write 15 = .ok (.astore 5, 2) := by decide +kernel
theorem dd_L_write_17 : decode cd_L_write 17 = .ok (.iconst 2, 1) := by decide +kernel
theorem dd_L_write_18 : decode cd_L_write 18 = .ok (.ireturn, 1) := by decide +kernel
theorem dd_L_write_19 : decode cd_L_write 19 = .ok (.astore 5, 2) := by decide +kernel
theorem dd_L_write_21 : decode cd_L_write 21 = .ok (.iconst 3, 1) := by decide +kernel
theorem dd_L_write_22 : decode cd_L_write 22 = .ok (.ireturn, 1) := by decide +kernel
theorem dd_L_write_23 : decode cd_L_write 23 = .ok (.iconst 0, 1) := by decide +kernel
theorem dd_L_write_24 : decode cd_L_write 24 = .ok (.ireturn, 1) := by decide +kernel
theorem dd_L_read_0 : decode cd_L_read 0 = .ok (.aload_n 3, 1) := by decide +kernel
theorem dd_L_read_1 : decode cd_L_read 1 = .ok (.iconst 0, 1) := by decide +kernel
theorem dd_L_read_2 : decode cd_L_read 2 = .ok (.aload_n 0, 1) := by decide +kernel
theorem dd_L_read_3 : decode cd_L_read 3 = .ok (.iload_n 1, 1) := by decide +kernel
theorem dd_L_read_4 : decode cd_L_read 4 = .ok (.iload_n 2, 1) := by decide +kernel
theorem dd_L_read_5 : decode cd_L_read 5 = .ok (.invokevirtual 33, 3) := by decide +kernel
theorem dd_L_read_8 : decode cd_L_read 8 = .ok (.lastore, 1) := by decide +kernel
theorem dd_L_read_9 : decode cd_L_read 9 = .ok (.goto 11, 3) := by decide +kernel
theorem dd_L_read_12 : decode cd_L_read 12 = .ok (.astore 4, 2) := by decide +kernel
theorem dd_L_read_14 : decode cd_L_read 14 = .ok (.iconst 1, 1) := by decide +kernel
theorem dd_L_read_15 : decode cd_L_read 15 = .ok (.ireturn, 1) := by decide +kernel
theorem dd_L_read_16 : decode cd_L_read 16 = .ok (.astore 4, 2) := by decide +kernel
theorem dd_L_read_18 : decode cd_L_read 18 = .ok (.iconst 2, 1) := by decide +kernel
theorem dd_L_read_19 : decode cd_L_read 19 = .ok (.ireturn, 1) := by decide +kernel
theorem dd_L_read_20 : decode cd_L_read 20 = .ok (.iconst 0, 1) := by decide +kernel
theorem dd_L_read_21 : decode cd_L_read 21 = .ok (.ireturn, 1) := by decide +kernel
theorem dd_L_seek_0 : decode cd_L_seek 0 = .ok (.aload_n 0, 1) := by decide +kernel
theorem dd_L_seek_1 : decode cd_L_seek 1 = .ok (.iload_n 1, 1) := by decide +kernel
theorem dd_L_seek_2 : decode cd_L_seek 2 = .ok (.iload_n 2, 1) := by decide +kernel
theorem dd_L_seek_3 : decode cd_L_seek 3 = .ok (.invokevirtual 37, 3) := by decide +kernel
theorem dd_L_seek_6 : decode cd_L_seek 6 = .ok (.goto 9, 3) := by decide +kernel
theorem dd_L_seek_9 : decode cd_L_seek 9 = .ok (.astore_n 3, 1) := by decide +kernel
theorem dd_L_seek_10 : decode cd_L_seek 10 = .ok (.iconst 1, 1) := by decide +kernel
theorem dd_L_seek_11 : decode cd_L_seek 11 = .ok (.ireturn, 1) := by decide +kernel
theorem dd_L_seek_12 : decode cd_L_seek 12 = .ok (.astore_n 3, 1) := by decide +kernel
theorem dd_L_seek_13 : decode cd_L_seek 13 = .ok (.iconst 2, 1) := by decide +kernel
theorem dd_L_seek_14 : decode cd_L_seek 14 = .ok (.ireturn, 1) := by decide +kernel
theorem dd_L_seek_15 : decode cd_L_seek 15 = .ok (.iconst 0, 1) := by decide +kernel
theorem dd_L_seek_16 : decode cd_L_seek 16 = .ok (.ireturn, 1) := by decide +kernel
theorem dd_L_next_0 : decode cd_L_next 0 = .ok (.aload_n 2, 1) := by decide +kernel
theorem dd_L_next_1 : decode cd_L_next 1 = .ok (.iconst 0, 1) := by decide +kernel
theorem dd_L_next_2 : decode cd_L_next 2 = .ok (.aload_n 0, 1) := by decide +kernel
theorem dd_L_next_3 : decode cd_L_next 3 = .ok (.iload_n 1, 1) := by decide +kernel
theorem dd_L_next_4 : decode cd_L_next 4 = .ok (.invokevirtual 41, 3) := by decide +kernel
theorem dd_L_next_7 : decode cd_L_next 7 = .ok (.i2l, 1) := by decide +kernel
theorem dd_L_next_8 : decode cd_L_next 8 = .ok (.lastore, 1) := by decide +kernel
theorem dd_L_next_9 : decode cd_L_next 9 = .ok (.goto 9, 3) := by decide +kernel
theorem dd_L_next_12 : decode cd_L_next 12 = .ok (.astore_n 3, 1) := by decide +kernel
theorem dd_L_next_13 : decode cd_L_next 13 = .ok (.iconst 1, 1) := by decide +kernel
theorem dd_L_next_14 : decode cd_L_next 14 = .ok (.ireturn, 1) := by decide +kernel
theorem dd_L_next_15 : decode cd_L_next 15 = .ok (.astore_n 3, 1) := by decide +kernel
theorem dd_L_next_16 : decode cd_L_next 16 = .ok (.iconst 2, 1) := by decide +kernel
theorem dd_L_next_17 : decode cd_L_next 17 = .ok (.ireturn, 1) := by decide +kernel
theorem dd_L_next_18 : decode cd_L_next 18 = .ok (.iconst 0, 1) := by decide +kernel
theorem dd_L_next_19 : decode cd_L_next 19 = .ok (.ireturn, 1) := by decide +kernel
theorem dd_L_remove_0 : decode cd_L_remove 0 = .ok (.aload_n 0, 1) := by decide +kernel
theorem dd_L_remove_1 : decode cd_L_remove 1 = .ok (.iload_n 1, 1) := by decide +kernel
theorem dd_L_remove_2 : decode cd_L_remove 2 = .ok (.invokevirtual 44, 3) := by decide +kernel
theorem dd_L_remove_5 : decode cd_L_remove 5 = .ok (.goto 12, 3) := by decide +kernel
theorem dd_L_remove_8 : decode cd_L_remove 8 = .ok (.astore_n 2, 1) := by decide +kernel
theorem dd_L_remove_9 : decode cd_L_remove 9 = .ok (.iconst 1, 1) := by decide +kernel
theorem dd_L_remove_10 : decode cd_L_remove 10 = .ok (.ireturn, 1) := by decide +kernel
theorem dd_L_remove_11 : decode cd_L_remove 11 = .ok (.astore_n 2, 1) := by decide +kernel
theorem dd_L_remove_12 : decode cd_L_remove 12 = .ok (.iconst 2, 1) := by decide +kernel
theorem dd_L_remove_13 : decode cd_L_remove 13 = .ok (.ireturn, 1) := by decide +kernel
theorem dd_L_remove_14 : decode cd_L_remove 14 = .ok (.astore_n 2, 1) := by decide +kernel
theorem dd_L_remove_15 : decode cd_L_remove 15 = .ok (.iconst 3, 1) := by decide +kernel
theorem dd_L_remove_16 : decode cd_L_remove 16 = .ok (.ireturn, 1) := by decide +kernel
theorem dd_L_remove_17 : decode cd_L_remove 17 = .ok (.iconst 0, 1) := by decide +kernel
theorem dd_L_remove_18 : decode cd_L_remove 18 = .ok (.ireturn, 1) := by decide +kernel
theorem dd_L_rename_0 : decode cd_L_rename 0 = .ok (.aload_n 0, 1) := by decide +kernel
theorem dd_L_rename_1 : decode cd_L_rename 1 = .ok (.iload_n 1, 1) := by decide +kernel
theorem dd_L_rename_2 : decode cd_L_rename 2 = .ok (.iload_n 2, 1) := by decide +kernel
theorem dd_L_rename_3 : decode cd_L_rename 3 = .ok (.invokevirtual 47, 3) := by decide +kernel
theorem dd_L_rename_6 : decode cd_L_rename 6 = .ok (.goto 15, 3) := by decide +kernel
theorem dd_L_rename_9 : decode cd_L_rename 9 = .ok (.astore_n 3, 1) := by decide +kernel
theorem dd_L_rename_10 : decode cd_L_rename 10 = .ok (.iconst 1, 1) := by decide +kernel
theorem dd_L_rename_11 : decode cd_L_rename 11 = .ok (.ireturn, 1) := by decide +kernel
theorem dd_L_rename_12 : decode cd_L_rename 12 = .ok (.astore_n 3, 1) := by decide +kernel
theorem dd_L_rename_13 : decode cd_L_rename 13 = .ok (.iconst 2, 1) := by decide +kernel
theorem dd_L_rename_14 : decode cd_L_rename 14 = .ok (.ireturn, 1) := by decide +kernel
theorem dd_L_rename_15 : decode cd_L_rename 15 = .ok (.astore_n 3, 1) := by decide +kernel
theorem dd_L_rename_16 : decode cd_L_rename 16 = .ok (.iconst 3, 1) := by decide +kernel
theorem dd_L_rename_17 : decode cd_L_rename 17 = .ok (.ireturn, 1) := by decide +kernel
theorem dd_L_rename_18 : decode cd_L_rename 18 = .ok (.astore_n 3, 1) := by decide +kernel
theorem dd_L_rename_19 : decode cd_L_rename 19 = .ok (.iconst 4, 1) := by decide +kernel
theorem dd_L_rename_20 : decode cd_L_rename 20 = .ok (.ireturn, 1) := by decide +kernel
theorem dd_L_rename_21 : decode cd_L_rename 21 = .ok (.iconst 0, 1) := by decide +kernel
theorem dd_L_rename_22 : decode cd_L_rename 22 = .ok (.ireturn, 1) := by decide +kernel
theorem dd_L_truncate_0 : decode cd_L_truncate 0 = .ok (.aload_n 0, 1) := by decide +kernel
theorem dd_L_truncate_1 : decode cd_L_truncate 1 = .ok (.iload_n 1, 1) := by decide +kernel
theorem dd_L_truncate_2 : decode cd_L_truncate 2 = .ok (.iload_n 2, 1) := by decide +kernel
theorem dd_L_truncate_3 : decode cd_L_truncate 3 = .ok (.invokevirtual 50, 3) := by decide +kernel
theorem dd_L_truncate_6 : decode cd_L_truncate 6 = .ok (.goto 15, 3) := by decide +kernel
theorem dd_L_truncate_9 : decode cd_L_truncate 9 = .ok (.astore_n 3, 1) := by decide +kernel
theorem dd_L_truncate_10 : decode cd_L_truncate 10 = .ok (.iconst 1, 1) := by decide +kernel
theorem dd_L_truncate_11 : decode cd_L_truncate 11 = .ok (.ireturn, 1) := by decide +kernel
theorem dd_L_truncate_12 : decode cd_L_truncate 12 = .ok (.astore_n 3, 1) := by decide +kernel
theorem dd_L_truncate_13 : decode cd_L_truncate 13 = .ok (.iconst 2, 1) := by decide +kernel
theorem dd_L_truncate_14 : decode cd_L_truncate 14 = .ok (.ireturn, 1) := by decide +kernel
theorem dd_L_truncate_15 : decode cd_L_truncate 15 = .ok (.astore_n 3, 1) := by decide +kernel
theorem dd_L_truncate_16 : decode cd_L_truncate 16 = .ok (.iconst 3, 1) := by decide +kernel
theorem dd_L_truncate_17 : decode cd_L_truncate 17 = .ok (.ireturn, 1) := by decide +kernel
theorem dd_L_truncate_18 : decode cd_L_truncate 18 = .ok (.astore_n 3, 1) := by decide +kernel
theorem dd_L_truncate_19 : decode cd_L_truncate 19 = .ok (.iconst 4, 1) := by decide +kernel
theorem dd_L_truncate_20 : decode cd_L_truncate 20 = .ok (.ireturn, 1) := by decide +kernel
theorem dd_L_truncate_21 : decode cd_L_truncate 21 = .ok (.iconst 0, 1) := by decide +kernel
theorem dd_L_truncate_22 : decode cd_L_truncate 22 = .ok (.ireturn, 1) := by decide +kernel
theorem dd_L_stat_0 : decode cd_L_stat 0 = .ok (.aload_n 3, 1) := by decide +kernel
theorem dd_L_stat_1 : decode cd_L_stat 1 = .ok (.iconst 0, 1) := by decide +kernel
theorem dd_L_stat_2 : decode cd_L_stat 2 = .ok (.aload_n 0, 1) := by decide +kernel
theorem dd_L_stat_3 : decode cd_L_stat 3 = .ok (.iload_n 1, 1) := by decide +kernel
theorem dd_L_stat_4 : decode cd_L_stat 4 = .ok (.iload_n 2, 1) := by decide +kernel
theorem dd_L_stat_5 : decode cd_L_stat 5 = .ok (.invokevirtual 53, 3) := by decide +kernel
theorem dd_L_stat_8 : decode cd_L_stat 8 = .ok (.i2l, 1) := by decide +kernel
theorem dd_L_stat_9 : decode cd_L_stat 9 = .ok (.lastore, 1) := by decide +kernel
theorem dd_L_stat_10 : decode cd_L_stat 10 = .ok (.goto 11, 3) := by decide +kernel
theorem dd_L_stat_13 : decode cd_L_stat 13 = .ok (.astore 4, 2) := by decide +kernel
theorem dd_L_stat_15 : decode cd_L_stat 15 = .ok (.iconst 1, 1) := by decide +kernel
theorem dd_L_stat_16 : decode cd_L_stat 16 = .ok (.ireturn, 1) := by decide +kernel
theorem dd_L_stat_17 : decode cd_L_stat 17 = .ok (.astore 4, 2) := by decide +kernel
theorem dd_L_stat_19 : decode cd_L_stat 19 = .ok (.iconst 2, 1) := by decide +kernel
theorem dd_L_stat_20 : decode cd_L_stat 20 = .ok (.ireturn, 1) := by decide +kernel
theorem dd_L_stat_21 : decode cd_L_stat 21 = .ok (.iconst 0, 1) := by decide +kernel
theorem dd_L_stat_22 : decode cd_L_stat 22 = .ok (.ireturn, 1) := by decide +kernel
theorem dd_L_commit_0 : decode cd_L_commit 0 = .ok (.aload_n 1, 1) := by decide +kernel
theorem dd_L_commit_1 : decode cd_L_commit 1 = .ok (.iconst 0, 1) := by decide +kernel
theorem dd_L_commit_2 : decode cd_L_commit 2 = .ok (.aload_n 0, 1) := by decide +kernel
theorem dd_L_commit_3 : decode cd_L_commit 3 = .ok (.invokevirtual 57, 3) := by decide +kernel
theorem dd_L_commit_6 : decode cd_L_commit 6 = .ok (.i2l, 1) := by decide +kernel
theorem dd_L_commit_7 : decode cd_L_commit 7 = .ok (.lastore, 1) := by decide +kernel
theorem dd_L_commit_8 : decode cd_L_commit 8 = .ok (.goto 6, 3) := by decide +kernel
theorem dd_L_commit_11 : decode cd_L_commit 11 = .ok (.astore_n 2, 1) := by decide +kernel
theorem dd_L_commit_12 : decode cd_L_commit 12 = .ok (.iconst 1, 1) := by decide +kernel
theorem dd_L_commit_13 : decode cd_L_commit 13 = .ok (.ireturn, 1) := by decide +kernel
theorem dd_L_commit_14 : decode cd_L_commit 14 = .ok (.iconst 0, 1) := by decide +kernel
theorem dd_L_commit_15 : decode cd_L_commit 15 = .ok (.ireturn, 1) := by decide +kernel
theorem dd_L_cutPower_0 : decode cd_L_cutPower 0 = .ok (.aload_n 0, 1) := by decide +kernel
theorem dd_L_cutPower_1 : decode cd_L_cutPower 1 = .ok (.iload_n 1, 1) := by decide +kernel
theorem dd_L_cutPower_2 : decode cd_L_cutPower 2 = .ok (.invokevirtual 61, 3) := by decide +kernel
theorem dd_L_cutPower_5 : decode cd_L_cutPower 5 = .ok (.goto 6, 3) := by decide +kernel
theorem dd_L_cutPower_8 : decode cd_L_cutPower 8 = .ok (.astore_n 2, 1) := by decide +kernel
theorem dd_L_cutPower_9 : decode cd_L_cutPower 9 = .ok (.iconst 1, 1) := by decide +kernel
theorem dd_L_cutPower_10 : decode cd_L_cutPower 10 = .ok (.ireturn, 1) := by decide +kernel
theorem dd_L_cutPower_11 : decode cd_L_cutPower 11 = .ok (.iconst 0, 1) := by decide +kernel
theorem dd_L_cutPower_12 : decode cd_L_cutPower 12 = .ok (.ireturn, 1) := by decide +kernel
theorem dd_L_block_0 : decode cd_L_block 0 = .ok (.aload 4, 2) := by decide +kernel
theorem dd_L_block_2 : decode cd_L_block 2 = .ok (.iconst 0, 1) := by decide +kernel
theorem dd_L_block_3 : decode cd_L_block 3 = .ok (.aload_n 0, 1) := by decide +kernel
theorem dd_L_block_4 : decode cd_L_block 4 = .ok (.iload_n 1, 1) := by decide +kernel
theorem dd_L_block_5 : decode cd_L_block 5 = .ok (.iload_n 2, 1) := by decide +kernel
theorem dd_L_block_6 : decode cd_L_block 6 = .ok (.iload_n 3, 1) := by decide +kernel
theorem dd_L_block_7 : decode cd_L_block 7 = .ok (.invokevirtual 64, 3) := by decide +kernel
theorem dd_L_block_10 : decode cd_L_block 10 = .ok (.i2l, 1) := by decide +kernel
theorem dd_L_block_11 : decode cd_L_block 11 = .ok (.lastore, 1) := by decide +kernel
theorem dd_L_block_12 : decode cd_L_block 12 = .ok (.goto 7, 3) := by decide +kernel
theorem dd_L_block_15 : decode cd_L_block 15 = .ok (.astore 5, 2) := by decide +kernel
theorem dd_L_block_17 : decode cd_L_block 17 = .ok (.iconst 1, 1) := by decide +kernel
theorem dd_L_block_18 : decode cd_L_block 18 = .ok (.ireturn, 1) := by decide +kernel
theorem dd_L_block_19 : decode cd_L_block 19 = .ok (.iconst 0, 1) := by decide +kernel
theorem dd_L_block_20 : decode cd_L_block 20 = .ok (.ireturn, 1) := by decide +kernel
theorem dd_L_law_0 : decode code 0 = .ok (.new 8, 3) := by decide +kernel
theorem dd_L_law_3 : decode code 3 = .ok (.dup, 1) := by decide +kernel
theorem dd_L_law_4 : decode code 4 = .ok (.invokespecial 68, 3) := by decide +kernel
theorem dd_L_law_7 : decode code 7 = .ok (.astore_n 1, 1) := by decide +kernel
theorem dd_L_law_8 : decode code 8 = .ok (.new 69, 3) := by decide +kernel
theorem dd_L_law_11 : decode code 11 = .ok (.dup, 1) := by decide +kernel
theorem dd_L_law_12 : decode code 12 = .ok (.invokespecial 71, 3) := by decide +kernel
theorem dd_L_law_15 : decode code 15 = .ok (.astore_n 2, 1) := by decide +kernel
theorem dd_L_law_16 : decode code 16 = .ok (.iconst 1, 1) := by decide +kernel
theorem dd_L_law_17 : decode code 17 = .ok (.newarray .long, 2) := by decide +kernel
theorem dd_L_law_19 : decode code 19 = .ok (.astore_n 3, 1) := by decide +kernel
theorem dd_L_law_20 : decode code 20 = .ok (.iconst 0, 1) := by decide +kernel
theorem dd_L_law_21 : decode code 21 = .ok (.istore 4, 2) := by decide +kernel
theorem dd_L_law_23 : decode code 23 = .ok (.iload 4, 2) := by decide +kernel
theorem dd_L_law_25 : decode code 25 = .ok (.aload_n 0, 1) := by decide +kernel
theorem dd_L_law_26 : decode code 26 = .ok (.arraylength, 1) := by decide +kernel
theorem dd_L_law_27 : decode code 27 = .ok (.bipush 6, 2) := by decide +kernel
theorem dd_L_law_29 : decode code 29 = .ok (.isub, 1) := by decide +kernel
theorem dd_L_law_30 : decode code 30 = .ok (.if_icmp .gt 1015, 3) := by decide +kernel
theorem dd_L_law_33 : decode code 33 = .ok (.aload_n 0, 1) := by decide +kernel
theorem dd_L_law_34 : decode code 34 = .ok (.iload 4, 2) := by decide +kernel
theorem dd_L_law_36 : decode code 36 = .ok (.iaload, 1) := by decide +kernel
theorem dd_L_law_37 : decode code 37 = .ok (.bipush 15, 2) := by decide +kernel
theorem dd_L_law_39 : decode code 39 = .ok (.iand, 1) := by decide +kernel
theorem dd_L_law_40 : decode code 40 = .ok (.tableswitch 999 0 15 #[80, 136, 288, 324, 416, 483, 531, 587, 623, 671, 719, 787, 831, 867, 878, 974], 80) := by decide +kernel
theorem dd_L_law_120 : decode code 120 = .ok (.aload_n 1, 1) := by decide +kernel
theorem dd_L_law_121 : decode code 121 = .ok (.aload_n 0, 1) := by decide +kernel
theorem dd_L_law_122 : decode code 122 = .ok (.iload 4, 2) := by decide +kernel
theorem dd_L_law_124 : decode code 124 = .ok (.iconst 1, 1) := by decide +kernel
theorem dd_L_law_125 : decode code 125 = .ok (.iadd, 1) := by decide +kernel
theorem dd_L_law_126 : decode code 126 = .ok (.iaload, 1) := by decide +kernel
theorem dd_L_law_127 : decode code 127 = .ok (.aload_n 3, 1) := by decide +kernel
theorem dd_L_law_128 : decode code 128 = .ok (.invokestatic 72, 3) := by decide +kernel
theorem dd_L_law_131 : decode code 131 = .ok (.istore 5, 2) := by decide +kernel
theorem dd_L_law_133 : decode code 133 = .ok (.aload_n 2, 1) := by decide +kernel
theorem dd_L_law_134 : decode code 134 = .ok (.aload_n 0, 1) := by decide +kernel
theorem dd_L_law_135 : decode code 135 = .ok (.iload 4, 2) := by decide +kernel
theorem dd_L_law_137 : decode code 137 = .ok (.iconst 1, 1) := by decide +kernel
theorem dd_L_law_138 : decode code 138 = .ok (.iadd, 1) := by decide +kernel
theorem dd_L_law_139 : decode code 139 = .ok (.iaload, 1) := by decide +kernel
theorem dd_L_law_140 : decode code 140 = .ok (.invokevirtual 77, 3) := by decide +kernel
theorem dd_L_law_143 : decode code 143 = .ok (.istore 6, 2) := by decide +kernel
theorem dd_L_law_145 : decode code 145 = .ok (.aload_n 2, 1) := by decide +kernel
theorem dd_L_law_146 : decode code 146 = .ok (.invokevirtual 78, 3) := by decide +kernel
theorem dd_L_law_149 : decode code 149 = .ok (.iload 5, 2) := by decide +kernel
theorem dd_L_law_151 : decode code 151 = .ok (.if_icmp .eq 5, 3) := by decide +kernel
theorem dd_L_law_154 : decode code 154 = .ok (.iconst 0, 1) := by decide +kernel
theorem dd_L_law_155 : decode code 155 = .ok (.ireturn, 1) := by decide +kernel
theorem dd_L_law_156 : decode code 156 = .ok (.iload 5, 2) := by decide +kernel
theorem dd_L_law_158 : decode code 158 = .ok (.ifCond .ne 15, 3) := by decide +kernel
theorem dd_L_law_161 : decode code 161 = .ok (.aload_n 3, 1) := by decide +kernel
theorem dd_L_law_162 : decode code 162 = .ok (.iconst 0, 1) := by decide +kernel
theorem dd_L_law_163 : decode code 163 = .ok (.laload, 1) := by decide +kernel
theorem dd_L_law_164 : decode code 164 = .ok (.iload 6, 2) := by decide +kernel
theorem dd_L_law_166 : decode code 166 = .ok (.i2l, 1) := by decide +kernel
theorem dd_L_law_167 : decode code 167 = .ok (.lcmp, 1) := by decide +kernel
theorem dd_L_law_168 : decode code 168 = .ok (.ifCond .eq 5, 3) := by decide +kernel
theorem dd_L_law_171 : decode code 171 = .ok (.iconst 0, 1) := by decide +kernel
theorem dd_L_law_172 : decode code 172 = .ok (.ireturn, 1) := by decide +kernel
theorem dd_L_law_173 : decode code 173 = .ok (.goto 866, 3) := by decide +kernel
theorem dd_L_law_176 : decode code 176 = .ok (.aload_n 1, 1) := by decide +kernel
theorem dd_L_law_177 : decode code 177 = .ok (.aload_n 0, 1) := by decide +kernel
theorem dd_L_law_178 : decode code 178 = .ok (.iload 4, 2) := by decide +kernel
theorem dd_L_law_180 : decode code 180 = .ok (.iconst 1, 1) := by decide +kernel
theorem dd_L_law_181 : decode code 181 = .ok (.iadd, 1) := by decide +kernel
theorem dd_L_law_182 : decode code 182 = .ok (.iaload, 1) := by decide +kernel
theorem dd_L_law_183 : decode code 183 = .ok (.aload_n 0, 1) := by decide +kernel
theorem dd_L_law_184 : decode code 184 = .ok (.iload 4, 2) := by decide +kernel
theorem dd_L_law_186 : decode code 186 = .ok (.iconst 2, 1) := by decide +kernel
theorem dd_L_law_187 : decode code 187 = .ok (.iadd, 1) := by decide +kernel
theorem dd_L_law_188 : decode code 188 = .ok (.iaload, 1) := by decide +kernel
theorem dd_L_law_189 : decode code 189 = .ok (.aload_n 0, 1) := by decide +kernel
theorem dd_L_law_190 : decode code 190 = .ok (.iload 4, 2) := by decide +kernel
theorem dd_L_law_192 : decode code 192 = .ok (.iconst 3, 1) := by decide +kernel
theorem dd_L_law_193 : decode code 193 = .ok (.iadd, 1) := by decide +kernel
theorem dd_L_law_194 : decode code 194 = .ok (.iaload, 1) := by decide +kernel
theorem dd_L_law_195 : decode code 195 = .ok (.ifCond .eq 7, 3) := by decide +kernel
theorem dd_L_law_198 : decode code 198 = .ok (.iconst 1, 1) := by decide +kernel
theorem dd_L_law_199 : decode code 199 = .ok (.goto 4, 3) := by decide +kernel
theorem dd_L_law_202 : decode code 202 = .ok (.iconst 0, 1) := by decide +kernel
theorem dd_L_law_203 : decode code 203 = .ok (.aload_n 0, 1) := by decide +kernel
theorem dd_L_law_204 : decode code 204 = .ok (.iload 4, 2) := by decide +kernel
theorem dd_L_law_206 : decode code 206 = .ok (.iconst 4, 1) := by decide +kernel
theorem dd_L_law_207 : decode code 207 = .ok (.iadd, 1) := by decide +kernel
theorem dd_L_law_208 : decode code 208 = .ok (.iaload, 1) := by decide +kernel
theorem dd_L_law_209 : decode code 209 = .ok (.ifCond .eq 7, 3) := by decide +kernel
theorem dd_L_law_212 : decode code 212 = .ok (.iconst 1, 1) := by decide +kernel
theorem dd_L_law_213 : decode code 213 = .ok (.goto 4, 3) := by decide +kernel
theorem dd_L_law_216 : decode code 216 = .ok (.iconst 0, 1) := by decide +kernel
theorem dd_L_law_217 : decode code 217 = .ok (.aload_n 0, 1) := by decide +kernel
theorem dd_L_law_218 : decode code 218 = .ok (.iload 4, 2) := by decide +kernel
theorem dd_L_law_220 : decode code 220 = .ok (.iconst 5, 1) := by decide +kernel
theorem dd_L_law_221 : decode code 221 = .ok (.iadd, 1) := by decide +kernel
theorem dd_L_law_222 : decode code 222 = .ok (.iaload, 1) := by decide +kernel
theorem dd_L_law_223 : decode code 223 = .ok (.ifCond .eq 7, 3) := by decide +kernel
theorem dd_L_law_226 : decode code 226 = .ok (.iconst 1, 1) := by decide +kernel
theorem dd_L_law_227 : decode code 227 = .ok (.goto 4, 3) := by decide +kernel
theorem dd_L_law_230 : decode code 230 = .ok (.iconst 0, 1) := by decide +kernel
theorem dd_L_law_231 : decode code 231 = .ok (.aload_n 3, 1) := by decide +kernel
theorem dd_L_law_232 : decode code 232 = .ok (.invokestatic 81, 3) := by decide +kernel
theorem dd_L_law_235 : decode code 235 = .ok (.istore 5, 2) := by decide +kernel
theorem dd_L_law_237 : decode code 237 = .ok (.aload_n 2, 1) := by decide +kernel
theorem dd_L_law_238 : decode code 238 = .ok (.aload_n 0, 1) := by decide +kernel
theorem dd_L_law_239 : decode code 239 = .ok (.iload 4, 2) := by decide +kernel
theorem dd_L_law_241 : decode code 241 = .ok (.iconst 1, 1) := by decide +kernel
theorem dd_L_law_242 : decode code 242 = .ok (.iadd, 1) := by decide +kernel
theorem dd_L_law_243 : decode code 243 = .ok (.iaload, 1) := by decide +kernel
theorem dd_L_law_244 : decode code 244 = .ok (.aload_n 0, 1) := by decide +kernel
theorem dd_L_law_245 : decode code 245 = .ok (.iload 4, 2) := by decide +kernel
theorem dd_L_law_247 : decode code 247 = .ok (.iconst 2, 1) := by decide +kernel
theorem dd_L_law_248 : decode code 248 = .ok (.iadd, 1) := by decide +kernel
theorem dd_L_law_249 : decode code 249 = .ok (.iaload, 1) := by decide +kernel
theorem dd_L_law_250 : decode code 250 = .ok (.aload_n 0, 1) := by decide +kernel
theorem dd_L_law_251 : decode code 251 = .ok (.iload 4, 2) := by decide +kernel
theorem dd_L_law_253 : decode code 253 = .ok (.iconst 3, 1) := by decide +kernel
theorem dd_L_law_254 : decode code 254 = .ok (.iadd, 1) := by decide +kernel
theorem dd_L_law_255 : decode code 255 = .ok (.iaload, 1) := by decide +kernel
theorem dd_L_law_256 : decode code 256 = .ok (.ifCond .eq 7, 3) := by decide +kernel
theorem dd_L_law_259 : decode code 259 = .ok (.iconst 1, 1) := by decide +kernel
theorem dd_L_law_260 : decode code 260 = .ok (.goto 4, 3) := by decide +kernel
theorem dd_L_law_263 : decode code 263 = .ok (.iconst 0, 1) := by decide +kernel
theorem dd_L_law_264 : decode code 264 = .ok (.aload_n 0, 1) := by decide +kernel
theorem dd_L_law_265 : decode code 265 = .ok (.iload 4, 2) := by decide +kernel
theorem dd_L_law_267 : decode code 267 = .ok (.iconst 4, 1) := by decide +kernel
theorem dd_L_law_268 : decode code 268 = .ok (.iadd, 1) := by decide +kernel
theorem dd_L_law_269 : decode code 269 = .ok (.iaload, 1) := by decide +kernel
theorem dd_L_law_270 : decode code 270 = .ok (.ifCond .eq 7, 3) := by decide +kernel
theorem dd_L_law_273 : decode code 273 = .ok (.iconst 1, 1) := by decide +kernel
theorem dd_L_law_274 : decode code 274 = .ok (.goto 4, 3) := by decide +kernel
theorem dd_L_law_277 : decode code 277 = .ok (.iconst 0, 1) := by decide +kernel
theorem dd_L_law_278 : decode code 278 = .ok (.aload_n 0, 1) := by decide +kernel
theorem dd_L_law_279 : decode code 279 = .ok (.iload 4, 2) := by decide +kernel
theorem dd_L_law_281 : decode code 281 = .ok (.iconst 5, 1) := by decide +kernel
theorem dd_L_law_282 : decode code 282 = .ok (.iadd, 1) := by decide +kernel
theorem dd_L_law_283 : decode code 283 = .ok (.iaload, 1) := by decide +kernel
theorem dd_L_law_284 : decode code 284 = .ok (.ifCond .eq 7, 3) := by decide +kernel
theorem dd_L_law_287 : decode code 287 = .ok (.iconst 1, 1) := by decide +kernel
theorem dd_L_law_288 : decode code 288 = .ok (.goto 4, 3) := by decide +kernel
theorem dd_L_law_291 : decode code 291 = .ok (.iconst 0, 1) := by decide +kernel
theorem dd_L_law_292 : decode code 292 = .ok (.invokevirtual 84, 3) := by decide +kernel
theorem dd_L_law_295 : decode code 295 = .ok (.istore 6, 2) := by decide +kernel
theorem dd_L_law_297 : decode code 297 = .ok (.aload_n 2, 1) := by decide +kernel
theorem dd_L_law_298 : decode code 298 = .ok (.invokevirtual 78, 3) := by decide +kernel
theorem dd_L_law_301 : decode code 301 = .ok (.iload 5, 2) := by decide +kernel
theorem dd_L_law_303 : decode code 303 = .ok (.if_icmp .eq 5, 3) := by decide +kernel
theorem dd_L_law_306 : decode code 306 = .ok (.iconst 0, 1) := by decide +kernel
theorem dd_L_law_307 : decode code 307 = .ok (.ireturn, 1) := by decide +kernel
theorem dd_L_law_308 : decode code 308 = .ok (.iload 5, 2) := by decide +kernel
theorem dd_L_law_310 : decode code 310 = .ok (.ifCond .ne 15, 3) := by decide +kernel
theorem dd_L_law_313 : decode code 313 = .ok (.aload_n 3, 1) := by decide +kernel
theorem dd_L_law_314 : decode code 314 = .ok (.iconst 0, 1) := by decide +kernel
theorem dd_L_law_315 : decode code 315 = .ok (.laload, 1) := by decide +kernel
theorem dd_L_law_316 : decode code 316 = .ok (.iload 6, 2) := by decide +kernel
theorem dd_L_law_318 : decode code 318 = .ok (.i2l, 1) := by decide +kernel
theorem dd_L_law_319 : decode code 319 = .ok (.lcmp, 1) := by decide +kernel
theorem dd_L_law_320 : decode code 320 = .ok (.ifCond .eq 5, 3) := by decide +kernel
theorem dd_L_law_323 : decode code 323 = .ok (.iconst 0, 1) := by decide +kernel
theorem dd_L_law_324 : decode code 324 = .ok (.ireturn, 1) := by decide +kernel
theorem dd_L_law_325 : decode code 325 = .ok (.goto 714, 3) := by decide +kernel
theorem dd_L_law_328 : decode code 328 = .ok (.aload_n 1, 1) := by decide +kernel
theorem dd_L_law_329 : decode code 329 = .ok (.aload_n 0, 1) := by decide +kernel
theorem dd_L_law_330 : decode code 330 = .ok (.iload 4, 2) := by decide +kernel
theorem dd_L_law_332 : decode code 332 = .ok (.iconst 1, 1) := by decide +kernel
theorem dd_L_law_333 : decode code 333 = .ok (.iadd, 1) := by decide +kernel
theorem dd_L_law_334 : decode code 334 = .ok (.iaload, 1) := by decide +kernel
theorem dd_L_law_335 : decode code 335 = .ok (.invokestatic 85, 3) := by decide +kernel
theorem dd_L_law_338 : decode code 338 = .ok (.istore 5, 2) := by decide +kernel
theorem dd_L_law_340 : decode code 340 = .ok (.aload_n 2, 1) := by decide +kernel
theorem dd_L_law_341 : decode code 341 = .ok (.aload_n 0, 1) := by decide +kernel
theorem dd_L_law_342 : decode code 342 = .ok (.iload 4, 2) := by decide +kernel
theorem dd_L_law_344 : decode code 344 = .ok (.iconst 1, 1) := by decide +kernel
theorem dd_L_law_345 : decode code 345 = .ok (.iadd, 1) := by decide +kernel
theorem dd_L_law_346 : decode code 346 = .ok (.iaload, 1) := by decide +kernel
theorem dd_L_law_347 : decode code 347 = .ok (.invokevirtual 88, 3) := by decide +kernel
theorem dd_L_law_350 : decode code 350 = .ok (.aload_n 2, 1) := by decide +kernel
theorem dd_L_law_351 : decode code 351 = .ok (.invokevirtual 78, 3) := by decide +kernel
theorem dd_L_law_354 : decode code 354 = .ok (.iload 5, 2) := by decide +kernel
theorem dd_L_law_356 : decode code 356 = .ok (.if_icmp .eq 5, 3) := by decide +kernel
theorem dd_L_law_359 : decode code 359 = .ok (.iconst 0, 1) := by decide +kernel
theorem dd_L_law_360 : decode code 360 = .ok (.ireturn, 1) := by decide +kernel
theorem dd_L_law_361 : decode code 361 = .ok (.goto 678, 3) := by decide +kernel
theorem dd_L_law_364 : decode code 364 = .ok (.aload_n 1, 1) := by decide +kernel
theorem dd_L_law_365 : decode code 365 = .ok (.aload_n 0, 1) := by decide +kernel
theorem dd_L_law_366 : decode code 366 = .ok (.iload 4, 2) := by decide +kernel
theorem dd_L_law_368 : decode code 368 = .ok (.iconst 1, 1) := by decide +kernel
theorem dd_L_law_369 : decode code 369 = .ok (.iadd, 1) := by decide +kernel
theorem dd_L_law_370 : decode code 370 = .ok (.iaload, 1) := by decide +kernel
theorem dd_L_law_371 : decode code 371 = .ok (.aload_n 0, 1) := by decide +kernel
theorem dd_L_law_372 : decode code 372 = .ok (.iload 4, 2) := by decide +kernel
theorem dd_L_law_374 : decode code 374 = .ok (.iconst 2, 1) := by decide +kernel
theorem dd_L_law_375 : decode code 375 = .ok (.iadd, 1) := by decide +kernel
theorem dd_L_law_376 : decode code 376 = .ok (.iaload, 1) := by decide +kernel
theorem dd_L_law_377 : decode code 377 = .ok (.i2l, 1) := by decide +kernel
theorem dd_L_law_378 : decode code 378 = .ok (.bipush 32, 2) := by decide +kernel
theorem dd_L_law_380 : decode code 380 = .ok (.lshl, 1) := by decide +kernel
theorem dd_L_law_381 : decode code 381 = .ok (.aload_n 0, 1) := by decide +kernel
theorem dd_L_law_382 : decode code 382 = .ok (.iload 4, 2) := by decide +kernel
theorem dd_L_law_384 : decode code 384 = .ok (.iconst 3, 1) := by decide +kernel
theorem dd_L_law_385 : decode code 385 = .ok (.iadd, 1) := by decide +kernel
theorem dd_L_law_386 : decode code 386 = .ok (.iaload, 1) := by decide +kernel
theorem dd_L_law_387 : decode code 387 = .ok (.i2l, 1) := by decide +kernel
theorem dd_L_law_388 : decode code 388 = .ok (.ldc2_w 89, 3) := by decide +kernel
theorem dd_L_law_391 : decode code 391 = .ok (.land, 1) := by decide +kernel
theorem dd_L_law_392 : decode code 392 = .ok (.lor, 1) := by decide +kernel
theorem dd_L_law_393 : decode code 393 = .ok (.aload_n 0, 1) := by decide +kernel
theorem dd_L_law_394 : decode code 394 = .ok (.iload 4, 2) := by decide +kernel
theorem dd_L_law_396 : decode code 396 = .ok (.iconst 4, 1) := by decide +kernel
theorem dd_L_law_397 : decode code 397 = .ok (.iadd, 1) := by decide +kernel
theorem dd_L_law_398 : decode code 398 = .ok (.iaload, 1) := by decide +kernel
theorem dd_L_law_399 : decode code 399 = .ok (.invokestatic 91, 3) := by decide +kernel
theorem dd_L_law_402 : decode code 402 = .ok (.istore 5, 2) := by decide +kernel
theorem dd_L_law_404 : decode code 404 = .ok (.aload_n 2, 1) := by decide +kernel
theorem dd_L_law_405 : decode code 405 = .ok (.aload_n 0, 1) := by decide +kernel
theorem dd_L_law_406 : decode code 406 = .ok (.iload 4, 2) := by decide +kernel
theorem dd_L_law_408 : decode code 408 = .ok (.iconst 1, 1) := by decide +kernel
theorem dd_L_law_409 : decode code 409 = .ok (.iadd, 1) := by decide +kernel
theorem dd_L_law_410 : decode code 410 = .ok (.iaload, 1) := by decide +kernel
theorem dd_L_law_411 : decode code 411 = .ok (.aload_n 0, 1) := by decide +kernel
theorem dd_L_law_412 : decode code 412 = .ok (.iload 4, 2) := by decide +kernel
theorem dd_L_law_414 : decode code 414 = .ok (.iconst 2, 1) := by decide +kernel
theorem dd_L_law_415 : decode code 415 = .ok (.iadd, 1) := by decide +kernel
theorem dd_L_law_416 : decode code 416 = .ok (.iaload, 1) := by decide +kernel
theorem dd_L_law_417 : decode code 417 = .ok (.i2l, 1) := by decide +kernel
theorem dd_L_law_418 : decode code 418 = .ok (.bipush 32, 2) := by decide +kernel
theorem dd_L_law_420 : decode code 420 = .ok (.lshl, 1) := by decide +kernel
theorem dd_L_law_421 : decode code 421 = .ok (.aload_n 0, 1) := by decide +kernel
theorem dd_L_law_422 : decode code 422 = .ok (.iload 4, 2) := by decide +kernel
theorem dd_L_law_424 : decode code 424 = .ok (.iconst 3, 1) := by decide +kernel
theorem dd_L_law_425 : decode code 425 = .ok (.iadd, 1) := by decide +kernel
theorem dd_L_law_426 : decode code 426 = .ok (.iaload, 1) := by decide +kernel
theorem dd_L_law_427 : decode code 427 = .ok (.i2l, 1) := by decide +kernel
theorem dd_L_law_428 : decode code 428 = .ok (.ldc2_w 89, 3) := by decide +kernel
theorem dd_L_law_431 : decode code 431 = .ok (.land, 1) := by decide +kernel
theorem dd_L_law_432 : decode code 432 = .ok (.lor, 1) := by decide +kernel
theorem dd_L_law_433 : decode code 433 = .ok (.aload_n 0, 1) := by decide +kernel
theorem dd_L_law_434 : decode code 434 = .ok (.iload 4, 2) := by decide +kernel
theorem dd_L_law_436 : decode code 436 = .ok (.iconst 4, 1) := by decide +kernel
theorem dd_L_law_437 : decode code 437 = .ok (.iadd, 1) := by decide +kernel
theorem dd_L_law_438 : decode code 438 = .ok (.iaload, 1) := by decide +kernel
theorem dd_L_law_439 : decode code 439 = .ok (.invokevirtual 94, 3) := by decide +kernel
theorem dd_L_law_442 : decode code 442 = .ok (.aload_n 2, 1) := by decide +kernel
theorem dd_L_law_443 : decode code 443 = .ok (.invokevirtual 78, 3) := by decide +kernel
theorem dd_L_law_446 : decode code 446 = .ok (.iload 5, 2) := by decide +kernel
theorem dd_L_law_448 : decode code 448 = .ok (.if_icmp .eq 5, 3) := by decide +kernel
theorem dd_L_law_451 : decode code 451 = .ok (.iconst 0, 1) := by decide +kernel
theorem dd_L_law_452 : decode code 452 = .ok (.ireturn, 1) := by decide +kernel
theorem dd_L_law_453 : decode code 453 = .ok (.goto 586, 3) := by decide +kernel
theorem dd_L_law_456 : decode code 456 = .ok (.aload_n 1, 1) := by decide +kernel
theorem dd_L_law_457 : decode code 457 = .ok (.aload_n 0, 1) := by decide +kernel
theorem dd_L_law_458 : decode code 458 = .ok (.iload 4, 2) := by decide +kernel
theorem dd_L_law_460 : decode code 460 = .ok (.iconst 1, 1) := by decide +kernel
theorem dd_L_law_461 : decode code 461 = .ok (.iadd, 1) := by decide +kernel
theorem dd_L_law_462 : decode code 462 = .ok (.iaload, 1) := by decide +kernel
theorem dd_L_law_463 : decode code 463 = .ok (.aload_n 0, 1) := by decide +kernel
theorem dd_L_law_464 : decode code 464 = .ok (.iload 4, 2) := by decide +kernel
theorem dd_L_law_466 : decode code 466 = .ok (.iconst 2, 1) := by decide +kernel
theorem dd_L_law_467 : decode code 467 = .ok (.iadd, 1) := by decide +kernel
theorem dd_L_law_468 : decode code 468 = .ok (.iaload, 1) := by decide +kernel
theorem dd_L_law_469 : decode code 469 = .ok (.aload_n 3, 1) := by decide +kernel
theorem dd_L_law_470 : decode code 470 = .ok (.invokestatic 95, 3) := by decide +kernel
theorem dd_L_law_473 : decode code 473 = .ok (.istore 5, 2) := by decide +kernel
theorem dd_L_law_475 : decode code 475 = .ok (.aload_n 2, 1) := by decide +kernel
theorem dd_L_law_476 : decode code 476 = .ok (.aload_n 0, 1) := by decide +kernel
theorem dd_L_law_477 : decode code 477 = .ok (.iload 4, 2) := by decide +kernel
theorem dd_L_law_479 : decode code 479 = .ok (.iconst 1, 1) := by decide +kernel
theorem dd_L_law_480 : decode code 480 = .ok (.iadd, 1) := by decide +kernel
theorem dd_L_law_481 : decode code 481 = .ok (.iaload, 1) := by decide +kernel
theorem dd_L_law_482 : decode code 482 = .ok (.aload_n 0, 1) := by decide +kernel
theorem dd_L_law_483 : decode code 483 = .ok (.iload 4, 2) := by decide +kernel
theorem dd_L_law_485 : decode code 485 = .ok (.iconst 2, 1) := by decide +kernel
theorem dd_L_law_486 : decode code 486 = .ok (.iadd, 1) := by decide +kernel
theorem dd_L_law_487 : decode code 487 = .ok (.iaload, 1) := by decide +kernel
theorem dd_L_law_488 : decode code 488 = .ok (.invokevirtual 98, 3) := by decide +kernel
theorem dd_L_law_491 : decode code 491 = .ok (.lstore 6, 2) := by decide +kernel
theorem dd_L_law_493 : decode code 493 = .ok (.aload_n 2, 1) := by decide +kernel
theorem dd_L_law_494 : decode code 494 = .ok (.invokevirtual 78, 3) := by decide +kernel
theorem dd_L_law_497 : decode code 497 = .ok (.iload 5, 2) := by decide +kernel
theorem dd_L_law_499 : decode code 499 = .ok (.if_icmp .eq 5, 3) := by decide +kernel
theorem dd_L_law_502 : decode code 502 = .ok (.iconst 0, 1) := by decide +kernel
theorem dd_L_law_503 : decode code 503 = .ok (.ireturn, 1) := by decide +kernel
theorem dd_L_law_504 : decode code 504 = .ok (.iload 5, 2) := by decide +kernel
theorem dd_L_law_506 : decode code 506 = .ok (.ifCond .ne 14, 3) := by decide +kernel
theorem dd_L_law_509 : decode code 509 = .ok (.aload_n 3, 1) := by decide +kernel
theorem dd_L_law_510 : decode code 510 = .ok (.iconst 0, 1) := by decide +kernel
theorem dd_L_law_511 : decode code 511 = .ok (.laload, 1) := by decide +kernel
theorem dd_L_law_512 : decode code 512 = .ok (.lload 6, 2) := by decide +kernel
theorem dd_L_law_514 : decode code 514 = .ok (.lcmp, 1) := by decide +kernel
theorem dd_L_law_515 : decode code 515 = .ok (.ifCond .eq 5, 3) := by decide +kernel
theorem dd_L_law_518 : decode code 518 = .ok (.iconst 0, 1) := by decide +kernel
theorem dd_L_law_519 : decode code 519 = .ok (.ireturn, 1) := by decide +kernel
theorem dd_L_law_520 : decode code 520 = .ok (.goto 519, 3) := by decide +kernel
theorem dd_L_law_523 : decode code 523 = .ok (.aload_n 1, 1) := by decide +kernel
theorem dd_L_law_524 : decode code 524 = .ok (.aload_n 0, 1) := by decide +kernel
theorem dd_L_law_525 : decode code 525 = .ok (.iload 4, 2) := by decide +kernel
theorem dd_L_law_527 : decode code 527 = .ok (.iconst 1, 1) := by decide +kernel
theorem dd_L_law_528 : decode code 528 = .ok (.iadd, 1) := by decide +kernel
theorem dd_L_law_529 : decode code 529 = .ok (.iaload, 1) := by decide +kernel
theorem dd_L_law_530 : decode code 530 = .ok (.aload_n 0, 1) := by decide +kernel
theorem dd_L_law_531 : decode code 531 = .ok (.iload 4, 2) := by decide +kernel
theorem dd_L_law_533 : decode code 533 = .ok (.iconst 2, 1) := by decide +kernel
theorem dd_L_law_534 : decode code 534 = .ok (.iadd, 1) := by decide +kernel
theorem dd_L_law_535 : decode code 535 = .ok (.iaload, 1) := by decide +kernel
theorem dd_L_law_536 : decode code 536 = .ok (.invokestatic 99, 3) := by decide +kernel
theorem dd_L_law_539 : decode code 539 = .ok (.istore 5, 2) := by decide +kernel
theorem dd_L_law_541 : decode code 541 = .ok (.aload_n 2, 1) := by decide +kernel
theorem dd_L_law_542 : decode code 542 = .ok (.aload_n 0, 1) := by decide +kernel
theorem dd_L_law_543 : decode code 543 = .ok (.iload 4, 2) := by decide +kernel
theorem dd_L_law_545 : decode code 545 = .ok (.iconst 1, 1) := by decide +kernel
theorem dd_L_law_546 : decode code 546 = .ok (.iadd, 1) := by decide +kernel
theorem dd_L_law_547 : decode code 547 = .ok (.iaload, 1) := by decide +kernel
theorem dd_L_law_548 : decode code 548 = .ok (.aload_n 0, 1) := by decide +kernel
theorem dd_L_law_549 : decode code 549 = .ok (.iload 4, 2) := by decide +kernel
theorem dd_L_law_551 : decode code 551 = .ok (.iconst 2, 1) := by decide +kernel
theorem dd_L_law_552 : decode code 552 = .ok (.iadd, 1) := by decide +kernel
theorem dd_L_law_553 : decode code 553 = .ok (.iaload, 1) := by decide +kernel
theorem dd_L_law_554 : decode code 554 = .ok (.invokevirtual 102, 3) := by decide +kernel
theorem dd_L_law_557 : decode code 557 = .ok (.aload_n 2, 1) := by decide +kernel
theorem dd_L_law_558 : decode code 558 = .ok (.invokevirtual 78, 3) := by decide +kernel
theorem dd_L_law_561 : decode code 561 = .ok (.iload 5, 2) := by decide +kernel
theorem dd_L_law_563 : decode code 563 = .ok (.if_icmp .eq 5, 3) := by decide +kernel
theorem dd_L_law_566 : decode code 566 = .ok (.iconst 0, 1) := by decide +kernel
theorem dd_L_law_567 : decode code 567 = .ok (.ireturn, 1) := by decide +kernel
theorem dd_L_law_568 : decode code 568 = .ok (.goto 471, 3) := by decide +kernel
theorem dd_L_law_571 : decode code 571 = .ok (.aload_n 1, 1) := by decide +kernel
theorem dd_L_law_572 : decode code 572 = .ok (.aload_n 0, 1) := by decide +kernel
theorem dd_L_law_573 : decode code 573 = .ok (.iload 4, 2) := by decide +kernel
theorem dd_L_law_575 : decode code 575 = .ok (.iconst 1, 1) := by decide +kernel
theorem dd_L_law_576 : decode code 576 = .ok (.iadd, 1) := by decide +kernel
theorem dd_L_law_577 : decode code 577 = .ok (.iaload, 1) := by decide +kernel
theorem dd_L_law_578 : decode code 578 = .ok (.aload_n 3, 1) := by decide +kernel
theorem dd_L_law_579 : decode code 579 = .ok (.invokestatic 103, 3) := by decide +kernel
theorem dd_L_law_582 : decode code 582 = .ok (.istore 5, 2) := by decide +kernel
theorem dd_L_law_584 : decode code 584 = .ok (.aload_n 2, 1) := by decide +kernel
theorem dd_L_law_585 : decode code 585 = .ok (.aload_n 0, 1) := by decide +kernel
theorem dd_L_law_586 : decode code 586 = .ok (.iload 4, 2) := by decide +kernel
theorem dd_L_law_588 : decode code 588 = .ok (.iconst 1, 1) := by decide +kernel
theorem dd_L_law_589 : decode code 589 = .ok (.iadd, 1) := by decide +kernel
theorem dd_L_law_590 : decode code 590 = .ok (.iaload, 1) := by decide +kernel
theorem dd_L_law_591 : decode code 591 = .ok (.invokevirtual 105, 3) := by decide +kernel
theorem dd_L_law_594 : decode code 594 = .ok (.istore 6, 2) := by decide +kernel
theorem dd_L_law_596 : decode code 596 = .ok (.aload_n 2, 1) := by decide +kernel
theorem dd_L_law_597 : decode code 597 = .ok (.invokevirtual 78, 3) := by decide +kernel
theorem dd_L_law_600 : decode code 600 = .ok (.iload 5, 2) := by decide +kernel
theorem dd_L_law_602 : decode code 602 = .ok (.if_icmp .eq 5, 3) := by decide +kernel
theorem dd_L_law_605 : decode code 605 = .ok (.iconst 0, 1) := by decide +kernel
theorem dd_L_law_606 : decode code 606 = .ok (.ireturn, 1) := by decide +kernel
theorem dd_L_law_607 : decode code 607 = .ok (.iload 5, 2) := by decide +kernel
theorem dd_L_law_609 : decode code 609 = .ok (.ifCond .ne 15, 3) := by decide +kernel
theorem dd_L_law_612 : decode code 612 = .ok (.aload_n 3, 1) := by decide +kernel
theorem dd_L_law_613 : decode code 613 = .ok (.iconst 0, 1) := by decide +kernel
theorem dd_L_law_614 : decode code 614 = .ok (.laload, 1) := by decide +kernel
theorem dd_L_law_615 : decode code 615 = .ok (.iload 6, 2) := by decide +kernel
theorem dd_L_law_617 : decode code 617 = .ok (.i2l, 1) := by decide +kernel
theorem dd_L_law_618 : decode code 618 = .ok (.lcmp, 1) := by decide +kernel
theorem dd_L_law_619 : decode code 619 = .ok (.ifCond .eq 5, 3) := by decide +kernel
theorem dd_L_law_622 : decode code 622 = .ok (.iconst 0, 1) := by decide +kernel
theorem dd_L_law_623 : decode code 623 = .ok (.ireturn, 1) := by decide +kernel
theorem dd_L_law_624 : decode code 624 = .ok (.goto 415, 3) := by decide +kernel
theorem dd_L_law_627 : decode code 627 = .ok (.aload_n 1, 1) := by decide +kernel
theorem dd_L_law_628 : decode code 628 = .ok (.aload_n 0, 1) := by decide +kernel
theorem dd_L_law_629 : decode code 629 = .ok (.iload 4, 2) := by decide +kernel
theorem dd_L_law_631 : decode code 631 = .ok (.iconst 1, 1) := by decide +kernel
theorem dd_L_law_632 : decode code 632 = .ok (.iadd, 1) := by decide +kernel
theorem dd_L_law_633 : decode code 633 = .ok (.iaload, 1) := by decide +kernel
theorem dd_L_law_634 : decode code 634 = .ok (.invokestatic 106, 3) := by decide +kernel
theorem dd_L_law_637 : decode code 637 = .ok (.istore 5, 2) := by decide +kernel
theorem dd_L_law_639 : decode code 639 = .ok (.aload_n 2, 1) := by decide +kernel
theorem dd_L_law_640 : decode code 640 = .ok (.aload_n 0, 1) := by decide +kernel
theorem dd_L_law_641 : decode code 641 = .ok (.iload 4, 2) := by decide +kernel
theorem dd_L_law_643 : decode code 643 = .ok (.iconst 1, 1) := by decide +kernel
theorem dd_L_law_644 : decode code 644 = .ok (.iadd, 1) := by decide +kernel
theorem dd_L_law_645 : decode code 645 = .ok (.iaload, 1) := by decide +kernel
theorem dd_L_law_646 : decode code 646 = .ok (.invokevirtual 108, 3) := by decide +kernel
theorem dd_L_law_649 : decode code 649 = .ok (.aload_n 2, 1) := by decide +kernel
theorem dd_L_law_650 : decode code 650 = .ok (.invokevirtual 78, 3) := by decide +kernel
theorem dd_L_law_653 : decode code 653 = .ok (.iload 5, 2) := by decide +kernel
theorem dd_L_law_655 : decode code 655 = .ok (.if_icmp .eq 5, 3) := by decide +kernel
theorem dd_L_law_658 : decode code 658 = .ok (.iconst 0, 1) := by decide +kernel
theorem dd_L_law_659 : decode code 659 = .ok (.ireturn, 1) := by decide +kernel
theorem dd_L_law_660 : decode code 660 = .ok (.goto 379, 3) := by decide +kernel
theorem dd_L_law_663 : decode code 663 = .ok (.aload_n 1, 1) := by decide +kernel
theorem dd_L_law_664 : decode code 664 = .ok (.aload_n 0, 1) := by decide +kernel
theorem dd_L_law_665 : decode code 665 = .ok (.iload 4, 2) := by decide +kernel
theorem dd_L_law_667 : decode code 667 = .ok (.iconst 1, 1) := by decide +kernel
theorem dd_L_law_668 : decode code 668 = .ok (.iadd, 1) := by decide +kernel
theorem dd_L_law_669 : decode code 669 = .ok (.iaload, 1) := by decide +kernel
theorem dd_L_law_670 : decode code 670 = .ok (.aload_n 0, 1) := by decide +kernel
theorem dd_L_law_671 : decode code 671 = .ok (.iload 4, 2) := by decide +kernel
theorem dd_L_law_673 : decode code 673 = .ok (.iconst 2, 1) := by decide +kernel
theorem dd_L_law_674 : decode code 674 = .ok (.iadd, 1) := by decide +kernel
theorem dd_L_law_675 : decode code 675 = .ok (.iaload, 1) := by decide +kernel
theorem dd_L_law_676 : decode code 676 = .ok (.invokestatic 109, 3) := by decide +kernel
theorem dd_L_law_679 : decode code 679 = .ok (.istore 5, 2) := by decide +kernel
theorem dd_L_law_681 : decode code 681 = .ok (.aload_n 2, 1) := by decide +kernel
theorem dd_L_law_682 : decode code 682 = .ok (.aload_n 0, 1) := by decide +kernel
theorem dd_L_law_683 : decode code 683 = .ok (.iload 4, 2) := by decide +kernel
theorem dd_L_law_685 : decode code 685 = .ok (.iconst 1, 1) := by decide +kernel
theorem dd_L_law_686 : decode code 686 = .ok (.iadd, 1) := by decide +kernel
theorem dd_L_law_687 : decode code 687 = .ok (.iaload, 1) := by decide +kernel
theorem dd_L_law_688 : decode code 688 = .ok (.aload_n 0, 1) := by decide +kernel
theorem dd_L_law_689 : decode code 689 = .ok (.iload 4, 2) := by decide +kernel
theorem dd_L_law_691 : decode code 691 = .ok (.iconst 2, 1) := by decide +kernel
theorem dd_L_law_692 : decode code 692 = .ok (.iadd, 1) := by decide +kernel
theorem dd_L_law_693 : decode code 693 = .ok (.iaload, 1) := by decide +kernel
theorem dd_L_law_694 : decode code 694 = .ok (.invokevirtual 111, 3) := by decide +kernel
theorem dd_L_law_697 : decode code 697 = .ok (.aload_n 2, 1) := by decide +kernel
theorem dd_L_law_698 : decode code 698 = .ok (.invokevirtual 78, 3) := by decide +kernel
theorem dd_L_law_701 : decode code 701 = .ok (.iload 5, 2) := by decide +kernel
theorem dd_L_law_703 : decode code 703 = .ok (.if_icmp .eq 5, 3) := by decide +kernel
theorem dd_L_law_706 : decode code 706 = .ok (.iconst 0, 1) := by decide +kernel
theorem dd_L_law_707 : decode code 707 = .ok (.ireturn, 1) := by decide +kernel
theorem dd_L_law_708 : decode code 708 = .ok (.goto 331, 3) := by decide +kernel
theorem dd_L_law_711 : decode code 711 = .ok (.aload_n 1, 1) := by decide +kernel
theorem dd_L_law_712 : decode code 712 = .ok (.aload_n 0, 1) := by decide +kernel
theorem dd_L_law_713 : decode code 713 = .ok (.iload 4, 2) := by decide +kernel
theorem dd_L_law_715 : decode code 715 = .ok (.iconst 1, 1) := by decide +kernel
theorem dd_L_law_716 : decode code 716 = .ok (.iadd, 1) := by decide +kernel
theorem dd_L_law_717 : decode code 717 = .ok (.iaload, 1) := by decide +kernel
theorem dd_L_law_718 : decode code 718 = .ok (.aload_n 0, 1) := by decide +kernel
theorem dd_L_law_719 : decode code 719 = .ok (.iload 4, 2) := by decide +kernel
theorem dd_L_law_721 : decode code 721 = .ok (.iconst 2, 1) := by decide +kernel
theorem dd_L_law_722 : decode code 722 = .ok (.iadd, 1) := by decide +kernel
theorem dd_L_law_723 : decode code 723 = .ok (.iaload, 1) := by decide +kernel
theorem dd_L_law_724 : decode code 724 = .ok (.invokestatic 112, 3) := by decide +kernel
theorem dd_L_law_727 : decode code 727 = .ok (.istore 5, 2) := by decide +kernel
theorem dd_L_law_729 : decode code 729 = .ok (.aload_n 2, 1) := by decide +kernel
theorem dd_L_law_730 : decode code 730 = .ok (.aload_n 0, 1) := by decide +kernel
theorem dd_L_law_731 : decode code 731 = .ok (.iload 4, 2) := by decide +kernel
theorem dd_L_law_733 : decode code 733 = .ok (.iconst 1, 1) := by decide +kernel
theorem dd_L_law_734 : decode code 734 = .ok (.iadd, 1) := by decide +kernel
theorem dd_L_law_735 : decode code 735 = .ok (.iaload, 1) := by decide +kernel
theorem dd_L_law_736 : decode code 736 = .ok (.aload_n 0, 1) := by decide +kernel
theorem dd_L_law_737 : decode code 737 = .ok (.iload 4, 2) := by decide +kernel
theorem dd_L_law_739 : decode code 739 = .ok (.iconst 2, 1) := by decide +kernel
theorem dd_L_law_740 : decode code 740 = .ok (.iadd, 1) := by decide +kernel
theorem dd_L_law_741 : decode code 741 = .ok (.iaload, 1) := by decide +kernel
theorem dd_L_law_742 : decode code 742 = .ok (.invokevirtual 114, 3) := by decide +kernel
theorem dd_L_law_745 : decode code 745 = .ok (.aload_n 2, 1) := by decide +kernel
theorem dd_L_law_746 : decode code 746 = .ok (.invokevirtual 78, 3) := by decide +kernel
theorem dd_L_law_749 : decode code 749 = .ok (.iload 5, 2) := by decide +kernel
theorem dd_L_law_751 : decode code 751 = .ok (.if_icmp .eq 5, 3) := by decide +kernel
theorem dd_L_law_754 : decode code 754 = .ok (.iconst 0, 1) := by decide +kernel
theorem dd_L_law_755 : decode code 755 = .ok (.ireturn, 1) := by decide +kernel
theorem dd_L_law_756 : decode code 756 = .ok (.goto 283, 3) := by decide +kernel
theorem dd_L_law_759 : decode code 759 = .ok (.aload_n 1, 1) := by decide +kernel
theorem dd_L_law_760 : decode code 760 = .ok (.aload_n 0, 1) := by decide +kernel
theorem dd_L_law_761 : decode code 761 = .ok (.iload 4, 2) := by decide +kernel
theorem dd_L_law_763 : decode code 763 = .ok (.iconst 1, 1) := by decide +kernel
theorem dd_L_law_764 : decode code 764 = .ok (.iadd, 1) := by decide +kernel
theorem dd_L_law_765 : decode code 765 = .ok (.iaload, 1) := by decide +kernel
theorem dd_L_law_766 : decode code 766 = .ok (.aload_n 0, 1) := by decide +kernel
theorem dd_L_law_767 : decode code 767 = .ok (.iload 4, 2) := by decide +kernel
theorem dd_L_law_769 : decode code 769 = .ok (.iconst 2, 1) := by decide +kernel
theorem dd_L_law_770 : decode code 770 = .ok (.iadd, 1) := by decide +kernel
theorem dd_L_law_771 : decode code 771 = .ok (.iaload, 1) := by decide +kernel
theorem dd_L_law_772 : decode code 772 = .ok (.aload_n 3, 1) := by decide +kernel
theorem dd_L_law_773 : decode code 773 = .ok (.invokestatic 115, 3) := by decide +kernel
theorem dd_L_law_776 : decode code 776 = .ok (.istore 5, 2) := by decide +kernel
theorem dd_L_law_778 : decode code 778 = .ok (.aload_n 2, 1) := by decide +kernel
theorem dd_L_law_779 : decode code 779 = .ok (.aload_n 0, 1) := by decide +kernel
theorem dd_L_law_780 : decode code 780 = .ok (.iload 4, 2) := by decide +kernel
theorem dd_L_law_782 : decode code 782 = .ok (.iconst 1, 1) := by decide +kernel
theorem dd_L_law_783 : decode code 783 = .ok (.iadd, 1) := by decide +kernel
theorem dd_L_law_784 : decode code 784 = .ok (.iaload, 1) := by decide +kernel
theorem dd_L_law_785 : decode code 785 = .ok (.aload_n 0, 1) := by decide +kernel
theorem dd_L_law_786 : decode code 786 = .ok (.iload 4, 2) := by decide +kernel
theorem dd_L_law_788 : decode code 788 = .ok (.iconst 2, 1) := by decide +kernel
theorem dd_L_law_789 : decode code 789 = .ok (.iadd, 1) := by decide +kernel
theorem dd_L_law_790 : decode code 790 = .ok (.iaload, 1) := by decide +kernel
theorem dd_L_law_791 : decode code 791 = .ok (.invokevirtual 117, 3) := by decide +kernel
theorem dd_L_law_794 : decode code 794 = .ok (.istore 6, 2) := by decide +kernel
theorem dd_L_law_796 : decode code 796 = .ok (.aload_n 2, 1) := by decide +kernel
theorem dd_L_law_797 : decode code 797 = .ok (.invokevirtual 78, 3) := by decide +kernel
theorem dd_L_law_800 : decode code 800 = .ok (.iload 5, 2) := by decide +kernel
theorem dd_L_law_802 : decode code 802 = .ok (.if_icmp .eq 5, 3) := by decide +kernel
theorem dd_L_law_805 : decode code 805 = .ok (.iconst 0, 1) := by decide +kernel
theorem dd_L_law_806 : decode code 806 = .ok (.ireturn, 1) := by decide +kernel
theorem dd_L_law_807 : decode code 807 = .ok (.iload 5, 2) := by decide +kernel
theorem dd_L_law_809 : decode code 809 = .ok (.ifCond .ne 15, 3) := by decide +kernel
theorem dd_L_law_812 : decode code 812 = .ok (.aload_n 3, 1) := by decide +kernel
theorem dd_L_law_813 : decode code 813 = .ok (.iconst 0, 1) := by decide +kernel
theorem dd_L_law_814 : decode code 814 = .ok (.laload, 1) := by decide +kernel
theorem dd_L_law_815 : decode code 815 = .ok (.iload 6, 2) := by decide +kernel
theorem dd_L_law_817 : decode code 817 = .ok (.i2l, 1) := by decide +kernel
theorem dd_L_law_818 : decode code 818 = .ok (.lcmp, 1) := by decide +kernel
theorem dd_L_law_819 : decode code 819 = .ok (.ifCond .eq 5, 3) := by decide +kernel
theorem dd_L_law_822 : decode code 822 = .ok (.iconst 0, 1) := by decide +kernel
theorem dd_L_law_823 : decode code 823 = .ok (.ireturn, 1) := by decide +kernel
theorem dd_L_law_824 : decode code 824 = .ok (.goto 215, 3) := by decide +kernel
theorem dd_L_law_827 : decode code 827 = .ok (.aload_n 1, 1) := by decide +kernel
theorem dd_L_law_828 : decode code 828 = .ok (.aload_n 3, 1) := by decide +kernel
theorem dd_L_law_829 : decode code 829 = .ok (.invokestatic 118, 3) := by decide +kernel
theorem dd_L_law_832 : decode code 832 = .ok (.istore 5, 2) := by decide +kernel
theorem dd_L_law_834 : decode code 834 = .ok (.aload_n 2, 1) := by decide +kernel
theorem dd_L_law_835 : decode code 835 = .ok (.invokevirtual 121, 3) := by decide +kernel
theorem dd_L_law_838 : decode code 838 = .ok (.istore 6, 2) := by decide +kernel
theorem dd_L_law_840 : decode code 840 = .ok (.aload_n 2, 1) := by decide +kernel
theorem dd_L_law_841 : decode code 841 = .ok (.invokevirtual 78, 3) := by decide +kernel
theorem dd_L_law_844 : decode code 844 = .ok (.iload 5, 2) := by decide +kernel
theorem dd_L_law_846 : decode code 846 = .ok (.if_icmp .eq 5, 3) := by decide +kernel
theorem dd_L_law_849 : decode code 849 = .ok (.iconst 0, 1) := by decide +kernel
theorem dd_L_law_850 : decode code 850 = .ok (.ireturn, 1) := by decide +kernel
theorem dd_L_law_851 : decode code 851 = .ok (.iload 5, 2) := by decide +kernel
theorem dd_L_law_853 : decode code 853 = .ok (.ifCond .ne 15, 3) := by decide +kernel
theorem dd_L_law_856 : decode code 856 = .ok (.aload_n 3, 1) := by decide +kernel
theorem dd_L_law_857 : decode code 857 = .ok (.iconst 0, 1) := by decide +kernel
theorem dd_L_law_858 : decode code 858 = .ok (.laload, 1) := by decide +kernel
theorem dd_L_law_859 : decode code 859 = .ok (.iload 6, 2) := by decide +kernel
theorem dd_L_law_861 : decode code 861 = .ok (.i2l, 1) := by decide +kernel
theorem dd_L_law_862 : decode code 862 = .ok (.lcmp, 1) := by decide +kernel
theorem dd_L_law_863 : decode code 863 = .ok (.ifCond .eq 5, 3) := by decide +kernel
theorem dd_L_law_866 : decode code 866 = .ok (.iconst 0, 1) := by decide +kernel
theorem dd_L_law_867 : decode code 867 = .ok (.ireturn, 1) := by decide +kernel
theorem dd_L_law_868 : decode code 868 = .ok (.goto 171, 3) := by decide +kernel
theorem dd_L_law_871 : decode code 871 = .ok (.aload_n 1, 1) := by decide +kernel
theorem dd_L_law_872 : decode code 872 = .ok (.aload_n 0, 1) := by decide +kernel
theorem dd_L_law_873 : decode code 873 = .ok (.iload 4, 2) := by decide +kernel
theorem dd_L_law_875 : decode code 875 = .ok (.iconst 1, 1) := by decide +kernel
theorem dd_L_law_876 : decode code 876 = .ok (.iadd, 1) := by decide +kernel
theorem dd_L_law_877 : decode code 877 = .ok (.iaload, 1) := by decide +kernel
theorem dd_L_law_878 : decode code 878 = .ok (.invokestatic 122, 3) := by decide +kernel
theorem dd_L_law_881 : decode code 881 = .ok (.istore 5, 2) := by decide +kernel
theorem dd_L_law_883 : decode code 883 = .ok (.aload_n 2, 1) := by decide +kernel
theorem dd_L_law_884 : decode code 884 = .ok (.aload_n 0, 1) := by decide +kernel
theorem dd_L_law_885 : decode code 885 = .ok (.iload 4, 2) := by decide +kernel
theorem dd_L_law_887 : decode code 887 = .ok (.iconst 1, 1) := by decide +kernel
theorem dd_L_law_888 : decode code 888 = .ok (.iadd, 1) := by decide +kernel
theorem dd_L_law_889 : decode code 889 = .ok (.iaload, 1) := by decide +kernel
theorem dd_L_law_890 : decode code 890 = .ok (.invokevirtual 124, 3) := by decide +kernel
theorem dd_L_law_893 : decode code 893 = .ok (.aload_n 2, 1) := by decide +kernel
theorem dd_L_law_894 : decode code 894 = .ok (.invokevirtual 78, 3) := by decide +kernel
theorem dd_L_law_897 : decode code 897 = .ok (.iload 5, 2) := by decide +kernel
theorem dd_L_law_899 : decode code 899 = .ok (.if_icmp .eq 5, 3) := by decide +kernel
theorem dd_L_law_902 : decode code 902 = .ok (.iconst 0, 1) := by decide +kernel
theorem dd_L_law_903 : decode code 903 = .ok (.ireturn, 1) := by decide +kernel
theorem dd_L_law_904 : decode code 904 = .ok (.goto 135, 3) := by decide +kernel
theorem dd_L_law_907 : decode code 907 = .ok (.aload_n 1, 1) := by decide +kernel
theorem dd_L_law_908 : decode code 908 = .ok (.invokevirtual 125, 3) := by decide +kernel
theorem dd_L_law_911 : decode code 911 = .ok (.aload_n 2, 1) := by decide +kernel
theorem dd_L_law_912 : decode code 912 = .ok (.invokevirtual 128, 3) := by decide +kernel
theorem dd_L_law_915 : decode code 915 = .ok (.goto 124, 3) := by decide +kernel
theorem dd_L_law_918 : decode code 918 = .ok (.aload_n 1, 1) := by decide +kernel
theorem dd_L_law_919 : decode code 919 = .ok (.aload_n 0, 1) := by decide +kernel
theorem dd_L_law_920 : decode code 920 = .ok (.iload 4, 2) := by decide +kernel
theorem dd_L_law_922 : decode code 922 = .ok (.iconst 1, 1) := by decide +kernel
theorem dd_L_law_923 : decode code 923 = .ok (.iadd, 1) := by decide +kernel
theorem dd_L_law_924 : decode code 924 = .ok (.iaload, 1) := by decide +kernel
theorem dd_L_law_925 : decode code 925 = .ok (.aload_n 0, 1) := by decide +kernel
theorem dd_L_law_926 : decode code 926 = .ok (.iload 4, 2) := by decide +kernel
theorem dd_L_law_928 : decode code 928 = .ok (.iconst 2, 1) := by decide +kernel
theorem dd_L_law_929 : decode code 929 = .ok (.iadd, 1) := by decide +kernel
theorem dd_L_law_930 : decode code 930 = .ok (.iaload, 1) := by decide +kernel
theorem dd_L_law_931 : decode code 931 = .ok (.aload_n 0, 1) := by decide +kernel
theorem dd_L_law_932 : decode code 932 = .ok (.iload 4, 2) := by decide +kernel
theorem dd_L_law_934 : decode code 934 = .ok (.iconst 3, 1) := by decide +kernel
theorem dd_L_law_935 : decode code 935 = .ok (.iadd, 1) := by decide +kernel
theorem dd_L_law_936 : decode code 936 = .ok (.iaload, 1) := by decide +kernel
theorem dd_L_law_937 : decode code 937 = .ok (.ifCond .eq 7, 3) := by decide +kernel
theorem dd_L_law_940 : decode code 940 = .ok (.iconst 1, 1) := by decide +kernel
theorem dd_L_law_941 : decode code 941 = .ok (.goto 4, 3) := by decide +kernel
theorem dd_L_law_944 : decode code 944 = .ok (.iconst 0, 1) := by decide +kernel
theorem dd_L_law_945 : decode code 945 = .ok (.aload_n 3, 1) := by decide +kernel
theorem dd_L_law_946 : decode code 946 = .ok (.invokestatic 129, 3) := by decide +kernel
theorem dd_L_law_949 : decode code 949 = .ok (.istore 5, 2) := by decide +kernel
theorem dd_L_law_951 : decode code 951 = .ok (.aload_n 2, 1) := by decide +kernel
theorem dd_L_law_952 : decode code 952 = .ok (.aload_n 0, 1) := by decide +kernel
theorem dd_L_law_953 : decode code 953 = .ok (.iload 4, 2) := by decide +kernel
theorem dd_L_law_955 : decode code 955 = .ok (.iconst 1, 1) := by decide +kernel
theorem dd_L_law_956 : decode code 956 = .ok (.iadd, 1) := by decide +kernel
theorem dd_L_law_957 : decode code 957 = .ok (.iaload, 1) := by decide +kernel
theorem dd_L_law_958 : decode code 958 = .ok (.aload_n 0, 1) := by decide +kernel
theorem dd_L_law_959 : decode code 959 = .ok (.iload 4, 2) := by decide +kernel
theorem dd_L_law_961 : decode code 961 = .ok (.iconst 2, 1) := by decide +kernel
theorem dd_L_law_962 : decode code 962 = .ok (.iadd, 1) := by decide +kernel
theorem dd_L_law_963 : decode code 963 = .ok (.iaload, 1) := by decide +kernel
theorem dd_L_law_964 : decode code 964 = .ok (.aload_n 0, 1) := by decide +kernel
theorem dd_L_law_965 : decode code 965 = .ok (.iload 4, 2) := by decide +kernel
theorem dd_L_law_967 : decode code 967 = .ok (.iconst 3, 1) := by decide +kernel
theorem dd_L_law_968 : decode code 968 = .ok (.iadd, 1) := by decide +kernel
theorem dd_L_law_969 : decode code 969 = .ok (.iaload, 1) := by decide +kernel
theorem dd_L_law_970 : decode code 970 = .ok (.ifCond .eq 7, 3) := by decide +kernel
theorem dd_L_law_973 : decode code 973 = .ok (.iconst 1, 1) := by decide +kernel
theorem dd_L_law_974 : decode code 974 = .ok (.goto 4, 3) := by decide +kernel
theorem dd_L_law_977 : decode code 977 = .ok (.iconst 0, 1) := by decide +kernel
theorem dd_L_law_978 : decode code 978 = .ok (.invokevirtual 132, 3) := by decide +kernel
theorem dd_L_law_981 : decode code 981 = .ok (.istore 6, 2) := by decide +kernel
theorem dd_L_law_983 : decode code 983 = .ok (.aload_n 2, 1) := by decide +kernel
theorem dd_L_law_984 : decode code 984 = .ok (.invokevirtual 78, 3) := by decide +kernel
theorem dd_L_law_987 : decode code 987 = .ok (.iload 5, 2) := by decide +kernel
theorem dd_L_law_989 : decode code 989 = .ok (.if_icmp .eq 5, 3) := by decide +kernel
theorem dd_L_law_992 : decode code 992 = .ok (.iconst 0, 1) := by decide +kernel
theorem dd_L_law_993 : decode code 993 = .ok (.ireturn, 1) := by decide +kernel
theorem dd_L_law_994 : decode code 994 = .ok (.iload 5, 2) := by decide +kernel
theorem dd_L_law_996 : decode code 996 = .ok (.ifCond .ne 15, 3) := by decide +kernel
theorem dd_L_law_999 : decode code 999 = .ok (.aload_n 3, 1) := by decide +kernel
theorem dd_L_law_1000 : decode code 1000 = .ok (.iconst 0, 1) := by decide +kernel
theorem dd_L_law_1001 : decode code 1001 = .ok (.laload, 1) := by decide +kernel
theorem dd_L_law_1002 : decode code 1002 = .ok (.iload 6, 2) := by decide +kernel
theorem dd_L_law_1004 : decode code 1004 = .ok (.i2l, 1) := by decide +kernel
theorem dd_L_law_1005 : decode code 1005 = .ok (.lcmp, 1) := by decide +kernel
theorem dd_L_law_1006 : decode code 1006 = .ok (.ifCond .eq 5, 3) := by decide +kernel
theorem dd_L_law_1009 : decode code 1009 = .ok (.iconst 0, 1) := by decide +kernel
theorem dd_L_law_1010 : decode code 1010 = .ok (.ireturn, 1) := by decide +kernel
theorem dd_L_law_1011 : decode code 1011 = .ok (.goto 28, 3) := by decide +kernel
theorem dd_L_law_1014 : decode code 1014 = .ok (.aload_n 1, 1) := by decide +kernel
theorem dd_L_law_1015 : decode code 1015 = .ok (.aload_n 0, 1) := by decide +kernel
theorem dd_L_law_1016 : decode code 1016 = .ok (.iload 4, 2) := by decide +kernel
theorem dd_L_law_1018 : decode code 1018 = .ok (.iconst 1, 1) := by decide +kernel
theorem dd_L_law_1019 : decode code 1019 = .ok (.iadd, 1) := by decide +kernel
theorem dd_L_law_1020 : decode code 1020 = .ok (.iaload, 1) := by decide +kernel
theorem dd_L_law_1021 : decode code 1021 = .ok (.invokevirtual 133, 3) := by decide +kernel
theorem dd_L_law_1024 : decode code 1024 = .ok (.aload_n 2, 1) := by decide +kernel
theorem dd_L_law_1025 : decode code 1025 = .ok (.aload_n 0, 1) := by decide +kernel
theorem dd_L_law_1026 : decode code 1026 = .ok (.iload 4, 2) := by decide +kernel
theorem dd_L_law_1028 : decode code 1028 = .ok (.iconst 1, 1) := by decide +kernel
theorem dd_L_law_1029 : decode code 1029 = .ok (.iadd, 1) := by decide +kernel
theorem dd_L_law_1030 : decode code 1030 = .ok (.iaload, 1) := by decide +kernel
theorem dd_L_law_1031 : decode code 1031 = .ok (.invokevirtual 136, 3) := by decide +kernel
theorem dd_L_law_1034 : decode code 1034 = .ok (.if_icmp .eq 5, 3) := by decide +kernel
theorem dd_L_law_1037 : decode code 1037 = .ok (.iconst 0, 1) := by decide +kernel
theorem dd_L_law_1038 : decode code 1038 = .ok (.ireturn, 1) := by decide +kernel
theorem dd_L_law_1039 : decode code 1039 = .ok (.iinc 4 6, 3) := by decide +kernel
theorem dd_L_law_1042 : decode code 1042 = .ok (.goto (-1019), 3) := by decide +kernel
theorem dd_L_law_1045 : decode code 1045 = .ok (.iconst 1, 1) := by decide +kernel
theorem dd_L_law_1046 : decode code 1046 = .ok (.ireturn, 1) := by decide +kernel
