theorem dqX10_init_0 : ([(0, .aload_n 0, 1), (1, .invokespecial 1, 3), (4, .aload_n 0, 1), (5, .ldc 7, 2), (7, .newarray .byte, 2), (9, .putfield 8, 3), (12, .aload_n 0, 1), (13, .sipush 16384, 3), (16, .newarray .int, 2), (18, .putfield 14, 3), (21, .aload_n 0, 1), (22, .sipush 16384, 3), (25, .newarray .int, 2), (27, .putfield 18, 3), (30, .aload_n 0, 1), (31, .sipush 16384, 3), (34, .newarray .int, 2), (36, .putfield 21, 3), (39, .aload_n 0, 1), (40, .sipush 16384, 3), (43, .newarray .int, 2), (45, .putfield 24, 3), (48, .aload_n 0, 1), (49, .sipush 16384, 3), (52, .newarray .int, 2), (54, .putfield 27, 3), (57, .aload_n 0, 1), (58, .sipush 16384, 3), (61, .newarray .boolean, 2), (63, .putfield 30, 3), (66, .aload_n 0, 1), (67, .sipush 16384, 3), (70, .newarray .int, 2), (72, .putfield 34, 3), (75, .aload_n 0, 1), (76, .sipush 16384, 3), (79, .newarray .int, 2), (81, .putfield 37, 3), (84, .aload_n 0, 1), (85, .sipush 16384, 3)] : List (Nat × Instr × Nat)).all (fun q => decide (decode cX10_init q.1 = .ok (q.2.1, q.2.2))) = true := by decide +kernel
theorem dX10_init_0 : decode cX10_init 0 = .ok (.aload_n 0, 1) := dq_of dqX10_init_0 0 rfl
theorem dX10_init_1 : decode cX10_init 1 = .ok (.invokespecial 1, 3) := dq_of dqX10_init_0 1 rfl
theorem dX10_init_4 : decode cX10_init 4 = .ok (.aload_n 0, 1) := dq_of dqX10_init_0 2 rfl
theorem dX10_init_5 : decode cX10_init 5 = .ok (.ldc 7, 2) := dq_of dqX10_init_0 3 rfl
theorem dX10_init_7 : decode cX10_init 7 = .ok (.newarray .byte, 2) := dq_of dqX10_init_0 4 rfl
theorem dX10_init_9 : decode cX10_init 9 = .ok (.putfield 8, 3) := dq_of dqX10_init_0 5 rfl
theorem dX10_init_12 : decode cX10_init 12 = .ok (.aload_n 0, 1) := dq_of dqX10_init_0 6 rfl
theorem dX10_init_13 : decode cX10_init 13 = .ok (.sipush 16384, 3) := dq_of dqX10_init_0 7 rfl
theorem dX10_init_16 : decode cX10_init 16 = .ok (.newarray .int, 2) := dq_of dqX10_init_0 8 rfl
theorem dX10_init_18 : decode cX10_init 18 = .ok (.putfield 14, 3) := dq_of dqX10_init_0 9 rfl
theorem dX10_init_21 : decode cX10_init 21 = .ok (.aload_n 0, 1) := dq_of dqX10_init_0 10 rfl
theorem dX10_init_22 : decode cX10_init 22 = .ok (.sipush 16384, 3) := dq_of dqX10_init_0 11 rfl
theorem dX10_init_25 : decode cX10_init 25 = .ok (.newarray .int, 2) := dq_of dqX10_init_0 12 rfl
theorem dX10_init_27 : decode cX10_init 27 = .ok (.putfield 18, 3) := dq_of dqX10_init_0 13 rfl
theorem dX10_init_30 : decode cX10_init 30 = .ok (.aload_n 0, 1) := dq_of dqX10_init_0 14 rfl
theorem dX10_init_31 : decode cX10_init 31 = .ok (.sipush 16384, 3) := dq_of dqX10_init_0 15 rfl
theorem dX10_init_34 : decode cX10_init 34 = .ok (.newarray .int, 2) := dq_of dqX10_init_0 16 rfl
theorem dX10_init_36 : decode cX10_init 36 = .ok (.putfield 21, 3) := dq_of dqX10_init_0 17 rfl
theorem dX10_init_39 : decode cX10_init 39 = .ok (.aload_n 0, 1) := dq_of dqX10_init_0 18 rfl
theorem dX10_init_40 : decode cX10_init 40 = .ok (.sipush 16384, 3) := dq_of dqX10_init_0 19 rfl
theorem dX10_init_43 : decode cX10_init 43 = .ok (.newarray .int, 2) := dq_of dqX10_init_0 20 rfl
theorem dX10_init_45 : decode cX10_init 45 = .ok (.putfield 24, 3) := dq_of dqX10_init_0 21 rfl
theorem dX10_init_48 : decode cX10_init 48 = .ok (.aload_n 0, 1) := dq_of dqX10_init_0 22 rfl
theorem dX10_init_49 : decode cX10_init 49 = .ok (.sipush 16384, 3) := dq_of dqX10_init_0 23 rfl
theorem dX10_init_52 : decode cX10_init 52 = .ok (.newarray .int, 2) := dq_of dqX10_init_0 24 rfl
theorem dX10_init_54 : decode cX10_init 54 = .ok (.putfield 27, 3) := dq_of dqX10_init_0 25 rfl
theorem dX10_init_57 : decode cX10_init 57 = .ok (.aload_n 0, 1) := dq_of dqX10_init_0 26 rfl
theorem dX10_init_58 : decode cX10_init 58 = .ok (.sipush 16384, 3) := dq_of dqX10_init_0 27 rfl
theorem dX10_init_61 : decode cX10_init 61 = .ok (.newarray .boolean, 2) := dq_of dqX10_init_0 28 rfl
theorem dX10_init_63 : decode cX10_init 63 = .ok (.putfield 30, 3) := dq_of dqX10_init_0 29 rfl
theorem dX10_init_66 : decode cX10_init 66 = .ok (.aload_n 0, 1) := dq_of dqX10_init_0 30 rfl
theorem dX10_init_67 : decode cX10_init 67 = .ok (.sipush 16384, 3) := dq_of dqX10_init_0 31 rfl
theorem dX10_init_70 : decode cX10_init 70 = .ok (.newarray .int, 2) := dq_of dqX10_init_0 32 rfl
theorem dX10_init_72 : decode cX10_init 72 = .ok (.putfield 34, 3) := dq_of dqX10_init_0 33 rfl
theorem dX10_init_75 : decode cX10_init 75 = .ok (.aload_n 0, 1) := dq_of dqX10_init_0 34 rfl
theorem dX10_init_76 : decode cX10_init 76 = .ok (.sipush 16384, 3) := dq_of dqX10_init_0 35 rfl
theorem dX10_init_79 : decode cX10_init 79 = .ok (.newarray .int, 2) := dq_of dqX10_init_0 36 rfl
theorem dX10_init_81 : decode cX10_init 81 = .ok (.putfield 37, 3) := dq_of dqX10_init_0 37 rfl
theorem dX10_init_84 : decode cX10_init 84 = .ok (.aload_n 0, 1) := dq_of dqX10_init_0 38 rfl
theorem dX10_init_85 : decode cX10_init 85 = .ok (.sipush 16384, 3) := dq_of dqX10_init_0 39 rfl
theorem dqX10_init_88 : ([(88, .newarray .int, 2), (90, .putfield 40, 3), (93, .aload_n 0, 1), (94, .sipush 16384, 3), (97, .newarray .int, 2), (99, .putfield 43, 3), (102, .aload_n 0, 1), (103, .sipush 16384, 3), (106, .newarray .long, 2), (108, .putfield 46, 3), (111, .aload_n 0, 1), (112, .ldc 7, 2), (114, .newarray .byte, 2), (116, .putfield 50, 3), (119, .aload_n 0, 1), (120, .sipush 16384, 3), (123, .newarray .int, 2), (125, .putfield 53, 3), (128, .aload_n 0, 1), (129, .sipush 16384, 3), (132, .newarray .int, 2), (134, .putfield 56, 3), (137, .aload_n 0, 1), (138, .sipush 4096, 3), (141, .newarray .int, 2), (143, .putfield 59, 3), (146, .aload_n 0, 1), (147, .sipush 160, 3), (150, .newarray .int, 2), (152, .putfield 62, 3), (155, .return_, 1)] : List (Nat × Instr × Nat)).all (fun q => decide (decode cX10_init q.1 = .ok (q.2.1, q.2.2))) = true := by decide +kernel
theorem dX10_init_88 : decode cX10_init 88 = .ok (.newarray .int, 2) := dq_of dqX10_init_88 0 rfl
theorem dX10_init_90 : decode cX10_init 90 = .ok (.putfield 40, 3) := dq_of dqX10_init_88 1 rfl
theorem dX10_init_93 : decode cX10_init 93 = .ok (.aload_n 0, 1) := dq_of dqX10_init_88 2 rfl
theorem dX10_init_94 : decode cX10_init 94 = .ok (.sipush 16384, 3) := dq_of dqX10_init_88 3 rfl
theorem dX10_init_97 : decode cX10_init 97 = .ok (.newarray .int, 2) := dq_of dqX10_init_88 4 rfl
theorem dX10_init_99 : decode cX10_init 99 = .ok (.putfield 43, 3) := dq_of dqX10_init_88 5 rfl
theorem dX10_init_102 : decode cX10_init 102 = .ok (.aload_n 0, 1) := dq_of dqX10_init_88 6 rfl
theorem dX10_init_103 : decode cX10_init 103 = .ok (.sipush 16384, 3) := dq_of dqX10_init_88 7 rfl
theorem dX10_init_106 : decode cX10_init 106 = .ok (.newarray .long, 2) := dq_of dqX10_init_88 8 rfl
theorem dX10_init_108 : decode cX10_init 108 = .ok (.putfield 46, 3) := dq_of dqX10_init_88 9 rfl
theorem dX10_init_111 : decode cX10_init 111 = .ok (.aload_n 0, 1) := dq_of dqX10_init_88 10 rfl
theorem dX10_init_112 : decode cX10_init 112 = .ok (.ldc 7, 2) := dq_of dqX10_init_88 11 rfl
theorem dX10_init_114 : decode cX10_init 114 = .ok (.newarray .byte, 2) := dq_of dqX10_init_88 12 rfl
theorem dX10_init_116 : decode cX10_init 116 = .ok (.putfield 50, 3) := dq_of dqX10_init_88 13 rfl
theorem dX10_init_119 : decode cX10_init 119 = .ok (.aload_n 0, 1) := dq_of dqX10_init_88 14 rfl
theorem dX10_init_120 : decode cX10_init 120 = .ok (.sipush 16384, 3) := dq_of dqX10_init_88 15 rfl
theorem dX10_init_123 : decode cX10_init 123 = .ok (.newarray .int, 2) := dq_of dqX10_init_88 16 rfl
theorem dX10_init_125 : decode cX10_init 125 = .ok (.putfield 53, 3) := dq_of dqX10_init_88 17 rfl
theorem dX10_init_128 : decode cX10_init 128 = .ok (.aload_n 0, 1) := dq_of dqX10_init_88 18 rfl
theorem dX10_init_129 : decode cX10_init 129 = .ok (.sipush 16384, 3) := dq_of dqX10_init_88 19 rfl
theorem dX10_init_132 : decode cX10_init 132 = .ok (.newarray .int, 2) := dq_of dqX10_init_88 20 rfl
theorem dX10_init_134 : decode cX10_init 134 = .ok (.putfield 56, 3) := dq_of dqX10_init_88 21 rfl
theorem dX10_init_137 : decode cX10_init 137 = .ok (.aload_n 0, 1) := dq_of dqX10_init_88 22 rfl
theorem dX10_init_138 : decode cX10_init 138 = .ok (.sipush 4096, 3) := dq_of dqX10_init_88 23 rfl
theorem dX10_init_141 : decode cX10_init 141 = .ok (.newarray .int, 2) := dq_of dqX10_init_88 24 rfl
theorem dX10_init_143 : decode cX10_init 143 = .ok (.putfield 59, 3) := dq_of dqX10_init_88 25 rfl
theorem dX10_init_146 : decode cX10_init 146 = .ok (.aload_n 0, 1) := dq_of dqX10_init_88 26 rfl
theorem dX10_init_147 : decode cX10_init 147 = .ok (.sipush 160, 3) := dq_of dqX10_init_88 27 rfl
theorem dX10_init_150 : decode cX10_init 150 = .ok (.newarray .int, 2) := dq_of dqX10_init_88 28 rfl
theorem dX10_init_152 : decode cX10_init 152 = .ok (.putfield 62, 3) := dq_of dqX10_init_88 29 rfl
theorem dX10_init_155 : decode cX10_init 155 = .ok (.return_, 1) := dq_of dqX10_init_88 30 rfl
theorem dqX10_thrown_0 : ([(0, .aload_n 0, 1), (1, .getfield 65, 3), (4, .ireturn, 1)] : List (Nat × Instr × Nat)).all (fun q => decide (decode cX10_thrown q.1 = .ok (q.2.1, q.2.2))) = true := by decide +kernel
theorem dX10_thrown_0 : decode cX10_thrown 0 = .ok (.aload_n 0, 1) := dq_of dqX10_thrown_0 0 rfl
theorem dX10_thrown_1 : decode cX10_thrown 1 = .ok (.getfield 65, 3) := dq_of dqX10_thrown_0 1 rfl
theorem dX10_thrown_4 : decode cX10_thrown 4 = .ok (.ireturn, 1) := dq_of dqX10_thrown_0 2 rfl
theorem dqX10_fail_0 : ([(0, .aload_n 0, 1), (1, .iconst 1, 1), (2, .putfield 65, 3), (5, .iconst 0, 1), (6, .ireturn, 1)] : List (Nat × Instr × Nat)).all (fun q => decide (decode cX10_fail q.1 = .ok (q.2.1, q.2.2))) = true := by decide +kernel
theorem dX10_fail_0 : decode cX10_fail 0 = .ok (.aload_n 0, 1) := dq_of dqX10_fail_0 0 rfl
theorem dX10_fail_1 : decode cX10_fail 1 = .ok (.iconst 1, 1) := dq_of dqX10_fail_0 1 rfl
theorem dX10_fail_2 : decode cX10_fail 2 = .ok (.putfield 65, 3) := dq_of dqX10_fail_0 2 rfl
theorem dX10_fail_5 : decode cX10_fail 5 = .ok (.iconst 0, 1) := dq_of dqX10_fail_0 3 rfl
theorem dX10_fail_6 : decode cX10_fail 6 = .ok (.ireturn, 1) := dq_of dqX10_fail_0 4 rfl
theorem dqX10_feed_0 : ([(0, .aload_n 0, 1), (1, .iconst 0, 1), (2, .putfield 65, 3), (5, .aload_n 0, 1), (6, .getfield 69, 3), (9, .bipush 20, 2), (11, .iadd, 1), (12, .ldc 7, 2), (14, .if_icmp .le 5, 3), (17, .iconst 0, 1), (18, .ireturn, 1), (19, .iconst 0, 1), (20, .istore 6, 2), (22, .iload 6, 2), (24, .bipush 20, 2), (26, .if_icmp .ge 90, 3), (29, .iload 6, 2), (31, .iconst 4, 1), (32, .if_icmp .ge 7, 3), (35, .iload_n 1, 1), (36, .goto 39, 3), (39, .iload 6, 2), (41, .bipush 8, 2), (43, .if_icmp .ge 7, 3), (46, .iload_n 2, 1), (47, .goto 28, 3), (50, .iload 6, 2), (52, .bipush 12, 2), (54, .if_icmp .ge 7, 3), (57, .iload_n 3, 1), (58, .goto 17, 3), (61, .iload 6, 2), (63, .bipush 16, 2), (65, .if_icmp .ge 8, 3), (68, .iload 4, 2), (70, .goto 5, 3), (73, .iload 5, 2), (75, .istore 7, 2), (77, .aload_n 0, 1), (78, .getfield 8, 3)] : List (Nat × Instr × Nat)).all (fun q => decide (decode cX10_feed q.1 = .ok (q.2.1, q.2.2))) = true := by decide +kernel
theorem dX10_feed_0 : decode cX10_feed 0 = .ok (.aload_n 0, 1) := dq_of dqX10_feed_0 0 rfl
theorem dX10_feed_1 : decode cX10_feed 1 = .ok (.iconst 0, 1) := dq_of dqX10_feed_0 1 rfl
theorem dX10_feed_2 : decode cX10_feed 2 = .ok (.putfield 65, 3) := dq_of dqX10_feed_0 2 rfl
theorem dX10_feed_5 : decode cX10_feed 5 = .ok (.aload_n 0, 1) := dq_of dqX10_feed_0 3 rfl
theorem dX10_feed_6 : decode cX10_feed 6 = .ok (.getfield 69, 3) := dq_of dqX10_feed_0 4 rfl
theorem dX10_feed_9 : decode cX10_feed 9 = .ok (.bipush 20, 2) := dq_of dqX10_feed_0 5 rfl
theorem dX10_feed_11 : decode cX10_feed 11 = .ok (.iadd, 1) := dq_of dqX10_feed_0 6 rfl
theorem dX10_feed_12 : decode cX10_feed 12 = .ok (.ldc 7, 2) := dq_of dqX10_feed_0 7 rfl
theorem dX10_feed_14 : decode cX10_feed 14 = .ok (.if_icmp .le 5, 3) := dq_of dqX10_feed_0 8 rfl
theorem dX10_feed_17 : decode cX10_feed 17 = .ok (.iconst 0, 1) := dq_of dqX10_feed_0 9 rfl
theorem dX10_feed_18 : decode cX10_feed 18 = .ok (.ireturn, 1) := dq_of dqX10_feed_0 10 rfl
theorem dX10_feed_19 : decode cX10_feed 19 = .ok (.iconst 0, 1) := dq_of dqX10_feed_0 11 rfl
theorem dX10_feed_20 : decode cX10_feed 20 = .ok (.istore 6, 2) := dq_of dqX10_feed_0 12 rfl
theorem dX10_feed_22 : decode cX10_feed 22 = .ok (.iload 6, 2) := dq_of dqX10_feed_0 13 rfl
theorem dX10_feed_24 : decode cX10_feed 24 = .ok (.bipush 20, 2) := dq_of dqX10_feed_0 14 rfl
theorem dX10_feed_26 : decode cX10_feed 26 = .ok (.if_icmp .ge 90, 3) := dq_of dqX10_feed_0 15 rfl
theorem dX10_feed_29 : decode cX10_feed 29 = .ok (.iload 6, 2) := dq_of dqX10_feed_0 16 rfl
theorem dX10_feed_31 : decode cX10_feed 31 = .ok (.iconst 4, 1) := dq_of dqX10_feed_0 17 rfl
theorem dX10_feed_32 : decode cX10_feed 32 = .ok (.if_icmp .ge 7, 3) := dq_of dqX10_feed_0 18 rfl
theorem dX10_feed_35 : decode cX10_feed 35 = .ok (.iload_n 1, 1) := dq_of dqX10_feed_0 19 rfl
theorem dX10_feed_36 : decode cX10_feed 36 = .ok (.goto 39, 3) := dq_of dqX10_feed_0 20 rfl
theorem dX10_feed_39 : decode cX10_feed 39 = .ok (.iload 6, 2) := dq_of dqX10_feed_0 21 rfl
theorem dX10_feed_41 : decode cX10_feed 41 = .ok (.bipush 8, 2) := dq_of dqX10_feed_0 22 rfl
theorem dX10_feed_43 : decode cX10_feed 43 = .ok (.if_icmp .ge 7, 3) := dq_of dqX10_feed_0 23 rfl
theorem dX10_feed_46 : decode cX10_feed 46 = .ok (.iload_n 2, 1) := dq_of dqX10_feed_0 24 rfl
theorem dX10_feed_47 : decode cX10_feed 47 = .ok (.goto 28, 3) := dq_of dqX10_feed_0 25 rfl
theorem dX10_feed_50 : decode cX10_feed 50 = .ok (.iload 6, 2) := dq_of dqX10_feed_0 26 rfl
theorem dX10_feed_52 : decode cX10_feed 52 = .ok (.bipush 12, 2) := dq_of dqX10_feed_0 27 rfl
theorem dX10_feed_54 : decode cX10_feed 54 = .ok (.if_icmp .ge 7, 3) := dq_of dqX10_feed_0 28 rfl
theorem dX10_feed_57 : decode cX10_feed 57 = .ok (.iload_n 3, 1) := dq_of dqX10_feed_0 29 rfl
theorem dX10_feed_58 : decode cX10_feed 58 = .ok (.goto 17, 3) := dq_of dqX10_feed_0 30 rfl
theorem dX10_feed_61 : decode cX10_feed 61 = .ok (.iload 6, 2) := dq_of dqX10_feed_0 31 rfl
theorem dX10_feed_63 : decode cX10_feed 63 = .ok (.bipush 16, 2) := dq_of dqX10_feed_0 32 rfl
theorem dX10_feed_65 : decode cX10_feed 65 = .ok (.if_icmp .ge 8, 3) := dq_of dqX10_feed_0 33 rfl
theorem dX10_feed_68 : decode cX10_feed 68 = .ok (.iload 4, 2) := dq_of dqX10_feed_0 34 rfl
theorem dX10_feed_70 : decode cX10_feed 70 = .ok (.goto 5, 3) := dq_of dqX10_feed_0 35 rfl
theorem dX10_feed_73 : decode cX10_feed 73 = .ok (.iload 5, 2) := dq_of dqX10_feed_0 36 rfl
theorem dX10_feed_75 : decode cX10_feed 75 = .ok (.istore 7, 2) := dq_of dqX10_feed_0 37 rfl
theorem dX10_feed_77 : decode cX10_feed 77 = .ok (.aload_n 0, 1) := dq_of dqX10_feed_0 38 rfl
theorem dX10_feed_78 : decode cX10_feed 78 = .ok (.getfield 8, 3) := dq_of dqX10_feed_0 39 rfl
theorem dqX10_feed_81 : ([(81, .aload_n 0, 1), (82, .getfield 69, 3), (85, .iload 7, 2), (87, .bipush 24, 2), (89, .bipush 8, 2), (91, .iload 6, 2), (93, .iconst 4, 1), (94, .irem, 1), (95, .imul, 1), (96, .isub, 1), (97, .ishr, 1), (98, .i2b, 1), (99, .bastore, 1), (100, .aload_n 0, 1), (101, .dup, 1), (102, .getfield 69, 3), (105, .iconst 1, 1), (106, .iadd, 1), (107, .putfield 69, 3), (110, .iinc 6 1, 3), (113, .goto (-91), 3), (116, .iconst 1, 1), (117, .ireturn, 1)] : List (Nat × Instr × Nat)).all (fun q => decide (decode cX10_feed q.1 = .ok (q.2.1, q.2.2))) = true := by decide +kernel
theorem dX10_feed_81 : decode cX10_feed 81 = .ok (.aload_n 0, 1) := dq_of dqX10_feed_81 0 rfl
theorem dX10_feed_82 : decode cX10_feed 82 = .ok (.getfield 69, 3) := dq_of dqX10_feed_81 1 rfl
theorem dX10_feed_85 : decode cX10_feed 85 = .ok (.iload 7, 2) := dq_of dqX10_feed_81 2 rfl
theorem dX10_feed_87 : decode cX10_feed 87 = .ok (.bipush 24, 2) := dq_of dqX10_feed_81 3 rfl
theorem dX10_feed_89 : decode cX10_feed 89 = .ok (.bipush 8, 2) := dq_of dqX10_feed_81 4 rfl
theorem dX10_feed_91 : decode cX10_feed 91 = .ok (.iload 6, 2) := dq_of dqX10_feed_81 5 rfl
theorem dX10_feed_93 : decode cX10_feed 93 = .ok (.iconst 4, 1) := dq_of dqX10_feed_81 6 rfl
theorem dX10_feed_94 : decode cX10_feed 94 = .ok (.irem, 1) := dq_of dqX10_feed_81 7 rfl
theorem dX10_feed_95 : decode cX10_feed 95 = .ok (.imul, 1) := dq_of dqX10_feed_81 8 rfl
theorem dX10_feed_96 : decode cX10_feed 96 = .ok (.isub, 1) := dq_of dqX10_feed_81 9 rfl
theorem dX10_feed_97 : decode cX10_feed 97 = .ok (.ishr, 1) := dq_of dqX10_feed_81 10 rfl
theorem dX10_feed_98 : decode cX10_feed 98 = .ok (.i2b, 1) := dq_of dqX10_feed_81 11 rfl
theorem dX10_feed_99 : decode cX10_feed 99 = .ok (.bastore, 1) := dq_of dqX10_feed_81 12 rfl
theorem dX10_feed_100 : decode cX10_feed 100 = .ok (.aload_n 0, 1) := dq_of dqX10_feed_81 13 rfl
theorem dX10_feed_101 : decode cX10_feed 101 = .ok (.dup, 1) := dq_of dqX10_feed_81 14 rfl
theorem dX10_feed_102 : decode cX10_feed 102 = .ok (.getfield 69, 3) := dq_of dqX10_feed_81 15 rfl
theorem dX10_feed_105 : decode cX10_feed 105 = .ok (.iconst 1, 1) := dq_of dqX10_feed_81 16 rfl
theorem dX10_feed_106 : decode cX10_feed 106 = .ok (.iadd, 1) := dq_of dqX10_feed_81 17 rfl
theorem dX10_feed_107 : decode cX10_feed 107 = .ok (.putfield 69, 3) := dq_of dqX10_feed_81 18 rfl
theorem dX10_feed_110 : decode cX10_feed 110 = .ok (.iinc 6 1, 3) := dq_of dqX10_feed_81 19 rfl
theorem dX10_feed_113 : decode cX10_feed 113 = .ok (.goto (-91), 3) := dq_of dqX10_feed_81 20 rfl
theorem dX10_feed_116 : decode cX10_feed 116 = .ok (.iconst 1, 1) := dq_of dqX10_feed_81 21 rfl
theorem dX10_feed_117 : decode cX10_feed 117 = .ok (.ireturn, 1) := dq_of dqX10_feed_81 22 rfl
theorem dqX10_end_0 : ([(0, .aload_n 0, 1), (1, .iconst 0, 1), (2, .putfield 65, 3), (5, .iload_n 1, 1), (6, .ifCond .lt 11, 3), (9, .iload_n 1, 1), (10, .aload_n 0, 1), (11, .getfield 69, 3), (14, .if_icmp .le 5, 3), (17, .iconst 0, 1), (18, .ireturn, 1), (19, .aload_n 0, 1), (20, .iload_n 1, 1), (21, .putfield 69, 3), (24, .iconst 1, 1), (25, .ireturn, 1)] : List (Nat × Instr × Nat)).all (fun q => decide (decode cX10_end q.1 = .ok (q.2.1, q.2.2))) = true := by decide +kernel
theorem dX10_end_0 : decode cX10_end 0 = .ok (.aload_n 0, 1) := dq_of dqX10_end_0 0 rfl
theorem dX10_end_1 : decode cX10_end 1 = .ok (.iconst 0, 1) := dq_of dqX10_end_0 1 rfl
theorem dX10_end_2 : decode cX10_end 2 = .ok (.putfield 65, 3) := dq_of dqX10_end_0 2 rfl
theorem dX10_end_5 : decode cX10_end 5 = .ok (.iload_n 1, 1) := dq_of dqX10_end_0 3 rfl
theorem dX10_end_6 : decode cX10_end 6 = .ok (.ifCond .lt 11, 3) := dq_of dqX10_end_0 4 rfl
theorem dX10_end_9 : decode cX10_end 9 = .ok (.iload_n 1, 1) := dq_of dqX10_end_0 5 rfl
theorem dX10_end_10 : decode cX10_end 10 = .ok (.aload_n 0, 1) := dq_of dqX10_end_0 6 rfl
theorem dX10_end_11 : decode cX10_end 11 = .ok (.getfield 69, 3) := dq_of dqX10_end_0 7 rfl
theorem dX10_end_14 : decode cX10_end 14 = .ok (.if_icmp .le 5, 3) := dq_of dqX10_end_0 8 rfl
theorem dX10_end_17 : decode cX10_end 17 = .ok (.iconst 0, 1) := dq_of dqX10_end_0 9 rfl
theorem dX10_end_18 : decode cX10_end 18 = .ok (.ireturn, 1) := dq_of dqX10_end_0 10 rfl
theorem dX10_end_19 : decode cX10_end 19 = .ok (.aload_n 0, 1) := dq_of dqX10_end_0 11 rfl
theorem dX10_end_20 : decode cX10_end 20 = .ok (.iload_n 1, 1) := dq_of dqX10_end_0 12 rfl
theorem dX10_end_21 : decode cX10_end 21 = .ok (.putfield 69, 3) := dq_of dqX10_end_0 13 rfl
theorem dX10_end_24 : decode cX10_end 24 = .ok (.iconst 1, 1) := dq_of dqX10_end_0 14 rfl
theorem dX10_end_25 : decode cX10_end 25 = .ok (.ireturn, 1) := dq_of dqX10_end_0 15 rfl
theorem dqX10_size_0 : ([(0, .aload_n 0, 1), (1, .iconst 0, 1), (2, .putfield 65, 3), (5, .aload_n 0, 1), (6, .getfield 69, 3), (9, .ireturn, 1)] : List (Nat × Instr × Nat)).all (fun q => decide (decode cX10_size q.1 = .ok (q.2.1, q.2.2))) = true := by decide +kernel
theorem dX10_size_0 : decode cX10_size 0 = .ok (.aload_n 0, 1) := dq_of dqX10_size_0 0 rfl
theorem dX10_size_1 : decode cX10_size 1 = .ok (.iconst 0, 1) := dq_of dqX10_size_0 1 rfl
theorem dX10_size_2 : decode cX10_size 2 = .ok (.putfield 65, 3) := dq_of dqX10_size_0 2 rfl
theorem dX10_size_5 : decode cX10_size 5 = .ok (.aload_n 0, 1) := dq_of dqX10_size_0 3 rfl
theorem dX10_size_6 : decode cX10_size 6 = .ok (.getfield 69, 3) := dq_of dqX10_size_0 4 rfl
theorem dX10_size_9 : decode cX10_size 9 = .ok (.ireturn, 1) := dq_of dqX10_size_0 5 rfl
theorem dqX10_digit_0 : ([(0, .iload_n 0, 1), (1, .bipush 48, 2), (3, .if_icmp .lt 13, 3), (6, .iload_n 0, 1), (7, .bipush 57, 2), (9, .if_icmp .gt 7, 3), (12, .iconst 1, 1), (13, .goto 4, 3), (16, .iconst 0, 1), (17, .ireturn, 1)] : List (Nat × Instr × Nat)).all (fun q => decide (decode cX10_digit q.1 = .ok (q.2.1, q.2.2))) = true := by decide +kernel
theorem dX10_digit_0 : decode cX10_digit 0 = .ok (.iload_n 0, 1) := dq_of dqX10_digit_0 0 rfl
theorem dX10_digit_1 : decode cX10_digit 1 = .ok (.bipush 48, 2) := dq_of dqX10_digit_0 1 rfl
theorem dX10_digit_3 : decode cX10_digit 3 = .ok (.if_icmp .lt 13, 3) := dq_of dqX10_digit_0 2 rfl
theorem dX10_digit_6 : decode cX10_digit 6 = .ok (.iload_n 0, 1) := dq_of dqX10_digit_0 3 rfl
theorem dX10_digit_7 : decode cX10_digit 7 = .ok (.bipush 57, 2) := dq_of dqX10_digit_0 4 rfl
theorem dX10_digit_9 : decode cX10_digit 9 = .ok (.if_icmp .gt 7, 3) := dq_of dqX10_digit_0 5 rfl
theorem dX10_digit_12 : decode cX10_digit 12 = .ok (.iconst 1, 1) := dq_of dqX10_digit_0 6 rfl
theorem dX10_digit_13 : decode cX10_digit 13 = .ok (.goto 4, 3) := dq_of dqX10_digit_0 7 rfl
theorem dX10_digit_16 : decode cX10_digit 16 = .ok (.iconst 0, 1) := dq_of dqX10_digit_0 8 rfl
theorem dX10_digit_17 : decode cX10_digit 17 = .ok (.ireturn, 1) := dq_of dqX10_digit_0 9 rfl
theorem dqX10_letter_0 : ([(0, .iload_n 0, 1), (1, .bipush 97, 2), (3, .if_icmp .lt 9, 3), (6, .iload_n 0, 1), (7, .bipush 122, 2), (9, .if_icmp .le 21, 3), (12, .iload_n 0, 1), (13, .bipush 65, 2), (15, .if_icmp .lt 9, 3), (18, .iload_n 0, 1), (19, .bipush 90, 2), (21, .if_icmp .le 9, 3), (24, .iload_n 0, 1), (25, .bipush 95, 2), (27, .if_icmp .ne 7, 3), (30, .iconst 1, 1), (31, .goto 4, 3), (34, .iconst 0, 1), (35, .ireturn, 1)] : List (Nat × Instr × Nat)).all (fun q => decide (decode cX10_letter q.1 = .ok (q.2.1, q.2.2))) = true := by decide +kernel
theorem dX10_letter_0 : decode cX10_letter 0 = .ok (.iload_n 0, 1) := dq_of dqX10_letter_0 0 rfl
theorem dX10_letter_1 : decode cX10_letter 1 = .ok (.bipush 97, 2) := dq_of dqX10_letter_0 1 rfl
theorem dX10_letter_3 : decode cX10_letter 3 = .ok (.if_icmp .lt 9, 3) := dq_of dqX10_letter_0 2 rfl
theorem dX10_letter_6 : decode cX10_letter 6 = .ok (.iload_n 0, 1) := dq_of dqX10_letter_0 3 rfl
theorem dX10_letter_7 : decode cX10_letter 7 = .ok (.bipush 122, 2) := dq_of dqX10_letter_0 4 rfl
theorem dX10_letter_9 : decode cX10_letter 9 = .ok (.if_icmp .le 21, 3) := dq_of dqX10_letter_0 5 rfl
theorem dX10_letter_12 : decode cX10_letter 12 = .ok (.iload_n 0, 1) := dq_of dqX10_letter_0 6 rfl
theorem dX10_letter_13 : decode cX10_letter 13 = .ok (.bipush 65, 2) := dq_of dqX10_letter_0 7 rfl
theorem dX10_letter_15 : decode cX10_letter 15 = .ok (.if_icmp .lt 9, 3) := dq_of dqX10_letter_0 8 rfl
theorem dX10_letter_18 : decode cX10_letter 18 = .ok (.iload_n 0, 1) := dq_of dqX10_letter_0 9 rfl
theorem dX10_letter_19 : decode cX10_letter 19 = .ok (.bipush 90, 2) := dq_of dqX10_letter_0 10 rfl
theorem dX10_letter_21 : decode cX10_letter 21 = .ok (.if_icmp .le 9, 3) := dq_of dqX10_letter_0 11 rfl
theorem dX10_letter_24 : decode cX10_letter 24 = .ok (.iload_n 0, 1) := dq_of dqX10_letter_0 12 rfl
theorem dX10_letter_25 : decode cX10_letter 25 = .ok (.bipush 95, 2) := dq_of dqX10_letter_0 13 rfl
theorem dX10_letter_27 : decode cX10_letter 27 = .ok (.if_icmp .ne 7, 3) := dq_of dqX10_letter_0 14 rfl
theorem dX10_letter_30 : decode cX10_letter 30 = .ok (.iconst 1, 1) := dq_of dqX10_letter_0 15 rfl
theorem dX10_letter_31 : decode cX10_letter 31 = .ok (.goto 4, 3) := dq_of dqX10_letter_0 16 rfl
theorem dX10_letter_34 : decode cX10_letter 34 = .ok (.iconst 0, 1) := dq_of dqX10_letter_0 17 rfl
theorem dX10_letter_35 : decode cX10_letter 35 = .ok (.ireturn, 1) := dq_of dqX10_letter_0 18 rfl
theorem dqX10_worth_0 : ([(0, .iload_n 0, 1), (1, .invokestatic 72, 3), (4, .ifCond .eq 10, 3), (7, .iload_n 0, 1), (8, .bipush 48, 2), (10, .isub, 1), (11, .goto 49, 3), (14, .iload_n 0, 1), (15, .bipush 97, 2), (17, .if_icmp .lt 19, 3), (20, .iload_n 0, 1), (21, .bipush 102, 2), (23, .if_icmp .gt 13, 3), (26, .iload_n 0, 1), (27, .bipush 97, 2), (29, .isub, 1), (30, .bipush 10, 2), (32, .iadd, 1), (33, .goto 27, 3), (36, .iload_n 0, 1), (37, .bipush 65, 2), (39, .if_icmp .lt 19, 3), (42, .iload_n 0, 1), (43, .bipush 70, 2), (45, .if_icmp .gt 13, 3), (48, .iload_n 0, 1), (49, .bipush 65, 2), (51, .isub, 1), (52, .bipush 10, 2), (54, .iadd, 1), (55, .goto 5, 3), (58, .bipush 99, 2), (60, .ireturn, 1)] : List (Nat × Instr × Nat)).all (fun q => decide (decode cX10_worth q.1 = .ok (q.2.1, q.2.2))) = true := by decide +kernel
theorem dX10_worth_0 : decode cX10_worth 0 = .ok (.iload_n 0, 1) := dq_of dqX10_worth_0 0 rfl
theorem dX10_worth_1 : decode cX10_worth 1 = .ok (.invokestatic 72, 3) := dq_of dqX10_worth_0 1 rfl
theorem dX10_worth_4 : decode cX10_worth 4 = .ok (.ifCond .eq 10, 3) := dq_of dqX10_worth_0 2 rfl
theorem dX10_worth_7 : decode cX10_worth 7 = .ok (.iload_n 0, 1) := dq_of dqX10_worth_0 3 rfl
theorem dX10_worth_8 : decode cX10_worth 8 = .ok (.bipush 48, 2) := dq_of dqX10_worth_0 4 rfl
theorem dX10_worth_10 : decode cX10_worth 10 = .ok (.isub, 1) := dq_of dqX10_worth_0 5 rfl
theorem dX10_worth_11 : decode cX10_worth 11 = .ok (.goto 49, 3) := dq_of dqX10_worth_0 6 rfl
theorem dX10_worth_14 : decode cX10_worth 14 = .ok (.iload_n 0, 1) := dq_of dqX10_worth_0 7 rfl
theorem dX10_worth_15 : decode cX10_worth 15 = .ok (.bipush 97, 2) := dq_of dqX10_worth_0 8 rfl
theorem dX10_worth_17 : decode cX10_worth 17 = .ok (.if_icmp .lt 19, 3) := dq_of dqX10_worth_0 9 rfl
theorem dX10_worth_20 : decode cX10_worth 20 = .ok (.iload_n 0, 1) := dq_of dqX10_worth_0 10 rfl
theorem dX10_worth_21 : decode cX10_worth 21 = .ok (.bipush 102, 2) := dq_of dqX10_worth_0 11 rfl
theorem dX10_worth_23 : decode cX10_worth 23 = .ok (.if_icmp .gt 13, 3) := dq_of dqX10_worth_0 12 rfl
theorem dX10_worth_26 : decode cX10_worth 26 = .ok (.iload_n 0, 1) := dq_of dqX10_worth_0 13 rfl
theorem dX10_worth_27 : decode cX10_worth 27 = .ok (.bipush 97, 2) := dq_of dqX10_worth_0 14 rfl
theorem dX10_worth_29 : decode cX10_worth 29 = .ok (.isub, 1) := dq_of dqX10_worth_0 15 rfl
theorem dX10_worth_30 : decode cX10_worth 30 = .ok (.bipush 10, 2) := dq_of dqX10_worth_0 16 rfl
theorem dX10_worth_32 : decode cX10_worth 32 = .ok (.iadd, 1) := dq_of dqX10_worth_0 17 rfl
theorem dX10_worth_33 : decode cX10_worth 33 = .ok (.goto 27, 3) := dq_of dqX10_worth_0 18 rfl
theorem dX10_worth_36 : decode cX10_worth 36 = .ok (.iload_n 0, 1) := dq_of dqX10_worth_0 19 rfl
theorem dX10_worth_37 : decode cX10_worth 37 = .ok (.bipush 65, 2) := dq_of dqX10_worth_0 20 rfl
theorem dX10_worth_39 : decode cX10_worth 39 = .ok (.if_icmp .lt 19, 3) := dq_of dqX10_worth_0 21 rfl
theorem dX10_worth_42 : decode cX10_worth 42 = .ok (.iload_n 0, 1) := dq_of dqX10_worth_0 22 rfl
theorem dX10_worth_43 : decode cX10_worth 43 = .ok (.bipush 70, 2) := dq_of dqX10_worth_0 23 rfl
theorem dX10_worth_45 : decode cX10_worth 45 = .ok (.if_icmp .gt 13, 3) := dq_of dqX10_worth_0 24 rfl
theorem dX10_worth_48 : decode cX10_worth 48 = .ok (.iload_n 0, 1) := dq_of dqX10_worth_0 25 rfl
theorem dX10_worth_49 : decode cX10_worth 49 = .ok (.bipush 65, 2) := dq_of dqX10_worth_0 26 rfl
theorem dX10_worth_51 : decode cX10_worth 51 = .ok (.isub, 1) := dq_of dqX10_worth_0 27 rfl
theorem dX10_worth_52 : decode cX10_worth 52 = .ok (.bipush 10, 2) := dq_of dqX10_worth_0 28 rfl
theorem dX10_worth_54 : decode cX10_worth 54 = .ok (.iadd, 1) := dq_of dqX10_worth_0 29 rfl
theorem dX10_worth_55 : decode cX10_worth 55 = .ok (.goto 5, 3) := dq_of dqX10_worth_0 30 rfl
theorem dX10_worth_58 : decode cX10_worth 58 = .ok (.bipush 99, 2) := dq_of dqX10_worth_0 31 rfl
theorem dX10_worth_60 : decode cX10_worth 60 = .ok (.ireturn, 1) := dq_of dqX10_worth_0 32 rfl
theorem dqX10_byteAt_0 : ([(0, .aload_n 0, 1), (1, .getfield 8, 3), (4, .iload_n 1, 1), (5, .baload, 1), (6, .sipush 255, 3), (9, .iand, 1), (10, .ireturn, 1)] : List (Nat × Instr × Nat)).all (fun q => decide (decode cX10_byteAt q.1 = .ok (q.2.1, q.2.2))) = true := by decide +kernel
theorem dX10_byteAt_0 : decode cX10_byteAt 0 = .ok (.aload_n 0, 1) := dq_of dqX10_byteAt_0 0 rfl
theorem dX10_byteAt_1 : decode cX10_byteAt 1 = .ok (.getfield 8, 3) := dq_of dqX10_byteAt_0 1 rfl
theorem dX10_byteAt_4 : decode cX10_byteAt 4 = .ok (.iload_n 1, 1) := dq_of dqX10_byteAt_0 2 rfl
theorem dX10_byteAt_5 : decode cX10_byteAt 5 = .ok (.baload, 1) := dq_of dqX10_byteAt_0 3 rfl
theorem dX10_byteAt_6 : decode cX10_byteAt 6 = .ok (.sipush 255, 3) := dq_of dqX10_byteAt_0 4 rfl
theorem dX10_byteAt_9 : decode cX10_byteAt 9 = .ok (.iand, 1) := dq_of dqX10_byteAt_0 5 rfl
theorem dX10_byteAt_10 : decode cX10_byteAt 10 = .ok (.ireturn, 1) := dq_of dqX10_byteAt_0 6 rfl
theorem dqX10_error_0 : ([(0, .aload_n 0, 1), (1, .getfield 76, 3), (4, .ifCond .ge 11, 3), (7, .aload_n 0, 1), (8, .aload_n 0, 1), (9, .getfield 79, 3), (12, .putfield 76, 3), (15, .return_, 1)] : List (Nat × Instr × Nat)).all (fun q => decide (decode cX10_error q.1 = .ok (q.2.1, q.2.2))) = true := by decide +kernel
theorem dX10_error_0 : decode cX10_error 0 = .ok (.aload_n 0, 1) := dq_of dqX10_error_0 0 rfl
theorem dX10_error_1 : decode cX10_error 1 = .ok (.getfield 76, 3) := dq_of dqX10_error_0 1 rfl
theorem dX10_error_4 : decode cX10_error 4 = .ok (.ifCond .ge 11, 3) := dq_of dqX10_error_0 2 rfl
theorem dX10_error_7 : decode cX10_error 7 = .ok (.aload_n 0, 1) := dq_of dqX10_error_0 3 rfl
theorem dX10_error_8 : decode cX10_error 8 = .ok (.aload_n 0, 1) := dq_of dqX10_error_0 4 rfl
theorem dX10_error_9 : decode cX10_error 9 = .ok (.getfield 79, 3) := dq_of dqX10_error_0 5 rfl
theorem dX10_error_12 : decode cX10_error 12 = .ok (.putfield 76, 3) := dq_of dqX10_error_0 6 rfl
theorem dX10_error_15 : decode cX10_error 15 = .ok (.return_, 1) := dq_of dqX10_error_0 7 rfl
theorem dqX10_begin_0 : ([(0, .aload_n 0, 1), (1, .iload_n 1, 1), (2, .putfield 82, 3), (5, .aload_n 0, 1), (6, .aload_n 0, 1), (7, .getfield 79, 3), (10, .putfield 85, 3), (13, .aload_n 0, 1), (14, .aload_n 0, 1), (15, .getfield 88, 3), (18, .putfield 91, 3), (21, .aload_n 0, 1), (22, .aload_n 0, 1), (23, .getfield 79, 3), (26, .aload_n 0, 1), (27, .getfield 94, 3), (30, .isub, 1), (31, .iconst 1, 1), (32, .iadd, 1), (33, .putfield 97, 3), (36, .return_, 1)] : List (Nat × Instr × Nat)).all (fun q => decide (decode cX10_begin q.1 = .ok (q.2.1, q.2.2))) = true := by decide +kernel
theorem dX10_begin_0 : decode cX10_begin 0 = .ok (.aload_n 0, 1) := dq_of dqX10_begin_0 0 rfl
theorem dX10_begin_1 : decode cX10_begin 1 = .ok (.iload_n 1, 1) := dq_of dqX10_begin_0 1 rfl
theorem dX10_begin_2 : decode cX10_begin 2 = .ok (.putfield 82, 3) := dq_of dqX10_begin_0 2 rfl
theorem dX10_begin_5 : decode cX10_begin 5 = .ok (.aload_n 0, 1) := dq_of dqX10_begin_0 3 rfl
theorem dX10_begin_6 : decode cX10_begin 6 = .ok (.aload_n 0, 1) := dq_of dqX10_begin_0 4 rfl
theorem dX10_begin_7 : decode cX10_begin 7 = .ok (.getfield 79, 3) := dq_of dqX10_begin_0 5 rfl
theorem dX10_begin_10 : decode cX10_begin 10 = .ok (.putfield 85, 3) := dq_of dqX10_begin_0 6 rfl
theorem dX10_begin_13 : decode cX10_begin 13 = .ok (.aload_n 0, 1) := dq_of dqX10_begin_0 7 rfl
theorem dX10_begin_14 : decode cX10_begin 14 = .ok (.aload_n 0, 1) := dq_of dqX10_begin_0 8 rfl
theorem dX10_begin_15 : decode cX10_begin 15 = .ok (.getfield 88, 3) := dq_of dqX10_begin_0 9 rfl
theorem dX10_begin_18 : decode cX10_begin 18 = .ok (.putfield 91, 3) := dq_of dqX10_begin_0 10 rfl
theorem dX10_begin_21 : decode cX10_begin 21 = .ok (.aload_n 0, 1) := dq_of dqX10_begin_0 11 rfl
theorem dX10_begin_22 : decode cX10_begin 22 = .ok (.aload_n 0, 1) := dq_of dqX10_begin_0 12 rfl
theorem dX10_begin_23 : decode cX10_begin 23 = .ok (.getfield 79, 3) := dq_of dqX10_begin_0 13 rfl
theorem dX10_begin_26 : decode cX10_begin 26 = .ok (.aload_n 0, 1) := dq_of dqX10_begin_0 14 rfl
theorem dX10_begin_27 : decode cX10_begin 27 = .ok (.getfield 94, 3) := dq_of dqX10_begin_0 15 rfl
theorem dX10_begin_30 : decode cX10_begin 30 = .ok (.isub, 1) := dq_of dqX10_begin_0 16 rfl
theorem dX10_begin_31 : decode cX10_begin 31 = .ok (.iconst 1, 1) := dq_of dqX10_begin_0 17 rfl
theorem dX10_begin_32 : decode cX10_begin 32 = .ok (.iadd, 1) := dq_of dqX10_begin_0 18 rfl
theorem dX10_begin_33 : decode cX10_begin 33 = .ok (.putfield 97, 3) := dq_of dqX10_begin_0 19 rfl
theorem dX10_begin_36 : decode cX10_begin 36 = .ok (.return_, 1) := dq_of dqX10_begin_0 20 rfl
theorem dqX10_room_0 : ([(0, .aload_n 0, 1), (1, .getfield 100, 3), (4, .sipush 16384, 3), (7, .if_icmp .ge 5, 3), (10, .iconst 1, 1), (11, .ireturn, 1), (12, .aload_n 0, 1), (13, .getfield 76, 3), (16, .ifCond .lt 11, 3), (19, .iload_n 1, 1), (20, .aload_n 0, 1), (21, .getfield 76, 3), (24, .if_icmp .ge 8, 3), (27, .aload_n 0, 1), (28, .iload_n 1, 1), (29, .putfield 76, 3), (32, .iconst 0, 1), (33, .ireturn, 1)] : List (Nat × Instr × Nat)).all (fun q => decide (decode cX10_room q.1 = .ok (q.2.1, q.2.2))) = true := by decide +kernel
theorem dX10_room_0 : decode cX10_room 0 = .ok (.aload_n 0, 1) := dq_of dqX10_room_0 0 rfl
theorem dX10_room_1 : decode cX10_room 1 = .ok (.getfield 100, 3) := dq_of dqX10_room_0 1 rfl
theorem dX10_room_4 : decode cX10_room 4 = .ok (.sipush 16384, 3) := dq_of dqX10_room_0 2 rfl
theorem dX10_room_7 : decode cX10_room 7 = .ok (.if_icmp .ge 5, 3) := dq_of dqX10_room_0 3 rfl
theorem dX10_room_10 : decode cX10_room 10 = .ok (.iconst 1, 1) := dq_of dqX10_room_0 4 rfl
theorem dX10_room_11 : decode cX10_room 11 = .ok (.ireturn, 1) := dq_of dqX10_room_0 5 rfl
theorem dX10_room_12 : decode cX10_room 12 = .ok (.aload_n 0, 1) := dq_of dqX10_room_0 6 rfl
theorem dX10_room_13 : decode cX10_room 13 = .ok (.getfield 76, 3) := dq_of dqX10_room_0 7 rfl
theorem dX10_room_16 : decode cX10_room 16 = .ok (.ifCond .lt 11, 3) := dq_of dqX10_room_0 8 rfl
theorem dX10_room_19 : decode cX10_room 19 = .ok (.iload_n 1, 1) := dq_of dqX10_room_0 9 rfl
theorem dX10_room_20 : decode cX10_room 20 = .ok (.aload_n 0, 1) := dq_of dqX10_room_0 10 rfl
theorem dX10_room_21 : decode cX10_room 21 = .ok (.getfield 76, 3) := dq_of dqX10_room_0 11 rfl
theorem dX10_room_24 : decode cX10_room 24 = .ok (.if_icmp .ge 8, 3) := dq_of dqX10_room_0 12 rfl
theorem dX10_room_27 : decode cX10_room 27 = .ok (.aload_n 0, 1) := dq_of dqX10_room_0 13 rfl
theorem dX10_room_28 : decode cX10_room 28 = .ok (.iload_n 1, 1) := dq_of dqX10_room_0 14 rfl
theorem dX10_room_29 : decode cX10_room 29 = .ok (.putfield 76, 3) := dq_of dqX10_room_0 15 rfl
theorem dX10_room_32 : decode cX10_room 32 = .ok (.iconst 0, 1) := dq_of dqX10_room_0 16 rfl
theorem dX10_room_33 : decode cX10_room 33 = .ok (.ireturn, 1) := dq_of dqX10_room_0 17 rfl
theorem dqX10_token_0 : ([(0, .aload_n 0, 1), (1, .aload_n 0, 1), (2, .getfield 85, 3), (5, .invokevirtual 103, 3), (8, .ifCond .ne 4, 3), (11, .return_, 1), (12, .aload_n 0, 1), (13, .getfield 14, 3), (16, .aload_n 0, 1), (17, .getfield 100, 3), (20, .iload_n 1, 1), (21, .iastore, 1), (22, .aload_n 0, 1), (23, .getfield 18, 3), (26, .aload_n 0, 1), (27, .getfield 100, 3), (30, .aload_n 0, 1), (31, .getfield 85, 3), (34, .iastore, 1), (35, .aload_n 0, 1), (36, .getfield 21, 3), (39, .aload_n 0, 1), (40, .getfield 100, 3), (43, .aload_n 0, 1), (44, .getfield 91, 3), (47, .iastore, 1), (48, .aload_n 0, 1), (49, .getfield 24, 3), (52, .aload_n 0, 1), (53, .getfield 100, 3), (56, .aload_n 0, 1), (57, .getfield 97, 3), (60, .iastore, 1), (61, .aload_n 0, 1), (62, .getfield 27, 3), (65, .aload_n 0, 1), (66, .getfield 100, 3), (69, .iload_n 2, 1), (70, .iastore, 1), (71, .aload_n 0, 1)] : List (Nat × Instr × Nat)).all (fun q => decide (decode cX10_token q.1 = .ok (q.2.1, q.2.2))) = true := by decide +kernel
theorem dX10_token_0 : decode cX10_token 0 = .ok (.aload_n 0, 1) := dq_of dqX10_token_0 0 rfl
theorem dX10_token_1 : decode cX10_token 1 = .ok (.aload_n 0, 1) := dq_of dqX10_token_0 1 rfl
theorem dX10_token_2 : decode cX10_token 2 = .ok (.getfield 85, 3) := dq_of dqX10_token_0 2 rfl
theorem dX10_token_5 : decode cX10_token 5 = .ok (.invokevirtual 103, 3) := dq_of dqX10_token_0 3 rfl
theorem dX10_token_8 : decode cX10_token 8 = .ok (.ifCond .ne 4, 3) := dq_of dqX10_token_0 4 rfl
theorem dX10_token_11 : decode cX10_token 11 = .ok (.return_, 1) := dq_of dqX10_token_0 5 rfl
theorem dX10_token_12 : decode cX10_token 12 = .ok (.aload_n 0, 1) := dq_of dqX10_token_0 6 rfl
theorem dX10_token_13 : decode cX10_token 13 = .ok (.getfield 14, 3) := dq_of dqX10_token_0 7 rfl
theorem dX10_token_16 : decode cX10_token 16 = .ok (.aload_n 0, 1) := dq_of dqX10_token_0 8 rfl
theorem dX10_token_17 : decode cX10_token 17 = .ok (.getfield 100, 3) := dq_of dqX10_token_0 9 rfl
theorem dX10_token_20 : decode cX10_token 20 = .ok (.iload_n 1, 1) := dq_of dqX10_token_0 10 rfl
theorem dX10_token_21 : decode cX10_token 21 = .ok (.iastore, 1) := dq_of dqX10_token_0 11 rfl
theorem dX10_token_22 : decode cX10_token 22 = .ok (.aload_n 0, 1) := dq_of dqX10_token_0 12 rfl
theorem dX10_token_23 : decode cX10_token 23 = .ok (.getfield 18, 3) := dq_of dqX10_token_0 13 rfl
theorem dX10_token_26 : decode cX10_token 26 = .ok (.aload_n 0, 1) := dq_of dqX10_token_0 14 rfl
theorem dX10_token_27 : decode cX10_token 27 = .ok (.getfield 100, 3) := dq_of dqX10_token_0 15 rfl
theorem dX10_token_30 : decode cX10_token 30 = .ok (.aload_n 0, 1) := dq_of dqX10_token_0 16 rfl
theorem dX10_token_31 : decode cX10_token 31 = .ok (.getfield 85, 3) := dq_of dqX10_token_0 17 rfl
theorem dX10_token_34 : decode cX10_token 34 = .ok (.iastore, 1) := dq_of dqX10_token_0 18 rfl
theorem dX10_token_35 : decode cX10_token 35 = .ok (.aload_n 0, 1) := dq_of dqX10_token_0 19 rfl
theorem dX10_token_36 : decode cX10_token 36 = .ok (.getfield 21, 3) := dq_of dqX10_token_0 20 rfl
theorem dX10_token_39 : decode cX10_token 39 = .ok (.aload_n 0, 1) := dq_of dqX10_token_0 21 rfl
theorem dX10_token_40 : decode cX10_token 40 = .ok (.getfield 100, 3) := dq_of dqX10_token_0 22 rfl
theorem dX10_token_43 : decode cX10_token 43 = .ok (.aload_n 0, 1) := dq_of dqX10_token_0 23 rfl
theorem dX10_token_44 : decode cX10_token 44 = .ok (.getfield 91, 3) := dq_of dqX10_token_0 24 rfl
theorem dX10_token_47 : decode cX10_token 47 = .ok (.iastore, 1) := dq_of dqX10_token_0 25 rfl
theorem dX10_token_48 : decode cX10_token 48 = .ok (.aload_n 0, 1) := dq_of dqX10_token_0 26 rfl
theorem dX10_token_49 : decode cX10_token 49 = .ok (.getfield 24, 3) := dq_of dqX10_token_0 27 rfl
theorem dX10_token_52 : decode cX10_token 52 = .ok (.aload_n 0, 1) := dq_of dqX10_token_0 28 rfl
theorem dX10_token_53 : decode cX10_token 53 = .ok (.getfield 100, 3) := dq_of dqX10_token_0 29 rfl
theorem dX10_token_56 : decode cX10_token 56 = .ok (.aload_n 0, 1) := dq_of dqX10_token_0 30 rfl
theorem dX10_token_57 : decode cX10_token 57 = .ok (.getfield 97, 3) := dq_of dqX10_token_0 31 rfl
theorem dX10_token_60 : decode cX10_token 60 = .ok (.iastore, 1) := dq_of dqX10_token_0 32 rfl
theorem dX10_token_61 : decode cX10_token 61 = .ok (.aload_n 0, 1) := dq_of dqX10_token_0 33 rfl
theorem dX10_token_62 : decode cX10_token 62 = .ok (.getfield 27, 3) := dq_of dqX10_token_0 34 rfl
theorem dX10_token_65 : decode cX10_token 65 = .ok (.aload_n 0, 1) := dq_of dqX10_token_0 35 rfl
theorem dX10_token_66 : decode cX10_token 66 = .ok (.getfield 100, 3) := dq_of dqX10_token_0 36 rfl
theorem dX10_token_69 : decode cX10_token 69 = .ok (.iload_n 2, 1) := dq_of dqX10_token_0 37 rfl
theorem dX10_token_70 : decode cX10_token 70 = .ok (.iastore, 1) := dq_of dqX10_token_0 38 rfl
theorem dX10_token_71 : decode cX10_token 71 = .ok (.aload_n 0, 1) := dq_of dqX10_token_0 39 rfl
theorem dqX10_token_72 : ([(72, .getfield 30, 3), (75, .aload_n 0, 1), (76, .getfield 100, 3), (79, .iload_n 3, 1), (80, .bastore, 1), (81, .aload_n 0, 1), (82, .getfield 34, 3), (85, .aload_n 0, 1), (86, .getfield 100, 3), (89, .iconst (-1), 1), (90, .iastore, 1), (91, .aload_n 0, 1), (92, .getfield 37, 3), (95, .aload_n 0, 1), (96, .getfield 100, 3), (99, .iconst 0, 1), (100, .iastore, 1), (101, .aload_n 0, 1), (102, .getfield 40, 3), (105, .aload_n 0, 1), (106, .getfield 100, 3), (109, .aload_n 0, 1), (110, .getfield 106, 3), (113, .iastore, 1), (114, .aload_n 0, 1), (115, .getfield 43, 3), (118, .aload_n 0, 1), (119, .getfield 100, 3), (122, .iconst 0, 1), (123, .iastore, 1), (124, .aload_n 0, 1), (125, .getfield 46, 3), (128, .aload_n 0, 1), (129, .getfield 100, 3), (132, .lconst 0, 1), (133, .lastore, 1), (134, .aload_n 0, 1), (135, .dup, 1), (136, .getfield 100, 3), (139, .iconst 1, 1)] : List (Nat × Instr × Nat)).all (fun q => decide (decode cX10_token q.1 = .ok (q.2.1, q.2.2))) = true := by decide +kernel
theorem dX10_token_72 : decode cX10_token 72 = .ok (.getfield 30, 3) := dq_of dqX10_token_72 0 rfl
theorem dX10_token_75 : decode cX10_token 75 = .ok (.aload_n 0, 1) := dq_of dqX10_token_72 1 rfl
theorem dX10_token_76 : decode cX10_token 76 = .ok (.getfield 100, 3) := dq_of dqX10_token_72 2 rfl
theorem dX10_token_79 : decode cX10_token 79 = .ok (.iload_n 3, 1) := dq_of dqX10_token_72 3 rfl
theorem dX10_token_80 : decode cX10_token 80 = .ok (.bastore, 1) := dq_of dqX10_token_72 4 rfl
theorem dX10_token_81 : decode cX10_token 81 = .ok (.aload_n 0, 1) := dq_of dqX10_token_72 5 rfl
theorem dX10_token_82 : decode cX10_token 82 = .ok (.getfield 34, 3) := dq_of dqX10_token_72 6 rfl
theorem dX10_token_85 : decode cX10_token 85 = .ok (.aload_n 0, 1) := dq_of dqX10_token_72 7 rfl
theorem dX10_token_86 : decode cX10_token 86 = .ok (.getfield 100, 3) := dq_of dqX10_token_72 8 rfl
theorem dX10_token_89 : decode cX10_token 89 = .ok (.iconst (-1), 1) := dq_of dqX10_token_72 9 rfl
theorem dX10_token_90 : decode cX10_token 90 = .ok (.iastore, 1) := dq_of dqX10_token_72 10 rfl
theorem dX10_token_91 : decode cX10_token 91 = .ok (.aload_n 0, 1) := dq_of dqX10_token_72 11 rfl
theorem dX10_token_92 : decode cX10_token 92 = .ok (.getfield 37, 3) := dq_of dqX10_token_72 12 rfl
theorem dX10_token_95 : decode cX10_token 95 = .ok (.aload_n 0, 1) := dq_of dqX10_token_72 13 rfl
theorem dX10_token_96 : decode cX10_token 96 = .ok (.getfield 100, 3) := dq_of dqX10_token_72 14 rfl
theorem dX10_token_99 : decode cX10_token 99 = .ok (.iconst 0, 1) := dq_of dqX10_token_72 15 rfl
theorem dX10_token_100 : decode cX10_token 100 = .ok (.iastore, 1) := dq_of dqX10_token_72 16 rfl
theorem dX10_token_101 : decode cX10_token 101 = .ok (.aload_n 0, 1) := dq_of dqX10_token_72 17 rfl
theorem dX10_token_102 : decode cX10_token 102 = .ok (.getfield 40, 3) := dq_of dqX10_token_72 18 rfl
theorem dX10_token_105 : decode cX10_token 105 = .ok (.aload_n 0, 1) := dq_of dqX10_token_72 19 rfl
theorem dX10_token_106 : decode cX10_token 106 = .ok (.getfield 100, 3) := dq_of dqX10_token_72 20 rfl
theorem dX10_token_109 : decode cX10_token 109 = .ok (.aload_n 0, 1) := dq_of dqX10_token_72 21 rfl
theorem dX10_token_110 : decode cX10_token 110 = .ok (.getfield 106, 3) := dq_of dqX10_token_72 22 rfl
theorem dX10_token_113 : decode cX10_token 113 = .ok (.iastore, 1) := dq_of dqX10_token_72 23 rfl
theorem dX10_token_114 : decode cX10_token 114 = .ok (.aload_n 0, 1) := dq_of dqX10_token_72 24 rfl
theorem dX10_token_115 : decode cX10_token 115 = .ok (.getfield 43, 3) := dq_of dqX10_token_72 25 rfl
theorem dX10_token_118 : decode cX10_token 118 = .ok (.aload_n 0, 1) := dq_of dqX10_token_72 26 rfl
theorem dX10_token_119 : decode cX10_token 119 = .ok (.getfield 100, 3) := dq_of dqX10_token_72 27 rfl
theorem dX10_token_122 : decode cX10_token 122 = .ok (.iconst 0, 1) := dq_of dqX10_token_72 28 rfl
theorem dX10_token_123 : decode cX10_token 123 = .ok (.iastore, 1) := dq_of dqX10_token_72 29 rfl
theorem dX10_token_124 : decode cX10_token 124 = .ok (.aload_n 0, 1) := dq_of dqX10_token_72 30 rfl
theorem dX10_token_125 : decode cX10_token 125 = .ok (.getfield 46, 3) := dq_of dqX10_token_72 31 rfl
theorem dX10_token_128 : decode cX10_token 128 = .ok (.aload_n 0, 1) := dq_of dqX10_token_72 32 rfl
theorem dX10_token_129 : decode cX10_token 129 = .ok (.getfield 100, 3) := dq_of dqX10_token_72 33 rfl
theorem dX10_token_132 : decode cX10_token 132 = .ok (.lconst 0, 1) := dq_of dqX10_token_72 34 rfl
theorem dX10_token_133 : decode cX10_token 133 = .ok (.lastore, 1) := dq_of dqX10_token_72 35 rfl
theorem dX10_token_134 : decode cX10_token 134 = .ok (.aload_n 0, 1) := dq_of dqX10_token_72 36 rfl
theorem dX10_token_135 : decode cX10_token 135 = .ok (.dup, 1) := dq_of dqX10_token_72 37 rfl
theorem dX10_token_136 : decode cX10_token 136 = .ok (.getfield 100, 3) := dq_of dqX10_token_72 38 rfl
theorem dX10_token_139 : decode cX10_token 139 = .ok (.iconst 1, 1) := dq_of dqX10_token_72 39 rfl
theorem dqX10_token_140 : ([(140, .iadd, 1), (141, .putfield 100, 3), (144, .return_, 1)] : List (Nat × Instr × Nat)).all (fun q => decide (decode cX10_token q.1 = .ok (q.2.1, q.2.2))) = true := by decide +kernel
theorem dX10_token_140 : decode cX10_token 140 = .ok (.iadd, 1) := dq_of dqX10_token_140 0 rfl
theorem dX10_token_141 : decode cX10_token 141 = .ok (.putfield 100, 3) := dq_of dqX10_token_140 1 rfl
theorem dX10_token_144 : decode cX10_token 144 = .ok (.return_, 1) := dq_of dqX10_token_140 2 rfl
theorem dqX10_keep_0 : ([(0, .aload_n 0, 1), (1, .getfield 50, 3), (4, .aload_n 0, 1), (5, .getfield 106, 3), (8, .iload_n 1, 1), (9, .i2b, 1), (10, .bastore, 1), (11, .aload_n 0, 1), (12, .dup, 1), (13, .getfield 106, 3), (16, .iconst 1, 1), (17, .iadd, 1), (18, .putfield 106, 3), (21, .return_, 1)] : List (Nat × Instr × Nat)).all (fun q => decide (decode cX10_keep q.1 = .ok (q.2.1, q.2.2))) = true := by decide +kernel
theorem dX10_keep_0 : decode cX10_keep 0 = .ok (.aload_n 0, 1) := dq_of dqX10_keep_0 0 rfl
theorem dX10_keep_1 : decode cX10_keep 1 = .ok (.getfield 50, 3) := dq_of dqX10_keep_0 1 rfl
theorem dX10_keep_4 : decode cX10_keep 4 = .ok (.aload_n 0, 1) := dq_of dqX10_keep_0 2 rfl
theorem dX10_keep_5 : decode cX10_keep 5 = .ok (.getfield 106, 3) := dq_of dqX10_keep_0 3 rfl
theorem dX10_keep_8 : decode cX10_keep 8 = .ok (.iload_n 1, 1) := dq_of dqX10_keep_0 4 rfl
theorem dX10_keep_9 : decode cX10_keep 9 = .ok (.i2b, 1) := dq_of dqX10_keep_0 5 rfl
theorem dX10_keep_10 : decode cX10_keep 10 = .ok (.bastore, 1) := dq_of dqX10_keep_0 6 rfl
theorem dX10_keep_11 : decode cX10_keep 11 = .ok (.aload_n 0, 1) := dq_of dqX10_keep_0 7 rfl
theorem dX10_keep_12 : decode cX10_keep 12 = .ok (.dup, 1) := dq_of dqX10_keep_0 8 rfl
theorem dX10_keep_13 : decode cX10_keep 13 = .ok (.getfield 106, 3) := dq_of dqX10_keep_0 9 rfl
theorem dX10_keep_16 : decode cX10_keep 16 = .ok (.iconst 1, 1) := dq_of dqX10_keep_0 10 rfl
theorem dX10_keep_17 : decode cX10_keep 17 = .ok (.iadd, 1) := dq_of dqX10_keep_0 11 rfl
theorem dX10_keep_18 : decode cX10_keep 18 = .ok (.putfield 106, 3) := dq_of dqX10_keep_0 12 rfl
theorem dX10_keep_21 : decode cX10_keep 21 = .ok (.return_, 1) := dq_of dqX10_keep_0 13 rfl
theorem dqX10_semicolon_0 : ([(0, .aload_n 0, 1), (1, .getfield 100, 3), (4, .ifCond .ne 7, 3), (7, .iconst 0, 1), (8, .goto 14, 3), (11, .aload_n 0, 1), (12, .getfield 14, 3), (15, .aload_n 0, 1), (16, .getfield 100, 3), (19, .iconst 1, 1), (20, .isub, 1), (21, .iaload, 1), (22, .istore_n 1, 1), (23, .iload_n 1, 1), (24, .iconst 1, 1), (25, .if_icmp .lt 8, 3), (28, .iload_n 1, 1), (29, .iconst 5, 1), (30, .if_icmp .le 57, 3), (33, .iload_n 1, 1), (34, .bipush 10, 2), (36, .if_icmp .eq 51, 3), (39, .iload_n 1, 1), (40, .bipush 14, 2), (42, .if_icmp .eq 45, 3), (45, .iload_n 1, 1), (46, .bipush 18, 2), (48, .if_icmp .eq 39, 3), (51, .iload_n 1, 1), (52, .bipush 29, 2), (54, .if_icmp .eq 33, 3), (57, .iload_n 1, 1), (58, .bipush 65, 2), (60, .if_icmp .eq 27, 3), (63, .iload_n 1, 1), (64, .bipush 66, 2), (66, .if_icmp .eq 21, 3), (69, .iload_n 1, 1), (70, .bipush 79, 2), (72, .if_icmp .eq 15, 3)] : List (Nat × Instr × Nat)).all (fun q => decide (decode cX10_semicolon q.1 = .ok (q.2.1, q.2.2))) = true := by decide +kernel
theorem dX10_semicolon_0 : decode cX10_semicolon 0 = .ok (.aload_n 0, 1) := dq_of dqX10_semicolon_0 0 rfl
theorem dX10_semicolon_1 : decode cX10_semicolon 1 = .ok (.getfield 100, 3) := dq_of dqX10_semicolon_0 1 rfl
theorem dX10_semicolon_4 : decode cX10_semicolon 4 = .ok (.ifCond .ne 7, 3) := dq_of dqX10_semicolon_0 2 rfl
theorem dX10_semicolon_7 : decode cX10_semicolon 7 = .ok (.iconst 0, 1) := dq_of dqX10_semicolon_0 3 rfl
theorem dX10_semicolon_8 : decode cX10_semicolon 8 = .ok (.goto 14, 3) := dq_of dqX10_semicolon_0 4 rfl
theorem dX10_semicolon_11 : decode cX10_semicolon 11 = .ok (.aload_n 0, 1) := dq_of dqX10_semicolon_0 5 rfl
theorem dX10_semicolon_12 : decode cX10_semicolon 12 = .ok (.getfield 14, 3) := dq_of dqX10_semicolon_0 6 rfl
theorem dX10_semicolon_15 : decode cX10_semicolon 15 = .ok (.aload_n 0, 1) := dq_of dqX10_semicolon_0 7 rfl
theorem dX10_semicolon_16 : decode cX10_semicolon 16 = .ok (.getfield 100, 3) := dq_of dqX10_semicolon_0 8 rfl
theorem dX10_semicolon_19 : decode cX10_semicolon 19 = .ok (.iconst 1, 1) := dq_of dqX10_semicolon_0 9 rfl
theorem dX10_semicolon_20 : decode cX10_semicolon 20 = .ok (.isub, 1) := dq_of dqX10_semicolon_0 10 rfl
theorem dX10_semicolon_21 : decode cX10_semicolon 21 = .ok (.iaload, 1) := dq_of dqX10_semicolon_0 11 rfl
theorem dX10_semicolon_22 : decode cX10_semicolon 22 = .ok (.istore_n 1, 1) := dq_of dqX10_semicolon_0 12 rfl
theorem dX10_semicolon_23 : decode cX10_semicolon 23 = .ok (.iload_n 1, 1) := dq_of dqX10_semicolon_0 13 rfl
theorem dX10_semicolon_24 : decode cX10_semicolon 24 = .ok (.iconst 1, 1) := dq_of dqX10_semicolon_0 14 rfl
theorem dX10_semicolon_25 : decode cX10_semicolon 25 = .ok (.if_icmp .lt 8, 3) := dq_of dqX10_semicolon_0 15 rfl
theorem dX10_semicolon_28 : decode cX10_semicolon 28 = .ok (.iload_n 1, 1) := dq_of dqX10_semicolon_0 16 rfl
theorem dX10_semicolon_29 : decode cX10_semicolon 29 = .ok (.iconst 5, 1) := dq_of dqX10_semicolon_0 17 rfl
theorem dX10_semicolon_30 : decode cX10_semicolon 30 = .ok (.if_icmp .le 57, 3) := dq_of dqX10_semicolon_0 18 rfl
theorem dX10_semicolon_33 : decode cX10_semicolon 33 = .ok (.iload_n 1, 1) := dq_of dqX10_semicolon_0 19 rfl
theorem dX10_semicolon_34 : decode cX10_semicolon 34 = .ok (.bipush 10, 2) := dq_of dqX10_semicolon_0 20 rfl
theorem dX10_semicolon_36 : decode cX10_semicolon 36 = .ok (.if_icmp .eq 51, 3) := dq_of dqX10_semicolon_0 21 rfl
theorem dX10_semicolon_39 : decode cX10_semicolon 39 = .ok (.iload_n 1, 1) := dq_of dqX10_semicolon_0 22 rfl
theorem dX10_semicolon_40 : decode cX10_semicolon 40 = .ok (.bipush 14, 2) := dq_of dqX10_semicolon_0 23 rfl
theorem dX10_semicolon_42 : decode cX10_semicolon 42 = .ok (.if_icmp .eq 45, 3) := dq_of dqX10_semicolon_0 24 rfl
theorem dX10_semicolon_45 : decode cX10_semicolon 45 = .ok (.iload_n 1, 1) := dq_of dqX10_semicolon_0 25 rfl
theorem dX10_semicolon_46 : decode cX10_semicolon 46 = .ok (.bipush 18, 2) := dq_of dqX10_semicolon_0 26 rfl
theorem dX10_semicolon_48 : decode cX10_semicolon 48 = .ok (.if_icmp .eq 39, 3) := dq_of dqX10_semicolon_0 27 rfl
theorem dX10_semicolon_51 : decode cX10_semicolon 51 = .ok (.iload_n 1, 1) := dq_of dqX10_semicolon_0 28 rfl
theorem dX10_semicolon_52 : decode cX10_semicolon 52 = .ok (.bipush 29, 2) := dq_of dqX10_semicolon_0 29 rfl
theorem dX10_semicolon_54 : decode cX10_semicolon 54 = .ok (.if_icmp .eq 33, 3) := dq_of dqX10_semicolon_0 30 rfl
theorem dX10_semicolon_57 : decode cX10_semicolon 57 = .ok (.iload_n 1, 1) := dq_of dqX10_semicolon_0 31 rfl
theorem dX10_semicolon_58 : decode cX10_semicolon 58 = .ok (.bipush 65, 2) := dq_of dqX10_semicolon_0 32 rfl
theorem dX10_semicolon_60 : decode cX10_semicolon 60 = .ok (.if_icmp .eq 27, 3) := dq_of dqX10_semicolon_0 33 rfl
theorem dX10_semicolon_63 : decode cX10_semicolon 63 = .ok (.iload_n 1, 1) := dq_of dqX10_semicolon_0 34 rfl
theorem dX10_semicolon_64 : decode cX10_semicolon 64 = .ok (.bipush 66, 2) := dq_of dqX10_semicolon_0 35 rfl
theorem dX10_semicolon_66 : decode cX10_semicolon 66 = .ok (.if_icmp .eq 21, 3) := dq_of dqX10_semicolon_0 36 rfl
theorem dX10_semicolon_69 : decode cX10_semicolon 69 = .ok (.iload_n 1, 1) := dq_of dqX10_semicolon_0 37 rfl
theorem dX10_semicolon_70 : decode cX10_semicolon 70 = .ok (.bipush 79, 2) := dq_of dqX10_semicolon_0 38 rfl
theorem dX10_semicolon_72 : decode cX10_semicolon 72 = .ok (.if_icmp .eq 15, 3) := dq_of dqX10_semicolon_0 39 rfl
theorem dqX10_semicolon_75 : ([(75, .iload_n 1, 1), (76, .bipush 81, 2), (78, .if_icmp .eq 9, 3), (81, .iload_n 1, 1), (82, .bipush 83, 2), (84, .if_icmp .ne 7, 3), (87, .iconst 1, 1), (88, .goto 4, 3), (91, .iconst 0, 1), (92, .istore_n 2, 1), (93, .iload_n 2, 1), (94, .ifCond .eq 11, 3), (97, .aload_n 0, 1), (98, .bipush 85, 2), (100, .iconst 0, 1), (101, .iconst 1, 1), (102, .invokevirtual 109, 3), (105, .return_, 1)] : List (Nat × Instr × Nat)).all (fun q => decide (decode cX10_semicolon q.1 = .ok (q.2.1, q.2.2))) = true := by decide +kernel
theorem dX10_semicolon_75 : decode cX10_semicolon 75 = .ok (.iload_n 1, 1) := dq_of dqX10_semicolon_75 0 rfl
theorem dX10_semicolon_76 : decode cX10_semicolon 76 = .ok (.bipush 81, 2) := dq_of dqX10_semicolon_75 1 rfl
theorem dX10_semicolon_78 : decode cX10_semicolon 78 = .ok (.if_icmp .eq 9, 3) := dq_of dqX10_semicolon_75 2 rfl
theorem dX10_semicolon_81 : decode cX10_semicolon 81 = .ok (.iload_n 1, 1) := dq_of dqX10_semicolon_75 3 rfl
theorem dX10_semicolon_82 : decode cX10_semicolon 82 = .ok (.bipush 83, 2) := dq_of dqX10_semicolon_75 4 rfl
theorem dX10_semicolon_84 : decode cX10_semicolon 84 = .ok (.if_icmp .ne 7, 3) := dq_of dqX10_semicolon_75 5 rfl
theorem dX10_semicolon_87 : decode cX10_semicolon 87 = .ok (.iconst 1, 1) := dq_of dqX10_semicolon_75 6 rfl
theorem dX10_semicolon_88 : decode cX10_semicolon 88 = .ok (.goto 4, 3) := dq_of dqX10_semicolon_75 7 rfl
theorem dX10_semicolon_91 : decode cX10_semicolon 91 = .ok (.iconst 0, 1) := dq_of dqX10_semicolon_75 8 rfl
theorem dX10_semicolon_92 : decode cX10_semicolon 92 = .ok (.istore_n 2, 1) := dq_of dqX10_semicolon_75 9 rfl
theorem dX10_semicolon_93 : decode cX10_semicolon 93 = .ok (.iload_n 2, 1) := dq_of dqX10_semicolon_75 10 rfl
theorem dX10_semicolon_94 : decode cX10_semicolon 94 = .ok (.ifCond .eq 11, 3) := dq_of dqX10_semicolon_75 11 rfl
theorem dX10_semicolon_97 : decode cX10_semicolon 97 = .ok (.aload_n 0, 1) := dq_of dqX10_semicolon_75 12 rfl
theorem dX10_semicolon_98 : decode cX10_semicolon 98 = .ok (.bipush 85, 2) := dq_of dqX10_semicolon_75 13 rfl
theorem dX10_semicolon_100 : decode cX10_semicolon 100 = .ok (.iconst 0, 1) := dq_of dqX10_semicolon_75 14 rfl
theorem dX10_semicolon_101 : decode cX10_semicolon 101 = .ok (.iconst 1, 1) := dq_of dqX10_semicolon_75 15 rfl
theorem dX10_semicolon_102 : decode cX10_semicolon 102 = .ok (.invokevirtual 109, 3) := dq_of dqX10_semicolon_75 16 rfl
theorem dX10_semicolon_105 : decode cX10_semicolon 105 = .ok (.return_, 1) := dq_of dqX10_semicolon_75 17 rfl
theorem dqX10_wordOf_0 : ([(0, .iconst 0, 1), (1, .istore_n 1, 1), (2, .iconst 0, 1), (3, .istore_n 2, 1), (4, .iload_n 2, 1), (5, .ldc 113, 2), (7, .invokevirtual 115, 3), (10, .if_icmp .ge 105, 3), (13, .iconst 0, 1), (14, .istore_n 3, 1), (15, .iconst 1, 1), (16, .istore 4, 2), (18, .ldc 113, 2), (20, .iload_n 2, 1), (21, .iload_n 3, 1), (22, .iadd, 1), (23, .invokevirtual 120, 3), (26, .bipush 32, 2), (28, .if_icmp .eq 55, 3), (31, .iload 4, 2), (33, .ifCond .eq 41, 3), (36, .iload_n 3, 1), (37, .aload_n 0, 1), (38, .getfield 79, 3), (41, .aload_n 0, 1), (42, .getfield 85, 3), (45, .isub, 1), (46, .if_icmp .ge 28, 3), (49, .ldc 113, 2), (51, .iload_n 2, 1), (52, .iload_n 3, 1), (53, .iadd, 1), (54, .invokevirtual 120, 3), (57, .aload_n 0, 1), (58, .aload_n 0, 1), (59, .getfield 85, 3), (62, .iload_n 3, 1), (63, .iadd, 1), (64, .invokevirtual 124, 3), (67, .if_icmp .ne 7, 3)] : List (Nat × Instr × Nat)).all (fun q => decide (decode cX10_wordOf q.1 = .ok (q.2.1, q.2.2))) = true := by decide +kernel
theorem dX10_wordOf_0 : decode cX10_wordOf 0 = .ok (.iconst 0, 1) := dq_of dqX10_wordOf_0 0 rfl
theorem dX10_wordOf_1 : decode cX10_wordOf 1 = .ok (.istore_n 1, 1) := dq_of dqX10_wordOf_0 1 rfl
theorem dX10_wordOf_2 : decode cX10_wordOf 2 = .ok (.iconst 0, 1) := dq_of dqX10_wordOf_0 2 rfl
theorem dX10_wordOf_3 : decode cX10_wordOf 3 = .ok (.istore_n 2, 1) := dq_of dqX10_wordOf_0 3 rfl
theorem dX10_wordOf_4 : decode cX10_wordOf 4 = .ok (.iload_n 2, 1) := dq_of dqX10_wordOf_0 4 rfl
theorem dX10_wordOf_5 : decode cX10_wordOf 5 = .ok (.ldc 113, 2) := dq_of dqX10_wordOf_0 5 rfl
theorem dX10_wordOf_7 : decode cX10_wordOf 7 = .ok (.invokevirtual 115, 3) := dq_of dqX10_wordOf_0 6 rfl
theorem dX10_wordOf_10 : decode cX10_wordOf 10 = .ok (.if_icmp .ge 105, 3) := dq_of dqX10_wordOf_0 7 rfl
theorem dX10_wordOf_13 : decode cX10_wordOf 13 = .ok (.iconst 0, 1) := dq_of dqX10_wordOf_0 8 rfl
theorem dX10_wordOf_14 : decode cX10_wordOf 14 = .ok (.istore_n 3, 1) := dq_of dqX10_wordOf_0 9 rfl
theorem dX10_wordOf_15 : decode cX10_wordOf 15 = .ok (.iconst 1, 1) := dq_of dqX10_wordOf_0 10 rfl
theorem dX10_wordOf_16 : decode cX10_wordOf 16 = .ok (.istore 4, 2) := dq_of dqX10_wordOf_0 11 rfl
theorem dX10_wordOf_18 : decode cX10_wordOf 18 = .ok (.ldc 113, 2) := dq_of dqX10_wordOf_0 12 rfl
theorem dX10_wordOf_20 : decode cX10_wordOf 20 = .ok (.iload_n 2, 1) := dq_of dqX10_wordOf_0 13 rfl
theorem dX10_wordOf_21 : decode cX10_wordOf 21 = .ok (.iload_n 3, 1) := dq_of dqX10_wordOf_0 14 rfl
theorem dX10_wordOf_22 : decode cX10_wordOf 22 = .ok (.iadd, 1) := dq_of dqX10_wordOf_0 15 rfl
theorem dX10_wordOf_23 : decode cX10_wordOf 23 = .ok (.invokevirtual 120, 3) := dq_of dqX10_wordOf_0 16 rfl
theorem dX10_wordOf_26 : decode cX10_wordOf 26 = .ok (.bipush 32, 2) := dq_of dqX10_wordOf_0 17 rfl
theorem dX10_wordOf_28 : decode cX10_wordOf 28 = .ok (.if_icmp .eq 55, 3) := dq_of dqX10_wordOf_0 18 rfl
theorem dX10_wordOf_31 : decode cX10_wordOf 31 = .ok (.iload 4, 2) := dq_of dqX10_wordOf_0 19 rfl
theorem dX10_wordOf_33 : decode cX10_wordOf 33 = .ok (.ifCond .eq 41, 3) := dq_of dqX10_wordOf_0 20 rfl
theorem dX10_wordOf_36 : decode cX10_wordOf 36 = .ok (.iload_n 3, 1) := dq_of dqX10_wordOf_0 21 rfl
theorem dX10_wordOf_37 : decode cX10_wordOf 37 = .ok (.aload_n 0, 1) := dq_of dqX10_wordOf_0 22 rfl
theorem dX10_wordOf_38 : decode cX10_wordOf 38 = .ok (.getfield 79, 3) := dq_of dqX10_wordOf_0 23 rfl
theorem dX10_wordOf_41 : decode cX10_wordOf 41 = .ok (.aload_n 0, 1) := dq_of dqX10_wordOf_0 24 rfl
theorem dX10_wordOf_42 : decode cX10_wordOf 42 = .ok (.getfield 85, 3) := dq_of dqX10_wordOf_0 25 rfl
theorem dX10_wordOf_45 : decode cX10_wordOf 45 = .ok (.isub, 1) := dq_of dqX10_wordOf_0 26 rfl
theorem dX10_wordOf_46 : decode cX10_wordOf 46 = .ok (.if_icmp .ge 28, 3) := dq_of dqX10_wordOf_0 27 rfl
theorem dX10_wordOf_49 : decode cX10_wordOf 49 = .ok (.ldc 113, 2) := dq_of dqX10_wordOf_0 28 rfl
theorem dX10_wordOf_51 : decode cX10_wordOf 51 = .ok (.iload_n 2, 1) := dq_of dqX10_wordOf_0 29 rfl
theorem dX10_wordOf_52 : decode cX10_wordOf 52 = .ok (.iload_n 3, 1) := dq_of dqX10_wordOf_0 30 rfl
theorem dX10_wordOf_53 : decode cX10_wordOf 53 = .ok (.iadd, 1) := dq_of dqX10_wordOf_0 31 rfl
theorem dX10_wordOf_54 : decode cX10_wordOf 54 = .ok (.invokevirtual 120, 3) := dq_of dqX10_wordOf_0 32 rfl
theorem dX10_wordOf_57 : decode cX10_wordOf 57 = .ok (.aload_n 0, 1) := dq_of dqX10_wordOf_0 33 rfl
theorem dX10_wordOf_58 : decode cX10_wordOf 58 = .ok (.aload_n 0, 1) := dq_of dqX10_wordOf_0 34 rfl
theorem dX10_wordOf_59 : decode cX10_wordOf 59 = .ok (.getfield 85, 3) := dq_of dqX10_wordOf_0 35 rfl
theorem dX10_wordOf_62 : decode cX10_wordOf 62 = .ok (.iload_n 3, 1) := dq_of dqX10_wordOf_0 36 rfl
theorem dX10_wordOf_63 : decode cX10_wordOf 63 = .ok (.iadd, 1) := dq_of dqX10_wordOf_0 37 rfl
theorem dX10_wordOf_64 : decode cX10_wordOf 64 = .ok (.invokevirtual 124, 3) := dq_of dqX10_wordOf_0 38 rfl
theorem dX10_wordOf_67 : decode cX10_wordOf 67 = .ok (.if_icmp .ne 7, 3) := dq_of dqX10_wordOf_0 39 rfl
theorem dqX10_wordOf_70 : ([(70, .iconst 1, 1), (71, .goto 4, 3), (74, .iconst 0, 1), (75, .istore 4, 2), (77, .iinc 3 1, 3), (80, .goto (-62), 3), (83, .iload 4, 2), (85, .ifCond .eq 18, 3), (88, .iload_n 3, 1), (89, .aload_n 0, 1), (90, .getfield 79, 3), (93, .aload_n 0, 1), (94, .getfield 85, 3), (97, .isub, 1), (98, .if_icmp .ne 5, 3), (101, .iload_n 1, 1), (102, .ireturn, 1), (103, .iload_n 2, 1), (104, .iload_n 3, 1), (105, .iconst 1, 1), (106, .iadd, 1), (107, .iadd, 1), (108, .istore_n 2, 1), (109, .iinc 1 1, 3), (112, .goto (-108), 3), (115, .iconst (-1), 1), (116, .ireturn, 1)] : List (Nat × Instr × Nat)).all (fun q => decide (decode cX10_wordOf q.1 = .ok (q.2.1, q.2.2))) = true := by decide +kernel
theorem dX10_wordOf_70 : decode cX10_wordOf 70 = .ok (.iconst 1, 1) := dq_of dqX10_wordOf_70 0 rfl
theorem dX10_wordOf_71 : decode cX10_wordOf 71 = .ok (.goto 4, 3) := dq_of dqX10_wordOf_70 1 rfl
theorem dX10_wordOf_74 : decode cX10_wordOf 74 = .ok (.iconst 0, 1) := dq_of dqX10_wordOf_70 2 rfl
theorem dX10_wordOf_75 : decode cX10_wordOf 75 = .ok (.istore 4, 2) := dq_of dqX10_wordOf_70 3 rfl
theorem dX10_wordOf_77 : decode cX10_wordOf 77 = .ok (.iinc 3 1, 3) := dq_of dqX10_wordOf_70 4 rfl
theorem dX10_wordOf_80 : decode cX10_wordOf 80 = .ok (.goto (-62), 3) := dq_of dqX10_wordOf_70 5 rfl
theorem dX10_wordOf_83 : decode cX10_wordOf 83 = .ok (.iload 4, 2) := dq_of dqX10_wordOf_70 6 rfl
theorem dX10_wordOf_85 : decode cX10_wordOf 85 = .ok (.ifCond .eq 18, 3) := dq_of dqX10_wordOf_70 7 rfl
theorem dX10_wordOf_88 : decode cX10_wordOf 88 = .ok (.iload_n 3, 1) := dq_of dqX10_wordOf_70 8 rfl
theorem dX10_wordOf_89 : decode cX10_wordOf 89 = .ok (.aload_n 0, 1) := dq_of dqX10_wordOf_70 9 rfl
theorem dX10_wordOf_90 : decode cX10_wordOf 90 = .ok (.getfield 79, 3) := dq_of dqX10_wordOf_70 10 rfl
theorem dX10_wordOf_93 : decode cX10_wordOf 93 = .ok (.aload_n 0, 1) := dq_of dqX10_wordOf_70 11 rfl
theorem dX10_wordOf_94 : decode cX10_wordOf 94 = .ok (.getfield 85, 3) := dq_of dqX10_wordOf_70 12 rfl
theorem dX10_wordOf_97 : decode cX10_wordOf 97 = .ok (.isub, 1) := dq_of dqX10_wordOf_70 13 rfl
theorem dX10_wordOf_98 : decode cX10_wordOf 98 = .ok (.if_icmp .ne 5, 3) := dq_of dqX10_wordOf_70 14 rfl
theorem dX10_wordOf_101 : decode cX10_wordOf 101 = .ok (.iload_n 1, 1) := dq_of dqX10_wordOf_70 15 rfl
theorem dX10_wordOf_102 : decode cX10_wordOf 102 = .ok (.ireturn, 1) := dq_of dqX10_wordOf_70 16 rfl
theorem dX10_wordOf_103 : decode cX10_wordOf 103 = .ok (.iload_n 2, 1) := dq_of dqX10_wordOf_70 17 rfl
theorem dX10_wordOf_104 : decode cX10_wordOf 104 = .ok (.iload_n 3, 1) := dq_of dqX10_wordOf_70 18 rfl
theorem dX10_wordOf_105 : decode cX10_wordOf 105 = .ok (.iconst 1, 1) := dq_of dqX10_wordOf_70 19 rfl
theorem dX10_wordOf_106 : decode cX10_wordOf 106 = .ok (.iadd, 1) := dq_of dqX10_wordOf_70 20 rfl
theorem dX10_wordOf_107 : decode cX10_wordOf 107 = .ok (.iadd, 1) := dq_of dqX10_wordOf_70 21 rfl
theorem dX10_wordOf_108 : decode cX10_wordOf 108 = .ok (.istore_n 2, 1) := dq_of dqX10_wordOf_70 22 rfl
theorem dX10_wordOf_109 : decode cX10_wordOf 109 = .ok (.iinc 1 1, 3) := dq_of dqX10_wordOf_70 23 rfl
theorem dX10_wordOf_112 : decode cX10_wordOf 112 = .ok (.goto (-108), 3) := dq_of dqX10_wordOf_70 24 rfl
theorem dX10_wordOf_115 : decode cX10_wordOf 115 = .ok (.iconst (-1), 1) := dq_of dqX10_wordOf_70 25 rfl
theorem dX10_wordOf_116 : decode cX10_wordOf 116 = .ok (.ireturn, 1) := dq_of dqX10_wordOf_70 26 rfl
theorem dqX10_sameName_0 : ([(0, .aload_n 0, 1), (1, .getfield 27, 3), (4, .iload_n 1, 1), (5, .iaload, 1), (6, .aload_n 0, 1), (7, .getfield 79, 3), (10, .aload_n 0, 1), (11, .getfield 85, 3), (14, .isub, 1), (15, .if_icmp .ne 7, 3), (18, .iconst 1, 1), (19, .goto 4, 3), (22, .iconst 0, 1), (23, .istore_n 2, 1), (24, .iconst 0, 1), (25, .istore_n 3, 1), (26, .iload_n 3, 1), (27, .aload_n 0, 1), (28, .getfield 27, 3), (31, .iload_n 1, 1), (32, .iaload, 1), (33, .if_icmp .ge 44, 3), (36, .iload_n 2, 1), (37, .ifCond .eq 40, 3), (40, .aload_n 0, 1), (41, .aload_n 0, 1), (42, .getfield 18, 3), (45, .iload_n 1, 1), (46, .iaload, 1), (47, .iload_n 3, 1), (48, .iadd, 1), (49, .invokevirtual 124, 3), (52, .aload_n 0, 1), (53, .aload_n 0, 1), (54, .getfield 85, 3), (57, .iload_n 3, 1), (58, .iadd, 1), (59, .invokevirtual 124, 3), (62, .if_icmp .ne 7, 3), (65, .iconst 1, 1)] : List (Nat × Instr × Nat)).all (fun q => decide (decode cX10_sameName q.1 = .ok (q.2.1, q.2.2))) = true := by decide +kernel
theorem dX10_sameName_0 : decode cX10_sameName 0 = .ok (.aload_n 0, 1) := dq_of dqX10_sameName_0 0 rfl
theorem dX10_sameName_1 : decode cX10_sameName 1 = .ok (.getfield 27, 3) := dq_of dqX10_sameName_0 1 rfl
theorem dX10_sameName_4 : decode cX10_sameName 4 = .ok (.iload_n 1, 1) := dq_of dqX10_sameName_0 2 rfl
theorem dX10_sameName_5 : decode cX10_sameName 5 = .ok (.iaload, 1) := dq_of dqX10_sameName_0 3 rfl
theorem dX10_sameName_6 : decode cX10_sameName 6 = .ok (.aload_n 0, 1) := dq_of dqX10_sameName_0 4 rfl
theorem dX10_sameName_7 : decode cX10_sameName 7 = .ok (.getfield 79, 3) := dq_of dqX10_sameName_0 5 rfl
theorem dX10_sameName_10 : decode cX10_sameName 10 = .ok (.aload_n 0, 1) := dq_of dqX10_sameName_0 6 rfl
theorem dX10_sameName_11 : decode cX10_sameName 11 = .ok (.getfield 85, 3) := dq_of dqX10_sameName_0 7 rfl
theorem dX10_sameName_14 : decode cX10_sameName 14 = .ok (.isub, 1) := dq_of dqX10_sameName_0 8 rfl
theorem dX10_sameName_15 : decode cX10_sameName 15 = .ok (.if_icmp .ne 7, 3) := dq_of dqX10_sameName_0 9 rfl
theorem dX10_sameName_18 : decode cX10_sameName 18 = .ok (.iconst 1, 1) := dq_of dqX10_sameName_0 10 rfl
theorem dX10_sameName_19 : decode cX10_sameName 19 = .ok (.goto 4, 3) := dq_of dqX10_sameName_0 11 rfl
theorem dX10_sameName_22 : decode cX10_sameName 22 = .ok (.iconst 0, 1) := dq_of dqX10_sameName_0 12 rfl
theorem dX10_sameName_23 : decode cX10_sameName 23 = .ok (.istore_n 2, 1) := dq_of dqX10_sameName_0 13 rfl
theorem dX10_sameName_24 : decode cX10_sameName 24 = .ok (.iconst 0, 1) := dq_of dqX10_sameName_0 14 rfl
theorem dX10_sameName_25 : decode cX10_sameName 25 = .ok (.istore_n 3, 1) := dq_of dqX10_sameName_0 15 rfl
theorem dX10_sameName_26 : decode cX10_sameName 26 = .ok (.iload_n 3, 1) := dq_of dqX10_sameName_0 16 rfl
theorem dX10_sameName_27 : decode cX10_sameName 27 = .ok (.aload_n 0, 1) := dq_of dqX10_sameName_0 17 rfl
theorem dX10_sameName_28 : decode cX10_sameName 28 = .ok (.getfield 27, 3) := dq_of dqX10_sameName_0 18 rfl
theorem dX10_sameName_31 : decode cX10_sameName 31 = .ok (.iload_n 1, 1) := dq_of dqX10_sameName_0 19 rfl
theorem dX10_sameName_32 : decode cX10_sameName 32 = .ok (.iaload, 1) := dq_of dqX10_sameName_0 20 rfl
theorem dX10_sameName_33 : decode cX10_sameName 33 = .ok (.if_icmp .ge 44, 3) := dq_of dqX10_sameName_0 21 rfl
theorem dX10_sameName_36 : decode cX10_sameName 36 = .ok (.iload_n 2, 1) := dq_of dqX10_sameName_0 22 rfl
theorem dX10_sameName_37 : decode cX10_sameName 37 = .ok (.ifCond .eq 40, 3) := dq_of dqX10_sameName_0 23 rfl
theorem dX10_sameName_40 : decode cX10_sameName 40 = .ok (.aload_n 0, 1) := dq_of dqX10_sameName_0 24 rfl
theorem dX10_sameName_41 : decode cX10_sameName 41 = .ok (.aload_n 0, 1) := dq_of dqX10_sameName_0 25 rfl
theorem dX10_sameName_42 : decode cX10_sameName 42 = .ok (.getfield 18, 3) := dq_of dqX10_sameName_0 26 rfl
theorem dX10_sameName_45 : decode cX10_sameName 45 = .ok (.iload_n 1, 1) := dq_of dqX10_sameName_0 27 rfl
theorem dX10_sameName_46 : decode cX10_sameName 46 = .ok (.iaload, 1) := dq_of dqX10_sameName_0 28 rfl
theorem dX10_sameName_47 : decode cX10_sameName 47 = .ok (.iload_n 3, 1) := dq_of dqX10_sameName_0 29 rfl
theorem dX10_sameName_48 : decode cX10_sameName 48 = .ok (.iadd, 1) := dq_of dqX10_sameName_0 30 rfl
theorem dX10_sameName_49 : decode cX10_sameName 49 = .ok (.invokevirtual 124, 3) := dq_of dqX10_sameName_0 31 rfl
theorem dX10_sameName_52 : decode cX10_sameName 52 = .ok (.aload_n 0, 1) := dq_of dqX10_sameName_0 32 rfl
theorem dX10_sameName_53 : decode cX10_sameName 53 = .ok (.aload_n 0, 1) := dq_of dqX10_sameName_0 33 rfl
theorem dX10_sameName_54 : decode cX10_sameName 54 = .ok (.getfield 85, 3) := dq_of dqX10_sameName_0 34 rfl
theorem dX10_sameName_57 : decode cX10_sameName 57 = .ok (.iload_n 3, 1) := dq_of dqX10_sameName_0 35 rfl
theorem dX10_sameName_58 : decode cX10_sameName 58 = .ok (.iadd, 1) := dq_of dqX10_sameName_0 36 rfl
theorem dX10_sameName_59 : decode cX10_sameName 59 = .ok (.invokevirtual 124, 3) := dq_of dqX10_sameName_0 37 rfl
theorem dX10_sameName_62 : decode cX10_sameName 62 = .ok (.if_icmp .ne 7, 3) := dq_of dqX10_sameName_0 38 rfl
theorem dX10_sameName_65 : decode cX10_sameName 65 = .ok (.iconst 1, 1) := dq_of dqX10_sameName_0 39 rfl
theorem dqX10_sameName_66 : ([(66, .goto 4, 3), (69, .iconst 0, 1), (70, .istore_n 2, 1), (71, .iinc 3 1, 3), (74, .goto (-48), 3), (77, .iload_n 2, 1), (78, .ireturn, 1)] : List (Nat × Instr × Nat)).all (fun q => decide (decode cX10_sameName q.1 = .ok (q.2.1, q.2.2))) = true := by decide +kernel
theorem dX10_sameName_66 : decode cX10_sameName 66 = .ok (.goto 4, 3) := dq_of dqX10_sameName_66 0 rfl
theorem dX10_sameName_69 : decode cX10_sameName 69 = .ok (.iconst 0, 1) := dq_of dqX10_sameName_66 1 rfl
theorem dX10_sameName_70 : decode cX10_sameName 70 = .ok (.istore_n 2, 1) := dq_of dqX10_sameName_66 2 rfl
theorem dX10_sameName_71 : decode cX10_sameName 71 = .ok (.iinc 3 1, 3) := dq_of dqX10_sameName_66 3 rfl
theorem dX10_sameName_74 : decode cX10_sameName 74 = .ok (.goto (-48), 3) := dq_of dqX10_sameName_66 4 rfl
theorem dX10_sameName_77 : decode cX10_sameName 77 = .ok (.iload_n 2, 1) := dq_of dqX10_sameName_66 5 rfl
theorem dX10_sameName_78 : decode cX10_sameName 78 = .ok (.ireturn, 1) := dq_of dqX10_sameName_66 6 rfl
theorem dqX10_name_0 : ([(0, .aload_n 0, 1), (1, .invokevirtual 128, 3), (4, .istore_n 1, 1), (5, .aload_n 0, 1), (6, .iload_n 1, 1), (7, .ifCond .ge 7, 3), (10, .iconst 1, 1), (11, .goto 7, 3), (14, .bipush 10, 2), (16, .iload_n 1, 1), (17, .iadd, 1), (18, .aload_n 0, 1), (19, .getfield 79, 3), (22, .aload_n 0, 1), (23, .getfield 85, 3), (26, .isub, 1), (27, .iconst 0, 1), (28, .invokevirtual 109, 3), (31, .aload_n 0, 1), (32, .getfield 76, 3), (35, .ifCond .lt 4, 3), (38, .return_, 1), (39, .aload_n 0, 1), (40, .getfield 85, 3), (43, .istore_n 2, 1), (44, .iload_n 2, 1), (45, .aload_n 0, 1), (46, .getfield 79, 3), (49, .if_icmp .ge 18, 3), (52, .aload_n 0, 1), (53, .aload_n 0, 1), (54, .iload_n 2, 1), (55, .invokevirtual 124, 3), (58, .invokevirtual 131, 3), (61, .iinc 2 1, 3), (64, .goto (-20), 3), (67, .aload_n 0, 1), (68, .getfield 43, 3), (71, .aload_n 0, 1), (72, .getfield 100, 3)] : List (Nat × Instr × Nat)).all (fun q => decide (decode cX10_name q.1 = .ok (q.2.1, q.2.2))) = true := by decide +kernel
theorem dX10_name_0 : decode cX10_name 0 = .ok (.aload_n 0, 1) := dq_of dqX10_name_0 0 rfl
theorem dX10_name_1 : decode cX10_name 1 = .ok (.invokevirtual 128, 3) := dq_of dqX10_name_0 1 rfl
theorem dX10_name_4 : decode cX10_name 4 = .ok (.istore_n 1, 1) := dq_of dqX10_name_0 2 rfl
theorem dX10_name_5 : decode cX10_name 5 = .ok (.aload_n 0, 1) := dq_of dqX10_name_0 3 rfl
theorem dX10_name_6 : decode cX10_name 6 = .ok (.iload_n 1, 1) := dq_of dqX10_name_0 4 rfl
theorem dX10_name_7 : decode cX10_name 7 = .ok (.ifCond .ge 7, 3) := dq_of dqX10_name_0 5 rfl
theorem dX10_name_10 : decode cX10_name 10 = .ok (.iconst 1, 1) := dq_of dqX10_name_0 6 rfl
theorem dX10_name_11 : decode cX10_name 11 = .ok (.goto 7, 3) := dq_of dqX10_name_0 7 rfl
theorem dX10_name_14 : decode cX10_name 14 = .ok (.bipush 10, 2) := dq_of dqX10_name_0 8 rfl
theorem dX10_name_16 : decode cX10_name 16 = .ok (.iload_n 1, 1) := dq_of dqX10_name_0 9 rfl
theorem dX10_name_17 : decode cX10_name 17 = .ok (.iadd, 1) := dq_of dqX10_name_0 10 rfl
theorem dX10_name_18 : decode cX10_name 18 = .ok (.aload_n 0, 1) := dq_of dqX10_name_0 11 rfl
theorem dX10_name_19 : decode cX10_name 19 = .ok (.getfield 79, 3) := dq_of dqX10_name_0 12 rfl
theorem dX10_name_22 : decode cX10_name 22 = .ok (.aload_n 0, 1) := dq_of dqX10_name_0 13 rfl
theorem dX10_name_23 : decode cX10_name 23 = .ok (.getfield 85, 3) := dq_of dqX10_name_0 14 rfl
theorem dX10_name_26 : decode cX10_name 26 = .ok (.isub, 1) := dq_of dqX10_name_0 15 rfl
theorem dX10_name_27 : decode cX10_name 27 = .ok (.iconst 0, 1) := dq_of dqX10_name_0 16 rfl
theorem dX10_name_28 : decode cX10_name 28 = .ok (.invokevirtual 109, 3) := dq_of dqX10_name_0 17 rfl
theorem dX10_name_31 : decode cX10_name 31 = .ok (.aload_n 0, 1) := dq_of dqX10_name_0 18 rfl
theorem dX10_name_32 : decode cX10_name 32 = .ok (.getfield 76, 3) := dq_of dqX10_name_0 19 rfl
theorem dX10_name_35 : decode cX10_name 35 = .ok (.ifCond .lt 4, 3) := dq_of dqX10_name_0 20 rfl
theorem dX10_name_38 : decode cX10_name 38 = .ok (.return_, 1) := dq_of dqX10_name_0 21 rfl
theorem dX10_name_39 : decode cX10_name 39 = .ok (.aload_n 0, 1) := dq_of dqX10_name_0 22 rfl
theorem dX10_name_40 : decode cX10_name 40 = .ok (.getfield 85, 3) := dq_of dqX10_name_0 23 rfl
theorem dX10_name_43 : decode cX10_name 43 = .ok (.istore_n 2, 1) := dq_of dqX10_name_0 24 rfl
theorem dX10_name_44 : decode cX10_name 44 = .ok (.iload_n 2, 1) := dq_of dqX10_name_0 25 rfl
theorem dX10_name_45 : decode cX10_name 45 = .ok (.aload_n 0, 1) := dq_of dqX10_name_0 26 rfl
theorem dX10_name_46 : decode cX10_name 46 = .ok (.getfield 79, 3) := dq_of dqX10_name_0 27 rfl
theorem dX10_name_49 : decode cX10_name 49 = .ok (.if_icmp .ge 18, 3) := dq_of dqX10_name_0 28 rfl
theorem dX10_name_52 : decode cX10_name 52 = .ok (.aload_n 0, 1) := dq_of dqX10_name_0 29 rfl
theorem dX10_name_53 : decode cX10_name 53 = .ok (.aload_n 0, 1) := dq_of dqX10_name_0 30 rfl
theorem dX10_name_54 : decode cX10_name 54 = .ok (.iload_n 2, 1) := dq_of dqX10_name_0 31 rfl
theorem dX10_name_55 : decode cX10_name 55 = .ok (.invokevirtual 124, 3) := dq_of dqX10_name_0 32 rfl
theorem dX10_name_58 : decode cX10_name 58 = .ok (.invokevirtual 131, 3) := dq_of dqX10_name_0 33 rfl
theorem dX10_name_61 : decode cX10_name 61 = .ok (.iinc 2 1, 3) := dq_of dqX10_name_0 34 rfl
theorem dX10_name_64 : decode cX10_name 64 = .ok (.goto (-20), 3) := dq_of dqX10_name_0 35 rfl
theorem dX10_name_67 : decode cX10_name 67 = .ok (.aload_n 0, 1) := dq_of dqX10_name_0 36 rfl
theorem dX10_name_68 : decode cX10_name 68 = .ok (.getfield 43, 3) := dq_of dqX10_name_0 37 rfl
theorem dX10_name_71 : decode cX10_name 71 = .ok (.aload_n 0, 1) := dq_of dqX10_name_0 38 rfl
theorem dX10_name_72 : decode cX10_name 72 = .ok (.getfield 100, 3) := dq_of dqX10_name_0 39 rfl
theorem dqX10_name_75 : ([(75, .iconst 1, 1), (76, .isub, 1), (77, .aload_n 0, 1), (78, .getfield 79, 3), (81, .aload_n 0, 1), (82, .getfield 85, 3), (85, .isub, 1), (86, .iastore, 1), (87, .iload_n 1, 1), (88, .ifCond .lt 4, 3), (91, .return_, 1), (92, .aload_n 0, 1), (93, .aload_n 0, 1), (94, .getfield 85, 3), (97, .invokevirtual 124, 3), (100, .bipush 37, 2), (102, .imul, 1), (103, .aload_n 0, 1), (104, .aload_n 0, 1), (105, .getfield 79, 3), (108, .iconst 1, 1), (109, .isub, 1), (110, .invokevirtual 124, 3), (113, .bipush 11, 2), (115, .imul, 1), (116, .iadd, 1), (117, .aload_n 0, 1), (118, .aload_n 0, 1), (119, .getfield 85, 3), (122, .aload_n 0, 1), (123, .getfield 79, 3), (126, .iadd, 1), (127, .iconst 2, 1), (128, .idiv, 1), (129, .invokevirtual 124, 3), (132, .bipush 101, 2), (134, .imul, 1), (135, .iadd, 1), (136, .aload_n 0, 1), (137, .getfield 79, 3)] : List (Nat × Instr × Nat)).all (fun q => decide (decode cX10_name q.1 = .ok (q.2.1, q.2.2))) = true := by decide +kernel
theorem dX10_name_75 : decode cX10_name 75 = .ok (.iconst 1, 1) := dq_of dqX10_name_75 0 rfl
theorem dX10_name_76 : decode cX10_name 76 = .ok (.isub, 1) := dq_of dqX10_name_75 1 rfl
theorem dX10_name_77 : decode cX10_name 77 = .ok (.aload_n 0, 1) := dq_of dqX10_name_75 2 rfl
theorem dX10_name_78 : decode cX10_name 78 = .ok (.getfield 79, 3) := dq_of dqX10_name_75 3 rfl
theorem dX10_name_81 : decode cX10_name 81 = .ok (.aload_n 0, 1) := dq_of dqX10_name_75 4 rfl
theorem dX10_name_82 : decode cX10_name 82 = .ok (.getfield 85, 3) := dq_of dqX10_name_75 5 rfl
theorem dX10_name_85 : decode cX10_name 85 = .ok (.isub, 1) := dq_of dqX10_name_75 6 rfl
theorem dX10_name_86 : decode cX10_name 86 = .ok (.iastore, 1) := dq_of dqX10_name_75 7 rfl
theorem dX10_name_87 : decode cX10_name 87 = .ok (.iload_n 1, 1) := dq_of dqX10_name_75 8 rfl
theorem dX10_name_88 : decode cX10_name 88 = .ok (.ifCond .lt 4, 3) := dq_of dqX10_name_75 9 rfl
theorem dX10_name_91 : decode cX10_name 91 = .ok (.return_, 1) := dq_of dqX10_name_75 10 rfl
theorem dX10_name_92 : decode cX10_name 92 = .ok (.aload_n 0, 1) := dq_of dqX10_name_75 11 rfl
theorem dX10_name_93 : decode cX10_name 93 = .ok (.aload_n 0, 1) := dq_of dqX10_name_75 12 rfl
theorem dX10_name_94 : decode cX10_name 94 = .ok (.getfield 85, 3) := dq_of dqX10_name_75 13 rfl
theorem dX10_name_97 : decode cX10_name 97 = .ok (.invokevirtual 124, 3) := dq_of dqX10_name_75 14 rfl
theorem dX10_name_100 : decode cX10_name 100 = .ok (.bipush 37, 2) := dq_of dqX10_name_75 15 rfl
theorem dX10_name_102 : decode cX10_name 102 = .ok (.imul, 1) := dq_of dqX10_name_75 16 rfl
theorem dX10_name_103 : decode cX10_name 103 = .ok (.aload_n 0, 1) := dq_of dqX10_name_75 17 rfl
theorem dX10_name_104 : decode cX10_name 104 = .ok (.aload_n 0, 1) := dq_of dqX10_name_75 18 rfl
theorem dX10_name_105 : decode cX10_name 105 = .ok (.getfield 79, 3) := dq_of dqX10_name_75 19 rfl
theorem dX10_name_108 : decode cX10_name 108 = .ok (.iconst 1, 1) := dq_of dqX10_name_75 20 rfl
theorem dX10_name_109 : decode cX10_name 109 = .ok (.isub, 1) := dq_of dqX10_name_75 21 rfl
theorem dX10_name_110 : decode cX10_name 110 = .ok (.invokevirtual 124, 3) := dq_of dqX10_name_75 22 rfl
theorem dX10_name_113 : decode cX10_name 113 = .ok (.bipush 11, 2) := dq_of dqX10_name_75 23 rfl
theorem dX10_name_115 : decode cX10_name 115 = .ok (.imul, 1) := dq_of dqX10_name_75 24 rfl
theorem dX10_name_116 : decode cX10_name 116 = .ok (.iadd, 1) := dq_of dqX10_name_75 25 rfl
theorem dX10_name_117 : decode cX10_name 117 = .ok (.aload_n 0, 1) := dq_of dqX10_name_75 26 rfl
theorem dX10_name_118 : decode cX10_name 118 = .ok (.aload_n 0, 1) := dq_of dqX10_name_75 27 rfl
theorem dX10_name_119 : decode cX10_name 119 = .ok (.getfield 85, 3) := dq_of dqX10_name_75 28 rfl
theorem dX10_name_122 : decode cX10_name 122 = .ok (.aload_n 0, 1) := dq_of dqX10_name_75 29 rfl
theorem dX10_name_123 : decode cX10_name 123 = .ok (.getfield 79, 3) := dq_of dqX10_name_75 30 rfl
theorem dX10_name_126 : decode cX10_name 126 = .ok (.iadd, 1) := dq_of dqX10_name_75 31 rfl
theorem dX10_name_127 : decode cX10_name 127 = .ok (.iconst 2, 1) := dq_of dqX10_name_75 32 rfl
theorem dX10_name_128 : decode cX10_name 128 = .ok (.idiv, 1) := dq_of dqX10_name_75 33 rfl
theorem dX10_name_129 : decode cX10_name 129 = .ok (.invokevirtual 124, 3) := dq_of dqX10_name_75 34 rfl
theorem dX10_name_132 : decode cX10_name 132 = .ok (.bipush 101, 2) := dq_of dqX10_name_75 35 rfl
theorem dX10_name_134 : decode cX10_name 134 = .ok (.imul, 1) := dq_of dqX10_name_75 36 rfl
theorem dX10_name_135 : decode cX10_name 135 = .ok (.iadd, 1) := dq_of dqX10_name_75 37 rfl
theorem dX10_name_136 : decode cX10_name 136 = .ok (.aload_n 0, 1) := dq_of dqX10_name_75 38 rfl
theorem dX10_name_137 : decode cX10_name 137 = .ok (.getfield 79, 3) := dq_of dqX10_name_75 39 rfl
theorem dqX10_name_140 : ([(140, .iadd, 1), (141, .aload_n 0, 1), (142, .getfield 85, 3), (145, .isub, 1), (146, .sipush 4096, 3), (149, .irem, 1), (150, .istore_n 2, 1), (151, .aload_n 0, 1), (152, .getfield 59, 3), (155, .iload_n 2, 1), (156, .iaload, 1), (157, .istore_n 3, 1), (158, .iload_n 3, 1), (159, .ifCond .lt 26, 3), (162, .aload_n 0, 1), (163, .aload_n 0, 1), (164, .getfield 53, 3), (167, .iload_n 3, 1), (168, .iaload, 1), (169, .invokevirtual 135, 3), (172, .ifCond .ne 13, 3), (175, .aload_n 0, 1), (176, .getfield 56, 3), (179, .iload_n 3, 1), (180, .iaload, 1), (181, .istore_n 3, 1), (182, .goto (-24), 3), (185, .iload_n 3, 1), (186, .ifCond .ge 49, 3), (189, .aload_n 0, 1), (190, .getfield 138, 3), (193, .istore_n 3, 1), (194, .aload_n 0, 1), (195, .getfield 53, 3), (198, .iload_n 3, 1), (199, .aload_n 0, 1), (200, .getfield 100, 3), (203, .iconst 1, 1), (204, .isub, 1), (205, .iastore, 1)] : List (Nat × Instr × Nat)).all (fun q => decide (decode cX10_name q.1 = .ok (q.2.1, q.2.2))) = true := by decide +kernel
theorem dX10_name_140 : decode cX10_name 140 = .ok (.iadd, 1) := dq_of dqX10_name_140 0 rfl
theorem dX10_name_141 : decode cX10_name 141 = .ok (.aload_n 0, 1) := dq_of dqX10_name_140 1 rfl
theorem dX10_name_142 : decode cX10_name 142 = .ok (.getfield 85, 3) := dq_of dqX10_name_140 2 rfl
theorem dX10_name_145 : decode cX10_name 145 = .ok (.isub, 1) := dq_of dqX10_name_140 3 rfl
theorem dX10_name_146 : decode cX10_name 146 = .ok (.sipush 4096, 3) := dq_of dqX10_name_140 4 rfl
theorem dX10_name_149 : decode cX10_name 149 = .ok (.irem, 1) := dq_of dqX10_name_140 5 rfl
theorem dX10_name_150 : decode cX10_name 150 = .ok (.istore_n 2, 1) := dq_of dqX10_name_140 6 rfl
theorem dX10_name_151 : decode cX10_name 151 = .ok (.aload_n 0, 1) := dq_of dqX10_name_140 7 rfl
theorem dX10_name_152 : decode cX10_name 152 = .ok (.getfield 59, 3) := dq_of dqX10_name_140 8 rfl
theorem dX10_name_155 : decode cX10_name 155 = .ok (.iload_n 2, 1) := dq_of dqX10_name_140 9 rfl
theorem dX10_name_156 : decode cX10_name 156 = .ok (.iaload, 1) := dq_of dqX10_name_140 10 rfl
theorem dX10_name_157 : decode cX10_name 157 = .ok (.istore_n 3, 1) := dq_of dqX10_name_140 11 rfl
theorem dX10_name_158 : decode cX10_name 158 = .ok (.iload_n 3, 1) := dq_of dqX10_name_140 12 rfl
theorem dX10_name_159 : decode cX10_name 159 = .ok (.ifCond .lt 26, 3) := dq_of dqX10_name_140 13 rfl
theorem dX10_name_162 : decode cX10_name 162 = .ok (.aload_n 0, 1) := dq_of dqX10_name_140 14 rfl
theorem dX10_name_163 : decode cX10_name 163 = .ok (.aload_n 0, 1) := dq_of dqX10_name_140 15 rfl
theorem dX10_name_164 : decode cX10_name 164 = .ok (.getfield 53, 3) := dq_of dqX10_name_140 16 rfl
theorem dX10_name_167 : decode cX10_name 167 = .ok (.iload_n 3, 1) := dq_of dqX10_name_140 17 rfl
theorem dX10_name_168 : decode cX10_name 168 = .ok (.iaload, 1) := dq_of dqX10_name_140 18 rfl
theorem dX10_name_169 : decode cX10_name 169 = .ok (.invokevirtual 135, 3) := dq_of dqX10_name_140 19 rfl
theorem dX10_name_172 : decode cX10_name 172 = .ok (.ifCond .ne 13, 3) := dq_of dqX10_name_140 20 rfl
theorem dX10_name_175 : decode cX10_name 175 = .ok (.aload_n 0, 1) := dq_of dqX10_name_140 21 rfl
theorem dX10_name_176 : decode cX10_name 176 = .ok (.getfield 56, 3) := dq_of dqX10_name_140 22 rfl
theorem dX10_name_179 : decode cX10_name 179 = .ok (.iload_n 3, 1) := dq_of dqX10_name_140 23 rfl
theorem dX10_name_180 : decode cX10_name 180 = .ok (.iaload, 1) := dq_of dqX10_name_140 24 rfl
theorem dX10_name_181 : decode cX10_name 181 = .ok (.istore_n 3, 1) := dq_of dqX10_name_140 25 rfl
theorem dX10_name_182 : decode cX10_name 182 = .ok (.goto (-24), 3) := dq_of dqX10_name_140 26 rfl
theorem dX10_name_185 : decode cX10_name 185 = .ok (.iload_n 3, 1) := dq_of dqX10_name_140 27 rfl
theorem dX10_name_186 : decode cX10_name 186 = .ok (.ifCond .ge 49, 3) := dq_of dqX10_name_140 28 rfl
theorem dX10_name_189 : decode cX10_name 189 = .ok (.aload_n 0, 1) := dq_of dqX10_name_140 29 rfl
theorem dX10_name_190 : decode cX10_name 190 = .ok (.getfield 138, 3) := dq_of dqX10_name_140 30 rfl
theorem dX10_name_193 : decode cX10_name 193 = .ok (.istore_n 3, 1) := dq_of dqX10_name_140 31 rfl
theorem dX10_name_194 : decode cX10_name 194 = .ok (.aload_n 0, 1) := dq_of dqX10_name_140 32 rfl
theorem dX10_name_195 : decode cX10_name 195 = .ok (.getfield 53, 3) := dq_of dqX10_name_140 33 rfl
theorem dX10_name_198 : decode cX10_name 198 = .ok (.iload_n 3, 1) := dq_of dqX10_name_140 34 rfl
theorem dX10_name_199 : decode cX10_name 199 = .ok (.aload_n 0, 1) := dq_of dqX10_name_140 35 rfl
theorem dX10_name_200 : decode cX10_name 200 = .ok (.getfield 100, 3) := dq_of dqX10_name_140 36 rfl
theorem dX10_name_203 : decode cX10_name 203 = .ok (.iconst 1, 1) := dq_of dqX10_name_140 37 rfl
theorem dX10_name_204 : decode cX10_name 204 = .ok (.isub, 1) := dq_of dqX10_name_140 38 rfl
theorem dX10_name_205 : decode cX10_name 205 = .ok (.iastore, 1) := dq_of dqX10_name_140 39 rfl
theorem dqX10_name_206 : ([(206, .aload_n 0, 1), (207, .getfield 56, 3), (210, .iload_n 3, 1), (211, .aload_n 0, 1), (212, .getfield 59, 3), (215, .iload_n 2, 1), (216, .iaload, 1), (217, .iastore, 1), (218, .aload_n 0, 1), (219, .getfield 59, 3), (222, .iload_n 2, 1), (223, .iload_n 3, 1), (224, .iastore, 1), (225, .aload_n 0, 1), (226, .dup, 1), (227, .getfield 138, 3), (230, .iconst 1, 1), (231, .iadd, 1), (232, .putfield 138, 3), (235, .aload_n 0, 1), (236, .getfield 34, 3), (239, .aload_n 0, 1), (240, .getfield 100, 3), (243, .iconst 1, 1), (244, .isub, 1), (245, .iload_n 3, 1), (246, .iastore, 1), (247, .return_, 1)] : List (Nat × Instr × Nat)).all (fun q => decide (decode cX10_name q.1 = .ok (q.2.1, q.2.2))) = true := by decide +kernel
theorem dX10_name_206 : decode cX10_name 206 = .ok (.aload_n 0, 1) := dq_of dqX10_name_206 0 rfl
theorem dX10_name_207 : decode cX10_name 207 = .ok (.getfield 56, 3) := dq_of dqX10_name_206 1 rfl
theorem dX10_name_210 : decode cX10_name 210 = .ok (.iload_n 3, 1) := dq_of dqX10_name_206 2 rfl
theorem dX10_name_211 : decode cX10_name 211 = .ok (.aload_n 0, 1) := dq_of dqX10_name_206 3 rfl
theorem dX10_name_212 : decode cX10_name 212 = .ok (.getfield 59, 3) := dq_of dqX10_name_206 4 rfl
theorem dX10_name_215 : decode cX10_name 215 = .ok (.iload_n 2, 1) := dq_of dqX10_name_206 5 rfl
theorem dX10_name_216 : decode cX10_name 216 = .ok (.iaload, 1) := dq_of dqX10_name_206 6 rfl
theorem dX10_name_217 : decode cX10_name 217 = .ok (.iastore, 1) := dq_of dqX10_name_206 7 rfl
theorem dX10_name_218 : decode cX10_name 218 = .ok (.aload_n 0, 1) := dq_of dqX10_name_206 8 rfl
theorem dX10_name_219 : decode cX10_name 219 = .ok (.getfield 59, 3) := dq_of dqX10_name_206 9 rfl
theorem dX10_name_222 : decode cX10_name 222 = .ok (.iload_n 2, 1) := dq_of dqX10_name_206 10 rfl
theorem dX10_name_223 : decode cX10_name 223 = .ok (.iload_n 3, 1) := dq_of dqX10_name_206 11 rfl
theorem dX10_name_224 : decode cX10_name 224 = .ok (.iastore, 1) := dq_of dqX10_name_206 12 rfl
theorem dX10_name_225 : decode cX10_name 225 = .ok (.aload_n 0, 1) := dq_of dqX10_name_206 13 rfl
theorem dX10_name_226 : decode cX10_name 226 = .ok (.dup, 1) := dq_of dqX10_name_206 14 rfl
theorem dX10_name_227 : decode cX10_name 227 = .ok (.getfield 138, 3) := dq_of dqX10_name_206 15 rfl
theorem dX10_name_230 : decode cX10_name 230 = .ok (.iconst 1, 1) := dq_of dqX10_name_206 16 rfl
theorem dX10_name_231 : decode cX10_name 231 = .ok (.iadd, 1) := dq_of dqX10_name_206 17 rfl
theorem dX10_name_232 : decode cX10_name 232 = .ok (.putfield 138, 3) := dq_of dqX10_name_206 18 rfl
theorem dX10_name_235 : decode cX10_name 235 = .ok (.aload_n 0, 1) := dq_of dqX10_name_206 19 rfl
theorem dX10_name_236 : decode cX10_name 236 = .ok (.getfield 34, 3) := dq_of dqX10_name_206 20 rfl
theorem dX10_name_239 : decode cX10_name 239 = .ok (.aload_n 0, 1) := dq_of dqX10_name_206 21 rfl
theorem dX10_name_240 : decode cX10_name 240 = .ok (.getfield 100, 3) := dq_of dqX10_name_206 22 rfl
theorem dX10_name_243 : decode cX10_name 243 = .ok (.iconst 1, 1) := dq_of dqX10_name_206 23 rfl
theorem dX10_name_244 : decode cX10_name 244 = .ok (.isub, 1) := dq_of dqX10_name_206 24 rfl
theorem dX10_name_245 : decode cX10_name 245 = .ok (.iload_n 3, 1) := dq_of dqX10_name_206 25 rfl
theorem dX10_name_246 : decode cX10_name 246 = .ok (.iastore, 1) := dq_of dqX10_name_206 26 rfl
theorem dX10_name_247 : decode cX10_name 247 = .ok (.return_, 1) := dq_of dqX10_name_206 27 rfl
theorem dqX10_number_0 : ([(0, .aload_n 0, 1), (1, .iload_n 1, 1), (2, .ifCond .eq 7, 3), (5, .iconst 2, 1), (6, .goto 4, 3), (9, .iconst 3, 1), (10, .aload_n 0, 1), (11, .getfield 79, 3), (14, .aload_n 0, 1), (15, .getfield 85, 3), (18, .isub, 1), (19, .iconst 0, 1), (20, .invokevirtual 109, 3), (23, .aload_n 0, 1), (24, .getfield 76, 3), (27, .ifCond .lt 4, 3), (30, .return_, 1), (31, .aload_n 0, 1), (32, .getfield 100, 3), (35, .iconst 1, 1), (36, .isub, 1), (37, .istore_n 2, 1), (38, .aload_n 0, 1), (39, .getfield 37, 3), (42, .iload_n 2, 1), (43, .iload_n 1, 1), (44, .ifCond .eq 10, 3), (47, .aload_n 0, 1), (48, .getfield 141, 3), (51, .goto 4, 3), (54, .iconst 0, 1), (55, .iastore, 1), (56, .aload_n 0, 1), (57, .getfield 85, 3), (60, .istore_n 3, 1), (61, .iload_n 3, 1), (62, .aload_n 0, 1), (63, .getfield 79, 3), (66, .if_icmp .ge 28, 3), (69, .aload_n 0, 1)] : List (Nat × Instr × Nat)).all (fun q => decide (decode cX10_number q.1 = .ok (q.2.1, q.2.2))) = true := by decide +kernel
theorem dX10_number_0 : decode cX10_number 0 = .ok (.aload_n 0, 1) := dq_of dqX10_number_0 0 rfl
theorem dX10_number_1 : decode cX10_number 1 = .ok (.iload_n 1, 1) := dq_of dqX10_number_0 1 rfl
theorem dX10_number_2 : decode cX10_number 2 = .ok (.ifCond .eq 7, 3) := dq_of dqX10_number_0 2 rfl
theorem dX10_number_5 : decode cX10_number 5 = .ok (.iconst 2, 1) := dq_of dqX10_number_0 3 rfl
theorem dX10_number_6 : decode cX10_number 6 = .ok (.goto 4, 3) := dq_of dqX10_number_0 4 rfl
theorem dX10_number_9 : decode cX10_number 9 = .ok (.iconst 3, 1) := dq_of dqX10_number_0 5 rfl
theorem dX10_number_10 : decode cX10_number 10 = .ok (.aload_n 0, 1) := dq_of dqX10_number_0 6 rfl
theorem dX10_number_11 : decode cX10_number 11 = .ok (.getfield 79, 3) := dq_of dqX10_number_0 7 rfl
theorem dX10_number_14 : decode cX10_number 14 = .ok (.aload_n 0, 1) := dq_of dqX10_number_0 8 rfl
theorem dX10_number_15 : decode cX10_number 15 = .ok (.getfield 85, 3) := dq_of dqX10_number_0 9 rfl
theorem dX10_number_18 : decode cX10_number 18 = .ok (.isub, 1) := dq_of dqX10_number_0 10 rfl
theorem dX10_number_19 : decode cX10_number 19 = .ok (.iconst 0, 1) := dq_of dqX10_number_0 11 rfl
theorem dX10_number_20 : decode cX10_number 20 = .ok (.invokevirtual 109, 3) := dq_of dqX10_number_0 12 rfl
theorem dX10_number_23 : decode cX10_number 23 = .ok (.aload_n 0, 1) := dq_of dqX10_number_0 13 rfl
theorem dX10_number_24 : decode cX10_number 24 = .ok (.getfield 76, 3) := dq_of dqX10_number_0 14 rfl
theorem dX10_number_27 : decode cX10_number 27 = .ok (.ifCond .lt 4, 3) := dq_of dqX10_number_0 15 rfl
theorem dX10_number_30 : decode cX10_number 30 = .ok (.return_, 1) := dq_of dqX10_number_0 16 rfl
theorem dX10_number_31 : decode cX10_number 31 = .ok (.aload_n 0, 1) := dq_of dqX10_number_0 17 rfl
theorem dX10_number_32 : decode cX10_number 32 = .ok (.getfield 100, 3) := dq_of dqX10_number_0 18 rfl
theorem dX10_number_35 : decode cX10_number 35 = .ok (.iconst 1, 1) := dq_of dqX10_number_0 19 rfl
theorem dX10_number_36 : decode cX10_number 36 = .ok (.isub, 1) := dq_of dqX10_number_0 20 rfl
theorem dX10_number_37 : decode cX10_number 37 = .ok (.istore_n 2, 1) := dq_of dqX10_number_0 21 rfl
theorem dX10_number_38 : decode cX10_number 38 = .ok (.aload_n 0, 1) := dq_of dqX10_number_0 22 rfl
theorem dX10_number_39 : decode cX10_number 39 = .ok (.getfield 37, 3) := dq_of dqX10_number_0 23 rfl
theorem dX10_number_42 : decode cX10_number 42 = .ok (.iload_n 2, 1) := dq_of dqX10_number_0 24 rfl
theorem dX10_number_43 : decode cX10_number 43 = .ok (.iload_n 1, 1) := dq_of dqX10_number_0 25 rfl
theorem dX10_number_44 : decode cX10_number 44 = .ok (.ifCond .eq 10, 3) := dq_of dqX10_number_0 26 rfl
theorem dX10_number_47 : decode cX10_number 47 = .ok (.aload_n 0, 1) := dq_of dqX10_number_0 27 rfl
theorem dX10_number_48 : decode cX10_number 48 = .ok (.getfield 141, 3) := dq_of dqX10_number_0 28 rfl
theorem dX10_number_51 : decode cX10_number 51 = .ok (.goto 4, 3) := dq_of dqX10_number_0 29 rfl
theorem dX10_number_54 : decode cX10_number 54 = .ok (.iconst 0, 1) := dq_of dqX10_number_0 30 rfl
theorem dX10_number_55 : decode cX10_number 55 = .ok (.iastore, 1) := dq_of dqX10_number_0 31 rfl
theorem dX10_number_56 : decode cX10_number 56 = .ok (.aload_n 0, 1) := dq_of dqX10_number_0 32 rfl
theorem dX10_number_57 : decode cX10_number 57 = .ok (.getfield 85, 3) := dq_of dqX10_number_0 33 rfl
theorem dX10_number_60 : decode cX10_number 60 = .ok (.istore_n 3, 1) := dq_of dqX10_number_0 34 rfl
theorem dX10_number_61 : decode cX10_number 61 = .ok (.iload_n 3, 1) := dq_of dqX10_number_0 35 rfl
theorem dX10_number_62 : decode cX10_number 62 = .ok (.aload_n 0, 1) := dq_of dqX10_number_0 36 rfl
theorem dX10_number_63 : decode cX10_number 63 = .ok (.getfield 79, 3) := dq_of dqX10_number_0 37 rfl
theorem dX10_number_66 : decode cX10_number 66 = .ok (.if_icmp .ge 28, 3) := dq_of dqX10_number_0 38 rfl
theorem dX10_number_69 : decode cX10_number 69 = .ok (.aload_n 0, 1) := dq_of dqX10_number_0 39 rfl
theorem dqX10_number_70 : ([(70, .iload_n 3, 1), (71, .invokevirtual 124, 3), (74, .bipush 95, 2), (76, .if_icmp .eq 12, 3), (79, .aload_n 0, 1), (80, .aload_n 0, 1), (81, .iload_n 3, 1), (82, .invokevirtual 124, 3), (85, .invokevirtual 131, 3), (88, .iinc 3 1, 3), (91, .goto (-30), 3), (94, .aload_n 0, 1), (95, .getfield 43, 3), (98, .iload_n 2, 1), (99, .aload_n 0, 1), (100, .getfield 106, 3), (103, .aload_n 0, 1), (104, .getfield 40, 3), (107, .iload_n 2, 1), (108, .iaload, 1), (109, .isub, 1), (110, .iastore, 1), (111, .aload_n 0, 1), (112, .iload_n 2, 1), (113, .invokevirtual 144, 3), (116, .istore_n 3, 1), (117, .iload_n 3, 1), (118, .aload_n 0, 1), (119, .getfield 106, 3), (122, .if_icmp .ge 42, 3), (125, .iload_n 1, 1), (126, .ifCond .eq 38, 3), (129, .aload_n 0, 1), (130, .getfield 46, 3), (133, .iload_n 2, 1), (134, .aload_n 0, 1), (135, .getfield 46, 3), (138, .iload_n 2, 1), (139, .laload, 1), (140, .aload_n 0, 1)] : List (Nat × Instr × Nat)).all (fun q => decide (decode cX10_number q.1 = .ok (q.2.1, q.2.2))) = true := by decide +kernel
theorem dX10_number_70 : decode cX10_number 70 = .ok (.iload_n 3, 1) := dq_of dqX10_number_70 0 rfl
theorem dX10_number_71 : decode cX10_number 71 = .ok (.invokevirtual 124, 3) := dq_of dqX10_number_70 1 rfl
theorem dX10_number_74 : decode cX10_number 74 = .ok (.bipush 95, 2) := dq_of dqX10_number_70 2 rfl
theorem dX10_number_76 : decode cX10_number 76 = .ok (.if_icmp .eq 12, 3) := dq_of dqX10_number_70 3 rfl
theorem dX10_number_79 : decode cX10_number 79 = .ok (.aload_n 0, 1) := dq_of dqX10_number_70 4 rfl
theorem dX10_number_80 : decode cX10_number 80 = .ok (.aload_n 0, 1) := dq_of dqX10_number_70 5 rfl
theorem dX10_number_81 : decode cX10_number 81 = .ok (.iload_n 3, 1) := dq_of dqX10_number_70 6 rfl
theorem dX10_number_82 : decode cX10_number 82 = .ok (.invokevirtual 124, 3) := dq_of dqX10_number_70 7 rfl
theorem dX10_number_85 : decode cX10_number 85 = .ok (.invokevirtual 131, 3) := dq_of dqX10_number_70 8 rfl
theorem dX10_number_88 : decode cX10_number 88 = .ok (.iinc 3 1, 3) := dq_of dqX10_number_70 9 rfl
theorem dX10_number_91 : decode cX10_number 91 = .ok (.goto (-30), 3) := dq_of dqX10_number_70 10 rfl
theorem dX10_number_94 : decode cX10_number 94 = .ok (.aload_n 0, 1) := dq_of dqX10_number_70 11 rfl
theorem dX10_number_95 : decode cX10_number 95 = .ok (.getfield 43, 3) := dq_of dqX10_number_70 12 rfl
theorem dX10_number_98 : decode cX10_number 98 = .ok (.iload_n 2, 1) := dq_of dqX10_number_70 13 rfl
theorem dX10_number_99 : decode cX10_number 99 = .ok (.aload_n 0, 1) := dq_of dqX10_number_70 14 rfl
theorem dX10_number_100 : decode cX10_number 100 = .ok (.getfield 106, 3) := dq_of dqX10_number_70 15 rfl
theorem dX10_number_103 : decode cX10_number 103 = .ok (.aload_n 0, 1) := dq_of dqX10_number_70 16 rfl
theorem dX10_number_104 : decode cX10_number 104 = .ok (.getfield 40, 3) := dq_of dqX10_number_70 17 rfl
theorem dX10_number_107 : decode cX10_number 107 = .ok (.iload_n 2, 1) := dq_of dqX10_number_70 18 rfl
theorem dX10_number_108 : decode cX10_number 108 = .ok (.iaload, 1) := dq_of dqX10_number_70 19 rfl
theorem dX10_number_109 : decode cX10_number 109 = .ok (.isub, 1) := dq_of dqX10_number_70 20 rfl
theorem dX10_number_110 : decode cX10_number 110 = .ok (.iastore, 1) := dq_of dqX10_number_70 21 rfl
theorem dX10_number_111 : decode cX10_number 111 = .ok (.aload_n 0, 1) := dq_of dqX10_number_70 22 rfl
theorem dX10_number_112 : decode cX10_number 112 = .ok (.iload_n 2, 1) := dq_of dqX10_number_70 23 rfl
theorem dX10_number_113 : decode cX10_number 113 = .ok (.invokevirtual 144, 3) := dq_of dqX10_number_70 24 rfl
theorem dX10_number_116 : decode cX10_number 116 = .ok (.istore_n 3, 1) := dq_of dqX10_number_70 25 rfl
theorem dX10_number_117 : decode cX10_number 117 = .ok (.iload_n 3, 1) := dq_of dqX10_number_70 26 rfl
theorem dX10_number_118 : decode cX10_number 118 = .ok (.aload_n 0, 1) := dq_of dqX10_number_70 27 rfl
theorem dX10_number_119 : decode cX10_number 119 = .ok (.getfield 106, 3) := dq_of dqX10_number_70 28 rfl
theorem dX10_number_122 : decode cX10_number 122 = .ok (.if_icmp .ge 42, 3) := dq_of dqX10_number_70 29 rfl
theorem dX10_number_125 : decode cX10_number 125 = .ok (.iload_n 1, 1) := dq_of dqX10_number_70 30 rfl
theorem dX10_number_126 : decode cX10_number 126 = .ok (.ifCond .eq 38, 3) := dq_of dqX10_number_70 31 rfl
theorem dX10_number_129 : decode cX10_number 129 = .ok (.aload_n 0, 1) := dq_of dqX10_number_70 32 rfl
theorem dX10_number_130 : decode cX10_number 130 = .ok (.getfield 46, 3) := dq_of dqX10_number_70 33 rfl
theorem dX10_number_133 : decode cX10_number 133 = .ok (.iload_n 2, 1) := dq_of dqX10_number_70 34 rfl
theorem dX10_number_134 : decode cX10_number 134 = .ok (.aload_n 0, 1) := dq_of dqX10_number_70 35 rfl
theorem dX10_number_135 : decode cX10_number 135 = .ok (.getfield 46, 3) := dq_of dqX10_number_70 36 rfl
theorem dX10_number_138 : decode cX10_number 138 = .ok (.iload_n 2, 1) := dq_of dqX10_number_70 37 rfl
theorem dX10_number_139 : decode cX10_number 139 = .ok (.laload, 1) := dq_of dqX10_number_70 38 rfl
theorem dX10_number_140 : decode cX10_number 140 = .ok (.aload_n 0, 1) := dq_of dqX10_number_70 39 rfl
theorem dqX10_number_141 : ([(141, .getfield 141, 3), (144, .i2l, 1), (145, .lmul, 1), (146, .aload_n 0, 1), (147, .getfield 50, 3), (150, .iload_n 3, 1), (151, .baload, 1), (152, .invokestatic 147, 3), (155, .i2l, 1), (156, .ladd, 1), (157, .lastore, 1), (158, .iinc 3 1, 3), (161, .goto (-44), 3), (164, .return_, 1)] : List (Nat × Instr × Nat)).all (fun q => decide (decode cX10_number q.1 = .ok (q.2.1, q.2.2))) = true := by decide +kernel
theorem dX10_number_141 : decode cX10_number 141 = .ok (.getfield 141, 3) := dq_of dqX10_number_141 0 rfl
theorem dX10_number_144 : decode cX10_number 144 = .ok (.i2l, 1) := dq_of dqX10_number_141 1 rfl
theorem dX10_number_145 : decode cX10_number 145 = .ok (.lmul, 1) := dq_of dqX10_number_141 2 rfl
theorem dX10_number_146 : decode cX10_number 146 = .ok (.aload_n 0, 1) := dq_of dqX10_number_141 3 rfl
theorem dX10_number_147 : decode cX10_number 147 = .ok (.getfield 50, 3) := dq_of dqX10_number_141 4 rfl
theorem dX10_number_150 : decode cX10_number 150 = .ok (.iload_n 3, 1) := dq_of dqX10_number_141 5 rfl
theorem dX10_number_151 : decode cX10_number 151 = .ok (.baload, 1) := dq_of dqX10_number_141 6 rfl
theorem dX10_number_152 : decode cX10_number 152 = .ok (.invokestatic 147, 3) := dq_of dqX10_number_141 7 rfl
theorem dX10_number_155 : decode cX10_number 155 = .ok (.i2l, 1) := dq_of dqX10_number_141 8 rfl
theorem dX10_number_156 : decode cX10_number 156 = .ok (.ladd, 1) := dq_of dqX10_number_141 9 rfl
theorem dX10_number_157 : decode cX10_number 157 = .ok (.lastore, 1) := dq_of dqX10_number_141 10 rfl
theorem dX10_number_158 : decode cX10_number 158 = .ok (.iinc 3 1, 3) := dq_of dqX10_number_141 11 rfl
theorem dX10_number_161 : decode cX10_number 161 = .ok (.goto (-44), 3) := dq_of dqX10_number_141 12 rfl
theorem dX10_number_164 : decode cX10_number 164 = .ok (.return_, 1) := dq_of dqX10_number_141 13 rfl
theorem dqX10_digitsFrom_0 : ([(0, .aload_n 0, 1), (1, .getfield 37, 3), (4, .iload_n 1, 1), (5, .iaload, 1), (6, .bipush 10, 2), (8, .if_icmp .eq 34, 3), (11, .aload_n 0, 1), (12, .getfield 43, 3), (15, .iload_n 1, 1), (16, .iaload, 1), (17, .iconst 1, 1), (18, .if_icmp .le 24, 3), (21, .aload_n 0, 1), (22, .getfield 50, 3), (25, .aload_n 0, 1), (26, .getfield 40, 3), (29, .iload_n 1, 1), (30, .iaload, 1), (31, .iconst 1, 1), (32, .iadd, 1), (33, .baload, 1), (34, .invokestatic 147, 3), (37, .bipush 9, 2), (39, .if_icmp .gt 13, 3), (42, .aload_n 0, 1), (43, .getfield 37, 3), (46, .iload_n 1, 1), (47, .iaload, 1), (48, .iconst 2, 1), (49, .if_icmp .ne 14, 3), (52, .aload_n 0, 1), (53, .getfield 40, 3), (56, .iload_n 1, 1), (57, .iaload, 1), (58, .iconst 2, 1), (59, .iadd, 1), (60, .goto 9, 3), (63, .aload_n 0, 1), (64, .getfield 40, 3), (67, .iload_n 1, 1)] : List (Nat × Instr × Nat)).all (fun q => decide (decode cX10_digitsFrom q.1 = .ok (q.2.1, q.2.2))) = true := by decide +kernel
theorem dX10_digitsFrom_0 : decode cX10_digitsFrom 0 = .ok (.aload_n 0, 1) := dq_of dqX10_digitsFrom_0 0 rfl
theorem dX10_digitsFrom_1 : decode cX10_digitsFrom 1 = .ok (.getfield 37, 3) := dq_of dqX10_digitsFrom_0 1 rfl
theorem dX10_digitsFrom_4 : decode cX10_digitsFrom 4 = .ok (.iload_n 1, 1) := dq_of dqX10_digitsFrom_0 2 rfl
theorem dX10_digitsFrom_5 : decode cX10_digitsFrom 5 = .ok (.iaload, 1) := dq_of dqX10_digitsFrom_0 3 rfl
theorem dX10_digitsFrom_6 : decode cX10_digitsFrom 6 = .ok (.bipush 10, 2) := dq_of dqX10_digitsFrom_0 4 rfl
theorem dX10_digitsFrom_8 : decode cX10_digitsFrom 8 = .ok (.if_icmp .eq 34, 3) := dq_of dqX10_digitsFrom_0 5 rfl
theorem dX10_digitsFrom_11 : decode cX10_digitsFrom 11 = .ok (.aload_n 0, 1) := dq_of dqX10_digitsFrom_0 6 rfl
theorem dX10_digitsFrom_12 : decode cX10_digitsFrom 12 = .ok (.getfield 43, 3) := dq_of dqX10_digitsFrom_0 7 rfl
theorem dX10_digitsFrom_15 : decode cX10_digitsFrom 15 = .ok (.iload_n 1, 1) := dq_of dqX10_digitsFrom_0 8 rfl
theorem dX10_digitsFrom_16 : decode cX10_digitsFrom 16 = .ok (.iaload, 1) := dq_of dqX10_digitsFrom_0 9 rfl
theorem dX10_digitsFrom_17 : decode cX10_digitsFrom 17 = .ok (.iconst 1, 1) := dq_of dqX10_digitsFrom_0 10 rfl
theorem dX10_digitsFrom_18 : decode cX10_digitsFrom 18 = .ok (.if_icmp .le 24, 3) := dq_of dqX10_digitsFrom_0 11 rfl
theorem dX10_digitsFrom_21 : decode cX10_digitsFrom 21 = .ok (.aload_n 0, 1) := dq_of dqX10_digitsFrom_0 12 rfl
theorem dX10_digitsFrom_22 : decode cX10_digitsFrom 22 = .ok (.getfield 50, 3) := dq_of dqX10_digitsFrom_0 13 rfl
theorem dX10_digitsFrom_25 : decode cX10_digitsFrom 25 = .ok (.aload_n 0, 1) := dq_of dqX10_digitsFrom_0 14 rfl
theorem dX10_digitsFrom_26 : decode cX10_digitsFrom 26 = .ok (.getfield 40, 3) := dq_of dqX10_digitsFrom_0 15 rfl
theorem dX10_digitsFrom_29 : decode cX10_digitsFrom 29 = .ok (.iload_n 1, 1) := dq_of dqX10_digitsFrom_0 16 rfl
theorem dX10_digitsFrom_30 : decode cX10_digitsFrom 30 = .ok (.iaload, 1) := dq_of dqX10_digitsFrom_0 17 rfl
theorem dX10_digitsFrom_31 : decode cX10_digitsFrom 31 = .ok (.iconst 1, 1) := dq_of dqX10_digitsFrom_0 18 rfl
theorem dX10_digitsFrom_32 : decode cX10_digitsFrom 32 = .ok (.iadd, 1) := dq_of dqX10_digitsFrom_0 19 rfl
theorem dX10_digitsFrom_33 : decode cX10_digitsFrom 33 = .ok (.baload, 1) := dq_of dqX10_digitsFrom_0 20 rfl
theorem dX10_digitsFrom_34 : decode cX10_digitsFrom 34 = .ok (.invokestatic 147, 3) := dq_of dqX10_digitsFrom_0 21 rfl
theorem dX10_digitsFrom_37 : decode cX10_digitsFrom 37 = .ok (.bipush 9, 2) := dq_of dqX10_digitsFrom_0 22 rfl
theorem dX10_digitsFrom_39 : decode cX10_digitsFrom 39 = .ok (.if_icmp .gt 13, 3) := dq_of dqX10_digitsFrom_0 23 rfl
theorem dX10_digitsFrom_42 : decode cX10_digitsFrom 42 = .ok (.aload_n 0, 1) := dq_of dqX10_digitsFrom_0 24 rfl
theorem dX10_digitsFrom_43 : decode cX10_digitsFrom 43 = .ok (.getfield 37, 3) := dq_of dqX10_digitsFrom_0 25 rfl
theorem dX10_digitsFrom_46 : decode cX10_digitsFrom 46 = .ok (.iload_n 1, 1) := dq_of dqX10_digitsFrom_0 26 rfl
theorem dX10_digitsFrom_47 : decode cX10_digitsFrom 47 = .ok (.iaload, 1) := dq_of dqX10_digitsFrom_0 27 rfl
theorem dX10_digitsFrom_48 : decode cX10_digitsFrom 48 = .ok (.iconst 2, 1) := dq_of dqX10_digitsFrom_0 28 rfl
theorem dX10_digitsFrom_49 : decode cX10_digitsFrom 49 = .ok (.if_icmp .ne 14, 3) := dq_of dqX10_digitsFrom_0 29 rfl
theorem dX10_digitsFrom_52 : decode cX10_digitsFrom 52 = .ok (.aload_n 0, 1) := dq_of dqX10_digitsFrom_0 30 rfl
theorem dX10_digitsFrom_53 : decode cX10_digitsFrom 53 = .ok (.getfield 40, 3) := dq_of dqX10_digitsFrom_0 31 rfl
theorem dX10_digitsFrom_56 : decode cX10_digitsFrom 56 = .ok (.iload_n 1, 1) := dq_of dqX10_digitsFrom_0 32 rfl
theorem dX10_digitsFrom_57 : decode cX10_digitsFrom 57 = .ok (.iaload, 1) := dq_of dqX10_digitsFrom_0 33 rfl
theorem dX10_digitsFrom_58 : decode cX10_digitsFrom 58 = .ok (.iconst 2, 1) := dq_of dqX10_digitsFrom_0 34 rfl
theorem dX10_digitsFrom_59 : decode cX10_digitsFrom 59 = .ok (.iadd, 1) := dq_of dqX10_digitsFrom_0 35 rfl
theorem dX10_digitsFrom_60 : decode cX10_digitsFrom 60 = .ok (.goto 9, 3) := dq_of dqX10_digitsFrom_0 36 rfl
theorem dX10_digitsFrom_63 : decode cX10_digitsFrom 63 = .ok (.aload_n 0, 1) := dq_of dqX10_digitsFrom_0 37 rfl
theorem dX10_digitsFrom_64 : decode cX10_digitsFrom 64 = .ok (.getfield 40, 3) := dq_of dqX10_digitsFrom_0 38 rfl
theorem dX10_digitsFrom_67 : decode cX10_digitsFrom 67 = .ok (.iload_n 1, 1) := dq_of dqX10_digitsFrom_0 39 rfl
theorem dqX10_digitsFrom_68 : ([(68, .iaload, 1), (69, .ireturn, 1)] : List (Nat × Instr × Nat)).all (fun q => decide (decode cX10_digitsFrom q.1 = .ok (q.2.1, q.2.2))) = true := by decide +kernel
theorem dX10_digitsFrom_68 : decode cX10_digitsFrom 68 = .ok (.iaload, 1) := dq_of dqX10_digitsFrom_68 0 rfl
theorem dX10_digitsFrom_69 : decode cX10_digitsFrom 69 = .ok (.ireturn, 1) := dq_of dqX10_digitsFrom_68 1 rfl
theorem dqX10_numeral_0 : ([(0, .iload_n 1, 1), (1, .invokestatic 72, 3), (4, .istore_n 2, 1), (5, .iload_n 1, 1), (6, .bipush 101, 2), (8, .if_icmp .eq 9, 3), (11, .iload_n 1, 1), (12, .bipush 69, 2), (14, .if_icmp .ne 7, 3), (17, .iconst 1, 1), (18, .goto 4, 3), (21, .iconst 0, 1), (22, .istore_n 3, 1), (23, .aload_n 0, 1), (24, .getfield 82, 3), (27, .bipush 11, 2), (29, .if_icmp .ne 91, 3), (32, .iload_n 1, 1), (33, .invokestatic 147, 3), (36, .aload_n 0, 1), (37, .getfield 141, 3), (40, .if_icmp .ge 11, 3), (43, .aload_n 0, 1), (44, .iconst 0, 1), (45, .putfield 150, 3), (48, .goto 536, 3), (51, .iload_n 1, 1), (52, .bipush 95, 2), (54, .if_icmp .ne 33, 3), (57, .aload_n 0, 1), (58, .getfield 150, 3), (61, .ifCond .eq 18, 3), (64, .aload_n 0, 1), (65, .aload_n 0, 1), (66, .getfield 79, 3), (69, .iconst 1, 1), (70, .isub, 1), (71, .invokevirtual 124, 3), (74, .bipush 95, 2), (76, .if_icmp .eq 11, 3)] : List (Nat × Instr × Nat)).all (fun q => decide (decode cX10_numeral q.1 = .ok (q.2.1, q.2.2))) = true := by decide +kernel
theorem dX10_numeral_0 : decode cX10_numeral 0 = .ok (.iload_n 1, 1) := dq_of dqX10_numeral_0 0 rfl
theorem dX10_numeral_1 : decode cX10_numeral 1 = .ok (.invokestatic 72, 3) := dq_of dqX10_numeral_0 1 rfl
theorem dX10_numeral_4 : decode cX10_numeral 4 = .ok (.istore_n 2, 1) := dq_of dqX10_numeral_0 2 rfl
theorem dX10_numeral_5 : decode cX10_numeral 5 = .ok (.iload_n 1, 1) := dq_of dqX10_numeral_0 3 rfl
theorem dX10_numeral_6 : decode cX10_numeral 6 = .ok (.bipush 101, 2) := dq_of dqX10_numeral_0 4 rfl
theorem dX10_numeral_8 : decode cX10_numeral 8 = .ok (.if_icmp .eq 9, 3) := dq_of dqX10_numeral_0 5 rfl
theorem dX10_numeral_11 : decode cX10_numeral 11 = .ok (.iload_n 1, 1) := dq_of dqX10_numeral_0 6 rfl
theorem dX10_numeral_12 : decode cX10_numeral 12 = .ok (.bipush 69, 2) := dq_of dqX10_numeral_0 7 rfl
theorem dX10_numeral_14 : decode cX10_numeral 14 = .ok (.if_icmp .ne 7, 3) := dq_of dqX10_numeral_0 8 rfl
theorem dX10_numeral_17 : decode cX10_numeral 17 = .ok (.iconst 1, 1) := dq_of dqX10_numeral_0 9 rfl
theorem dX10_numeral_18 : decode cX10_numeral 18 = .ok (.goto 4, 3) := dq_of dqX10_numeral_0 10 rfl
theorem dX10_numeral_21 : decode cX10_numeral 21 = .ok (.iconst 0, 1) := dq_of dqX10_numeral_0 11 rfl
theorem dX10_numeral_22 : decode cX10_numeral 22 = .ok (.istore_n 3, 1) := dq_of dqX10_numeral_0 12 rfl
theorem dX10_numeral_23 : decode cX10_numeral 23 = .ok (.aload_n 0, 1) := dq_of dqX10_numeral_0 13 rfl
theorem dX10_numeral_24 : decode cX10_numeral 24 = .ok (.getfield 82, 3) := dq_of dqX10_numeral_0 14 rfl
theorem dX10_numeral_27 : decode cX10_numeral 27 = .ok (.bipush 11, 2) := dq_of dqX10_numeral_0 15 rfl
theorem dX10_numeral_29 : decode cX10_numeral 29 = .ok (.if_icmp .ne 91, 3) := dq_of dqX10_numeral_0 16 rfl
theorem dX10_numeral_32 : decode cX10_numeral 32 = .ok (.iload_n 1, 1) := dq_of dqX10_numeral_0 17 rfl
theorem dX10_numeral_33 : decode cX10_numeral 33 = .ok (.invokestatic 147, 3) := dq_of dqX10_numeral_0 18 rfl
theorem dX10_numeral_36 : decode cX10_numeral 36 = .ok (.aload_n 0, 1) := dq_of dqX10_numeral_0 19 rfl
theorem dX10_numeral_37 : decode cX10_numeral 37 = .ok (.getfield 141, 3) := dq_of dqX10_numeral_0 20 rfl
theorem dX10_numeral_40 : decode cX10_numeral 40 = .ok (.if_icmp .ge 11, 3) := dq_of dqX10_numeral_0 21 rfl
theorem dX10_numeral_43 : decode cX10_numeral 43 = .ok (.aload_n 0, 1) := dq_of dqX10_numeral_0 22 rfl
theorem dX10_numeral_44 : decode cX10_numeral 44 = .ok (.iconst 0, 1) := dq_of dqX10_numeral_0 23 rfl
theorem dX10_numeral_45 : decode cX10_numeral 45 = .ok (.putfield 150, 3) := dq_of dqX10_numeral_0 24 rfl
theorem dX10_numeral_48 : decode cX10_numeral 48 = .ok (.goto 536, 3) := dq_of dqX10_numeral_0 25 rfl
theorem dX10_numeral_51 : decode cX10_numeral 51 = .ok (.iload_n 1, 1) := dq_of dqX10_numeral_0 26 rfl
theorem dX10_numeral_52 : decode cX10_numeral 52 = .ok (.bipush 95, 2) := dq_of dqX10_numeral_0 27 rfl
theorem dX10_numeral_54 : decode cX10_numeral 54 = .ok (.if_icmp .ne 33, 3) := dq_of dqX10_numeral_0 28 rfl
theorem dX10_numeral_57 : decode cX10_numeral 57 = .ok (.aload_n 0, 1) := dq_of dqX10_numeral_0 29 rfl
theorem dX10_numeral_58 : decode cX10_numeral 58 = .ok (.getfield 150, 3) := dq_of dqX10_numeral_0 30 rfl
theorem dX10_numeral_61 : decode cX10_numeral 61 = .ok (.ifCond .eq 18, 3) := dq_of dqX10_numeral_0 31 rfl
theorem dX10_numeral_64 : decode cX10_numeral 64 = .ok (.aload_n 0, 1) := dq_of dqX10_numeral_0 32 rfl
theorem dX10_numeral_65 : decode cX10_numeral 65 = .ok (.aload_n 0, 1) := dq_of dqX10_numeral_0 33 rfl
theorem dX10_numeral_66 : decode cX10_numeral 66 = .ok (.getfield 79, 3) := dq_of dqX10_numeral_0 34 rfl
theorem dX10_numeral_69 : decode cX10_numeral 69 = .ok (.iconst 1, 1) := dq_of dqX10_numeral_0 35 rfl
theorem dX10_numeral_70 : decode cX10_numeral 70 = .ok (.isub, 1) := dq_of dqX10_numeral_0 36 rfl
theorem dX10_numeral_71 : decode cX10_numeral 71 = .ok (.invokevirtual 124, 3) := dq_of dqX10_numeral_0 37 rfl
theorem dX10_numeral_74 : decode cX10_numeral 74 = .ok (.bipush 95, 2) := dq_of dqX10_numeral_0 38 rfl
theorem dX10_numeral_76 : decode cX10_numeral 76 = .ok (.if_icmp .eq 11, 3) := dq_of dqX10_numeral_0 39 rfl
theorem dqX10_numeral_79 : ([(79, .aload_n 0, 1), (80, .iconst 1, 1), (81, .putfield 150, 3), (84, .goto 500, 3), (87, .aload_n 0, 1), (88, .getfield 150, 3), (91, .ifCond .ne 14, 3), (94, .iload_n 1, 1), (95, .invokestatic 154, 3), (98, .ifCond .ne 7, 3), (101, .iload_n 2, 1), (102, .ifCond .eq 10, 3), (105, .aload_n 0, 1), (106, .invokevirtual 157, 3), (109, .goto 475, 3), (112, .aload_n 0, 1), (113, .iconst 1, 1), (114, .invokevirtual 160, 3), (117, .goto 467, 3), (120, .aload_n 0, 1), (121, .getfield 150, 3), (124, .ifCond .eq 101, 3), (127, .iload_n 2, 1), (128, .ifCond .eq 60, 3), (131, .aload_n 0, 1), (132, .iconst 0, 1), (133, .putfield 150, 3), (136, .aload_n 0, 1), (137, .aload_n 0, 1), (138, .getfield 82, 3), (141, .iconst 3, 1), (142, .if_icmp .ne 13, 3), (145, .iload_n 1, 1), (146, .bipush 55, 2), (148, .if_icmp .le 7, 3), (151, .iconst 4, 1), (152, .goto 30, 3), (155, .aload_n 0, 1), (156, .getfield 82, 3), (159, .bipush 8, 2)] : List (Nat × Instr × Nat)).all (fun q => decide (decode cX10_numeral q.1 = .ok (q.2.1, q.2.2))) = true := by decide +kernel
theorem dX10_numeral_79 : decode cX10_numeral 79 = .ok (.aload_n 0, 1) := dq_of dqX10_numeral_79 0 rfl
theorem dX10_numeral_80 : decode cX10_numeral 80 = .ok (.iconst 1, 1) := dq_of dqX10_numeral_79 1 rfl
theorem dX10_numeral_81 : decode cX10_numeral 81 = .ok (.putfield 150, 3) := dq_of dqX10_numeral_79 2 rfl
theorem dX10_numeral_84 : decode cX10_numeral 84 = .ok (.goto 500, 3) := dq_of dqX10_numeral_79 3 rfl
theorem dX10_numeral_87 : decode cX10_numeral 87 = .ok (.aload_n 0, 1) := dq_of dqX10_numeral_79 4 rfl
theorem dX10_numeral_88 : decode cX10_numeral 88 = .ok (.getfield 150, 3) := dq_of dqX10_numeral_79 5 rfl
theorem dX10_numeral_91 : decode cX10_numeral 91 = .ok (.ifCond .ne 14, 3) := dq_of dqX10_numeral_79 6 rfl
theorem dX10_numeral_94 : decode cX10_numeral 94 = .ok (.iload_n 1, 1) := dq_of dqX10_numeral_79 7 rfl
theorem dX10_numeral_95 : decode cX10_numeral 95 = .ok (.invokestatic 154, 3) := dq_of dqX10_numeral_79 8 rfl
theorem dX10_numeral_98 : decode cX10_numeral 98 = .ok (.ifCond .ne 7, 3) := dq_of dqX10_numeral_79 9 rfl
theorem dX10_numeral_101 : decode cX10_numeral 101 = .ok (.iload_n 2, 1) := dq_of dqX10_numeral_79 10 rfl
theorem dX10_numeral_102 : decode cX10_numeral 102 = .ok (.ifCond .eq 10, 3) := dq_of dqX10_numeral_79 11 rfl
theorem dX10_numeral_105 : decode cX10_numeral 105 = .ok (.aload_n 0, 1) := dq_of dqX10_numeral_79 12 rfl
theorem dX10_numeral_106 : decode cX10_numeral 106 = .ok (.invokevirtual 157, 3) := dq_of dqX10_numeral_79 13 rfl
theorem dX10_numeral_109 : decode cX10_numeral 109 = .ok (.goto 475, 3) := dq_of dqX10_numeral_79 14 rfl
theorem dX10_numeral_112 : decode cX10_numeral 112 = .ok (.aload_n 0, 1) := dq_of dqX10_numeral_79 15 rfl
theorem dX10_numeral_113 : decode cX10_numeral 113 = .ok (.iconst 1, 1) := dq_of dqX10_numeral_79 16 rfl
theorem dX10_numeral_114 : decode cX10_numeral 114 = .ok (.invokevirtual 160, 3) := dq_of dqX10_numeral_79 17 rfl
theorem dX10_numeral_117 : decode cX10_numeral 117 = .ok (.goto 467, 3) := dq_of dqX10_numeral_79 18 rfl
theorem dX10_numeral_120 : decode cX10_numeral 120 = .ok (.aload_n 0, 1) := dq_of dqX10_numeral_79 19 rfl
theorem dX10_numeral_121 : decode cX10_numeral 121 = .ok (.getfield 150, 3) := dq_of dqX10_numeral_79 20 rfl
theorem dX10_numeral_124 : decode cX10_numeral 124 = .ok (.ifCond .eq 101, 3) := dq_of dqX10_numeral_79 21 rfl
theorem dX10_numeral_127 : decode cX10_numeral 127 = .ok (.iload_n 2, 1) := dq_of dqX10_numeral_79 22 rfl
theorem dX10_numeral_128 : decode cX10_numeral 128 = .ok (.ifCond .eq 60, 3) := dq_of dqX10_numeral_79 23 rfl
theorem dX10_numeral_131 : decode cX10_numeral 131 = .ok (.aload_n 0, 1) := dq_of dqX10_numeral_79 24 rfl
theorem dX10_numeral_132 : decode cX10_numeral 132 = .ok (.iconst 0, 1) := dq_of dqX10_numeral_79 25 rfl
theorem dX10_numeral_133 : decode cX10_numeral 133 = .ok (.putfield 150, 3) := dq_of dqX10_numeral_79 26 rfl
theorem dX10_numeral_136 : decode cX10_numeral 136 = .ok (.aload_n 0, 1) := dq_of dqX10_numeral_79 27 rfl
theorem dX10_numeral_137 : decode cX10_numeral 137 = .ok (.aload_n 0, 1) := dq_of dqX10_numeral_79 28 rfl
theorem dX10_numeral_138 : decode cX10_numeral 138 = .ok (.getfield 82, 3) := dq_of dqX10_numeral_79 29 rfl
theorem dX10_numeral_141 : decode cX10_numeral 141 = .ok (.iconst 3, 1) := dq_of dqX10_numeral_79 30 rfl
theorem dX10_numeral_142 : decode cX10_numeral 142 = .ok (.if_icmp .ne 13, 3) := dq_of dqX10_numeral_79 31 rfl
theorem dX10_numeral_145 : decode cX10_numeral 145 = .ok (.iload_n 1, 1) := dq_of dqX10_numeral_79 32 rfl
theorem dX10_numeral_146 : decode cX10_numeral 146 = .ok (.bipush 55, 2) := dq_of dqX10_numeral_79 33 rfl
theorem dX10_numeral_148 : decode cX10_numeral 148 = .ok (.if_icmp .le 7, 3) := dq_of dqX10_numeral_79 34 rfl
theorem dX10_numeral_151 : decode cX10_numeral 151 = .ok (.iconst 4, 1) := dq_of dqX10_numeral_79 35 rfl
theorem dX10_numeral_152 : decode cX10_numeral 152 = .ok (.goto 30, 3) := dq_of dqX10_numeral_79 36 rfl
theorem dX10_numeral_155 : decode cX10_numeral 155 = .ok (.aload_n 0, 1) := dq_of dqX10_numeral_79 37 rfl
theorem dX10_numeral_156 : decode cX10_numeral 156 = .ok (.getfield 82, 3) := dq_of dqX10_numeral_79 38 rfl
theorem dX10_numeral_159 : decode cX10_numeral 159 = .ok (.bipush 8, 2) := dq_of dqX10_numeral_79 39 rfl
theorem dqX10_numeral_161 : ([(161, .if_icmp .eq 12, 3), (164, .aload_n 0, 1), (165, .getfield 82, 3), (168, .bipush 9, 2), (170, .if_icmp .ne 8, 3), (173, .bipush 10, 2), (175, .goto 7, 3), (178, .aload_n 0, 1), (179, .getfield 82, 3), (182, .putfield 82, 3), (185, .goto 399, 3), (188, .aload_n 0, 1), (189, .getfield 82, 3), (192, .bipush 8, 2), (194, .if_icmp .ne 24, 3), (197, .iload_n 1, 1), (198, .bipush 43, 2), (200, .if_icmp .eq 9, 3), (203, .iload_n 1, 1), (204, .bipush 45, 2), (206, .if_icmp .ne 12, 3), (209, .aload_n 0, 1), (210, .bipush 9, 2), (212, .putfield 82, 3), (215, .goto 369, 3), (218, .aload_n 0, 1), (219, .invokevirtual 157, 3), (222, .goto 362, 3), (225, .aload_n 0, 1), (226, .getfield 82, 3), (229, .iconst 2, 1), (230, .if_icmp .ne 104, 3), (233, .iload_n 2, 1), (234, .ifCond .ne 100, 3), (237, .iload_n 1, 1), (238, .bipush 95, 2), (240, .if_icmp .eq 94, 3), (243, .iload_n 1, 1), (244, .invokestatic 154, 3), (247, .ifCond .eq 87, 3)] : List (Nat × Instr × Nat)).all (fun q => decide (decode cX10_numeral q.1 = .ok (q.2.1, q.2.2))) = true := by decide +kernel
theorem dX10_numeral_161 : decode cX10_numeral 161 = .ok (.if_icmp .eq 12, 3) := dq_of dqX10_numeral_161 0 rfl
theorem dX10_numeral_164 : decode cX10_numeral 164 = .ok (.aload_n 0, 1) := dq_of dqX10_numeral_161 1 rfl
theorem dX10_numeral_165 : decode cX10_numeral 165 = .ok (.getfield 82, 3) := dq_of dqX10_numeral_161 2 rfl
theorem dX10_numeral_168 : decode cX10_numeral 168 = .ok (.bipush 9, 2) := dq_of dqX10_numeral_161 3 rfl
theorem dX10_numeral_170 : decode cX10_numeral 170 = .ok (.if_icmp .ne 8, 3) := dq_of dqX10_numeral_161 4 rfl
theorem dX10_numeral_173 : decode cX10_numeral 173 = .ok (.bipush 10, 2) := dq_of dqX10_numeral_161 5 rfl
theorem dX10_numeral_175 : decode cX10_numeral 175 = .ok (.goto 7, 3) := dq_of dqX10_numeral_161 6 rfl
theorem dX10_numeral_178 : decode cX10_numeral 178 = .ok (.aload_n 0, 1) := dq_of dqX10_numeral_161 7 rfl
theorem dX10_numeral_179 : decode cX10_numeral 179 = .ok (.getfield 82, 3) := dq_of dqX10_numeral_161 8 rfl
theorem dX10_numeral_182 : decode cX10_numeral 182 = .ok (.putfield 82, 3) := dq_of dqX10_numeral_161 9 rfl
theorem dX10_numeral_185 : decode cX10_numeral 185 = .ok (.goto 399, 3) := dq_of dqX10_numeral_161 10 rfl
theorem dX10_numeral_188 : decode cX10_numeral 188 = .ok (.aload_n 0, 1) := dq_of dqX10_numeral_161 11 rfl
theorem dX10_numeral_189 : decode cX10_numeral 189 = .ok (.getfield 82, 3) := dq_of dqX10_numeral_161 12 rfl
theorem dX10_numeral_192 : decode cX10_numeral 192 = .ok (.bipush 8, 2) := dq_of dqX10_numeral_161 13 rfl
theorem dX10_numeral_194 : decode cX10_numeral 194 = .ok (.if_icmp .ne 24, 3) := dq_of dqX10_numeral_161 14 rfl
theorem dX10_numeral_197 : decode cX10_numeral 197 = .ok (.iload_n 1, 1) := dq_of dqX10_numeral_161 15 rfl
theorem dX10_numeral_198 : decode cX10_numeral 198 = .ok (.bipush 43, 2) := dq_of dqX10_numeral_161 16 rfl
theorem dX10_numeral_200 : decode cX10_numeral 200 = .ok (.if_icmp .eq 9, 3) := dq_of dqX10_numeral_161 17 rfl
theorem dX10_numeral_203 : decode cX10_numeral 203 = .ok (.iload_n 1, 1) := dq_of dqX10_numeral_161 18 rfl
theorem dX10_numeral_204 : decode cX10_numeral 204 = .ok (.bipush 45, 2) := dq_of dqX10_numeral_161 19 rfl
theorem dX10_numeral_206 : decode cX10_numeral 206 = .ok (.if_icmp .ne 12, 3) := dq_of dqX10_numeral_161 20 rfl
theorem dX10_numeral_209 : decode cX10_numeral 209 = .ok (.aload_n 0, 1) := dq_of dqX10_numeral_161 21 rfl
theorem dX10_numeral_210 : decode cX10_numeral 210 = .ok (.bipush 9, 2) := dq_of dqX10_numeral_161 22 rfl
theorem dX10_numeral_212 : decode cX10_numeral 212 = .ok (.putfield 82, 3) := dq_of dqX10_numeral_161 23 rfl
theorem dX10_numeral_215 : decode cX10_numeral 215 = .ok (.goto 369, 3) := dq_of dqX10_numeral_161 24 rfl
theorem dX10_numeral_218 : decode cX10_numeral 218 = .ok (.aload_n 0, 1) := dq_of dqX10_numeral_161 25 rfl
theorem dX10_numeral_219 : decode cX10_numeral 219 = .ok (.invokevirtual 157, 3) := dq_of dqX10_numeral_161 26 rfl
theorem dX10_numeral_222 : decode cX10_numeral 222 = .ok (.goto 362, 3) := dq_of dqX10_numeral_161 27 rfl
theorem dX10_numeral_225 : decode cX10_numeral 225 = .ok (.aload_n 0, 1) := dq_of dqX10_numeral_161 28 rfl
theorem dX10_numeral_226 : decode cX10_numeral 226 = .ok (.getfield 82, 3) := dq_of dqX10_numeral_161 29 rfl
theorem dX10_numeral_229 : decode cX10_numeral 229 = .ok (.iconst 2, 1) := dq_of dqX10_numeral_161 30 rfl
theorem dX10_numeral_230 : decode cX10_numeral 230 = .ok (.if_icmp .ne 104, 3) := dq_of dqX10_numeral_161 31 rfl
theorem dX10_numeral_233 : decode cX10_numeral 233 = .ok (.iload_n 2, 1) := dq_of dqX10_numeral_161 32 rfl
theorem dX10_numeral_234 : decode cX10_numeral 234 = .ok (.ifCond .ne 100, 3) := dq_of dqX10_numeral_161 33 rfl
theorem dX10_numeral_237 : decode cX10_numeral 237 = .ok (.iload_n 1, 1) := dq_of dqX10_numeral_161 34 rfl
theorem dX10_numeral_238 : decode cX10_numeral 238 = .ok (.bipush 95, 2) := dq_of dqX10_numeral_161 35 rfl
theorem dX10_numeral_240 : decode cX10_numeral 240 = .ok (.if_icmp .eq 94, 3) := dq_of dqX10_numeral_161 36 rfl
theorem dX10_numeral_243 : decode cX10_numeral 243 = .ok (.iload_n 1, 1) := dq_of dqX10_numeral_161 37 rfl
theorem dX10_numeral_244 : decode cX10_numeral 244 = .ok (.invokestatic 154, 3) := dq_of dqX10_numeral_161 38 rfl
theorem dX10_numeral_247 : decode cX10_numeral 247 = .ok (.ifCond .eq 87, 3) := dq_of dqX10_numeral_161 39 rfl
theorem dqX10_numeral_250 : ([(250, .iload_n 3, 1), (251, .ifCond .ne 83, 3), (254, .aload_n 0, 1), (255, .iload_n 1, 1), (256, .bipush 98, 2), (258, .if_icmp .eq 9, 3), (261, .iload_n 1, 1), (262, .bipush 66, 2), (264, .if_icmp .ne 7, 3), (267, .iconst 2, 1), (268, .goto 38, 3), (271, .iload_n 1, 1), (272, .bipush 111, 2), (274, .if_icmp .eq 9, 3), (277, .iload_n 1, 1), (278, .bipush 79, 2), (280, .if_icmp .ne 8, 3), (283, .bipush 8, 2), (285, .goto 21, 3), (288, .iload_n 1, 1), (289, .bipush 120, 2), (291, .if_icmp .eq 9, 3), (294, .iload_n 1, 1), (295, .bipush 88, 2), (297, .if_icmp .ne 8, 3), (300, .bipush 16, 2), (302, .goto 4, 3), (305, .iconst 0, 1), (306, .putfield 141, 3), (309, .aload_n 0, 1), (310, .getfield 141, 3), (313, .ifCond .ne 7, 3), (316, .aload_n 0, 1), (317, .invokevirtual 157, 3), (320, .aload_n 0, 1), (321, .bipush 11, 2), (323, .putfield 82, 3), (326, .aload_n 0, 1), (327, .iconst 1, 1), (328, .putfield 150, 3)] : List (Nat × Instr × Nat)).all (fun q => decide (decode cX10_numeral q.1 = .ok (q.2.1, q.2.2))) = true := by decide +kernel
theorem dX10_numeral_250 : decode cX10_numeral 250 = .ok (.iload_n 3, 1) := dq_of dqX10_numeral_250 0 rfl
theorem dX10_numeral_251 : decode cX10_numeral 251 = .ok (.ifCond .ne 83, 3) := dq_of dqX10_numeral_250 1 rfl
theorem dX10_numeral_254 : decode cX10_numeral 254 = .ok (.aload_n 0, 1) := dq_of dqX10_numeral_250 2 rfl
theorem dX10_numeral_255 : decode cX10_numeral 255 = .ok (.iload_n 1, 1) := dq_of dqX10_numeral_250 3 rfl
theorem dX10_numeral_256 : decode cX10_numeral 256 = .ok (.bipush 98, 2) := dq_of dqX10_numeral_250 4 rfl
theorem dX10_numeral_258 : decode cX10_numeral 258 = .ok (.if_icmp .eq 9, 3) := dq_of dqX10_numeral_250 5 rfl
theorem dX10_numeral_261 : decode cX10_numeral 261 = .ok (.iload_n 1, 1) := dq_of dqX10_numeral_250 6 rfl
theorem dX10_numeral_262 : decode cX10_numeral 262 = .ok (.bipush 66, 2) := dq_of dqX10_numeral_250 7 rfl
theorem dX10_numeral_264 : decode cX10_numeral 264 = .ok (.if_icmp .ne 7, 3) := dq_of dqX10_numeral_250 8 rfl
theorem dX10_numeral_267 : decode cX10_numeral 267 = .ok (.iconst 2, 1) := dq_of dqX10_numeral_250 9 rfl
theorem dX10_numeral_268 : decode cX10_numeral 268 = .ok (.goto 38, 3) := dq_of dqX10_numeral_250 10 rfl
theorem dX10_numeral_271 : decode cX10_numeral 271 = .ok (.iload_n 1, 1) := dq_of dqX10_numeral_250 11 rfl
theorem dX10_numeral_272 : decode cX10_numeral 272 = .ok (.bipush 111, 2) := dq_of dqX10_numeral_250 12 rfl
theorem dX10_numeral_274 : decode cX10_numeral 274 = .ok (.if_icmp .eq 9, 3) := dq_of dqX10_numeral_250 13 rfl
theorem dX10_numeral_277 : decode cX10_numeral 277 = .ok (.iload_n 1, 1) := dq_of dqX10_numeral_250 14 rfl
theorem dX10_numeral_278 : decode cX10_numeral 278 = .ok (.bipush 79, 2) := dq_of dqX10_numeral_250 15 rfl
theorem dX10_numeral_280 : decode cX10_numeral 280 = .ok (.if_icmp .ne 8, 3) := dq_of dqX10_numeral_250 16 rfl
theorem dX10_numeral_283 : decode cX10_numeral 283 = .ok (.bipush 8, 2) := dq_of dqX10_numeral_250 17 rfl
theorem dX10_numeral_285 : decode cX10_numeral 285 = .ok (.goto 21, 3) := dq_of dqX10_numeral_250 18 rfl
theorem dX10_numeral_288 : decode cX10_numeral 288 = .ok (.iload_n 1, 1) := dq_of dqX10_numeral_250 19 rfl
theorem dX10_numeral_289 : decode cX10_numeral 289 = .ok (.bipush 120, 2) := dq_of dqX10_numeral_250 20 rfl
theorem dX10_numeral_291 : decode cX10_numeral 291 = .ok (.if_icmp .eq 9, 3) := dq_of dqX10_numeral_250 21 rfl
theorem dX10_numeral_294 : decode cX10_numeral 294 = .ok (.iload_n 1, 1) := dq_of dqX10_numeral_250 22 rfl
theorem dX10_numeral_295 : decode cX10_numeral 295 = .ok (.bipush 88, 2) := dq_of dqX10_numeral_250 23 rfl
theorem dX10_numeral_297 : decode cX10_numeral 297 = .ok (.if_icmp .ne 8, 3) := dq_of dqX10_numeral_250 24 rfl
theorem dX10_numeral_300 : decode cX10_numeral 300 = .ok (.bipush 16, 2) := dq_of dqX10_numeral_250 25 rfl
theorem dX10_numeral_302 : decode cX10_numeral 302 = .ok (.goto 4, 3) := dq_of dqX10_numeral_250 26 rfl
theorem dX10_numeral_305 : decode cX10_numeral 305 = .ok (.iconst 0, 1) := dq_of dqX10_numeral_250 27 rfl
theorem dX10_numeral_306 : decode cX10_numeral 306 = .ok (.putfield 141, 3) := dq_of dqX10_numeral_250 28 rfl
theorem dX10_numeral_309 : decode cX10_numeral 309 = .ok (.aload_n 0, 1) := dq_of dqX10_numeral_250 29 rfl
theorem dX10_numeral_310 : decode cX10_numeral 310 = .ok (.getfield 141, 3) := dq_of dqX10_numeral_250 30 rfl
theorem dX10_numeral_313 : decode cX10_numeral 313 = .ok (.ifCond .ne 7, 3) := dq_of dqX10_numeral_250 31 rfl
theorem dX10_numeral_316 : decode cX10_numeral 316 = .ok (.aload_n 0, 1) := dq_of dqX10_numeral_250 32 rfl
theorem dX10_numeral_317 : decode cX10_numeral 317 = .ok (.invokevirtual 157, 3) := dq_of dqX10_numeral_250 33 rfl
theorem dX10_numeral_320 : decode cX10_numeral 320 = .ok (.aload_n 0, 1) := dq_of dqX10_numeral_250 34 rfl
theorem dX10_numeral_321 : decode cX10_numeral 321 = .ok (.bipush 11, 2) := dq_of dqX10_numeral_250 35 rfl
theorem dX10_numeral_323 : decode cX10_numeral 323 = .ok (.putfield 82, 3) := dq_of dqX10_numeral_250 36 rfl
theorem dX10_numeral_326 : decode cX10_numeral 326 = .ok (.aload_n 0, 1) := dq_of dqX10_numeral_250 37 rfl
theorem dX10_numeral_327 : decode cX10_numeral 327 = .ok (.iconst 1, 1) := dq_of dqX10_numeral_250 38 rfl
theorem dX10_numeral_328 : decode cX10_numeral 328 = .ok (.putfield 150, 3) := dq_of dqX10_numeral_250 39 rfl
theorem dqX10_numeral_331 : ([(331, .goto 253, 3), (334, .iload_n 2, 1), (335, .ifCond .eq 58, 3), (338, .aload_n 0, 1), (339, .aload_n 0, 1), (340, .getfield 82, 3), (343, .iconst 2, 1), (344, .if_icmp .eq 11, 3), (347, .aload_n 0, 1), (348, .getfield 82, 3), (351, .iconst 3, 1), (352, .if_icmp .ne 17, 3), (355, .iload_n 1, 1), (356, .bipush 55, 2), (358, .if_icmp .le 7, 3), (361, .iconst 4, 1), (362, .goto 25, 3), (365, .iconst 3, 1), (366, .goto 21, 3), (369, .aload_n 0, 1), (370, .getfield 82, 3), (373, .bipush 6, 2), (375, .if_icmp .ne 8, 3), (378, .bipush 7, 2), (380, .goto 7, 3), (383, .aload_n 0, 1), (384, .getfield 82, 3), (387, .putfield 82, 3), (390, .goto 194, 3), (393, .iload_n 1, 1), (394, .bipush 95, 2), (396, .if_icmp .ne 40, 3), (399, .aload_n 0, 1), (400, .getfield 82, 3), (403, .bipush 6, 2), (405, .if_icmp .eq 31, 3), (408, .aload_n 0, 1), (409, .aload_n 0, 1), (410, .getfield 82, 3), (413, .iconst 2, 1)] : List (Nat × Instr × Nat)).all (fun q => decide (decode cX10_numeral q.1 = .ok (q.2.1, q.2.2))) = true := by decide +kernel
theorem dX10_numeral_331 : decode cX10_numeral 331 = .ok (.goto 253, 3) := dq_of dqX10_numeral_331 0 rfl
theorem dX10_numeral_334 : decode cX10_numeral 334 = .ok (.iload_n 2, 1) := dq_of dqX10_numeral_331 1 rfl
theorem dX10_numeral_335 : decode cX10_numeral 335 = .ok (.ifCond .eq 58, 3) := dq_of dqX10_numeral_331 2 rfl
theorem dX10_numeral_338 : decode cX10_numeral 338 = .ok (.aload_n 0, 1) := dq_of dqX10_numeral_331 3 rfl
theorem dX10_numeral_339 : decode cX10_numeral 339 = .ok (.aload_n 0, 1) := dq_of dqX10_numeral_331 4 rfl
theorem dX10_numeral_340 : decode cX10_numeral 340 = .ok (.getfield 82, 3) := dq_of dqX10_numeral_331 5 rfl
theorem dX10_numeral_343 : decode cX10_numeral 343 = .ok (.iconst 2, 1) := dq_of dqX10_numeral_331 6 rfl
theorem dX10_numeral_344 : decode cX10_numeral 344 = .ok (.if_icmp .eq 11, 3) := dq_of dqX10_numeral_331 7 rfl
theorem dX10_numeral_347 : decode cX10_numeral 347 = .ok (.aload_n 0, 1) := dq_of dqX10_numeral_331 8 rfl
theorem dX10_numeral_348 : decode cX10_numeral 348 = .ok (.getfield 82, 3) := dq_of dqX10_numeral_331 9 rfl
theorem dX10_numeral_351 : decode cX10_numeral 351 = .ok (.iconst 3, 1) := dq_of dqX10_numeral_331 10 rfl
theorem dX10_numeral_352 : decode cX10_numeral 352 = .ok (.if_icmp .ne 17, 3) := dq_of dqX10_numeral_331 11 rfl
theorem dX10_numeral_355 : decode cX10_numeral 355 = .ok (.iload_n 1, 1) := dq_of dqX10_numeral_331 12 rfl
theorem dX10_numeral_356 : decode cX10_numeral 356 = .ok (.bipush 55, 2) := dq_of dqX10_numeral_331 13 rfl
theorem dX10_numeral_358 : decode cX10_numeral 358 = .ok (.if_icmp .le 7, 3) := dq_of dqX10_numeral_331 14 rfl
theorem dX10_numeral_361 : decode cX10_numeral 361 = .ok (.iconst 4, 1) := dq_of dqX10_numeral_331 15 rfl
theorem dX10_numeral_362 : decode cX10_numeral 362 = .ok (.goto 25, 3) := dq_of dqX10_numeral_331 16 rfl
theorem dX10_numeral_365 : decode cX10_numeral 365 = .ok (.iconst 3, 1) := dq_of dqX10_numeral_331 17 rfl
theorem dX10_numeral_366 : decode cX10_numeral 366 = .ok (.goto 21, 3) := dq_of dqX10_numeral_331 18 rfl
theorem dX10_numeral_369 : decode cX10_numeral 369 = .ok (.aload_n 0, 1) := dq_of dqX10_numeral_331 19 rfl
theorem dX10_numeral_370 : decode cX10_numeral 370 = .ok (.getfield 82, 3) := dq_of dqX10_numeral_331 20 rfl
theorem dX10_numeral_373 : decode cX10_numeral 373 = .ok (.bipush 6, 2) := dq_of dqX10_numeral_331 21 rfl
theorem dX10_numeral_375 : decode cX10_numeral 375 = .ok (.if_icmp .ne 8, 3) := dq_of dqX10_numeral_331 22 rfl
theorem dX10_numeral_378 : decode cX10_numeral 378 = .ok (.bipush 7, 2) := dq_of dqX10_numeral_331 23 rfl
theorem dX10_numeral_380 : decode cX10_numeral 380 = .ok (.goto 7, 3) := dq_of dqX10_numeral_331 24 rfl
theorem dX10_numeral_383 : decode cX10_numeral 383 = .ok (.aload_n 0, 1) := dq_of dqX10_numeral_331 25 rfl
theorem dX10_numeral_384 : decode cX10_numeral 384 = .ok (.getfield 82, 3) := dq_of dqX10_numeral_331 26 rfl
theorem dX10_numeral_387 : decode cX10_numeral 387 = .ok (.putfield 82, 3) := dq_of dqX10_numeral_331 27 rfl
theorem dX10_numeral_390 : decode cX10_numeral 390 = .ok (.goto 194, 3) := dq_of dqX10_numeral_331 28 rfl
theorem dX10_numeral_393 : decode cX10_numeral 393 = .ok (.iload_n 1, 1) := dq_of dqX10_numeral_331 29 rfl
theorem dX10_numeral_394 : decode cX10_numeral 394 = .ok (.bipush 95, 2) := dq_of dqX10_numeral_331 30 rfl
theorem dX10_numeral_396 : decode cX10_numeral 396 = .ok (.if_icmp .ne 40, 3) := dq_of dqX10_numeral_331 31 rfl
theorem dX10_numeral_399 : decode cX10_numeral 399 = .ok (.aload_n 0, 1) := dq_of dqX10_numeral_331 32 rfl
theorem dX10_numeral_400 : decode cX10_numeral 400 = .ok (.getfield 82, 3) := dq_of dqX10_numeral_331 33 rfl
theorem dX10_numeral_403 : decode cX10_numeral 403 = .ok (.bipush 6, 2) := dq_of dqX10_numeral_331 34 rfl
theorem dX10_numeral_405 : decode cX10_numeral 405 = .ok (.if_icmp .eq 31, 3) := dq_of dqX10_numeral_331 35 rfl
theorem dX10_numeral_408 : decode cX10_numeral 408 = .ok (.aload_n 0, 1) := dq_of dqX10_numeral_331 36 rfl
theorem dX10_numeral_409 : decode cX10_numeral 409 = .ok (.aload_n 0, 1) := dq_of dqX10_numeral_331 37 rfl
theorem dX10_numeral_410 : decode cX10_numeral 410 = .ok (.getfield 82, 3) := dq_of dqX10_numeral_331 38 rfl
theorem dX10_numeral_413 : decode cX10_numeral 413 = .ok (.iconst 2, 1) := dq_of dqX10_numeral_331 39 rfl
theorem dqX10_numeral_414 : ([(414, .if_icmp .ne 7, 3), (417, .iconst 3, 1), (418, .goto 7, 3), (421, .aload_n 0, 1), (422, .getfield 82, 3), (425, .putfield 82, 3), (428, .aload_n 0, 1), (429, .iconst 1, 1), (430, .putfield 150, 3), (433, .goto 151, 3), (436, .iload_n 1, 1), (437, .bipush 46, 2), (439, .if_icmp .ne 44, 3), (442, .aload_n 0, 1), (443, .getfield 82, 3), (446, .iconst 2, 1), (447, .if_icmp .eq 27, 3), (450, .aload_n 0, 1), (451, .getfield 82, 3), (454, .iconst 3, 1), (455, .if_icmp .eq 19, 3), (458, .aload_n 0, 1), (459, .getfield 82, 3), (462, .iconst 4, 1), (463, .if_icmp .eq 11, 3), (466, .aload_n 0, 1), (467, .getfield 82, 3), (470, .iconst 5, 1), (471, .if_icmp .ne 12, 3), (474, .aload_n 0, 1), (475, .bipush 6, 2), (477, .putfield 82, 3), (480, .goto 104, 3), (483, .iload_n 3, 1), (484, .ifCond .eq 26, 3), (487, .aload_n 0, 1), (488, .getfield 82, 3), (491, .bipush 10, 2), (493, .if_icmp .eq 17, 3), (496, .aload_n 0, 1)] : List (Nat × Instr × Nat)).all (fun q => decide (decode cX10_numeral q.1 = .ok (q.2.1, q.2.2))) = true := by decide +kernel
theorem dX10_numeral_414 : decode cX10_numeral 414 = .ok (.if_icmp .ne 7, 3) := dq_of dqX10_numeral_414 0 rfl
theorem dX10_numeral_417 : decode cX10_numeral 417 = .ok (.iconst 3, 1) := dq_of dqX10_numeral_414 1 rfl
theorem dX10_numeral_418 : decode cX10_numeral 418 = .ok (.goto 7, 3) := dq_of dqX10_numeral_414 2 rfl
theorem dX10_numeral_421 : decode cX10_numeral 421 = .ok (.aload_n 0, 1) := dq_of dqX10_numeral_414 3 rfl
theorem dX10_numeral_422 : decode cX10_numeral 422 = .ok (.getfield 82, 3) := dq_of dqX10_numeral_414 4 rfl
theorem dX10_numeral_425 : decode cX10_numeral 425 = .ok (.putfield 82, 3) := dq_of dqX10_numeral_414 5 rfl
theorem dX10_numeral_428 : decode cX10_numeral 428 = .ok (.aload_n 0, 1) := dq_of dqX10_numeral_414 6 rfl
theorem dX10_numeral_429 : decode cX10_numeral 429 = .ok (.iconst 1, 1) := dq_of dqX10_numeral_414 7 rfl
theorem dX10_numeral_430 : decode cX10_numeral 430 = .ok (.putfield 150, 3) := dq_of dqX10_numeral_414 8 rfl
theorem dX10_numeral_433 : decode cX10_numeral 433 = .ok (.goto 151, 3) := dq_of dqX10_numeral_414 9 rfl
theorem dX10_numeral_436 : decode cX10_numeral 436 = .ok (.iload_n 1, 1) := dq_of dqX10_numeral_414 10 rfl
theorem dX10_numeral_437 : decode cX10_numeral 437 = .ok (.bipush 46, 2) := dq_of dqX10_numeral_414 11 rfl
theorem dX10_numeral_439 : decode cX10_numeral 439 = .ok (.if_icmp .ne 44, 3) := dq_of dqX10_numeral_414 12 rfl
theorem dX10_numeral_442 : decode cX10_numeral 442 = .ok (.aload_n 0, 1) := dq_of dqX10_numeral_414 13 rfl
theorem dX10_numeral_443 : decode cX10_numeral 443 = .ok (.getfield 82, 3) := dq_of dqX10_numeral_414 14 rfl
theorem dX10_numeral_446 : decode cX10_numeral 446 = .ok (.iconst 2, 1) := dq_of dqX10_numeral_414 15 rfl
theorem dX10_numeral_447 : decode cX10_numeral 447 = .ok (.if_icmp .eq 27, 3) := dq_of dqX10_numeral_414 16 rfl
theorem dX10_numeral_450 : decode cX10_numeral 450 = .ok (.aload_n 0, 1) := dq_of dqX10_numeral_414 17 rfl
theorem dX10_numeral_451 : decode cX10_numeral 451 = .ok (.getfield 82, 3) := dq_of dqX10_numeral_414 18 rfl
theorem dX10_numeral_454 : decode cX10_numeral 454 = .ok (.iconst 3, 1) := dq_of dqX10_numeral_414 19 rfl
theorem dX10_numeral_455 : decode cX10_numeral 455 = .ok (.if_icmp .eq 19, 3) := dq_of dqX10_numeral_414 20 rfl
theorem dX10_numeral_458 : decode cX10_numeral 458 = .ok (.aload_n 0, 1) := dq_of dqX10_numeral_414 21 rfl
theorem dX10_numeral_459 : decode cX10_numeral 459 = .ok (.getfield 82, 3) := dq_of dqX10_numeral_414 22 rfl
theorem dX10_numeral_462 : decode cX10_numeral 462 = .ok (.iconst 4, 1) := dq_of dqX10_numeral_414 23 rfl
theorem dX10_numeral_463 : decode cX10_numeral 463 = .ok (.if_icmp .eq 11, 3) := dq_of dqX10_numeral_414 24 rfl
theorem dX10_numeral_466 : decode cX10_numeral 466 = .ok (.aload_n 0, 1) := dq_of dqX10_numeral_414 25 rfl
theorem dX10_numeral_467 : decode cX10_numeral 467 = .ok (.getfield 82, 3) := dq_of dqX10_numeral_414 26 rfl
theorem dX10_numeral_470 : decode cX10_numeral 470 = .ok (.iconst 5, 1) := dq_of dqX10_numeral_414 27 rfl
theorem dX10_numeral_471 : decode cX10_numeral 471 = .ok (.if_icmp .ne 12, 3) := dq_of dqX10_numeral_414 28 rfl
theorem dX10_numeral_474 : decode cX10_numeral 474 = .ok (.aload_n 0, 1) := dq_of dqX10_numeral_414 29 rfl
theorem dX10_numeral_475 : decode cX10_numeral 475 = .ok (.bipush 6, 2) := dq_of dqX10_numeral_414 30 rfl
theorem dX10_numeral_477 : decode cX10_numeral 477 = .ok (.putfield 82, 3) := dq_of dqX10_numeral_414 31 rfl
theorem dX10_numeral_480 : decode cX10_numeral 480 = .ok (.goto 104, 3) := dq_of dqX10_numeral_414 32 rfl
theorem dX10_numeral_483 : decode cX10_numeral 483 = .ok (.iload_n 3, 1) := dq_of dqX10_numeral_414 33 rfl
theorem dX10_numeral_484 : decode cX10_numeral 484 = .ok (.ifCond .eq 26, 3) := dq_of dqX10_numeral_414 34 rfl
theorem dX10_numeral_487 : decode cX10_numeral 487 = .ok (.aload_n 0, 1) := dq_of dqX10_numeral_414 35 rfl
theorem dX10_numeral_488 : decode cX10_numeral 488 = .ok (.getfield 82, 3) := dq_of dqX10_numeral_414 36 rfl
theorem dX10_numeral_491 : decode cX10_numeral 491 = .ok (.bipush 10, 2) := dq_of dqX10_numeral_414 37 rfl
theorem dX10_numeral_493 : decode cX10_numeral 493 = .ok (.if_icmp .eq 17, 3) := dq_of dqX10_numeral_414 38 rfl
theorem dX10_numeral_496 : decode cX10_numeral 496 = .ok (.aload_n 0, 1) := dq_of dqX10_numeral_414 39 rfl
theorem dqX10_numeral_497 : ([(497, .bipush 8, 2), (499, .putfield 82, 3), (502, .aload_n 0, 1), (503, .iconst 1, 1), (504, .putfield 150, 3), (507, .goto 77, 3), (510, .iload_n 1, 1), (511, .invokestatic 154, 3), (514, .ifCond .ne 11, 3), (517, .aload_n 0, 1), (518, .getfield 82, 3), (521, .iconst 4, 1), (522, .if_icmp .ne 10, 3), (525, .aload_n 0, 1), (526, .invokevirtual 157, 3), (529, .goto 55, 3), (532, .aload_n 0, 1), (533, .aload_n 0, 1), (534, .getfield 82, 3), (537, .iconst 3, 1), (538, .if_icmp .ne 8, 3), (541, .bipush 8, 2), (543, .goto 5, 3), (546, .bipush 10, 2), (548, .putfield 141, 3), (551, .aload_n 0, 1), (552, .aload_n 0, 1), (553, .getfield 82, 3), (556, .iconst 2, 1), (557, .if_icmp .eq 19, 3), (560, .aload_n 0, 1), (561, .getfield 82, 3), (564, .iconst 3, 1), (565, .if_icmp .eq 11, 3), (568, .aload_n 0, 1), (569, .getfield 82, 3), (572, .iconst 5, 1), (573, .if_icmp .ne 7, 3), (576, .iconst 1, 1), (577, .goto 4, 3)] : List (Nat × Instr × Nat)).all (fun q => decide (decode cX10_numeral q.1 = .ok (q.2.1, q.2.2))) = true := by decide +kernel
theorem dX10_numeral_497 : decode cX10_numeral 497 = .ok (.bipush 8, 2) := dq_of dqX10_numeral_497 0 rfl
theorem dX10_numeral_499 : decode cX10_numeral 499 = .ok (.putfield 82, 3) := dq_of dqX10_numeral_497 1 rfl
theorem dX10_numeral_502 : decode cX10_numeral 502 = .ok (.aload_n 0, 1) := dq_of dqX10_numeral_497 2 rfl
theorem dX10_numeral_503 : decode cX10_numeral 503 = .ok (.iconst 1, 1) := dq_of dqX10_numeral_497 3 rfl
theorem dX10_numeral_504 : decode cX10_numeral 504 = .ok (.putfield 150, 3) := dq_of dqX10_numeral_497 4 rfl
theorem dX10_numeral_507 : decode cX10_numeral 507 = .ok (.goto 77, 3) := dq_of dqX10_numeral_497 5 rfl
theorem dX10_numeral_510 : decode cX10_numeral 510 = .ok (.iload_n 1, 1) := dq_of dqX10_numeral_497 6 rfl
theorem dX10_numeral_511 : decode cX10_numeral 511 = .ok (.invokestatic 154, 3) := dq_of dqX10_numeral_497 7 rfl
theorem dX10_numeral_514 : decode cX10_numeral 514 = .ok (.ifCond .ne 11, 3) := dq_of dqX10_numeral_497 8 rfl
theorem dX10_numeral_517 : decode cX10_numeral 517 = .ok (.aload_n 0, 1) := dq_of dqX10_numeral_497 9 rfl
theorem dX10_numeral_518 : decode cX10_numeral 518 = .ok (.getfield 82, 3) := dq_of dqX10_numeral_497 10 rfl
theorem dX10_numeral_521 : decode cX10_numeral 521 = .ok (.iconst 4, 1) := dq_of dqX10_numeral_497 11 rfl
theorem dX10_numeral_522 : decode cX10_numeral 522 = .ok (.if_icmp .ne 10, 3) := dq_of dqX10_numeral_497 12 rfl
theorem dX10_numeral_525 : decode cX10_numeral 525 = .ok (.aload_n 0, 1) := dq_of dqX10_numeral_497 13 rfl
theorem dX10_numeral_526 : decode cX10_numeral 526 = .ok (.invokevirtual 157, 3) := dq_of dqX10_numeral_497 14 rfl
theorem dX10_numeral_529 : decode cX10_numeral 529 = .ok (.goto 55, 3) := dq_of dqX10_numeral_497 15 rfl
theorem dX10_numeral_532 : decode cX10_numeral 532 = .ok (.aload_n 0, 1) := dq_of dqX10_numeral_497 16 rfl
theorem dX10_numeral_533 : decode cX10_numeral 533 = .ok (.aload_n 0, 1) := dq_of dqX10_numeral_497 17 rfl
theorem dX10_numeral_534 : decode cX10_numeral 534 = .ok (.getfield 82, 3) := dq_of dqX10_numeral_497 18 rfl
theorem dX10_numeral_537 : decode cX10_numeral 537 = .ok (.iconst 3, 1) := dq_of dqX10_numeral_497 19 rfl
theorem dX10_numeral_538 : decode cX10_numeral 538 = .ok (.if_icmp .ne 8, 3) := dq_of dqX10_numeral_497 20 rfl
theorem dX10_numeral_541 : decode cX10_numeral 541 = .ok (.bipush 8, 2) := dq_of dqX10_numeral_497 21 rfl
theorem dX10_numeral_543 : decode cX10_numeral 543 = .ok (.goto 5, 3) := dq_of dqX10_numeral_497 22 rfl
theorem dX10_numeral_546 : decode cX10_numeral 546 = .ok (.bipush 10, 2) := dq_of dqX10_numeral_497 23 rfl
theorem dX10_numeral_548 : decode cX10_numeral 548 = .ok (.putfield 141, 3) := dq_of dqX10_numeral_497 24 rfl
theorem dX10_numeral_551 : decode cX10_numeral 551 = .ok (.aload_n 0, 1) := dq_of dqX10_numeral_497 25 rfl
theorem dX10_numeral_552 : decode cX10_numeral 552 = .ok (.aload_n 0, 1) := dq_of dqX10_numeral_497 26 rfl
theorem dX10_numeral_553 : decode cX10_numeral 553 = .ok (.getfield 82, 3) := dq_of dqX10_numeral_497 27 rfl
theorem dX10_numeral_556 : decode cX10_numeral 556 = .ok (.iconst 2, 1) := dq_of dqX10_numeral_497 28 rfl
theorem dX10_numeral_557 : decode cX10_numeral 557 = .ok (.if_icmp .eq 19, 3) := dq_of dqX10_numeral_497 29 rfl
theorem dX10_numeral_560 : decode cX10_numeral 560 = .ok (.aload_n 0, 1) := dq_of dqX10_numeral_497 30 rfl
theorem dX10_numeral_561 : decode cX10_numeral 561 = .ok (.getfield 82, 3) := dq_of dqX10_numeral_497 31 rfl
theorem dX10_numeral_564 : decode cX10_numeral 564 = .ok (.iconst 3, 1) := dq_of dqX10_numeral_497 32 rfl
theorem dX10_numeral_565 : decode cX10_numeral 565 = .ok (.if_icmp .eq 11, 3) := dq_of dqX10_numeral_497 33 rfl
theorem dX10_numeral_568 : decode cX10_numeral 568 = .ok (.aload_n 0, 1) := dq_of dqX10_numeral_497 34 rfl
theorem dX10_numeral_569 : decode cX10_numeral 569 = .ok (.getfield 82, 3) := dq_of dqX10_numeral_497 35 rfl
theorem dX10_numeral_572 : decode cX10_numeral 572 = .ok (.iconst 5, 1) := dq_of dqX10_numeral_497 36 rfl
theorem dX10_numeral_573 : decode cX10_numeral 573 = .ok (.if_icmp .ne 7, 3) := dq_of dqX10_numeral_497 37 rfl
theorem dX10_numeral_576 : decode cX10_numeral 576 = .ok (.iconst 1, 1) := dq_of dqX10_numeral_497 38 rfl
theorem dX10_numeral_577 : decode cX10_numeral 577 = .ok (.goto 4, 3) := dq_of dqX10_numeral_497 39 rfl
theorem dqX10_numeral_580 : ([(580, .iconst 0, 1), (581, .invokevirtual 160, 3), (584, .return_, 1)] : List (Nat × Instr × Nat)).all (fun q => decide (decode cX10_numeral q.1 = .ok (q.2.1, q.2.2))) = true := by decide +kernel
theorem dX10_numeral_580 : decode cX10_numeral 580 = .ok (.iconst 0, 1) := dq_of dqX10_numeral_580 0 rfl
theorem dX10_numeral_581 : decode cX10_numeral 581 = .ok (.invokevirtual 160, 3) := dq_of dqX10_numeral_580 1 rfl
theorem dX10_numeral_584 : decode cX10_numeral 584 = .ok (.return_, 1) := dq_of dqX10_numeral_580 2 rfl
theorem dqX10_ends_0 : ([(0, .aload_n 0, 1), (1, .iload_n 1, 1), (2, .invokevirtual 164, 3), (5, .aload_n 0, 1), (6, .iconst 0, 1), (7, .putfield 82, 3), (10, .aload_n 0, 1), (11, .aload_n 0, 1), (12, .getfield 79, 3), (15, .aload_n 0, 1), (16, .getfield 69, 3), (19, .if_icmp .ge 14, 3), (22, .aload_n 0, 1), (23, .aload_n 0, 1), (24, .getfield 79, 3), (27, .invokevirtual 124, 3), (30, .goto 4, 3), (33, .iconst (-1), 1), (34, .invokevirtual 167, 3), (37, .return_, 1)] : List (Nat × Instr × Nat)).all (fun q => decide (decode cX10_ends q.1 = .ok (q.2.1, q.2.2))) = true := by decide +kernel
theorem dX10_ends_0 : decode cX10_ends 0 = .ok (.aload_n 0, 1) := dq_of dqX10_ends_0 0 rfl
theorem dX10_ends_1 : decode cX10_ends 1 = .ok (.iload_n 1, 1) := dq_of dqX10_ends_0 1 rfl
theorem dX10_ends_2 : decode cX10_ends 2 = .ok (.invokevirtual 164, 3) := dq_of dqX10_ends_0 2 rfl
theorem dX10_ends_5 : decode cX10_ends 5 = .ok (.aload_n 0, 1) := dq_of dqX10_ends_0 3 rfl
theorem dX10_ends_6 : decode cX10_ends 6 = .ok (.iconst 0, 1) := dq_of dqX10_ends_0 4 rfl
theorem dX10_ends_7 : decode cX10_ends 7 = .ok (.putfield 82, 3) := dq_of dqX10_ends_0 5 rfl
theorem dX10_ends_10 : decode cX10_ends 10 = .ok (.aload_n 0, 1) := dq_of dqX10_ends_0 6 rfl
theorem dX10_ends_11 : decode cX10_ends 11 = .ok (.aload_n 0, 1) := dq_of dqX10_ends_0 7 rfl
theorem dX10_ends_12 : decode cX10_ends 12 = .ok (.getfield 79, 3) := dq_of dqX10_ends_0 8 rfl
theorem dX10_ends_15 : decode cX10_ends 15 = .ok (.aload_n 0, 1) := dq_of dqX10_ends_0 9 rfl
theorem dX10_ends_16 : decode cX10_ends 16 = .ok (.getfield 69, 3) := dq_of dqX10_ends_0 10 rfl
theorem dX10_ends_19 : decode cX10_ends 19 = .ok (.if_icmp .ge 14, 3) := dq_of dqX10_ends_0 11 rfl
theorem dX10_ends_22 : decode cX10_ends 22 = .ok (.aload_n 0, 1) := dq_of dqX10_ends_0 12 rfl
theorem dX10_ends_23 : decode cX10_ends 23 = .ok (.aload_n 0, 1) := dq_of dqX10_ends_0 13 rfl
theorem dX10_ends_24 : decode cX10_ends 24 = .ok (.getfield 79, 3) := dq_of dqX10_ends_0 14 rfl
theorem dX10_ends_27 : decode cX10_ends 27 = .ok (.invokevirtual 124, 3) := dq_of dqX10_ends_0 15 rfl
theorem dX10_ends_30 : decode cX10_ends 30 = .ok (.goto 4, 3) := dq_of dqX10_ends_0 16 rfl
theorem dX10_ends_33 : decode cX10_ends 33 = .ok (.iconst (-1), 1) := dq_of dqX10_ends_0 17 rfl
theorem dX10_ends_34 : decode cX10_ends 34 = .ok (.invokevirtual 167, 3) := dq_of dqX10_ends_0 18 rfl
theorem dX10_ends_37 : decode cX10_ends 37 = .ok (.return_, 1) := dq_of dqX10_ends_0 19 rfl
theorem dqX10_signOf_0 : ([(0, .iconst 0, 1), (1, .istore 4, 2), (3, .iconst 0, 1), (4, .istore 5, 2), (6, .iload_n 3, 1), (7, .iconst (-1), 1), (8, .if_icmp .ne 7, 3), (11, .iload_n 2, 1), (12, .goto 6, 3), (15, .iload_n 2, 1), (16, .iconst 1, 1), (17, .iadd, 1), (18, .istore 6, 2), (20, .iload 5, 2), (22, .ldc 170, 2), (24, .invokevirtual 115, 3), (27, .if_icmp .ge 110, 3), (30, .iconst 0, 1), (31, .istore 7, 2), (33, .iconst 1, 1), (34, .istore 8, 2), (36, .ldc 170, 2), (38, .iload 5, 2), (40, .iload 7, 2), (42, .iadd, 1), (43, .invokevirtual 120, 3), (46, .bipush 32, 2), (48, .if_icmp .eq 59, 3), (51, .iload 8, 2), (53, .ifCond .eq 45, 3), (56, .iload 7, 2), (58, .iload 6, 2), (60, .if_icmp .ge 38, 3), (63, .ldc 170, 2), (65, .iload 5, 2), (67, .iload 7, 2), (69, .iadd, 1), (70, .invokevirtual 120, 3), (73, .iload 7, 2), (75, .iload_n 2, 1)] : List (Nat × Instr × Nat)).all (fun q => decide (decode cX10_signOf q.1 = .ok (q.2.1, q.2.2))) = true := by decide +kernel
theorem dX10_signOf_0 : decode cX10_signOf 0 = .ok (.iconst 0, 1) := dq_of dqX10_signOf_0 0 rfl
theorem dX10_signOf_1 : decode cX10_signOf 1 = .ok (.istore 4, 2) := dq_of dqX10_signOf_0 1 rfl
theorem dX10_signOf_3 : decode cX10_signOf 3 = .ok (.iconst 0, 1) := dq_of dqX10_signOf_0 2 rfl
theorem dX10_signOf_4 : decode cX10_signOf 4 = .ok (.istore 5, 2) := dq_of dqX10_signOf_0 3 rfl
theorem dX10_signOf_6 : decode cX10_signOf 6 = .ok (.iload_n 3, 1) := dq_of dqX10_signOf_0 4 rfl
theorem dX10_signOf_7 : decode cX10_signOf 7 = .ok (.iconst (-1), 1) := dq_of dqX10_signOf_0 5 rfl
theorem dX10_signOf_8 : decode cX10_signOf 8 = .ok (.if_icmp .ne 7, 3) := dq_of dqX10_signOf_0 6 rfl
theorem dX10_signOf_11 : decode cX10_signOf 11 = .ok (.iload_n 2, 1) := dq_of dqX10_signOf_0 7 rfl
theorem dX10_signOf_12 : decode cX10_signOf 12 = .ok (.goto 6, 3) := dq_of dqX10_signOf_0 8 rfl
theorem dX10_signOf_15 : decode cX10_signOf 15 = .ok (.iload_n 2, 1) := dq_of dqX10_signOf_0 9 rfl
theorem dX10_signOf_16 : decode cX10_signOf 16 = .ok (.iconst 1, 1) := dq_of dqX10_signOf_0 10 rfl
theorem dX10_signOf_17 : decode cX10_signOf 17 = .ok (.iadd, 1) := dq_of dqX10_signOf_0 11 rfl
theorem dX10_signOf_18 : decode cX10_signOf 18 = .ok (.istore 6, 2) := dq_of dqX10_signOf_0 12 rfl
theorem dX10_signOf_20 : decode cX10_signOf 20 = .ok (.iload 5, 2) := dq_of dqX10_signOf_0 13 rfl
theorem dX10_signOf_22 : decode cX10_signOf 22 = .ok (.ldc 170, 2) := dq_of dqX10_signOf_0 14 rfl
theorem dX10_signOf_24 : decode cX10_signOf 24 = .ok (.invokevirtual 115, 3) := dq_of dqX10_signOf_0 15 rfl
theorem dX10_signOf_27 : decode cX10_signOf 27 = .ok (.if_icmp .ge 110, 3) := dq_of dqX10_signOf_0 16 rfl
theorem dX10_signOf_30 : decode cX10_signOf 30 = .ok (.iconst 0, 1) := dq_of dqX10_signOf_0 17 rfl
theorem dX10_signOf_31 : decode cX10_signOf 31 = .ok (.istore 7, 2) := dq_of dqX10_signOf_0 18 rfl
theorem dX10_signOf_33 : decode cX10_signOf 33 = .ok (.iconst 1, 1) := dq_of dqX10_signOf_0 19 rfl
theorem dX10_signOf_34 : decode cX10_signOf 34 = .ok (.istore 8, 2) := dq_of dqX10_signOf_0 20 rfl
theorem dX10_signOf_36 : decode cX10_signOf 36 = .ok (.ldc 170, 2) := dq_of dqX10_signOf_0 21 rfl
theorem dX10_signOf_38 : decode cX10_signOf 38 = .ok (.iload 5, 2) := dq_of dqX10_signOf_0 22 rfl
theorem dX10_signOf_40 : decode cX10_signOf 40 = .ok (.iload 7, 2) := dq_of dqX10_signOf_0 23 rfl
theorem dX10_signOf_42 : decode cX10_signOf 42 = .ok (.iadd, 1) := dq_of dqX10_signOf_0 24 rfl
theorem dX10_signOf_43 : decode cX10_signOf 43 = .ok (.invokevirtual 120, 3) := dq_of dqX10_signOf_0 25 rfl
theorem dX10_signOf_46 : decode cX10_signOf 46 = .ok (.bipush 32, 2) := dq_of dqX10_signOf_0 26 rfl
theorem dX10_signOf_48 : decode cX10_signOf 48 = .ok (.if_icmp .eq 59, 3) := dq_of dqX10_signOf_0 27 rfl
theorem dX10_signOf_51 : decode cX10_signOf 51 = .ok (.iload 8, 2) := dq_of dqX10_signOf_0 28 rfl
theorem dX10_signOf_53 : decode cX10_signOf 53 = .ok (.ifCond .eq 45, 3) := dq_of dqX10_signOf_0 29 rfl
theorem dX10_signOf_56 : decode cX10_signOf 56 = .ok (.iload 7, 2) := dq_of dqX10_signOf_0 30 rfl
theorem dX10_signOf_58 : decode cX10_signOf 58 = .ok (.iload 6, 2) := dq_of dqX10_signOf_0 31 rfl
theorem dX10_signOf_60 : decode cX10_signOf 60 = .ok (.if_icmp .ge 38, 3) := dq_of dqX10_signOf_0 32 rfl
theorem dX10_signOf_63 : decode cX10_signOf 63 = .ok (.ldc 170, 2) := dq_of dqX10_signOf_0 33 rfl
theorem dX10_signOf_65 : decode cX10_signOf 65 = .ok (.iload 5, 2) := dq_of dqX10_signOf_0 34 rfl
theorem dX10_signOf_67 : decode cX10_signOf 67 = .ok (.iload 7, 2) := dq_of dqX10_signOf_0 35 rfl
theorem dX10_signOf_69 : decode cX10_signOf 69 = .ok (.iadd, 1) := dq_of dqX10_signOf_0 36 rfl
theorem dX10_signOf_70 : decode cX10_signOf 70 = .ok (.invokevirtual 120, 3) := dq_of dqX10_signOf_0 37 rfl
theorem dX10_signOf_73 : decode cX10_signOf 73 = .ok (.iload 7, 2) := dq_of dqX10_signOf_0 38 rfl
theorem dX10_signOf_75 : decode cX10_signOf 75 = .ok (.iload_n 2, 1) := dq_of dqX10_signOf_0 39 rfl
theorem dqX10_signOf_76 : ([(76, .if_icmp .ge 14, 3), (79, .aload_n 0, 1), (80, .iload_n 1, 1), (81, .iload 7, 2), (83, .iadd, 1), (84, .invokevirtual 124, 3), (87, .goto 4, 3), (90, .iload_n 3, 1), (91, .if_icmp .ne 7, 3), (94, .iconst 1, 1), (95, .goto 4, 3), (98, .iconst 0, 1), (99, .istore 8, 2), (101, .iinc 7 1, 3), (104, .goto (-68), 3), (107, .iload 8, 2), (109, .ifCond .eq 13, 3), (112, .iload 7, 2), (114, .iload 6, 2), (116, .if_icmp .ne 6, 3), (119, .iload 4, 2), (121, .ireturn, 1), (122, .iload 5, 2), (124, .iload 7, 2), (126, .iconst 1, 1), (127, .iadd, 1), (128, .iadd, 1), (129, .istore 5, 2), (131, .iinc 4 1, 3), (134, .goto (-114), 3), (137, .iconst (-1), 1), (138, .ireturn, 1)] : List (Nat × Instr × Nat)).all (fun q => decide (decode cX10_signOf q.1 = .ok (q.2.1, q.2.2))) = true := by decide +kernel
theorem dX10_signOf_76 : decode cX10_signOf 76 = .ok (.if_icmp .ge 14, 3) := dq_of dqX10_signOf_76 0 rfl
theorem dX10_signOf_79 : decode cX10_signOf 79 = .ok (.aload_n 0, 1) := dq_of dqX10_signOf_76 1 rfl
theorem dX10_signOf_80 : decode cX10_signOf 80 = .ok (.iload_n 1, 1) := dq_of dqX10_signOf_76 2 rfl
theorem dX10_signOf_81 : decode cX10_signOf 81 = .ok (.iload 7, 2) := dq_of dqX10_signOf_76 3 rfl
theorem dX10_signOf_83 : decode cX10_signOf 83 = .ok (.iadd, 1) := dq_of dqX10_signOf_76 4 rfl
theorem dX10_signOf_84 : decode cX10_signOf 84 = .ok (.invokevirtual 124, 3) := dq_of dqX10_signOf_76 5 rfl
theorem dX10_signOf_87 : decode cX10_signOf 87 = .ok (.goto 4, 3) := dq_of dqX10_signOf_76 6 rfl
theorem dX10_signOf_90 : decode cX10_signOf 90 = .ok (.iload_n 3, 1) := dq_of dqX10_signOf_76 7 rfl
theorem dX10_signOf_91 : decode cX10_signOf 91 = .ok (.if_icmp .ne 7, 3) := dq_of dqX10_signOf_76 8 rfl
theorem dX10_signOf_94 : decode cX10_signOf 94 = .ok (.iconst 1, 1) := dq_of dqX10_signOf_76 9 rfl
theorem dX10_signOf_95 : decode cX10_signOf 95 = .ok (.goto 4, 3) := dq_of dqX10_signOf_76 10 rfl
theorem dX10_signOf_98 : decode cX10_signOf 98 = .ok (.iconst 0, 1) := dq_of dqX10_signOf_76 11 rfl
theorem dX10_signOf_99 : decode cX10_signOf 99 = .ok (.istore 8, 2) := dq_of dqX10_signOf_76 12 rfl
theorem dX10_signOf_101 : decode cX10_signOf 101 = .ok (.iinc 7 1, 3) := dq_of dqX10_signOf_76 13 rfl
theorem dX10_signOf_104 : decode cX10_signOf 104 = .ok (.goto (-68), 3) := dq_of dqX10_signOf_76 14 rfl
theorem dX10_signOf_107 : decode cX10_signOf 107 = .ok (.iload 8, 2) := dq_of dqX10_signOf_76 15 rfl
theorem dX10_signOf_109 : decode cX10_signOf 109 = .ok (.ifCond .eq 13, 3) := dq_of dqX10_signOf_76 16 rfl
theorem dX10_signOf_112 : decode cX10_signOf 112 = .ok (.iload 7, 2) := dq_of dqX10_signOf_76 17 rfl
theorem dX10_signOf_114 : decode cX10_signOf 114 = .ok (.iload 6, 2) := dq_of dqX10_signOf_76 18 rfl
theorem dX10_signOf_116 : decode cX10_signOf 116 = .ok (.if_icmp .ne 6, 3) := dq_of dqX10_signOf_76 19 rfl
theorem dX10_signOf_119 : decode cX10_signOf 119 = .ok (.iload 4, 2) := dq_of dqX10_signOf_76 20 rfl
theorem dX10_signOf_121 : decode cX10_signOf 121 = .ok (.ireturn, 1) := dq_of dqX10_signOf_76 21 rfl
theorem dX10_signOf_122 : decode cX10_signOf 122 = .ok (.iload 5, 2) := dq_of dqX10_signOf_76 22 rfl
theorem dX10_signOf_124 : decode cX10_signOf 124 = .ok (.iload 7, 2) := dq_of dqX10_signOf_76 23 rfl
theorem dX10_signOf_126 : decode cX10_signOf 126 = .ok (.iconst 1, 1) := dq_of dqX10_signOf_76 24 rfl
theorem dX10_signOf_127 : decode cX10_signOf 127 = .ok (.iadd, 1) := dq_of dqX10_signOf_76 25 rfl
theorem dX10_signOf_128 : decode cX10_signOf 128 = .ok (.iadd, 1) := dq_of dqX10_signOf_76 26 rfl
theorem dX10_signOf_129 : decode cX10_signOf 129 = .ok (.istore 5, 2) := dq_of dqX10_signOf_76 27 rfl
theorem dX10_signOf_131 : decode cX10_signOf 131 = .ok (.iinc 4 1, 3) := dq_of dqX10_signOf_76 28 rfl
theorem dX10_signOf_134 : decode cX10_signOf 134 = .ok (.goto (-114), 3) := dq_of dqX10_signOf_76 29 rfl
theorem dX10_signOf_137 : decode cX10_signOf 137 = .ok (.iconst (-1), 1) := dq_of dqX10_signOf_76 30 rfl
theorem dX10_signOf_138 : decode cX10_signOf 138 = .ok (.ireturn, 1) := dq_of dqX10_signOf_76 31 rfl
theorem dqX10_sign_0 : ([(0, .iload_n 1, 1), (1, .iconst (-1), 1), (2, .if_icmp .eq 25, 3), (5, .aload_n 0, 1), (6, .aload_n 0, 1), (7, .getfield 85, 3), (10, .aload_n 0, 1), (11, .getfield 79, 3), (14, .aload_n 0, 1), (15, .getfield 85, 3), (18, .isub, 1), (19, .iload_n 1, 1), (20, .invokevirtual 172, 3), (23, .ifCond .lt 4, 3), (26, .return_, 1), (27, .aload_n 0, 1), (28, .bipush 40, 2), (30, .aload_n 0, 1), (31, .aload_n 0, 1), (32, .getfield 85, 3), (35, .aload_n 0, 1), (36, .getfield 79, 3), (39, .aload_n 0, 1), (40, .getfield 85, 3), (43, .isub, 1), (44, .iconst (-1), 1), (45, .invokevirtual 172, 3), (48, .iadd, 1), (49, .aload_n 0, 1), (50, .getfield 79, 3), (53, .aload_n 0, 1), (54, .getfield 85, 3), (57, .isub, 1), (58, .iconst 0, 1), (59, .invokevirtual 109, 3), (62, .aload_n 0, 1), (63, .iconst 0, 1), (64, .putfield 82, 3), (67, .aload_n 0, 1), (68, .iload_n 1, 1)] : List (Nat × Instr × Nat)).all (fun q => decide (decode cX10_sign q.1 = .ok (q.2.1, q.2.2))) = true := by decide +kernel
theorem dX10_sign_0 : decode cX10_sign 0 = .ok (.iload_n 1, 1) := dq_of dqX10_sign_0 0 rfl
theorem dX10_sign_1 : decode cX10_sign 1 = .ok (.iconst (-1), 1) := dq_of dqX10_sign_0 1 rfl
theorem dX10_sign_2 : decode cX10_sign 2 = .ok (.if_icmp .eq 25, 3) := dq_of dqX10_sign_0 2 rfl
theorem dX10_sign_5 : decode cX10_sign 5 = .ok (.aload_n 0, 1) := dq_of dqX10_sign_0 3 rfl
theorem dX10_sign_6 : decode cX10_sign 6 = .ok (.aload_n 0, 1) := dq_of dqX10_sign_0 4 rfl
theorem dX10_sign_7 : decode cX10_sign 7 = .ok (.getfield 85, 3) := dq_of dqX10_sign_0 5 rfl
theorem dX10_sign_10 : decode cX10_sign 10 = .ok (.aload_n 0, 1) := dq_of dqX10_sign_0 6 rfl
theorem dX10_sign_11 : decode cX10_sign 11 = .ok (.getfield 79, 3) := dq_of dqX10_sign_0 7 rfl
theorem dX10_sign_14 : decode cX10_sign 14 = .ok (.aload_n 0, 1) := dq_of dqX10_sign_0 8 rfl
theorem dX10_sign_15 : decode cX10_sign 15 = .ok (.getfield 85, 3) := dq_of dqX10_sign_0 9 rfl
theorem dX10_sign_18 : decode cX10_sign 18 = .ok (.isub, 1) := dq_of dqX10_sign_0 10 rfl
theorem dX10_sign_19 : decode cX10_sign 19 = .ok (.iload_n 1, 1) := dq_of dqX10_sign_0 11 rfl
theorem dX10_sign_20 : decode cX10_sign 20 = .ok (.invokevirtual 172, 3) := dq_of dqX10_sign_0 12 rfl
theorem dX10_sign_23 : decode cX10_sign 23 = .ok (.ifCond .lt 4, 3) := dq_of dqX10_sign_0 13 rfl
theorem dX10_sign_26 : decode cX10_sign 26 = .ok (.return_, 1) := dq_of dqX10_sign_0 14 rfl
theorem dX10_sign_27 : decode cX10_sign 27 = .ok (.aload_n 0, 1) := dq_of dqX10_sign_0 15 rfl
theorem dX10_sign_28 : decode cX10_sign 28 = .ok (.bipush 40, 2) := dq_of dqX10_sign_0 16 rfl
theorem dX10_sign_30 : decode cX10_sign 30 = .ok (.aload_n 0, 1) := dq_of dqX10_sign_0 17 rfl
theorem dX10_sign_31 : decode cX10_sign 31 = .ok (.aload_n 0, 1) := dq_of dqX10_sign_0 18 rfl
theorem dX10_sign_32 : decode cX10_sign 32 = .ok (.getfield 85, 3) := dq_of dqX10_sign_0 19 rfl
theorem dX10_sign_35 : decode cX10_sign 35 = .ok (.aload_n 0, 1) := dq_of dqX10_sign_0 20 rfl
theorem dX10_sign_36 : decode cX10_sign 36 = .ok (.getfield 79, 3) := dq_of dqX10_sign_0 21 rfl
theorem dX10_sign_39 : decode cX10_sign 39 = .ok (.aload_n 0, 1) := dq_of dqX10_sign_0 22 rfl
theorem dX10_sign_40 : decode cX10_sign 40 = .ok (.getfield 85, 3) := dq_of dqX10_sign_0 23 rfl
theorem dX10_sign_43 : decode cX10_sign 43 = .ok (.isub, 1) := dq_of dqX10_sign_0 24 rfl
theorem dX10_sign_44 : decode cX10_sign 44 = .ok (.iconst (-1), 1) := dq_of dqX10_sign_0 25 rfl
theorem dX10_sign_45 : decode cX10_sign 45 = .ok (.invokevirtual 172, 3) := dq_of dqX10_sign_0 26 rfl
theorem dX10_sign_48 : decode cX10_sign 48 = .ok (.iadd, 1) := dq_of dqX10_sign_0 27 rfl
theorem dX10_sign_49 : decode cX10_sign 49 = .ok (.aload_n 0, 1) := dq_of dqX10_sign_0 28 rfl
theorem dX10_sign_50 : decode cX10_sign 50 = .ok (.getfield 79, 3) := dq_of dqX10_sign_0 29 rfl
theorem dX10_sign_53 : decode cX10_sign 53 = .ok (.aload_n 0, 1) := dq_of dqX10_sign_0 30 rfl
theorem dX10_sign_54 : decode cX10_sign 54 = .ok (.getfield 85, 3) := dq_of dqX10_sign_0 31 rfl
theorem dX10_sign_57 : decode cX10_sign 57 = .ok (.isub, 1) := dq_of dqX10_sign_0 32 rfl
theorem dX10_sign_58 : decode cX10_sign 58 = .ok (.iconst 0, 1) := dq_of dqX10_sign_0 33 rfl
theorem dX10_sign_59 : decode cX10_sign 59 = .ok (.invokevirtual 109, 3) := dq_of dqX10_sign_0 34 rfl
theorem dX10_sign_62 : decode cX10_sign 62 = .ok (.aload_n 0, 1) := dq_of dqX10_sign_0 35 rfl
theorem dX10_sign_63 : decode cX10_sign 63 = .ok (.iconst 0, 1) := dq_of dqX10_sign_0 36 rfl
theorem dX10_sign_64 : decode cX10_sign 64 = .ok (.putfield 82, 3) := dq_of dqX10_sign_0 37 rfl
theorem dX10_sign_67 : decode cX10_sign 67 = .ok (.aload_n 0, 1) := dq_of dqX10_sign_0 38 rfl
theorem dX10_sign_68 : decode cX10_sign 68 = .ok (.iload_n 1, 1) := dq_of dqX10_sign_0 39 rfl
theorem dqX10_sign_69 : ([(69, .invokevirtual 167, 3), (72, .return_, 1)] : List (Nat × Instr × Nat)).all (fun q => decide (decode cX10_sign q.1 = .ok (q.2.1, q.2.2))) = true := by decide +kernel
theorem dX10_sign_69 : decode cX10_sign 69 = .ok (.invokevirtual 167, 3) := dq_of dqX10_sign_69 0 rfl
theorem dX10_sign_72 : decode cX10_sign 72 = .ok (.return_, 1) := dq_of dqX10_sign_69 1 rfl
theorem dqX10_dots_0 : ([(0, .aload_n 0, 1), (1, .getfield 82, 3), (4, .bipush 12, 2), (6, .if_icmp .ne 24, 3), (9, .iload_n 1, 1), (10, .invokestatic 72, 3), (13, .ifCond .eq 17, 3), (16, .aload_n 0, 1), (17, .bipush 7, 2), (19, .putfield 82, 3), (22, .aload_n 0, 1), (23, .iconst 0, 1), (24, .putfield 150, 3), (27, .goto 138, 3), (30, .aload_n 0, 1), (31, .getfield 82, 3), (34, .bipush 12, 2), (36, .if_icmp .ne 18, 3), (39, .iload_n 1, 1), (40, .bipush 46, 2), (42, .if_icmp .ne 12, 3), (45, .aload_n 0, 1), (46, .bipush 13, 2), (48, .putfield 82, 3), (51, .goto 114, 3), (54, .aload_n 0, 1), (55, .getfield 82, 3), (58, .bipush 12, 2), (60, .if_icmp .ne 24, 3), (63, .aload_n 0, 1), (64, .bipush 86, 2), (66, .iconst 1, 1), (67, .iconst 0, 1), (68, .invokevirtual 109, 3), (71, .aload_n 0, 1), (72, .iconst 0, 1), (73, .putfield 82, 3), (76, .aload_n 0, 1), (77, .iload_n 1, 1), (78, .invokevirtual 167, 3)] : List (Nat × Instr × Nat)).all (fun q => decide (decode cX10_dots q.1 = .ok (q.2.1, q.2.2))) = true := by decide +kernel
theorem dX10_dots_0 : decode cX10_dots 0 = .ok (.aload_n 0, 1) := dq_of dqX10_dots_0 0 rfl
theorem dX10_dots_1 : decode cX10_dots 1 = .ok (.getfield 82, 3) := dq_of dqX10_dots_0 1 rfl
theorem dX10_dots_4 : decode cX10_dots 4 = .ok (.bipush 12, 2) := dq_of dqX10_dots_0 2 rfl
theorem dX10_dots_6 : decode cX10_dots 6 = .ok (.if_icmp .ne 24, 3) := dq_of dqX10_dots_0 3 rfl
theorem dX10_dots_9 : decode cX10_dots 9 = .ok (.iload_n 1, 1) := dq_of dqX10_dots_0 4 rfl
theorem dX10_dots_10 : decode cX10_dots 10 = .ok (.invokestatic 72, 3) := dq_of dqX10_dots_0 5 rfl
theorem dX10_dots_13 : decode cX10_dots 13 = .ok (.ifCond .eq 17, 3) := dq_of dqX10_dots_0 6 rfl
theorem dX10_dots_16 : decode cX10_dots 16 = .ok (.aload_n 0, 1) := dq_of dqX10_dots_0 7 rfl
theorem dX10_dots_17 : decode cX10_dots 17 = .ok (.bipush 7, 2) := dq_of dqX10_dots_0 8 rfl
theorem dX10_dots_19 : decode cX10_dots 19 = .ok (.putfield 82, 3) := dq_of dqX10_dots_0 9 rfl
theorem dX10_dots_22 : decode cX10_dots 22 = .ok (.aload_n 0, 1) := dq_of dqX10_dots_0 10 rfl
theorem dX10_dots_23 : decode cX10_dots 23 = .ok (.iconst 0, 1) := dq_of dqX10_dots_0 11 rfl
theorem dX10_dots_24 : decode cX10_dots 24 = .ok (.putfield 150, 3) := dq_of dqX10_dots_0 12 rfl
theorem dX10_dots_27 : decode cX10_dots 27 = .ok (.goto 138, 3) := dq_of dqX10_dots_0 13 rfl
theorem dX10_dots_30 : decode cX10_dots 30 = .ok (.aload_n 0, 1) := dq_of dqX10_dots_0 14 rfl
theorem dX10_dots_31 : decode cX10_dots 31 = .ok (.getfield 82, 3) := dq_of dqX10_dots_0 15 rfl
theorem dX10_dots_34 : decode cX10_dots 34 = .ok (.bipush 12, 2) := dq_of dqX10_dots_0 16 rfl
theorem dX10_dots_36 : decode cX10_dots 36 = .ok (.if_icmp .ne 18, 3) := dq_of dqX10_dots_0 17 rfl
theorem dX10_dots_39 : decode cX10_dots 39 = .ok (.iload_n 1, 1) := dq_of dqX10_dots_0 18 rfl
theorem dX10_dots_40 : decode cX10_dots 40 = .ok (.bipush 46, 2) := dq_of dqX10_dots_0 19 rfl
theorem dX10_dots_42 : decode cX10_dots 42 = .ok (.if_icmp .ne 12, 3) := dq_of dqX10_dots_0 20 rfl
theorem dX10_dots_45 : decode cX10_dots 45 = .ok (.aload_n 0, 1) := dq_of dqX10_dots_0 21 rfl
theorem dX10_dots_46 : decode cX10_dots 46 = .ok (.bipush 13, 2) := dq_of dqX10_dots_0 22 rfl
theorem dX10_dots_48 : decode cX10_dots 48 = .ok (.putfield 82, 3) := dq_of dqX10_dots_0 23 rfl
theorem dX10_dots_51 : decode cX10_dots 51 = .ok (.goto 114, 3) := dq_of dqX10_dots_0 24 rfl
theorem dX10_dots_54 : decode cX10_dots 54 = .ok (.aload_n 0, 1) := dq_of dqX10_dots_0 25 rfl
theorem dX10_dots_55 : decode cX10_dots 55 = .ok (.getfield 82, 3) := dq_of dqX10_dots_0 26 rfl
theorem dX10_dots_58 : decode cX10_dots 58 = .ok (.bipush 12, 2) := dq_of dqX10_dots_0 27 rfl
theorem dX10_dots_60 : decode cX10_dots 60 = .ok (.if_icmp .ne 24, 3) := dq_of dqX10_dots_0 28 rfl
theorem dX10_dots_63 : decode cX10_dots 63 = .ok (.aload_n 0, 1) := dq_of dqX10_dots_0 29 rfl
theorem dX10_dots_64 : decode cX10_dots 64 = .ok (.bipush 86, 2) := dq_of dqX10_dots_0 30 rfl
theorem dX10_dots_66 : decode cX10_dots 66 = .ok (.iconst 1, 1) := dq_of dqX10_dots_0 31 rfl
theorem dX10_dots_67 : decode cX10_dots 67 = .ok (.iconst 0, 1) := dq_of dqX10_dots_0 32 rfl
theorem dX10_dots_68 : decode cX10_dots 68 = .ok (.invokevirtual 109, 3) := dq_of dqX10_dots_0 33 rfl
theorem dX10_dots_71 : decode cX10_dots 71 = .ok (.aload_n 0, 1) := dq_of dqX10_dots_0 34 rfl
theorem dX10_dots_72 : decode cX10_dots 72 = .ok (.iconst 0, 1) := dq_of dqX10_dots_0 35 rfl
theorem dX10_dots_73 : decode cX10_dots 73 = .ok (.putfield 82, 3) := dq_of dqX10_dots_0 36 rfl
theorem dX10_dots_76 : decode cX10_dots 76 = .ok (.aload_n 0, 1) := dq_of dqX10_dots_0 37 rfl
theorem dX10_dots_77 : decode cX10_dots 77 = .ok (.iload_n 1, 1) := dq_of dqX10_dots_0 38 rfl
theorem dX10_dots_78 : decode cX10_dots 78 = .ok (.invokevirtual 167, 3) := dq_of dqX10_dots_0 39 rfl
theorem dqX10_dots_81 : ([(81, .goto 84, 3), (84, .iload_n 1, 1), (85, .bipush 46, 2), (87, .if_icmp .ne 39, 3), (90, .aload_n 0, 1), (91, .dup, 1), (92, .getfield 79, 3), (95, .iconst 1, 1), (96, .iadd, 1), (97, .putfield 79, 3), (100, .aload_n 0, 1), (101, .bipush 77, 2), (103, .iconst 3, 1), (104, .iconst 0, 1), (105, .invokevirtual 109, 3), (108, .aload_n 0, 1), (109, .dup, 1), (110, .getfield 79, 3), (113, .iconst 1, 1), (114, .isub, 1), (115, .putfield 79, 3), (118, .aload_n 0, 1), (119, .iconst 0, 1), (120, .putfield 82, 3), (123, .goto 42, 3), (126, .aload_n 0, 1), (127, .bipush 86, 2), (129, .iconst 1, 1), (130, .iconst 0, 1), (131, .invokevirtual 109, 3), (134, .aload_n 0, 1), (135, .dup, 1), (136, .getfield 85, 3), (139, .iconst 1, 1), (140, .iadd, 1), (141, .putfield 85, 3), (144, .aload_n 0, 1), (145, .dup, 1), (146, .getfield 97, 3), (149, .iconst 1, 1)] : List (Nat × Instr × Nat)).all (fun q => decide (decode cX10_dots q.1 = .ok (q.2.1, q.2.2))) = true := by decide +kernel
theorem dX10_dots_81 : decode cX10_dots 81 = .ok (.goto 84, 3) := dq_of dqX10_dots_81 0 rfl
theorem dX10_dots_84 : decode cX10_dots 84 = .ok (.iload_n 1, 1) := dq_of dqX10_dots_81 1 rfl
theorem dX10_dots_85 : decode cX10_dots 85 = .ok (.bipush 46, 2) := dq_of dqX10_dots_81 2 rfl
theorem dX10_dots_87 : decode cX10_dots 87 = .ok (.if_icmp .ne 39, 3) := dq_of dqX10_dots_81 3 rfl
theorem dX10_dots_90 : decode cX10_dots 90 = .ok (.aload_n 0, 1) := dq_of dqX10_dots_81 4 rfl
theorem dX10_dots_91 : decode cX10_dots 91 = .ok (.dup, 1) := dq_of dqX10_dots_81 5 rfl
theorem dX10_dots_92 : decode cX10_dots 92 = .ok (.getfield 79, 3) := dq_of dqX10_dots_81 6 rfl
theorem dX10_dots_95 : decode cX10_dots 95 = .ok (.iconst 1, 1) := dq_of dqX10_dots_81 7 rfl
theorem dX10_dots_96 : decode cX10_dots 96 = .ok (.iadd, 1) := dq_of dqX10_dots_81 8 rfl
theorem dX10_dots_97 : decode cX10_dots 97 = .ok (.putfield 79, 3) := dq_of dqX10_dots_81 9 rfl
theorem dX10_dots_100 : decode cX10_dots 100 = .ok (.aload_n 0, 1) := dq_of dqX10_dots_81 10 rfl
theorem dX10_dots_101 : decode cX10_dots 101 = .ok (.bipush 77, 2) := dq_of dqX10_dots_81 11 rfl
theorem dX10_dots_103 : decode cX10_dots 103 = .ok (.iconst 3, 1) := dq_of dqX10_dots_81 12 rfl
theorem dX10_dots_104 : decode cX10_dots 104 = .ok (.iconst 0, 1) := dq_of dqX10_dots_81 13 rfl
theorem dX10_dots_105 : decode cX10_dots 105 = .ok (.invokevirtual 109, 3) := dq_of dqX10_dots_81 14 rfl
theorem dX10_dots_108 : decode cX10_dots 108 = .ok (.aload_n 0, 1) := dq_of dqX10_dots_81 15 rfl
theorem dX10_dots_109 : decode cX10_dots 109 = .ok (.dup, 1) := dq_of dqX10_dots_81 16 rfl
theorem dX10_dots_110 : decode cX10_dots 110 = .ok (.getfield 79, 3) := dq_of dqX10_dots_81 17 rfl
theorem dX10_dots_113 : decode cX10_dots 113 = .ok (.iconst 1, 1) := dq_of dqX10_dots_81 18 rfl
theorem dX10_dots_114 : decode cX10_dots 114 = .ok (.isub, 1) := dq_of dqX10_dots_81 19 rfl
theorem dX10_dots_115 : decode cX10_dots 115 = .ok (.putfield 79, 3) := dq_of dqX10_dots_81 20 rfl
theorem dX10_dots_118 : decode cX10_dots 118 = .ok (.aload_n 0, 1) := dq_of dqX10_dots_81 21 rfl
theorem dX10_dots_119 : decode cX10_dots 119 = .ok (.iconst 0, 1) := dq_of dqX10_dots_81 22 rfl
theorem dX10_dots_120 : decode cX10_dots 120 = .ok (.putfield 82, 3) := dq_of dqX10_dots_81 23 rfl
theorem dX10_dots_123 : decode cX10_dots 123 = .ok (.goto 42, 3) := dq_of dqX10_dots_81 24 rfl
theorem dX10_dots_126 : decode cX10_dots 126 = .ok (.aload_n 0, 1) := dq_of dqX10_dots_81 25 rfl
theorem dX10_dots_127 : decode cX10_dots 127 = .ok (.bipush 86, 2) := dq_of dqX10_dots_81 26 rfl
theorem dX10_dots_129 : decode cX10_dots 129 = .ok (.iconst 1, 1) := dq_of dqX10_dots_81 27 rfl
theorem dX10_dots_130 : decode cX10_dots 130 = .ok (.iconst 0, 1) := dq_of dqX10_dots_81 28 rfl
theorem dX10_dots_131 : decode cX10_dots 131 = .ok (.invokevirtual 109, 3) := dq_of dqX10_dots_81 29 rfl
theorem dX10_dots_134 : decode cX10_dots 134 = .ok (.aload_n 0, 1) := dq_of dqX10_dots_81 30 rfl
theorem dX10_dots_135 : decode cX10_dots 135 = .ok (.dup, 1) := dq_of dqX10_dots_81 31 rfl
theorem dX10_dots_136 : decode cX10_dots 136 = .ok (.getfield 85, 3) := dq_of dqX10_dots_81 32 rfl
theorem dX10_dots_139 : decode cX10_dots 139 = .ok (.iconst 1, 1) := dq_of dqX10_dots_81 33 rfl
theorem dX10_dots_140 : decode cX10_dots 140 = .ok (.iadd, 1) := dq_of dqX10_dots_81 34 rfl
theorem dX10_dots_141 : decode cX10_dots 141 = .ok (.putfield 85, 3) := dq_of dqX10_dots_81 35 rfl
theorem dX10_dots_144 : decode cX10_dots 144 = .ok (.aload_n 0, 1) := dq_of dqX10_dots_81 36 rfl
theorem dX10_dots_145 : decode cX10_dots 145 = .ok (.dup, 1) := dq_of dqX10_dots_81 37 rfl
theorem dX10_dots_146 : decode cX10_dots 146 = .ok (.getfield 97, 3) := dq_of dqX10_dots_81 38 rfl
theorem dX10_dots_149 : decode cX10_dots 149 = .ok (.iconst 1, 1) := dq_of dqX10_dots_81 39 rfl
theorem dqX10_dots_150 : ([(150, .iadd, 1), (151, .putfield 97, 3), (154, .aload_n 0, 1), (155, .bipush 12, 2), (157, .putfield 82, 3), (160, .aload_n 0, 1), (161, .iload_n 1, 1), (162, .invokevirtual 176, 3), (165, .return_, 1)] : List (Nat × Instr × Nat)).all (fun q => decide (decode cX10_dots q.1 = .ok (q.2.1, q.2.2))) = true := by decide +kernel
theorem dX10_dots_150 : decode cX10_dots 150 = .ok (.iadd, 1) := dq_of dqX10_dots_150 0 rfl
theorem dX10_dots_151 : decode cX10_dots 151 = .ok (.putfield 97, 3) := dq_of dqX10_dots_150 1 rfl
theorem dX10_dots_154 : decode cX10_dots 154 = .ok (.aload_n 0, 1) := dq_of dqX10_dots_150 2 rfl
theorem dX10_dots_155 : decode cX10_dots 155 = .ok (.bipush 12, 2) := dq_of dqX10_dots_150 3 rfl
theorem dX10_dots_157 : decode cX10_dots 157 = .ok (.putfield 82, 3) := dq_of dqX10_dots_150 4 rfl
theorem dX10_dots_160 : decode cX10_dots 160 = .ok (.aload_n 0, 1) := dq_of dqX10_dots_150 5 rfl
theorem dX10_dots_161 : decode cX10_dots 161 = .ok (.iload_n 1, 1) := dq_of dqX10_dots_150 6 rfl
theorem dX10_dots_162 : decode cX10_dots 162 = .ok (.invokevirtual 176, 3) := dq_of dqX10_dots_150 7 rfl
theorem dX10_dots_165 : decode cX10_dots 165 = .ok (.return_, 1) := dq_of dqX10_dots_150 8 rfl
theorem dqX10_quoted_0 : ([(0, .aload_n 0, 1), (1, .getfield 179, 3), (4, .ifCond .le 91, 3), (7, .iload_n 1, 1), (8, .aload_n 0, 1), (9, .getfield 182, 3), (12, .if_icmp .lt 11, 3), (15, .iload_n 1, 1), (16, .aload_n 0, 1), (17, .getfield 185, 3), (20, .if_icmp .le 8, 3), (23, .aload_n 0, 1), (24, .invokevirtual 157, 3), (27, .return_, 1), (28, .aload_n 0, 1), (29, .aload_n 0, 1), (30, .getfield 188, 3), (33, .bipush 6, 2), (35, .ishl, 1), (36, .iload_n 1, 1), (37, .bipush 63, 2), (39, .iand, 1), (40, .ior, 1), (41, .putfield 188, 3), (44, .aload_n 0, 1), (45, .sipush 128, 3), (48, .putfield 182, 3), (51, .aload_n 0, 1), (52, .sipush 191, 3), (55, .putfield 185, 3), (58, .aload_n 0, 1), (59, .dup, 1), (60, .getfield 179, 3), (63, .iconst 1, 1), (64, .isub, 1), (65, .putfield 179, 3), (68, .aload_n 0, 1), (69, .getfield 191, 3), (72, .ifCond .eq 8, 3), (75, .aload_n 0, 1)] : List (Nat × Instr × Nat)).all (fun q => decide (decode cX10_quoted q.1 = .ok (q.2.1, q.2.2))) = true := by decide +kernel
theorem dX10_quoted_0 : decode cX10_quoted 0 = .ok (.aload_n 0, 1) := dq_of dqX10_quoted_0 0 rfl
theorem dX10_quoted_1 : decode cX10_quoted 1 = .ok (.getfield 179, 3) := dq_of dqX10_quoted_0 1 rfl
theorem dX10_quoted_4 : decode cX10_quoted 4 = .ok (.ifCond .le 91, 3) := dq_of dqX10_quoted_0 2 rfl
theorem dX10_quoted_7 : decode cX10_quoted 7 = .ok (.iload_n 1, 1) := dq_of dqX10_quoted_0 3 rfl
theorem dX10_quoted_8 : decode cX10_quoted 8 = .ok (.aload_n 0, 1) := dq_of dqX10_quoted_0 4 rfl
theorem dX10_quoted_9 : decode cX10_quoted 9 = .ok (.getfield 182, 3) := dq_of dqX10_quoted_0 5 rfl
theorem dX10_quoted_12 : decode cX10_quoted 12 = .ok (.if_icmp .lt 11, 3) := dq_of dqX10_quoted_0 6 rfl
theorem dX10_quoted_15 : decode cX10_quoted 15 = .ok (.iload_n 1, 1) := dq_of dqX10_quoted_0 7 rfl
theorem dX10_quoted_16 : decode cX10_quoted 16 = .ok (.aload_n 0, 1) := dq_of dqX10_quoted_0 8 rfl
theorem dX10_quoted_17 : decode cX10_quoted 17 = .ok (.getfield 185, 3) := dq_of dqX10_quoted_0 9 rfl
theorem dX10_quoted_20 : decode cX10_quoted 20 = .ok (.if_icmp .le 8, 3) := dq_of dqX10_quoted_0 10 rfl
theorem dX10_quoted_23 : decode cX10_quoted 23 = .ok (.aload_n 0, 1) := dq_of dqX10_quoted_0 11 rfl
theorem dX10_quoted_24 : decode cX10_quoted 24 = .ok (.invokevirtual 157, 3) := dq_of dqX10_quoted_0 12 rfl
theorem dX10_quoted_27 : decode cX10_quoted 27 = .ok (.return_, 1) := dq_of dqX10_quoted_0 13 rfl
theorem dX10_quoted_28 : decode cX10_quoted 28 = .ok (.aload_n 0, 1) := dq_of dqX10_quoted_0 14 rfl
theorem dX10_quoted_29 : decode cX10_quoted 29 = .ok (.aload_n 0, 1) := dq_of dqX10_quoted_0 15 rfl
theorem dX10_quoted_30 : decode cX10_quoted 30 = .ok (.getfield 188, 3) := dq_of dqX10_quoted_0 16 rfl
theorem dX10_quoted_33 : decode cX10_quoted 33 = .ok (.bipush 6, 2) := dq_of dqX10_quoted_0 17 rfl
theorem dX10_quoted_35 : decode cX10_quoted 35 = .ok (.ishl, 1) := dq_of dqX10_quoted_0 18 rfl
theorem dX10_quoted_36 : decode cX10_quoted 36 = .ok (.iload_n 1, 1) := dq_of dqX10_quoted_0 19 rfl
theorem dX10_quoted_37 : decode cX10_quoted 37 = .ok (.bipush 63, 2) := dq_of dqX10_quoted_0 20 rfl
theorem dX10_quoted_39 : decode cX10_quoted 39 = .ok (.iand, 1) := dq_of dqX10_quoted_0 21 rfl
theorem dX10_quoted_40 : decode cX10_quoted 40 = .ok (.ior, 1) := dq_of dqX10_quoted_0 22 rfl
theorem dX10_quoted_41 : decode cX10_quoted 41 = .ok (.putfield 188, 3) := dq_of dqX10_quoted_0 23 rfl
theorem dX10_quoted_44 : decode cX10_quoted 44 = .ok (.aload_n 0, 1) := dq_of dqX10_quoted_0 24 rfl
theorem dX10_quoted_45 : decode cX10_quoted 45 = .ok (.sipush 128, 3) := dq_of dqX10_quoted_0 25 rfl
theorem dX10_quoted_48 : decode cX10_quoted 48 = .ok (.putfield 182, 3) := dq_of dqX10_quoted_0 26 rfl
theorem dX10_quoted_51 : decode cX10_quoted 51 = .ok (.aload_n 0, 1) := dq_of dqX10_quoted_0 27 rfl
theorem dX10_quoted_52 : decode cX10_quoted 52 = .ok (.sipush 191, 3) := dq_of dqX10_quoted_0 28 rfl
theorem dX10_quoted_55 : decode cX10_quoted 55 = .ok (.putfield 185, 3) := dq_of dqX10_quoted_0 29 rfl
theorem dX10_quoted_58 : decode cX10_quoted 58 = .ok (.aload_n 0, 1) := dq_of dqX10_quoted_0 30 rfl
theorem dX10_quoted_59 : decode cX10_quoted 59 = .ok (.dup, 1) := dq_of dqX10_quoted_0 31 rfl
theorem dX10_quoted_60 : decode cX10_quoted 60 = .ok (.getfield 179, 3) := dq_of dqX10_quoted_0 32 rfl
theorem dX10_quoted_63 : decode cX10_quoted 63 = .ok (.iconst 1, 1) := dq_of dqX10_quoted_0 33 rfl
theorem dX10_quoted_64 : decode cX10_quoted 64 = .ok (.isub, 1) := dq_of dqX10_quoted_0 34 rfl
theorem dX10_quoted_65 : decode cX10_quoted 65 = .ok (.putfield 179, 3) := dq_of dqX10_quoted_0 35 rfl
theorem dX10_quoted_68 : decode cX10_quoted 68 = .ok (.aload_n 0, 1) := dq_of dqX10_quoted_0 36 rfl
theorem dX10_quoted_69 : decode cX10_quoted 69 = .ok (.getfield 191, 3) := dq_of dqX10_quoted_0 37 rfl
theorem dX10_quoted_72 : decode cX10_quoted 72 = .ok (.ifCond .eq 8, 3) := dq_of dqX10_quoted_0 38 rfl
theorem dX10_quoted_75 : decode cX10_quoted 75 = .ok (.aload_n 0, 1) := dq_of dqX10_quoted_0 39 rfl
theorem dqX10_quoted_76 : ([(76, .iload_n 1, 1), (77, .invokevirtual 131, 3), (80, .aload_n 0, 1), (81, .getfield 179, 3), (84, .ifCond .ne 145, 3), (87, .aload_n 0, 1), (88, .iconst 1, 1), (89, .putfield 194, 3), (92, .goto 137, 3), (95, .aload_n 0, 1), (96, .getfield 197, 3), (99, .ifCond .le 11, 3), (102, .aload_n 0, 1), (103, .iload_n 1, 1), (104, .invokevirtual 200, 3), (107, .goto 122, 3), (110, .aload_n 0, 1), (111, .getfield 203, 3), (114, .ifCond .eq 11, 3), (117, .aload_n 0, 1), (118, .iload_n 1, 1), (119, .invokevirtual 206, 3), (122, .goto 107, 3), (125, .iload_n 1, 1), (126, .aload_n 0, 1), (127, .getfield 191, 3), (130, .if_icmp .ne 10, 3), (133, .aload_n 0, 1), (134, .invokevirtual 209, 3), (137, .goto 92, 3), (140, .iload_n 1, 1), (141, .iconst (-1), 1), (142, .if_icmp .eq 45, 3), (145, .iload_n 1, 1), (146, .ifCond .eq 41, 3), (149, .iload_n 1, 1), (150, .bipush 10, 2), (152, .if_icmp .eq 19, 3), (155, .aload_n 0, 1), (156, .getfield 191, 3)] : List (Nat × Instr × Nat)).all (fun q => decide (decode cX10_quoted q.1 = .ok (q.2.1, q.2.2))) = true := by decide +kernel
theorem dX10_quoted_76 : decode cX10_quoted 76 = .ok (.iload_n 1, 1) := dq_of dqX10_quoted_76 0 rfl
theorem dX10_quoted_77 : decode cX10_quoted 77 = .ok (.invokevirtual 131, 3) := dq_of dqX10_quoted_76 1 rfl
theorem dX10_quoted_80 : decode cX10_quoted 80 = .ok (.aload_n 0, 1) := dq_of dqX10_quoted_76 2 rfl
theorem dX10_quoted_81 : decode cX10_quoted 81 = .ok (.getfield 179, 3) := dq_of dqX10_quoted_76 3 rfl
theorem dX10_quoted_84 : decode cX10_quoted 84 = .ok (.ifCond .ne 145, 3) := dq_of dqX10_quoted_76 4 rfl
theorem dX10_quoted_87 : decode cX10_quoted 87 = .ok (.aload_n 0, 1) := dq_of dqX10_quoted_76 5 rfl
theorem dX10_quoted_88 : decode cX10_quoted 88 = .ok (.iconst 1, 1) := dq_of dqX10_quoted_76 6 rfl
theorem dX10_quoted_89 : decode cX10_quoted 89 = .ok (.putfield 194, 3) := dq_of dqX10_quoted_76 7 rfl
theorem dX10_quoted_92 : decode cX10_quoted 92 = .ok (.goto 137, 3) := dq_of dqX10_quoted_76 8 rfl
theorem dX10_quoted_95 : decode cX10_quoted 95 = .ok (.aload_n 0, 1) := dq_of dqX10_quoted_76 9 rfl
theorem dX10_quoted_96 : decode cX10_quoted 96 = .ok (.getfield 197, 3) := dq_of dqX10_quoted_76 10 rfl
theorem dX10_quoted_99 : decode cX10_quoted 99 = .ok (.ifCond .le 11, 3) := dq_of dqX10_quoted_76 11 rfl
theorem dX10_quoted_102 : decode cX10_quoted 102 = .ok (.aload_n 0, 1) := dq_of dqX10_quoted_76 12 rfl
theorem dX10_quoted_103 : decode cX10_quoted 103 = .ok (.iload_n 1, 1) := dq_of dqX10_quoted_76 13 rfl
theorem dX10_quoted_104 : decode cX10_quoted 104 = .ok (.invokevirtual 200, 3) := dq_of dqX10_quoted_76 14 rfl
theorem dX10_quoted_107 : decode cX10_quoted 107 = .ok (.goto 122, 3) := dq_of dqX10_quoted_76 15 rfl
theorem dX10_quoted_110 : decode cX10_quoted 110 = .ok (.aload_n 0, 1) := dq_of dqX10_quoted_76 16 rfl
theorem dX10_quoted_111 : decode cX10_quoted 111 = .ok (.getfield 203, 3) := dq_of dqX10_quoted_76 17 rfl
theorem dX10_quoted_114 : decode cX10_quoted 114 = .ok (.ifCond .eq 11, 3) := dq_of dqX10_quoted_76 18 rfl
theorem dX10_quoted_117 : decode cX10_quoted 117 = .ok (.aload_n 0, 1) := dq_of dqX10_quoted_76 19 rfl
theorem dX10_quoted_118 : decode cX10_quoted 118 = .ok (.iload_n 1, 1) := dq_of dqX10_quoted_76 20 rfl
theorem dX10_quoted_119 : decode cX10_quoted 119 = .ok (.invokevirtual 206, 3) := dq_of dqX10_quoted_76 21 rfl
theorem dX10_quoted_122 : decode cX10_quoted 122 = .ok (.goto 107, 3) := dq_of dqX10_quoted_76 22 rfl
theorem dX10_quoted_125 : decode cX10_quoted 125 = .ok (.iload_n 1, 1) := dq_of dqX10_quoted_76 23 rfl
theorem dX10_quoted_126 : decode cX10_quoted 126 = .ok (.aload_n 0, 1) := dq_of dqX10_quoted_76 24 rfl
theorem dX10_quoted_127 : decode cX10_quoted 127 = .ok (.getfield 191, 3) := dq_of dqX10_quoted_76 25 rfl
theorem dX10_quoted_130 : decode cX10_quoted 130 = .ok (.if_icmp .ne 10, 3) := dq_of dqX10_quoted_76 26 rfl
theorem dX10_quoted_133 : decode cX10_quoted 133 = .ok (.aload_n 0, 1) := dq_of dqX10_quoted_76 27 rfl
theorem dX10_quoted_134 : decode cX10_quoted 134 = .ok (.invokevirtual 209, 3) := dq_of dqX10_quoted_76 28 rfl
theorem dX10_quoted_137 : decode cX10_quoted 137 = .ok (.goto 92, 3) := dq_of dqX10_quoted_76 29 rfl
theorem dX10_quoted_140 : decode cX10_quoted 140 = .ok (.iload_n 1, 1) := dq_of dqX10_quoted_76 30 rfl
theorem dX10_quoted_141 : decode cX10_quoted 141 = .ok (.iconst (-1), 1) := dq_of dqX10_quoted_76 31 rfl
theorem dX10_quoted_142 : decode cX10_quoted 142 = .ok (.if_icmp .eq 45, 3) := dq_of dqX10_quoted_76 32 rfl
theorem dX10_quoted_145 : decode cX10_quoted 145 = .ok (.iload_n 1, 1) := dq_of dqX10_quoted_76 33 rfl
theorem dX10_quoted_146 : decode cX10_quoted 146 = .ok (.ifCond .eq 41, 3) := dq_of dqX10_quoted_76 34 rfl
theorem dX10_quoted_149 : decode cX10_quoted 149 = .ok (.iload_n 1, 1) := dq_of dqX10_quoted_76 35 rfl
theorem dX10_quoted_150 : decode cX10_quoted 150 = .ok (.bipush 10, 2) := dq_of dqX10_quoted_76 36 rfl
theorem dX10_quoted_152 : decode cX10_quoted 152 = .ok (.if_icmp .eq 19, 3) := dq_of dqX10_quoted_76 37 rfl
theorem dX10_quoted_155 : decode cX10_quoted 155 = .ok (.aload_n 0, 1) := dq_of dqX10_quoted_76 38 rfl
theorem dX10_quoted_156 : decode cX10_quoted 156 = .ok (.getfield 191, 3) := dq_of dqX10_quoted_76 39 rfl
theorem dqX10_quoted_159 : ([(159, .bipush 39, 2), (161, .if_icmp .ne 33, 3), (164, .aload_n 0, 1), (165, .getfield 194, 3), (168, .ifCond .eq 26, 3), (171, .aload_n 0, 1), (172, .getfield 191, 3), (175, .bipush 96, 2), (177, .if_icmp .eq 17, 3), (180, .aload_n 0, 1), (181, .getfield 191, 3), (184, .ifCond .eq 10, 3), (187, .aload_n 0, 1), (188, .invokevirtual 157, 3), (191, .goto 38, 3), (194, .iload_n 1, 1), (195, .bipush 92, 2), (197, .if_icmp .ne 27, 3), (200, .aload_n 0, 1), (201, .getfield 191, 3), (204, .bipush 96, 2), (206, .if_icmp .eq 18, 3), (209, .aload_n 0, 1), (210, .getfield 191, 3), (213, .ifCond .eq 11, 3), (216, .aload_n 0, 1), (217, .iconst 1, 1), (218, .putfield 203, 3), (221, .goto 8, 3), (224, .aload_n 0, 1), (225, .iload_n 1, 1), (226, .invokevirtual 212, 3), (229, .return_, 1)] : List (Nat × Instr × Nat)).all (fun q => decide (decode cX10_quoted q.1 = .ok (q.2.1, q.2.2))) = true := by decide +kernel
theorem dX10_quoted_159 : decode cX10_quoted 159 = .ok (.bipush 39, 2) := dq_of dqX10_quoted_159 0 rfl
theorem dX10_quoted_161 : decode cX10_quoted 161 = .ok (.if_icmp .ne 33, 3) := dq_of dqX10_quoted_159 1 rfl
theorem dX10_quoted_164 : decode cX10_quoted 164 = .ok (.aload_n 0, 1) := dq_of dqX10_quoted_159 2 rfl
theorem dX10_quoted_165 : decode cX10_quoted 165 = .ok (.getfield 194, 3) := dq_of dqX10_quoted_159 3 rfl
theorem dX10_quoted_168 : decode cX10_quoted 168 = .ok (.ifCond .eq 26, 3) := dq_of dqX10_quoted_159 4 rfl
theorem dX10_quoted_171 : decode cX10_quoted 171 = .ok (.aload_n 0, 1) := dq_of dqX10_quoted_159 5 rfl
theorem dX10_quoted_172 : decode cX10_quoted 172 = .ok (.getfield 191, 3) := dq_of dqX10_quoted_159 6 rfl
theorem dX10_quoted_175 : decode cX10_quoted 175 = .ok (.bipush 96, 2) := dq_of dqX10_quoted_159 7 rfl
theorem dX10_quoted_177 : decode cX10_quoted 177 = .ok (.if_icmp .eq 17, 3) := dq_of dqX10_quoted_159 8 rfl
theorem dX10_quoted_180 : decode cX10_quoted 180 = .ok (.aload_n 0, 1) := dq_of dqX10_quoted_159 9 rfl
theorem dX10_quoted_181 : decode cX10_quoted 181 = .ok (.getfield 191, 3) := dq_of dqX10_quoted_159 10 rfl
theorem dX10_quoted_184 : decode cX10_quoted 184 = .ok (.ifCond .eq 10, 3) := dq_of dqX10_quoted_159 11 rfl
theorem dX10_quoted_187 : decode cX10_quoted 187 = .ok (.aload_n 0, 1) := dq_of dqX10_quoted_159 12 rfl
theorem dX10_quoted_188 : decode cX10_quoted 188 = .ok (.invokevirtual 157, 3) := dq_of dqX10_quoted_159 13 rfl
theorem dX10_quoted_191 : decode cX10_quoted 191 = .ok (.goto 38, 3) := dq_of dqX10_quoted_159 14 rfl
theorem dX10_quoted_194 : decode cX10_quoted 194 = .ok (.iload_n 1, 1) := dq_of dqX10_quoted_159 15 rfl
theorem dX10_quoted_195 : decode cX10_quoted 195 = .ok (.bipush 92, 2) := dq_of dqX10_quoted_159 16 rfl
theorem dX10_quoted_197 : decode cX10_quoted 197 = .ok (.if_icmp .ne 27, 3) := dq_of dqX10_quoted_159 17 rfl
theorem dX10_quoted_200 : decode cX10_quoted 200 = .ok (.aload_n 0, 1) := dq_of dqX10_quoted_159 18 rfl
theorem dX10_quoted_201 : decode cX10_quoted 201 = .ok (.getfield 191, 3) := dq_of dqX10_quoted_159 19 rfl
theorem dX10_quoted_204 : decode cX10_quoted 204 = .ok (.bipush 96, 2) := dq_of dqX10_quoted_159 20 rfl
theorem dX10_quoted_206 : decode cX10_quoted 206 = .ok (.if_icmp .eq 18, 3) := dq_of dqX10_quoted_159 21 rfl
theorem dX10_quoted_209 : decode cX10_quoted 209 = .ok (.aload_n 0, 1) := dq_of dqX10_quoted_159 22 rfl
theorem dX10_quoted_210 : decode cX10_quoted 210 = .ok (.getfield 191, 3) := dq_of dqX10_quoted_159 23 rfl
theorem dX10_quoted_213 : decode cX10_quoted 213 = .ok (.ifCond .eq 11, 3) := dq_of dqX10_quoted_159 24 rfl
theorem dX10_quoted_216 : decode cX10_quoted 216 = .ok (.aload_n 0, 1) := dq_of dqX10_quoted_159 25 rfl
theorem dX10_quoted_217 : decode cX10_quoted 217 = .ok (.iconst 1, 1) := dq_of dqX10_quoted_159 26 rfl
theorem dX10_quoted_218 : decode cX10_quoted 218 = .ok (.putfield 203, 3) := dq_of dqX10_quoted_159 27 rfl
theorem dX10_quoted_221 : decode cX10_quoted 221 = .ok (.goto 8, 3) := dq_of dqX10_quoted_159 28 rfl
theorem dX10_quoted_224 : decode cX10_quoted 224 = .ok (.aload_n 0, 1) := dq_of dqX10_quoted_159 29 rfl
theorem dX10_quoted_225 : decode cX10_quoted 225 = .ok (.iload_n 1, 1) := dq_of dqX10_quoted_159 30 rfl
theorem dX10_quoted_226 : decode cX10_quoted 226 = .ok (.invokevirtual 212, 3) := dq_of dqX10_quoted_159 31 rfl
theorem dX10_quoted_229 : decode cX10_quoted 229 = .ok (.return_, 1) := dq_of dqX10_quoted_159 32 rfl
theorem dqX10_character_0 : ([(0, .aload_n 0, 1), (1, .iload_n 1, 1), (2, .putfield 188, 3), (5, .iload_n 1, 1), (6, .sipush 128, 3), (9, .if_icmp .ge 11, 3), (12, .aload_n 0, 1), (13, .iconst 1, 1), (14, .putfield 194, 3), (17, .goto 174, 3), (20, .aload_n 0, 1), (21, .iload_n 1, 1), (22, .sipush 194, 3), (25, .if_icmp .lt 14, 3), (28, .iload_n 1, 1), (29, .sipush 224, 3), (32, .if_icmp .ge 7, 3), (35, .iconst 1, 1), (36, .goto 40, 3), (39, .iload_n 1, 1), (40, .sipush 224, 3), (43, .if_icmp .lt 14, 3), (46, .iload_n 1, 1), (47, .sipush 240, 3), (50, .if_icmp .ge 7, 3), (53, .iconst 2, 1), (54, .goto 22, 3), (57, .iload_n 1, 1), (58, .sipush 240, 3), (61, .if_icmp .lt 14, 3), (64, .iload_n 1, 1), (65, .sipush 245, 3), (68, .if_icmp .ge 7, 3), (71, .iconst 3, 1), (72, .goto 4, 3), (75, .iconst 0, 1), (76, .putfield 179, 3), (79, .aload_n 0, 1), (80, .iload_n 1, 1), (81, .sipush 224, 3)] : List (Nat × Instr × Nat)).all (fun q => decide (decode cX10_character q.1 = .ok (q.2.1, q.2.2))) = true := by decide +kernel
theorem dX10_character_0 : decode cX10_character 0 = .ok (.aload_n 0, 1) := dq_of dqX10_character_0 0 rfl
theorem dX10_character_1 : decode cX10_character 1 = .ok (.iload_n 1, 1) := dq_of dqX10_character_0 1 rfl
theorem dX10_character_2 : decode cX10_character 2 = .ok (.putfield 188, 3) := dq_of dqX10_character_0 2 rfl
theorem dX10_character_5 : decode cX10_character 5 = .ok (.iload_n 1, 1) := dq_of dqX10_character_0 3 rfl
theorem dX10_character_6 : decode cX10_character 6 = .ok (.sipush 128, 3) := dq_of dqX10_character_0 4 rfl
theorem dX10_character_9 : decode cX10_character 9 = .ok (.if_icmp .ge 11, 3) := dq_of dqX10_character_0 5 rfl
theorem dX10_character_12 : decode cX10_character 12 = .ok (.aload_n 0, 1) := dq_of dqX10_character_0 6 rfl
theorem dX10_character_13 : decode cX10_character 13 = .ok (.iconst 1, 1) := dq_of dqX10_character_0 7 rfl
theorem dX10_character_14 : decode cX10_character 14 = .ok (.putfield 194, 3) := dq_of dqX10_character_0 8 rfl
theorem dX10_character_17 : decode cX10_character 17 = .ok (.goto 174, 3) := dq_of dqX10_character_0 9 rfl
theorem dX10_character_20 : decode cX10_character 20 = .ok (.aload_n 0, 1) := dq_of dqX10_character_0 10 rfl
theorem dX10_character_21 : decode cX10_character 21 = .ok (.iload_n 1, 1) := dq_of dqX10_character_0 11 rfl
theorem dX10_character_22 : decode cX10_character 22 = .ok (.sipush 194, 3) := dq_of dqX10_character_0 12 rfl
theorem dX10_character_25 : decode cX10_character 25 = .ok (.if_icmp .lt 14, 3) := dq_of dqX10_character_0 13 rfl
theorem dX10_character_28 : decode cX10_character 28 = .ok (.iload_n 1, 1) := dq_of dqX10_character_0 14 rfl
theorem dX10_character_29 : decode cX10_character 29 = .ok (.sipush 224, 3) := dq_of dqX10_character_0 15 rfl
theorem dX10_character_32 : decode cX10_character 32 = .ok (.if_icmp .ge 7, 3) := dq_of dqX10_character_0 16 rfl
theorem dX10_character_35 : decode cX10_character 35 = .ok (.iconst 1, 1) := dq_of dqX10_character_0 17 rfl
theorem dX10_character_36 : decode cX10_character 36 = .ok (.goto 40, 3) := dq_of dqX10_character_0 18 rfl
theorem dX10_character_39 : decode cX10_character 39 = .ok (.iload_n 1, 1) := dq_of dqX10_character_0 19 rfl
theorem dX10_character_40 : decode cX10_character 40 = .ok (.sipush 224, 3) := dq_of dqX10_character_0 20 rfl
theorem dX10_character_43 : decode cX10_character 43 = .ok (.if_icmp .lt 14, 3) := dq_of dqX10_character_0 21 rfl
theorem dX10_character_46 : decode cX10_character 46 = .ok (.iload_n 1, 1) := dq_of dqX10_character_0 22 rfl
theorem dX10_character_47 : decode cX10_character 47 = .ok (.sipush 240, 3) := dq_of dqX10_character_0 23 rfl
theorem dX10_character_50 : decode cX10_character 50 = .ok (.if_icmp .ge 7, 3) := dq_of dqX10_character_0 24 rfl
theorem dX10_character_53 : decode cX10_character 53 = .ok (.iconst 2, 1) := dq_of dqX10_character_0 25 rfl
theorem dX10_character_54 : decode cX10_character 54 = .ok (.goto 22, 3) := dq_of dqX10_character_0 26 rfl
theorem dX10_character_57 : decode cX10_character 57 = .ok (.iload_n 1, 1) := dq_of dqX10_character_0 27 rfl
theorem dX10_character_58 : decode cX10_character 58 = .ok (.sipush 240, 3) := dq_of dqX10_character_0 28 rfl
theorem dX10_character_61 : decode cX10_character 61 = .ok (.if_icmp .lt 14, 3) := dq_of dqX10_character_0 29 rfl
theorem dX10_character_64 : decode cX10_character 64 = .ok (.iload_n 1, 1) := dq_of dqX10_character_0 30 rfl
theorem dX10_character_65 : decode cX10_character 65 = .ok (.sipush 245, 3) := dq_of dqX10_character_0 31 rfl
theorem dX10_character_68 : decode cX10_character 68 = .ok (.if_icmp .ge 7, 3) := dq_of dqX10_character_0 32 rfl
theorem dX10_character_71 : decode cX10_character 71 = .ok (.iconst 3, 1) := dq_of dqX10_character_0 33 rfl
theorem dX10_character_72 : decode cX10_character 72 = .ok (.goto 4, 3) := dq_of dqX10_character_0 34 rfl
theorem dX10_character_75 : decode cX10_character 75 = .ok (.iconst 0, 1) := dq_of dqX10_character_0 35 rfl
theorem dX10_character_76 : decode cX10_character 76 = .ok (.putfield 179, 3) := dq_of dqX10_character_0 36 rfl
theorem dX10_character_79 : decode cX10_character 79 = .ok (.aload_n 0, 1) := dq_of dqX10_character_0 37 rfl
theorem dX10_character_80 : decode cX10_character 80 = .ok (.iload_n 1, 1) := dq_of dqX10_character_0 38 rfl
theorem dX10_character_81 : decode cX10_character 81 = .ok (.sipush 224, 3) := dq_of dqX10_character_0 39 rfl
theorem dqX10_character_84 : ([(84, .if_icmp .ne 9, 3), (87, .sipush 160, 3), (90, .goto 19, 3), (93, .iload_n 1, 1), (94, .sipush 240, 3), (97, .if_icmp .ne 9, 3), (100, .sipush 144, 3), (103, .goto 6, 3), (106, .sipush 128, 3), (109, .putfield 182, 3), (112, .aload_n 0, 1), (113, .iload_n 1, 1), (114, .sipush 237, 3), (117, .if_icmp .ne 9, 3), (120, .sipush 159, 3), (123, .goto 19, 3), (126, .iload_n 1, 1), (127, .sipush 244, 3), (130, .if_icmp .ne 9, 3), (133, .sipush 143, 3), (136, .goto 6, 3), (139, .sipush 191, 3), (142, .putfield 185, 3), (145, .aload_n 0, 1), (146, .iload_n 1, 1), (147, .aload_n 0, 1), (148, .getfield 179, 3), (151, .iconst 1, 1), (152, .if_icmp .ne 8, 3), (155, .bipush 31, 2), (157, .goto 18, 3), (160, .aload_n 0, 1), (161, .getfield 179, 3), (164, .iconst 2, 1), (165, .if_icmp .ne 8, 3), (168, .bipush 15, 2), (170, .goto 5, 3), (173, .bipush 7, 2), (175, .iand, 1), (176, .putfield 188, 3)] : List (Nat × Instr × Nat)).all (fun q => decide (decode cX10_character q.1 = .ok (q.2.1, q.2.2))) = true := by decide +kernel
theorem dX10_character_84 : decode cX10_character 84 = .ok (.if_icmp .ne 9, 3) := dq_of dqX10_character_84 0 rfl
theorem dX10_character_87 : decode cX10_character 87 = .ok (.sipush 160, 3) := dq_of dqX10_character_84 1 rfl
theorem dX10_character_90 : decode cX10_character 90 = .ok (.goto 19, 3) := dq_of dqX10_character_84 2 rfl
theorem dX10_character_93 : decode cX10_character 93 = .ok (.iload_n 1, 1) := dq_of dqX10_character_84 3 rfl
theorem dX10_character_94 : decode cX10_character 94 = .ok (.sipush 240, 3) := dq_of dqX10_character_84 4 rfl
theorem dX10_character_97 : decode cX10_character 97 = .ok (.if_icmp .ne 9, 3) := dq_of dqX10_character_84 5 rfl
theorem dX10_character_100 : decode cX10_character 100 = .ok (.sipush 144, 3) := dq_of dqX10_character_84 6 rfl
theorem dX10_character_103 : decode cX10_character 103 = .ok (.goto 6, 3) := dq_of dqX10_character_84 7 rfl
theorem dX10_character_106 : decode cX10_character 106 = .ok (.sipush 128, 3) := dq_of dqX10_character_84 8 rfl
theorem dX10_character_109 : decode cX10_character 109 = .ok (.putfield 182, 3) := dq_of dqX10_character_84 9 rfl
theorem dX10_character_112 : decode cX10_character 112 = .ok (.aload_n 0, 1) := dq_of dqX10_character_84 10 rfl
theorem dX10_character_113 : decode cX10_character 113 = .ok (.iload_n 1, 1) := dq_of dqX10_character_84 11 rfl
theorem dX10_character_114 : decode cX10_character 114 = .ok (.sipush 237, 3) := dq_of dqX10_character_84 12 rfl
theorem dX10_character_117 : decode cX10_character 117 = .ok (.if_icmp .ne 9, 3) := dq_of dqX10_character_84 13 rfl
theorem dX10_character_120 : decode cX10_character 120 = .ok (.sipush 159, 3) := dq_of dqX10_character_84 14 rfl
theorem dX10_character_123 : decode cX10_character 123 = .ok (.goto 19, 3) := dq_of dqX10_character_84 15 rfl
theorem dX10_character_126 : decode cX10_character 126 = .ok (.iload_n 1, 1) := dq_of dqX10_character_84 16 rfl
theorem dX10_character_127 : decode cX10_character 127 = .ok (.sipush 244, 3) := dq_of dqX10_character_84 17 rfl
theorem dX10_character_130 : decode cX10_character 130 = .ok (.if_icmp .ne 9, 3) := dq_of dqX10_character_84 18 rfl
theorem dX10_character_133 : decode cX10_character 133 = .ok (.sipush 143, 3) := dq_of dqX10_character_84 19 rfl
theorem dX10_character_136 : decode cX10_character 136 = .ok (.goto 6, 3) := dq_of dqX10_character_84 20 rfl
theorem dX10_character_139 : decode cX10_character 139 = .ok (.sipush 191, 3) := dq_of dqX10_character_84 21 rfl
theorem dX10_character_142 : decode cX10_character 142 = .ok (.putfield 185, 3) := dq_of dqX10_character_84 22 rfl
theorem dX10_character_145 : decode cX10_character 145 = .ok (.aload_n 0, 1) := dq_of dqX10_character_84 23 rfl
theorem dX10_character_146 : decode cX10_character 146 = .ok (.iload_n 1, 1) := dq_of dqX10_character_84 24 rfl
theorem dX10_character_147 : decode cX10_character 147 = .ok (.aload_n 0, 1) := dq_of dqX10_character_84 25 rfl
theorem dX10_character_148 : decode cX10_character 148 = .ok (.getfield 179, 3) := dq_of dqX10_character_84 26 rfl
theorem dX10_character_151 : decode cX10_character 151 = .ok (.iconst 1, 1) := dq_of dqX10_character_84 27 rfl
theorem dX10_character_152 : decode cX10_character 152 = .ok (.if_icmp .ne 8, 3) := dq_of dqX10_character_84 28 rfl
theorem dX10_character_155 : decode cX10_character 155 = .ok (.bipush 31, 2) := dq_of dqX10_character_84 29 rfl
theorem dX10_character_157 : decode cX10_character 157 = .ok (.goto 18, 3) := dq_of dqX10_character_84 30 rfl
theorem dX10_character_160 : decode cX10_character 160 = .ok (.aload_n 0, 1) := dq_of dqX10_character_84 31 rfl
theorem dX10_character_161 : decode cX10_character 161 = .ok (.getfield 179, 3) := dq_of dqX10_character_84 32 rfl
theorem dX10_character_164 : decode cX10_character 164 = .ok (.iconst 2, 1) := dq_of dqX10_character_84 33 rfl
theorem dX10_character_165 : decode cX10_character 165 = .ok (.if_icmp .ne 8, 3) := dq_of dqX10_character_84 34 rfl
theorem dX10_character_168 : decode cX10_character 168 = .ok (.bipush 15, 2) := dq_of dqX10_character_84 35 rfl
theorem dX10_character_170 : decode cX10_character 170 = .ok (.goto 5, 3) := dq_of dqX10_character_84 36 rfl
theorem dX10_character_173 : decode cX10_character 173 = .ok (.bipush 7, 2) := dq_of dqX10_character_84 37 rfl
theorem dX10_character_175 : decode cX10_character 175 = .ok (.iand, 1) := dq_of dqX10_character_84 38 rfl
theorem dX10_character_176 : decode cX10_character 176 = .ok (.putfield 188, 3) := dq_of dqX10_character_84 39 rfl
theorem dqX10_character_179 : ([(179, .aload_n 0, 1), (180, .getfield 179, 3), (183, .ifCond .ne 8, 3), (186, .aload_n 0, 1), (187, .invokevirtual 157, 3), (190, .return_, 1), (191, .aload_n 0, 1), (192, .getfield 191, 3), (195, .ifCond .eq 23, 3), (198, .aload_n 0, 1), (199, .getfield 191, 3), (202, .bipush 96, 2), (204, .if_icmp .ne 9, 3), (207, .iload_n 1, 1), (208, .bipush 13, 2), (210, .if_icmp .eq 8, 3), (213, .aload_n 0, 1), (214, .iload_n 1, 1), (215, .invokevirtual 131, 3), (218, .return_, 1)] : List (Nat × Instr × Nat)).all (fun q => decide (decode cX10_character q.1 = .ok (q.2.1, q.2.2))) = true := by decide +kernel
theorem dX10_character_179 : decode cX10_character 179 = .ok (.aload_n 0, 1) := dq_of dqX10_character_179 0 rfl
theorem dX10_character_180 : decode cX10_character 180 = .ok (.getfield 179, 3) := dq_of dqX10_character_179 1 rfl
theorem dX10_character_183 : decode cX10_character 183 = .ok (.ifCond .ne 8, 3) := dq_of dqX10_character_179 2 rfl
theorem dX10_character_186 : decode cX10_character 186 = .ok (.aload_n 0, 1) := dq_of dqX10_character_179 3 rfl
theorem dX10_character_187 : decode cX10_character 187 = .ok (.invokevirtual 157, 3) := dq_of dqX10_character_179 4 rfl
theorem dX10_character_190 : decode cX10_character 190 = .ok (.return_, 1) := dq_of dqX10_character_179 5 rfl
theorem dX10_character_191 : decode cX10_character 191 = .ok (.aload_n 0, 1) := dq_of dqX10_character_179 6 rfl
theorem dX10_character_192 : decode cX10_character 192 = .ok (.getfield 191, 3) := dq_of dqX10_character_179 7 rfl
theorem dX10_character_195 : decode cX10_character 195 = .ok (.ifCond .eq 23, 3) := dq_of dqX10_character_179 8 rfl
theorem dX10_character_198 : decode cX10_character 198 = .ok (.aload_n 0, 1) := dq_of dqX10_character_179 9 rfl
theorem dX10_character_199 : decode cX10_character 199 = .ok (.getfield 191, 3) := dq_of dqX10_character_179 10 rfl
theorem dX10_character_202 : decode cX10_character 202 = .ok (.bipush 96, 2) := dq_of dqX10_character_179 11 rfl
theorem dX10_character_204 : decode cX10_character 204 = .ok (.if_icmp .ne 9, 3) := dq_of dqX10_character_179 12 rfl
theorem dX10_character_207 : decode cX10_character 207 = .ok (.iload_n 1, 1) := dq_of dqX10_character_179 13 rfl
theorem dX10_character_208 : decode cX10_character 208 = .ok (.bipush 13, 2) := dq_of dqX10_character_179 14 rfl
theorem dX10_character_210 : decode cX10_character 210 = .ok (.if_icmp .eq 8, 3) := dq_of dqX10_character_179 15 rfl
theorem dX10_character_213 : decode cX10_character 213 = .ok (.aload_n 0, 1) := dq_of dqX10_character_179 16 rfl
theorem dX10_character_214 : decode cX10_character 214 = .ok (.iload_n 1, 1) := dq_of dqX10_character_179 17 rfl
theorem dX10_character_215 : decode cX10_character 215 = .ok (.invokevirtual 131, 3) := dq_of dqX10_character_179 18 rfl
theorem dX10_character_218 : decode cX10_character 218 = .ok (.return_, 1) := dq_of dqX10_character_179 19 rfl
theorem dqX10_escape_0 : ([(0, .aload_n 0, 1), (1, .iconst 0, 1), (2, .putfield 203, 3), (5, .iconst 0, 1), (6, .istore_n 2, 1), (7, .iload_n 2, 1), (8, .bipush 8, 2), (10, .if_icmp .ge 19, 3), (13, .ldc 215, 2), (15, .iload_n 2, 1), (16, .invokevirtual 120, 3), (19, .iload_n 1, 1), (20, .if_icmp .eq 9, 3), (23, .iinc 2 1, 3), (26, .goto (-19), 3), (29, .aload_n 0, 1), (30, .iconst 0, 1), (31, .putfield 188, 3), (34, .iload_n 2, 1), (35, .bipush 8, 2), (37, .if_icmp .lt 11, 3), (40, .iload_n 1, 1), (41, .aload_n 0, 1), (42, .getfield 191, 3), (45, .if_icmp .ne 38, 3), (48, .aload_n 0, 1), (49, .iload_n 2, 1), (50, .bipush 8, 2), (52, .if_icmp .ge 11, 3), (55, .getstatic 217, 3), (58, .iload_n 2, 1), (59, .iaload, 1), (60, .goto 4, 3), (63, .iload_n 1, 1), (64, .putfield 188, 3), (67, .aload_n 0, 1), (68, .aload_n 0, 1), (69, .getfield 188, 3), (72, .invokevirtual 131, 3), (75, .aload_n 0, 1)] : List (Nat × Instr × Nat)).all (fun q => decide (decode cX10_escape q.1 = .ok (q.2.1, q.2.2))) = true := by decide +kernel
theorem dX10_escape_0 : decode cX10_escape 0 = .ok (.aload_n 0, 1) := dq_of dqX10_escape_0 0 rfl
theorem dX10_escape_1 : decode cX10_escape 1 = .ok (.iconst 0, 1) := dq_of dqX10_escape_0 1 rfl
theorem dX10_escape_2 : decode cX10_escape 2 = .ok (.putfield 203, 3) := dq_of dqX10_escape_0 2 rfl
theorem dX10_escape_5 : decode cX10_escape 5 = .ok (.iconst 0, 1) := dq_of dqX10_escape_0 3 rfl
theorem dX10_escape_6 : decode cX10_escape 6 = .ok (.istore_n 2, 1) := dq_of dqX10_escape_0 4 rfl
theorem dX10_escape_7 : decode cX10_escape 7 = .ok (.iload_n 2, 1) := dq_of dqX10_escape_0 5 rfl
theorem dX10_escape_8 : decode cX10_escape 8 = .ok (.bipush 8, 2) := dq_of dqX10_escape_0 6 rfl
theorem dX10_escape_10 : decode cX10_escape 10 = .ok (.if_icmp .ge 19, 3) := dq_of dqX10_escape_0 7 rfl
theorem dX10_escape_13 : decode cX10_escape 13 = .ok (.ldc 215, 2) := dq_of dqX10_escape_0 8 rfl
theorem dX10_escape_15 : decode cX10_escape 15 = .ok (.iload_n 2, 1) := dq_of dqX10_escape_0 9 rfl
theorem dX10_escape_16 : decode cX10_escape 16 = .ok (.invokevirtual 120, 3) := dq_of dqX10_escape_0 10 rfl
theorem dX10_escape_19 : decode cX10_escape 19 = .ok (.iload_n 1, 1) := dq_of dqX10_escape_0 11 rfl
theorem dX10_escape_20 : decode cX10_escape 20 = .ok (.if_icmp .eq 9, 3) := dq_of dqX10_escape_0 12 rfl
theorem dX10_escape_23 : decode cX10_escape 23 = .ok (.iinc 2 1, 3) := dq_of dqX10_escape_0 13 rfl
theorem dX10_escape_26 : decode cX10_escape 26 = .ok (.goto (-19), 3) := dq_of dqX10_escape_0 14 rfl
theorem dX10_escape_29 : decode cX10_escape 29 = .ok (.aload_n 0, 1) := dq_of dqX10_escape_0 15 rfl
theorem dX10_escape_30 : decode cX10_escape 30 = .ok (.iconst 0, 1) := dq_of dqX10_escape_0 16 rfl
theorem dX10_escape_31 : decode cX10_escape 31 = .ok (.putfield 188, 3) := dq_of dqX10_escape_0 17 rfl
theorem dX10_escape_34 : decode cX10_escape 34 = .ok (.iload_n 2, 1) := dq_of dqX10_escape_0 18 rfl
theorem dX10_escape_35 : decode cX10_escape 35 = .ok (.bipush 8, 2) := dq_of dqX10_escape_0 19 rfl
theorem dX10_escape_37 : decode cX10_escape 37 = .ok (.if_icmp .lt 11, 3) := dq_of dqX10_escape_0 20 rfl
theorem dX10_escape_40 : decode cX10_escape 40 = .ok (.iload_n 1, 1) := dq_of dqX10_escape_0 21 rfl
theorem dX10_escape_41 : decode cX10_escape 41 = .ok (.aload_n 0, 1) := dq_of dqX10_escape_0 22 rfl
theorem dX10_escape_42 : decode cX10_escape 42 = .ok (.getfield 191, 3) := dq_of dqX10_escape_0 23 rfl
theorem dX10_escape_45 : decode cX10_escape 45 = .ok (.if_icmp .ne 38, 3) := dq_of dqX10_escape_0 24 rfl
theorem dX10_escape_48 : decode cX10_escape 48 = .ok (.aload_n 0, 1) := dq_of dqX10_escape_0 25 rfl
theorem dX10_escape_49 : decode cX10_escape 49 = .ok (.iload_n 2, 1) := dq_of dqX10_escape_0 26 rfl
theorem dX10_escape_50 : decode cX10_escape 50 = .ok (.bipush 8, 2) := dq_of dqX10_escape_0 27 rfl
theorem dX10_escape_52 : decode cX10_escape 52 = .ok (.if_icmp .ge 11, 3) := dq_of dqX10_escape_0 28 rfl
theorem dX10_escape_55 : decode cX10_escape 55 = .ok (.getstatic 217, 3) := dq_of dqX10_escape_0 29 rfl
theorem dX10_escape_58 : decode cX10_escape 58 = .ok (.iload_n 2, 1) := dq_of dqX10_escape_0 30 rfl
theorem dX10_escape_59 : decode cX10_escape 59 = .ok (.iaload, 1) := dq_of dqX10_escape_0 31 rfl
theorem dX10_escape_60 : decode cX10_escape 60 = .ok (.goto 4, 3) := dq_of dqX10_escape_0 32 rfl
theorem dX10_escape_63 : decode cX10_escape 63 = .ok (.iload_n 1, 1) := dq_of dqX10_escape_0 33 rfl
theorem dX10_escape_64 : decode cX10_escape 64 = .ok (.putfield 188, 3) := dq_of dqX10_escape_0 34 rfl
theorem dX10_escape_67 : decode cX10_escape 67 = .ok (.aload_n 0, 1) := dq_of dqX10_escape_0 35 rfl
theorem dX10_escape_68 : decode cX10_escape 68 = .ok (.aload_n 0, 1) := dq_of dqX10_escape_0 36 rfl
theorem dX10_escape_69 : decode cX10_escape 69 = .ok (.getfield 188, 3) := dq_of dqX10_escape_0 37 rfl
theorem dX10_escape_72 : decode cX10_escape 72 = .ok (.invokevirtual 131, 3) := dq_of dqX10_escape_0 38 rfl
theorem dX10_escape_75 : decode cX10_escape 75 = .ok (.aload_n 0, 1) := dq_of dqX10_escape_0 39 rfl
theorem dqX10_escape_76 : ([(76, .iconst 1, 1), (77, .putfield 194, 3), (80, .goto 114, 3), (83, .iload_n 1, 1), (84, .bipush 48, 2), (86, .if_icmp .lt 36, 3), (89, .iload_n 1, 1), (90, .bipush 51, 2), (92, .if_icmp .gt 30, 3), (95, .aload_n 0, 1), (96, .iconst 2, 1), (97, .putfield 197, 3), (100, .aload_n 0, 1), (101, .bipush 8, 2), (103, .putfield 220, 3), (106, .aload_n 0, 1), (107, .iload_n 1, 1), (108, .bipush 48, 2), (110, .isub, 1), (111, .putfield 188, 3), (114, .aload_n 0, 1), (115, .iconst 1, 1), (116, .putfield 223, 3), (119, .goto 75, 3), (122, .iload_n 1, 1), (123, .bipush 120, 2), (125, .if_icmp .eq 15, 3), (128, .iload_n 1, 1), (129, .bipush 117, 2), (131, .if_icmp .eq 9, 3), (134, .iload_n 1, 1), (135, .bipush 85, 2), (137, .if_icmp .ne 53, 3), (140, .aload_n 0, 1), (141, .iload_n 1, 1), (142, .bipush 120, 2), (144, .if_icmp .ne 7, 3), (147, .iconst 2, 1), (148, .goto 15, 3), (151, .iload_n 1, 1)] : List (Nat × Instr × Nat)).all (fun q => decide (decode cX10_escape q.1 = .ok (q.2.1, q.2.2))) = true := by decide +kernel
theorem dX10_escape_76 : decode cX10_escape 76 = .ok (.iconst 1, 1) := dq_of dqX10_escape_76 0 rfl
theorem dX10_escape_77 : decode cX10_escape 77 = .ok (.putfield 194, 3) := dq_of dqX10_escape_76 1 rfl
theorem dX10_escape_80 : decode cX10_escape 80 = .ok (.goto 114, 3) := dq_of dqX10_escape_76 2 rfl
theorem dX10_escape_83 : decode cX10_escape 83 = .ok (.iload_n 1, 1) := dq_of dqX10_escape_76 3 rfl
theorem dX10_escape_84 : decode cX10_escape 84 = .ok (.bipush 48, 2) := dq_of dqX10_escape_76 4 rfl
theorem dX10_escape_86 : decode cX10_escape 86 = .ok (.if_icmp .lt 36, 3) := dq_of dqX10_escape_76 5 rfl
theorem dX10_escape_89 : decode cX10_escape 89 = .ok (.iload_n 1, 1) := dq_of dqX10_escape_76 6 rfl
theorem dX10_escape_90 : decode cX10_escape 90 = .ok (.bipush 51, 2) := dq_of dqX10_escape_76 7 rfl
theorem dX10_escape_92 : decode cX10_escape 92 = .ok (.if_icmp .gt 30, 3) := dq_of dqX10_escape_76 8 rfl
theorem dX10_escape_95 : decode cX10_escape 95 = .ok (.aload_n 0, 1) := dq_of dqX10_escape_76 9 rfl
theorem dX10_escape_96 : decode cX10_escape 96 = .ok (.iconst 2, 1) := dq_of dqX10_escape_76 10 rfl
theorem dX10_escape_97 : decode cX10_escape 97 = .ok (.putfield 197, 3) := dq_of dqX10_escape_76 11 rfl
theorem dX10_escape_100 : decode cX10_escape 100 = .ok (.aload_n 0, 1) := dq_of dqX10_escape_76 12 rfl
theorem dX10_escape_101 : decode cX10_escape 101 = .ok (.bipush 8, 2) := dq_of dqX10_escape_76 13 rfl
theorem dX10_escape_103 : decode cX10_escape 103 = .ok (.putfield 220, 3) := dq_of dqX10_escape_76 14 rfl
theorem dX10_escape_106 : decode cX10_escape 106 = .ok (.aload_n 0, 1) := dq_of dqX10_escape_76 15 rfl
theorem dX10_escape_107 : decode cX10_escape 107 = .ok (.iload_n 1, 1) := dq_of dqX10_escape_76 16 rfl
theorem dX10_escape_108 : decode cX10_escape 108 = .ok (.bipush 48, 2) := dq_of dqX10_escape_76 17 rfl
theorem dX10_escape_110 : decode cX10_escape 110 = .ok (.isub, 1) := dq_of dqX10_escape_76 18 rfl
theorem dX10_escape_111 : decode cX10_escape 111 = .ok (.putfield 188, 3) := dq_of dqX10_escape_76 19 rfl
theorem dX10_escape_114 : decode cX10_escape 114 = .ok (.aload_n 0, 1) := dq_of dqX10_escape_76 20 rfl
theorem dX10_escape_115 : decode cX10_escape 115 = .ok (.iconst 1, 1) := dq_of dqX10_escape_76 21 rfl
theorem dX10_escape_116 : decode cX10_escape 116 = .ok (.putfield 223, 3) := dq_of dqX10_escape_76 22 rfl
theorem dX10_escape_119 : decode cX10_escape 119 = .ok (.goto 75, 3) := dq_of dqX10_escape_76 23 rfl
theorem dX10_escape_122 : decode cX10_escape 122 = .ok (.iload_n 1, 1) := dq_of dqX10_escape_76 24 rfl
theorem dX10_escape_123 : decode cX10_escape 123 = .ok (.bipush 120, 2) := dq_of dqX10_escape_76 25 rfl
theorem dX10_escape_125 : decode cX10_escape 125 = .ok (.if_icmp .eq 15, 3) := dq_of dqX10_escape_76 26 rfl
theorem dX10_escape_128 : decode cX10_escape 128 = .ok (.iload_n 1, 1) := dq_of dqX10_escape_76 27 rfl
theorem dX10_escape_129 : decode cX10_escape 129 = .ok (.bipush 117, 2) := dq_of dqX10_escape_76 28 rfl
theorem dX10_escape_131 : decode cX10_escape 131 = .ok (.if_icmp .eq 9, 3) := dq_of dqX10_escape_76 29 rfl
theorem dX10_escape_134 : decode cX10_escape 134 = .ok (.iload_n 1, 1) := dq_of dqX10_escape_76 30 rfl
theorem dX10_escape_135 : decode cX10_escape 135 = .ok (.bipush 85, 2) := dq_of dqX10_escape_76 31 rfl
theorem dX10_escape_137 : decode cX10_escape 137 = .ok (.if_icmp .ne 53, 3) := dq_of dqX10_escape_76 32 rfl
theorem dX10_escape_140 : decode cX10_escape 140 = .ok (.aload_n 0, 1) := dq_of dqX10_escape_76 33 rfl
theorem dX10_escape_141 : decode cX10_escape 141 = .ok (.iload_n 1, 1) := dq_of dqX10_escape_76 34 rfl
theorem dX10_escape_142 : decode cX10_escape 142 = .ok (.bipush 120, 2) := dq_of dqX10_escape_76 35 rfl
theorem dX10_escape_144 : decode cX10_escape 144 = .ok (.if_icmp .ne 7, 3) := dq_of dqX10_escape_76 36 rfl
theorem dX10_escape_147 : decode cX10_escape 147 = .ok (.iconst 2, 1) := dq_of dqX10_escape_76 37 rfl
theorem dX10_escape_148 : decode cX10_escape 148 = .ok (.goto 15, 3) := dq_of dqX10_escape_76 38 rfl
theorem dX10_escape_151 : decode cX10_escape 151 = .ok (.iload_n 1, 1) := dq_of dqX10_escape_76 39 rfl
theorem dqX10_escape_152 : ([(152, .bipush 117, 2), (154, .if_icmp .ne 7, 3), (157, .iconst 4, 1), (158, .goto 5, 3), (161, .bipush 8, 2), (163, .putfield 197, 3), (166, .aload_n 0, 1), (167, .bipush 16, 2), (169, .putfield 220, 3), (172, .aload_n 0, 1), (173, .iload_n 1, 1), (174, .bipush 120, 2), (176, .if_icmp .ne 7, 3), (179, .iconst 1, 1), (180, .goto 4, 3), (183, .iconst 0, 1), (184, .putfield 223, 3), (187, .goto 7, 3), (190, .aload_n 0, 1), (191, .invokevirtual 157, 3), (194, .return_, 1)] : List (Nat × Instr × Nat)).all (fun q => decide (decode cX10_escape q.1 = .ok (q.2.1, q.2.2))) = true := by decide +kernel
theorem dX10_escape_152 : decode cX10_escape 152 = .ok (.bipush 117, 2) := dq_of dqX10_escape_152 0 rfl
theorem dX10_escape_154 : decode cX10_escape 154 = .ok (.if_icmp .ne 7, 3) := dq_of dqX10_escape_152 1 rfl
theorem dX10_escape_157 : decode cX10_escape 157 = .ok (.iconst 4, 1) := dq_of dqX10_escape_152 2 rfl
theorem dX10_escape_158 : decode cX10_escape 158 = .ok (.goto 5, 3) := dq_of dqX10_escape_152 3 rfl
theorem dX10_escape_161 : decode cX10_escape 161 = .ok (.bipush 8, 2) := dq_of dqX10_escape_152 4 rfl
theorem dX10_escape_163 : decode cX10_escape 163 = .ok (.putfield 197, 3) := dq_of dqX10_escape_152 5 rfl
theorem dX10_escape_166 : decode cX10_escape 166 = .ok (.aload_n 0, 1) := dq_of dqX10_escape_152 6 rfl
theorem dX10_escape_167 : decode cX10_escape 167 = .ok (.bipush 16, 2) := dq_of dqX10_escape_152 7 rfl
theorem dX10_escape_169 : decode cX10_escape 169 = .ok (.putfield 220, 3) := dq_of dqX10_escape_152 8 rfl
theorem dX10_escape_172 : decode cX10_escape 172 = .ok (.aload_n 0, 1) := dq_of dqX10_escape_152 9 rfl
theorem dX10_escape_173 : decode cX10_escape 173 = .ok (.iload_n 1, 1) := dq_of dqX10_escape_152 10 rfl
theorem dX10_escape_174 : decode cX10_escape 174 = .ok (.bipush 120, 2) := dq_of dqX10_escape_152 11 rfl
theorem dX10_escape_176 : decode cX10_escape 176 = .ok (.if_icmp .ne 7, 3) := dq_of dqX10_escape_152 12 rfl
theorem dX10_escape_179 : decode cX10_escape 179 = .ok (.iconst 1, 1) := dq_of dqX10_escape_152 13 rfl
theorem dX10_escape_180 : decode cX10_escape 180 = .ok (.goto 4, 3) := dq_of dqX10_escape_152 14 rfl
theorem dX10_escape_183 : decode cX10_escape 183 = .ok (.iconst 0, 1) := dq_of dqX10_escape_152 15 rfl
theorem dX10_escape_184 : decode cX10_escape 184 = .ok (.putfield 223, 3) := dq_of dqX10_escape_152 16 rfl
theorem dX10_escape_187 : decode cX10_escape 187 = .ok (.goto 7, 3) := dq_of dqX10_escape_152 17 rfl
theorem dX10_escape_190 : decode cX10_escape 190 = .ok (.aload_n 0, 1) := dq_of dqX10_escape_152 18 rfl
theorem dX10_escape_191 : decode cX10_escape 191 = .ok (.invokevirtual 157, 3) := dq_of dqX10_escape_152 19 rfl
theorem dX10_escape_194 : decode cX10_escape 194 = .ok (.return_, 1) := dq_of dqX10_escape_152 20 rfl
theorem dqX10_number2_0 : ([(0, .iload_n 1, 1), (1, .invokestatic 147, 3), (4, .aload_n 0, 1), (5, .getfield 220, 3), (8, .if_icmp .lt 8, 3), (11, .aload_n 0, 1), (12, .invokevirtual 157, 3), (15, .return_, 1), (16, .aload_n 0, 1), (17, .dup, 1), (18, .getfield 197, 3), (21, .iconst 1, 1), (22, .isub, 1), (23, .putfield 197, 3), (26, .aload_n 0, 1), (27, .getfield 188, 3), (30, .i2l, 1), (31, .aload_n 0, 1), (32, .getfield 220, 3), (35, .i2l, 1), (36, .lmul, 1), (37, .iload_n 1, 1), (38, .invokestatic 147, 3), (41, .i2l, 1), (42, .ladd, 1), (43, .lstore_n 2, 1), (44, .lload_n 2, 1), (45, .lstore 4, 2), (47, .lload_n 2, 1), (48, .lstore 6, 2), (50, .iconst 0, 1), (51, .istore 8, 2), (53, .iload 8, 2), (55, .aload_n 0, 1), (56, .getfield 197, 3), (59, .if_icmp .ge 29, 3), (62, .lload 4, 2), (64, .ldc2_w 226, 3), (67, .lmul, 1), (68, .lstore 4, 2)] : List (Nat × Instr × Nat)).all (fun q => decide (decode cX10_number2 q.1 = .ok (q.2.1, q.2.2))) = true := by decide +kernel
theorem dX10_number2_0 : decode cX10_number2 0 = .ok (.iload_n 1, 1) := dq_of dqX10_number2_0 0 rfl
theorem dX10_number2_1 : decode cX10_number2 1 = .ok (.invokestatic 147, 3) := dq_of dqX10_number2_0 1 rfl
theorem dX10_number2_4 : decode cX10_number2 4 = .ok (.aload_n 0, 1) := dq_of dqX10_number2_0 2 rfl
theorem dX10_number2_5 : decode cX10_number2 5 = .ok (.getfield 220, 3) := dq_of dqX10_number2_0 3 rfl
theorem dX10_number2_8 : decode cX10_number2 8 = .ok (.if_icmp .lt 8, 3) := dq_of dqX10_number2_0 4 rfl
theorem dX10_number2_11 : decode cX10_number2 11 = .ok (.aload_n 0, 1) := dq_of dqX10_number2_0 5 rfl
theorem dX10_number2_12 : decode cX10_number2 12 = .ok (.invokevirtual 157, 3) := dq_of dqX10_number2_0 6 rfl
theorem dX10_number2_15 : decode cX10_number2 15 = .ok (.return_, 1) := dq_of dqX10_number2_0 7 rfl
theorem dX10_number2_16 : decode cX10_number2 16 = .ok (.aload_n 0, 1) := dq_of dqX10_number2_0 8 rfl
theorem dX10_number2_17 : decode cX10_number2 17 = .ok (.dup, 1) := dq_of dqX10_number2_0 9 rfl
theorem dX10_number2_18 : decode cX10_number2 18 = .ok (.getfield 197, 3) := dq_of dqX10_number2_0 10 rfl
theorem dX10_number2_21 : decode cX10_number2 21 = .ok (.iconst 1, 1) := dq_of dqX10_number2_0 11 rfl
theorem dX10_number2_22 : decode cX10_number2 22 = .ok (.isub, 1) := dq_of dqX10_number2_0 12 rfl
theorem dX10_number2_23 : decode cX10_number2 23 = .ok (.putfield 197, 3) := dq_of dqX10_number2_0 13 rfl
theorem dX10_number2_26 : decode cX10_number2 26 = .ok (.aload_n 0, 1) := dq_of dqX10_number2_0 14 rfl
theorem dX10_number2_27 : decode cX10_number2 27 = .ok (.getfield 188, 3) := dq_of dqX10_number2_0 15 rfl
theorem dX10_number2_30 : decode cX10_number2 30 = .ok (.i2l, 1) := dq_of dqX10_number2_0 16 rfl
theorem dX10_number2_31 : decode cX10_number2 31 = .ok (.aload_n 0, 1) := dq_of dqX10_number2_0 17 rfl
theorem dX10_number2_32 : decode cX10_number2 32 = .ok (.getfield 220, 3) := dq_of dqX10_number2_0 18 rfl
theorem dX10_number2_35 : decode cX10_number2 35 = .ok (.i2l, 1) := dq_of dqX10_number2_0 19 rfl
theorem dX10_number2_36 : decode cX10_number2 36 = .ok (.lmul, 1) := dq_of dqX10_number2_0 20 rfl
theorem dX10_number2_37 : decode cX10_number2 37 = .ok (.iload_n 1, 1) := dq_of dqX10_number2_0 21 rfl
theorem dX10_number2_38 : decode cX10_number2 38 = .ok (.invokestatic 147, 3) := dq_of dqX10_number2_0 22 rfl
theorem dX10_number2_41 : decode cX10_number2 41 = .ok (.i2l, 1) := dq_of dqX10_number2_0 23 rfl
theorem dX10_number2_42 : decode cX10_number2 42 = .ok (.ladd, 1) := dq_of dqX10_number2_0 24 rfl
theorem dX10_number2_43 : decode cX10_number2 43 = .ok (.lstore_n 2, 1) := dq_of dqX10_number2_0 25 rfl
theorem dX10_number2_44 : decode cX10_number2 44 = .ok (.lload_n 2, 1) := dq_of dqX10_number2_0 26 rfl
theorem dX10_number2_45 : decode cX10_number2 45 = .ok (.lstore 4, 2) := dq_of dqX10_number2_0 27 rfl
theorem dX10_number2_47 : decode cX10_number2 47 = .ok (.lload_n 2, 1) := dq_of dqX10_number2_0 28 rfl
theorem dX10_number2_48 : decode cX10_number2 48 = .ok (.lstore 6, 2) := dq_of dqX10_number2_0 29 rfl
theorem dX10_number2_50 : decode cX10_number2 50 = .ok (.iconst 0, 1) := dq_of dqX10_number2_0 30 rfl
theorem dX10_number2_51 : decode cX10_number2 51 = .ok (.istore 8, 2) := dq_of dqX10_number2_0 31 rfl
theorem dX10_number2_53 : decode cX10_number2 53 = .ok (.iload 8, 2) := dq_of dqX10_number2_0 32 rfl
theorem dX10_number2_55 : decode cX10_number2 55 = .ok (.aload_n 0, 1) := dq_of dqX10_number2_0 33 rfl
theorem dX10_number2_56 : decode cX10_number2 56 = .ok (.getfield 197, 3) := dq_of dqX10_number2_0 34 rfl
theorem dX10_number2_59 : decode cX10_number2 59 = .ok (.if_icmp .ge 29, 3) := dq_of dqX10_number2_0 35 rfl
theorem dX10_number2_62 : decode cX10_number2 62 = .ok (.lload 4, 2) := dq_of dqX10_number2_0 36 rfl
theorem dX10_number2_64 : decode cX10_number2 64 = .ok (.ldc2_w 226, 3) := dq_of dqX10_number2_0 37 rfl
theorem dX10_number2_67 : decode cX10_number2 67 = .ok (.lmul, 1) := dq_of dqX10_number2_0 38 rfl
theorem dX10_number2_68 : decode cX10_number2 68 = .ok (.lstore 4, 2) := dq_of dqX10_number2_0 39 rfl
theorem dqX10_number2_70 : ([(70, .lload 6, 2), (72, .ldc2_w 226, 3), (75, .lmul, 1), (76, .ldc2_w 228, 3), (79, .ladd, 1), (80, .lstore 6, 2), (82, .iinc 8 1, 3), (85, .goto (-32), 3), (88, .aload_n 0, 1), (89, .getfield 223, 3), (92, .ifCond .ne 35, 3), (95, .lload 4, 2), (97, .ldc2_w 230, 3), (100, .lcmp, 1), (101, .ifCond .gt 21, 3), (104, .lload 4, 2), (106, .ldc2_w 232, 3), (109, .lcmp, 1), (110, .ifCond .lt 17, 3), (113, .lload 6, 2), (115, .ldc2_w 234, 3), (118, .lcmp, 1), (119, .ifCond .gt 8, 3), (122, .aload_n 0, 1), (123, .invokevirtual 157, 3), (126, .return_, 1), (127, .aload_n 0, 1), (128, .lload_n 2, 1), (129, .l2i, 1), (130, .putfield 188, 3), (133, .aload_n 0, 1), (134, .getfield 197, 3), (137, .ifCond .le 4, 3), (140, .return_, 1), (141, .aload_n 0, 1), (142, .iconst 1, 1), (143, .putfield 194, 3), (146, .aload_n 0, 1), (147, .getfield 223, 3), (150, .ifCond .ne 13, 3)] : List (Nat × Instr × Nat)).all (fun q => decide (decode cX10_number2 q.1 = .ok (q.2.1, q.2.2))) = true := by decide +kernel
theorem dX10_number2_70 : decode cX10_number2 70 = .ok (.lload 6, 2) := dq_of dqX10_number2_70 0 rfl
theorem dX10_number2_72 : decode cX10_number2 72 = .ok (.ldc2_w 226, 3) := dq_of dqX10_number2_70 1 rfl
theorem dX10_number2_75 : decode cX10_number2 75 = .ok (.lmul, 1) := dq_of dqX10_number2_70 2 rfl
theorem dX10_number2_76 : decode cX10_number2 76 = .ok (.ldc2_w 228, 3) := dq_of dqX10_number2_70 3 rfl
theorem dX10_number2_79 : decode cX10_number2 79 = .ok (.ladd, 1) := dq_of dqX10_number2_70 4 rfl
theorem dX10_number2_80 : decode cX10_number2 80 = .ok (.lstore 6, 2) := dq_of dqX10_number2_70 5 rfl
theorem dX10_number2_82 : decode cX10_number2 82 = .ok (.iinc 8 1, 3) := dq_of dqX10_number2_70 6 rfl
theorem dX10_number2_85 : decode cX10_number2 85 = .ok (.goto (-32), 3) := dq_of dqX10_number2_70 7 rfl
theorem dX10_number2_88 : decode cX10_number2 88 = .ok (.aload_n 0, 1) := dq_of dqX10_number2_70 8 rfl
theorem dX10_number2_89 : decode cX10_number2 89 = .ok (.getfield 223, 3) := dq_of dqX10_number2_70 9 rfl
theorem dX10_number2_92 : decode cX10_number2 92 = .ok (.ifCond .ne 35, 3) := dq_of dqX10_number2_70 10 rfl
theorem dX10_number2_95 : decode cX10_number2 95 = .ok (.lload 4, 2) := dq_of dqX10_number2_70 11 rfl
theorem dX10_number2_97 : decode cX10_number2 97 = .ok (.ldc2_w 230, 3) := dq_of dqX10_number2_70 12 rfl
theorem dX10_number2_100 : decode cX10_number2 100 = .ok (.lcmp, 1) := dq_of dqX10_number2_70 13 rfl
theorem dX10_number2_101 : decode cX10_number2 101 = .ok (.ifCond .gt 21, 3) := dq_of dqX10_number2_70 14 rfl
theorem dX10_number2_104 : decode cX10_number2 104 = .ok (.lload 4, 2) := dq_of dqX10_number2_70 15 rfl
theorem dX10_number2_106 : decode cX10_number2 106 = .ok (.ldc2_w 232, 3) := dq_of dqX10_number2_70 16 rfl
theorem dX10_number2_109 : decode cX10_number2 109 = .ok (.lcmp, 1) := dq_of dqX10_number2_70 17 rfl
theorem dX10_number2_110 : decode cX10_number2 110 = .ok (.ifCond .lt 17, 3) := dq_of dqX10_number2_70 18 rfl
theorem dX10_number2_113 : decode cX10_number2 113 = .ok (.lload 6, 2) := dq_of dqX10_number2_70 19 rfl
theorem dX10_number2_115 : decode cX10_number2 115 = .ok (.ldc2_w 234, 3) := dq_of dqX10_number2_70 20 rfl
theorem dX10_number2_118 : decode cX10_number2 118 = .ok (.lcmp, 1) := dq_of dqX10_number2_70 21 rfl
theorem dX10_number2_119 : decode cX10_number2 119 = .ok (.ifCond .gt 8, 3) := dq_of dqX10_number2_70 22 rfl
theorem dX10_number2_122 : decode cX10_number2 122 = .ok (.aload_n 0, 1) := dq_of dqX10_number2_70 23 rfl
theorem dX10_number2_123 : decode cX10_number2 123 = .ok (.invokevirtual 157, 3) := dq_of dqX10_number2_70 24 rfl
theorem dX10_number2_126 : decode cX10_number2 126 = .ok (.return_, 1) := dq_of dqX10_number2_70 25 rfl
theorem dX10_number2_127 : decode cX10_number2 127 = .ok (.aload_n 0, 1) := dq_of dqX10_number2_70 26 rfl
theorem dX10_number2_128 : decode cX10_number2 128 = .ok (.lload_n 2, 1) := dq_of dqX10_number2_70 27 rfl
theorem dX10_number2_129 : decode cX10_number2 129 = .ok (.l2i, 1) := dq_of dqX10_number2_70 28 rfl
theorem dX10_number2_130 : decode cX10_number2 130 = .ok (.putfield 188, 3) := dq_of dqX10_number2_70 29 rfl
theorem dX10_number2_133 : decode cX10_number2 133 = .ok (.aload_n 0, 1) := dq_of dqX10_number2_70 30 rfl
theorem dX10_number2_134 : decode cX10_number2 134 = .ok (.getfield 197, 3) := dq_of dqX10_number2_70 31 rfl
theorem dX10_number2_137 : decode cX10_number2 137 = .ok (.ifCond .le 4, 3) := dq_of dqX10_number2_70 32 rfl
theorem dX10_number2_140 : decode cX10_number2 140 = .ok (.return_, 1) := dq_of dqX10_number2_70 33 rfl
theorem dX10_number2_141 : decode cX10_number2 141 = .ok (.aload_n 0, 1) := dq_of dqX10_number2_70 34 rfl
theorem dX10_number2_142 : decode cX10_number2 142 = .ok (.iconst 1, 1) := dq_of dqX10_number2_70 35 rfl
theorem dX10_number2_143 : decode cX10_number2 143 = .ok (.putfield 194, 3) := dq_of dqX10_number2_70 36 rfl
theorem dX10_number2_146 : decode cX10_number2 146 = .ok (.aload_n 0, 1) := dq_of dqX10_number2_70 37 rfl
theorem dX10_number2_147 : decode cX10_number2 147 = .ok (.getfield 223, 3) := dq_of dqX10_number2_70 38 rfl
theorem dX10_number2_150 : decode cX10_number2 150 = .ok (.ifCond .ne 13, 3) := dq_of dqX10_number2_70 39 rfl
theorem dqX10_number2_153 : ([(153, .aload_n 0, 1), (154, .getfield 188, 3), (157, .sipush 128, 3), (160, .if_icmp .ge 14, 3), (163, .aload_n 0, 1), (164, .aload_n 0, 1), (165, .getfield 188, 3), (168, .invokevirtual 131, 3), (171, .goto 113, 3), (174, .aload_n 0, 1), (175, .getfield 188, 3), (178, .sipush 2048, 3), (181, .if_icmp .ge 7, 3), (184, .iconst 1, 1), (185, .goto 17, 3), (188, .aload_n 0, 1), (189, .getfield 188, 3), (192, .ldc 7, 2), (194, .if_icmp .ge 7, 3), (197, .iconst 2, 1), (198, .goto 4, 3), (201, .iconst 3, 1), (202, .istore 8, 2), (204, .aload_n 0, 1), (205, .iload 8, 2), (207, .iconst 1, 1), (208, .if_icmp .ne 9, 3), (211, .sipush 192, 3), (214, .goto 18, 3), (217, .iload 8, 2), (219, .iconst 2, 1), (220, .if_icmp .ne 9, 3), (223, .sipush 224, 3), (226, .goto 6, 3), (229, .sipush 240, 3), (232, .aload_n 0, 1), (233, .getfield 188, 3), (236, .bipush 6, 2), (238, .iload 8, 2), (240, .imul, 1)] : List (Nat × Instr × Nat)).all (fun q => decide (decode cX10_number2 q.1 = .ok (q.2.1, q.2.2))) = true := by decide +kernel
theorem dX10_number2_153 : decode cX10_number2 153 = .ok (.aload_n 0, 1) := dq_of dqX10_number2_153 0 rfl
theorem dX10_number2_154 : decode cX10_number2 154 = .ok (.getfield 188, 3) := dq_of dqX10_number2_153 1 rfl
theorem dX10_number2_157 : decode cX10_number2 157 = .ok (.sipush 128, 3) := dq_of dqX10_number2_153 2 rfl
theorem dX10_number2_160 : decode cX10_number2 160 = .ok (.if_icmp .ge 14, 3) := dq_of dqX10_number2_153 3 rfl
theorem dX10_number2_163 : decode cX10_number2 163 = .ok (.aload_n 0, 1) := dq_of dqX10_number2_153 4 rfl
theorem dX10_number2_164 : decode cX10_number2 164 = .ok (.aload_n 0, 1) := dq_of dqX10_number2_153 5 rfl
theorem dX10_number2_165 : decode cX10_number2 165 = .ok (.getfield 188, 3) := dq_of dqX10_number2_153 6 rfl
theorem dX10_number2_168 : decode cX10_number2 168 = .ok (.invokevirtual 131, 3) := dq_of dqX10_number2_153 7 rfl
theorem dX10_number2_171 : decode cX10_number2 171 = .ok (.goto 113, 3) := dq_of dqX10_number2_153 8 rfl
theorem dX10_number2_174 : decode cX10_number2 174 = .ok (.aload_n 0, 1) := dq_of dqX10_number2_153 9 rfl
theorem dX10_number2_175 : decode cX10_number2 175 = .ok (.getfield 188, 3) := dq_of dqX10_number2_153 10 rfl
theorem dX10_number2_178 : decode cX10_number2 178 = .ok (.sipush 2048, 3) := dq_of dqX10_number2_153 11 rfl
theorem dX10_number2_181 : decode cX10_number2 181 = .ok (.if_icmp .ge 7, 3) := dq_of dqX10_number2_153 12 rfl
theorem dX10_number2_184 : decode cX10_number2 184 = .ok (.iconst 1, 1) := dq_of dqX10_number2_153 13 rfl
theorem dX10_number2_185 : decode cX10_number2 185 = .ok (.goto 17, 3) := dq_of dqX10_number2_153 14 rfl
theorem dX10_number2_188 : decode cX10_number2 188 = .ok (.aload_n 0, 1) := dq_of dqX10_number2_153 15 rfl
theorem dX10_number2_189 : decode cX10_number2 189 = .ok (.getfield 188, 3) := dq_of dqX10_number2_153 16 rfl
theorem dX10_number2_192 : decode cX10_number2 192 = .ok (.ldc 7, 2) := dq_of dqX10_number2_153 17 rfl
theorem dX10_number2_194 : decode cX10_number2 194 = .ok (.if_icmp .ge 7, 3) := dq_of dqX10_number2_153 18 rfl
theorem dX10_number2_197 : decode cX10_number2 197 = .ok (.iconst 2, 1) := dq_of dqX10_number2_153 19 rfl
theorem dX10_number2_198 : decode cX10_number2 198 = .ok (.goto 4, 3) := dq_of dqX10_number2_153 20 rfl
theorem dX10_number2_201 : decode cX10_number2 201 = .ok (.iconst 3, 1) := dq_of dqX10_number2_153 21 rfl
theorem dX10_number2_202 : decode cX10_number2 202 = .ok (.istore 8, 2) := dq_of dqX10_number2_153 22 rfl
theorem dX10_number2_204 : decode cX10_number2 204 = .ok (.aload_n 0, 1) := dq_of dqX10_number2_153 23 rfl
theorem dX10_number2_205 : decode cX10_number2 205 = .ok (.iload 8, 2) := dq_of dqX10_number2_153 24 rfl
theorem dX10_number2_207 : decode cX10_number2 207 = .ok (.iconst 1, 1) := dq_of dqX10_number2_153 25 rfl
theorem dX10_number2_208 : decode cX10_number2 208 = .ok (.if_icmp .ne 9, 3) := dq_of dqX10_number2_153 26 rfl
theorem dX10_number2_211 : decode cX10_number2 211 = .ok (.sipush 192, 3) := dq_of dqX10_number2_153 27 rfl
theorem dX10_number2_214 : decode cX10_number2 214 = .ok (.goto 18, 3) := dq_of dqX10_number2_153 28 rfl
theorem dX10_number2_217 : decode cX10_number2 217 = .ok (.iload 8, 2) := dq_of dqX10_number2_153 29 rfl
theorem dX10_number2_219 : decode cX10_number2 219 = .ok (.iconst 2, 1) := dq_of dqX10_number2_153 30 rfl
theorem dX10_number2_220 : decode cX10_number2 220 = .ok (.if_icmp .ne 9, 3) := dq_of dqX10_number2_153 31 rfl
theorem dX10_number2_223 : decode cX10_number2 223 = .ok (.sipush 224, 3) := dq_of dqX10_number2_153 32 rfl
theorem dX10_number2_226 : decode cX10_number2 226 = .ok (.goto 6, 3) := dq_of dqX10_number2_153 33 rfl
theorem dX10_number2_229 : decode cX10_number2 229 = .ok (.sipush 240, 3) := dq_of dqX10_number2_153 34 rfl
theorem dX10_number2_232 : decode cX10_number2 232 = .ok (.aload_n 0, 1) := dq_of dqX10_number2_153 35 rfl
theorem dX10_number2_233 : decode cX10_number2 233 = .ok (.getfield 188, 3) := dq_of dqX10_number2_153 36 rfl
theorem dX10_number2_236 : decode cX10_number2 236 = .ok (.bipush 6, 2) := dq_of dqX10_number2_153 37 rfl
theorem dX10_number2_238 : decode cX10_number2 238 = .ok (.iload 8, 2) := dq_of dqX10_number2_153 38 rfl
theorem dX10_number2_240 : decode cX10_number2 240 = .ok (.imul, 1) := dq_of dqX10_number2_153 39 rfl
theorem dqX10_number2_241 : ([(241, .ishr, 1), (242, .ior, 1), (243, .invokevirtual 131, 3), (246, .iload 8, 2), (248, .iconst 1, 1), (249, .isub, 1), (250, .istore 9, 2), (252, .iload 9, 2), (254, .ifCond .lt 30, 3), (257, .aload_n 0, 1), (258, .sipush 128, 3), (261, .aload_n 0, 1), (262, .getfield 188, 3), (265, .bipush 6, 2), (267, .iload 9, 2), (269, .imul, 1), (270, .ishr, 1), (271, .bipush 63, 2), (273, .iand, 1), (274, .ior, 1), (275, .invokevirtual 131, 3), (278, .iinc 9 (-1), 3), (281, .goto (-29), 3), (284, .return_, 1)] : List (Nat × Instr × Nat)).all (fun q => decide (decode cX10_number2 q.1 = .ok (q.2.1, q.2.2))) = true := by decide +kernel
theorem dX10_number2_241 : decode cX10_number2 241 = .ok (.ishr, 1) := dq_of dqX10_number2_241 0 rfl
theorem dX10_number2_242 : decode cX10_number2 242 = .ok (.ior, 1) := dq_of dqX10_number2_241 1 rfl
theorem dX10_number2_243 : decode cX10_number2 243 = .ok (.invokevirtual 131, 3) := dq_of dqX10_number2_241 2 rfl
theorem dX10_number2_246 : decode cX10_number2 246 = .ok (.iload 8, 2) := dq_of dqX10_number2_241 3 rfl
theorem dX10_number2_248 : decode cX10_number2 248 = .ok (.iconst 1, 1) := dq_of dqX10_number2_241 4 rfl
theorem dX10_number2_249 : decode cX10_number2 249 = .ok (.isub, 1) := dq_of dqX10_number2_241 5 rfl
theorem dX10_number2_250 : decode cX10_number2 250 = .ok (.istore 9, 2) := dq_of dqX10_number2_241 6 rfl
theorem dX10_number2_252 : decode cX10_number2 252 = .ok (.iload 9, 2) := dq_of dqX10_number2_241 7 rfl
theorem dX10_number2_254 : decode cX10_number2 254 = .ok (.ifCond .lt 30, 3) := dq_of dqX10_number2_241 8 rfl
theorem dX10_number2_257 : decode cX10_number2 257 = .ok (.aload_n 0, 1) := dq_of dqX10_number2_241 9 rfl
theorem dX10_number2_258 : decode cX10_number2 258 = .ok (.sipush 128, 3) := dq_of dqX10_number2_241 10 rfl
theorem dX10_number2_261 : decode cX10_number2 261 = .ok (.aload_n 0, 1) := dq_of dqX10_number2_241 11 rfl
theorem dX10_number2_262 : decode cX10_number2 262 = .ok (.getfield 188, 3) := dq_of dqX10_number2_241 12 rfl
theorem dX10_number2_265 : decode cX10_number2 265 = .ok (.bipush 6, 2) := dq_of dqX10_number2_241 13 rfl
theorem dX10_number2_267 : decode cX10_number2 267 = .ok (.iload 9, 2) := dq_of dqX10_number2_241 14 rfl
theorem dX10_number2_269 : decode cX10_number2 269 = .ok (.imul, 1) := dq_of dqX10_number2_241 15 rfl
theorem dX10_number2_270 : decode cX10_number2 270 = .ok (.ishr, 1) := dq_of dqX10_number2_241 16 rfl
theorem dX10_number2_271 : decode cX10_number2 271 = .ok (.bipush 63, 2) := dq_of dqX10_number2_241 17 rfl
theorem dX10_number2_273 : decode cX10_number2 273 = .ok (.iand, 1) := dq_of dqX10_number2_241 18 rfl
theorem dX10_number2_274 : decode cX10_number2 274 = .ok (.ior, 1) := dq_of dqX10_number2_241 19 rfl
theorem dX10_number2_275 : decode cX10_number2 275 = .ok (.invokevirtual 131, 3) := dq_of dqX10_number2_241 20 rfl
theorem dX10_number2_278 : decode cX10_number2 278 = .ok (.iinc 9 (-1), 3) := dq_of dqX10_number2_241 21 rfl
theorem dX10_number2_281 : decode cX10_number2 281 = .ok (.goto (-29), 3) := dq_of dqX10_number2_241 22 rfl
theorem dX10_number2_284 : decode cX10_number2 284 = .ok (.return_, 1) := dq_of dqX10_number2_241 23 rfl
theorem dqX10_close_0 : ([(0, .aload_n 0, 1), (1, .getfield 191, 3), (4, .bipush 39, 2), (6, .if_icmp .ne 15, 3), (9, .aload_n 0, 1), (10, .getfield 194, 3), (13, .ifCond .ne 8, 3), (16, .aload_n 0, 1), (17, .invokevirtual 157, 3), (20, .return_, 1), (21, .aload_n 0, 1), (22, .getfield 106, 3), (25, .istore_n 1, 1), (26, .aload_n 0, 1), (27, .getfield 236, 3), (30, .istore_n 2, 1), (31, .aload_n 0, 1), (32, .iload_n 2, 1), (33, .putfield 106, 3), (36, .aload_n 0, 1), (37, .aload_n 0, 1), (38, .getfield 191, 3), (41, .bipush 39, 2), (43, .if_icmp .ne 7, 3), (46, .iconst 4, 1), (47, .goto 4, 3), (50, .iconst 5, 1), (51, .aload_n 0, 1), (52, .getfield 79, 3), (55, .iconst 1, 1), (56, .iadd, 1), (57, .aload_n 0, 1), (58, .getfield 85, 3), (61, .isub, 1), (62, .iconst 0, 1), (63, .invokevirtual 109, 3), (66, .aload_n 0, 1), (67, .getfield 76, 3), (70, .ifCond .lt 4, 3), (73, .return_, 1)] : List (Nat × Instr × Nat)).all (fun q => decide (decode cX10_close q.1 = .ok (q.2.1, q.2.2))) = true := by decide +kernel
theorem dX10_close_0 : decode cX10_close 0 = .ok (.aload_n 0, 1) := dq_of dqX10_close_0 0 rfl
theorem dX10_close_1 : decode cX10_close 1 = .ok (.getfield 191, 3) := dq_of dqX10_close_0 1 rfl
theorem dX10_close_4 : decode cX10_close 4 = .ok (.bipush 39, 2) := dq_of dqX10_close_0 2 rfl
theorem dX10_close_6 : decode cX10_close 6 = .ok (.if_icmp .ne 15, 3) := dq_of dqX10_close_0 3 rfl
theorem dX10_close_9 : decode cX10_close 9 = .ok (.aload_n 0, 1) := dq_of dqX10_close_0 4 rfl
theorem dX10_close_10 : decode cX10_close 10 = .ok (.getfield 194, 3) := dq_of dqX10_close_0 5 rfl
theorem dX10_close_13 : decode cX10_close 13 = .ok (.ifCond .ne 8, 3) := dq_of dqX10_close_0 6 rfl
theorem dX10_close_16 : decode cX10_close 16 = .ok (.aload_n 0, 1) := dq_of dqX10_close_0 7 rfl
theorem dX10_close_17 : decode cX10_close 17 = .ok (.invokevirtual 157, 3) := dq_of dqX10_close_0 8 rfl
theorem dX10_close_20 : decode cX10_close 20 = .ok (.return_, 1) := dq_of dqX10_close_0 9 rfl
theorem dX10_close_21 : decode cX10_close 21 = .ok (.aload_n 0, 1) := dq_of dqX10_close_0 10 rfl
theorem dX10_close_22 : decode cX10_close 22 = .ok (.getfield 106, 3) := dq_of dqX10_close_0 11 rfl
theorem dX10_close_25 : decode cX10_close 25 = .ok (.istore_n 1, 1) := dq_of dqX10_close_0 12 rfl
theorem dX10_close_26 : decode cX10_close 26 = .ok (.aload_n 0, 1) := dq_of dqX10_close_0 13 rfl
theorem dX10_close_27 : decode cX10_close 27 = .ok (.getfield 236, 3) := dq_of dqX10_close_0 14 rfl
theorem dX10_close_30 : decode cX10_close 30 = .ok (.istore_n 2, 1) := dq_of dqX10_close_0 15 rfl
theorem dX10_close_31 : decode cX10_close 31 = .ok (.aload_n 0, 1) := dq_of dqX10_close_0 16 rfl
theorem dX10_close_32 : decode cX10_close 32 = .ok (.iload_n 2, 1) := dq_of dqX10_close_0 17 rfl
theorem dX10_close_33 : decode cX10_close 33 = .ok (.putfield 106, 3) := dq_of dqX10_close_0 18 rfl
theorem dX10_close_36 : decode cX10_close 36 = .ok (.aload_n 0, 1) := dq_of dqX10_close_0 19 rfl
theorem dX10_close_37 : decode cX10_close 37 = .ok (.aload_n 0, 1) := dq_of dqX10_close_0 20 rfl
theorem dX10_close_38 : decode cX10_close 38 = .ok (.getfield 191, 3) := dq_of dqX10_close_0 21 rfl
theorem dX10_close_41 : decode cX10_close 41 = .ok (.bipush 39, 2) := dq_of dqX10_close_0 22 rfl
theorem dX10_close_43 : decode cX10_close 43 = .ok (.if_icmp .ne 7, 3) := dq_of dqX10_close_0 23 rfl
theorem dX10_close_46 : decode cX10_close 46 = .ok (.iconst 4, 1) := dq_of dqX10_close_0 24 rfl
theorem dX10_close_47 : decode cX10_close 47 = .ok (.goto 4, 3) := dq_of dqX10_close_0 25 rfl
theorem dX10_close_50 : decode cX10_close 50 = .ok (.iconst 5, 1) := dq_of dqX10_close_0 26 rfl
theorem dX10_close_51 : decode cX10_close 51 = .ok (.aload_n 0, 1) := dq_of dqX10_close_0 27 rfl
theorem dX10_close_52 : decode cX10_close 52 = .ok (.getfield 79, 3) := dq_of dqX10_close_0 28 rfl
theorem dX10_close_55 : decode cX10_close 55 = .ok (.iconst 1, 1) := dq_of dqX10_close_0 29 rfl
theorem dX10_close_56 : decode cX10_close 56 = .ok (.iadd, 1) := dq_of dqX10_close_0 30 rfl
theorem dX10_close_57 : decode cX10_close 57 = .ok (.aload_n 0, 1) := dq_of dqX10_close_0 31 rfl
theorem dX10_close_58 : decode cX10_close 58 = .ok (.getfield 85, 3) := dq_of dqX10_close_0 32 rfl
theorem dX10_close_61 : decode cX10_close 61 = .ok (.isub, 1) := dq_of dqX10_close_0 33 rfl
theorem dX10_close_62 : decode cX10_close 62 = .ok (.iconst 0, 1) := dq_of dqX10_close_0 34 rfl
theorem dX10_close_63 : decode cX10_close 63 = .ok (.invokevirtual 109, 3) := dq_of dqX10_close_0 35 rfl
theorem dX10_close_66 : decode cX10_close 66 = .ok (.aload_n 0, 1) := dq_of dqX10_close_0 36 rfl
theorem dX10_close_67 : decode cX10_close 67 = .ok (.getfield 76, 3) := dq_of dqX10_close_0 37 rfl
theorem dX10_close_70 : decode cX10_close 70 = .ok (.ifCond .lt 4, 3) := dq_of dqX10_close_0 38 rfl
theorem dX10_close_73 : decode cX10_close 73 = .ok (.return_, 1) := dq_of dqX10_close_0 39 rfl
theorem dqX10_close_74 : ([(74, .aload_n 0, 1), (75, .getfield 191, 3), (78, .bipush 39, 2), (80, .if_icmp .ne 22, 3), (83, .aload_n 0, 1), (84, .getfield 46, 3), (87, .aload_n 0, 1), (88, .getfield 100, 3), (91, .iconst 1, 1), (92, .isub, 1), (93, .aload_n 0, 1), (94, .getfield 188, 3), (97, .i2l, 1), (98, .lastore, 1), (99, .goto 22, 3), (102, .aload_n 0, 1), (103, .iload_n 1, 1), (104, .putfield 106, 3), (107, .aload_n 0, 1), (108, .getfield 43, 3), (111, .aload_n 0, 1), (112, .getfield 100, 3), (115, .iconst 1, 1), (116, .isub, 1), (117, .iload_n 1, 1), (118, .iload_n 2, 1), (119, .isub, 1), (120, .iastore, 1), (121, .aload_n 0, 1), (122, .iconst 0, 1), (123, .putfield 82, 3), (126, .return_, 1)] : List (Nat × Instr × Nat)).all (fun q => decide (decode cX10_close q.1 = .ok (q.2.1, q.2.2))) = true := by decide +kernel
theorem dX10_close_74 : decode cX10_close 74 = .ok (.aload_n 0, 1) := dq_of dqX10_close_74 0 rfl
theorem dX10_close_75 : decode cX10_close 75 = .ok (.getfield 191, 3) := dq_of dqX10_close_74 1 rfl
theorem dX10_close_78 : decode cX10_close 78 = .ok (.bipush 39, 2) := dq_of dqX10_close_74 2 rfl
theorem dX10_close_80 : decode cX10_close 80 = .ok (.if_icmp .ne 22, 3) := dq_of dqX10_close_74 3 rfl
theorem dX10_close_83 : decode cX10_close 83 = .ok (.aload_n 0, 1) := dq_of dqX10_close_74 4 rfl
theorem dX10_close_84 : decode cX10_close 84 = .ok (.getfield 46, 3) := dq_of dqX10_close_74 5 rfl
theorem dX10_close_87 : decode cX10_close 87 = .ok (.aload_n 0, 1) := dq_of dqX10_close_74 6 rfl
theorem dX10_close_88 : decode cX10_close 88 = .ok (.getfield 100, 3) := dq_of dqX10_close_74 7 rfl
theorem dX10_close_91 : decode cX10_close 91 = .ok (.iconst 1, 1) := dq_of dqX10_close_74 8 rfl
theorem dX10_close_92 : decode cX10_close 92 = .ok (.isub, 1) := dq_of dqX10_close_74 9 rfl
theorem dX10_close_93 : decode cX10_close 93 = .ok (.aload_n 0, 1) := dq_of dqX10_close_74 10 rfl
theorem dX10_close_94 : decode cX10_close 94 = .ok (.getfield 188, 3) := dq_of dqX10_close_74 11 rfl
theorem dX10_close_97 : decode cX10_close 97 = .ok (.i2l, 1) := dq_of dqX10_close_74 12 rfl
theorem dX10_close_98 : decode cX10_close 98 = .ok (.lastore, 1) := dq_of dqX10_close_74 13 rfl
theorem dX10_close_99 : decode cX10_close 99 = .ok (.goto 22, 3) := dq_of dqX10_close_74 14 rfl
theorem dX10_close_102 : decode cX10_close 102 = .ok (.aload_n 0, 1) := dq_of dqX10_close_74 15 rfl
theorem dX10_close_103 : decode cX10_close 103 = .ok (.iload_n 1, 1) := dq_of dqX10_close_74 16 rfl
theorem dX10_close_104 : decode cX10_close 104 = .ok (.putfield 106, 3) := dq_of dqX10_close_74 17 rfl
theorem dX10_close_107 : decode cX10_close 107 = .ok (.aload_n 0, 1) := dq_of dqX10_close_74 18 rfl
theorem dX10_close_108 : decode cX10_close 108 = .ok (.getfield 43, 3) := dq_of dqX10_close_74 19 rfl
theorem dX10_close_111 : decode cX10_close 111 = .ok (.aload_n 0, 1) := dq_of dqX10_close_74 20 rfl
theorem dX10_close_112 : decode cX10_close 112 = .ok (.getfield 100, 3) := dq_of dqX10_close_74 21 rfl
theorem dX10_close_115 : decode cX10_close 115 = .ok (.iconst 1, 1) := dq_of dqX10_close_74 22 rfl
theorem dX10_close_116 : decode cX10_close 116 = .ok (.isub, 1) := dq_of dqX10_close_74 23 rfl
theorem dX10_close_117 : decode cX10_close 117 = .ok (.iload_n 1, 1) := dq_of dqX10_close_74 24 rfl
theorem dX10_close_118 : decode cX10_close 118 = .ok (.iload_n 2, 1) := dq_of dqX10_close_74 25 rfl
theorem dX10_close_119 : decode cX10_close 119 = .ok (.isub, 1) := dq_of dqX10_close_74 26 rfl
theorem dX10_close_120 : decode cX10_close 120 = .ok (.iastore, 1) := dq_of dqX10_close_74 27 rfl
theorem dX10_close_121 : decode cX10_close 121 = .ok (.aload_n 0, 1) := dq_of dqX10_close_74 28 rfl
theorem dX10_close_122 : decode cX10_close 122 = .ok (.iconst 0, 1) := dq_of dqX10_close_74 29 rfl
theorem dX10_close_123 : decode cX10_close 123 = .ok (.putfield 82, 3) := dq_of dqX10_close_74 30 rfl
theorem dX10_close_126 : decode cX10_close 126 = .ok (.return_, 1) := dq_of dqX10_close_74 31 rfl
theorem dqX10_opens_0 : ([(0, .aload_n 0, 1), (1, .iload_n 2, 1), (2, .invokevirtual 239, 3), (5, .aload_n 0, 1), (6, .iload_n 1, 1), (7, .putfield 191, 3), (10, .aload_n 0, 1), (11, .iconst 0, 1), (12, .putfield 179, 3), (15, .aload_n 0, 1), (16, .iconst 0, 1), (17, .putfield 197, 3), (20, .aload_n 0, 1), (21, .iconst 0, 1), (22, .putfield 203, 3), (25, .aload_n 0, 1), (26, .iconst 0, 1), (27, .putfield 194, 3), (30, .aload_n 0, 1), (31, .iconst 0, 1), (32, .putfield 188, 3), (35, .aload_n 0, 1), (36, .aload_n 0, 1), (37, .getfield 106, 3), (40, .putfield 236, 3), (43, .return_, 1)] : List (Nat × Instr × Nat)).all (fun q => decide (decode cX10_opens q.1 = .ok (q.2.1, q.2.2))) = true := by decide +kernel
theorem dX10_opens_0 : decode cX10_opens 0 = .ok (.aload_n 0, 1) := dq_of dqX10_opens_0 0 rfl
theorem dX10_opens_1 : decode cX10_opens 1 = .ok (.iload_n 2, 1) := dq_of dqX10_opens_0 1 rfl
theorem dX10_opens_2 : decode cX10_opens 2 = .ok (.invokevirtual 239, 3) := dq_of dqX10_opens_0 2 rfl
theorem dX10_opens_5 : decode cX10_opens 5 = .ok (.aload_n 0, 1) := dq_of dqX10_opens_0 3 rfl
theorem dX10_opens_6 : decode cX10_opens 6 = .ok (.iload_n 1, 1) := dq_of dqX10_opens_0 4 rfl
theorem dX10_opens_7 : decode cX10_opens 7 = .ok (.putfield 191, 3) := dq_of dqX10_opens_0 5 rfl
theorem dX10_opens_10 : decode cX10_opens 10 = .ok (.aload_n 0, 1) := dq_of dqX10_opens_0 6 rfl
theorem dX10_opens_11 : decode cX10_opens 11 = .ok (.iconst 0, 1) := dq_of dqX10_opens_0 7 rfl
theorem dX10_opens_12 : decode cX10_opens 12 = .ok (.putfield 179, 3) := dq_of dqX10_opens_0 8 rfl
theorem dX10_opens_15 : decode cX10_opens 15 = .ok (.aload_n 0, 1) := dq_of dqX10_opens_0 9 rfl
theorem dX10_opens_16 : decode cX10_opens 16 = .ok (.iconst 0, 1) := dq_of dqX10_opens_0 10 rfl
theorem dX10_opens_17 : decode cX10_opens 17 = .ok (.putfield 197, 3) := dq_of dqX10_opens_0 11 rfl
theorem dX10_opens_20 : decode cX10_opens 20 = .ok (.aload_n 0, 1) := dq_of dqX10_opens_0 12 rfl
theorem dX10_opens_21 : decode cX10_opens 21 = .ok (.iconst 0, 1) := dq_of dqX10_opens_0 13 rfl
theorem dX10_opens_22 : decode cX10_opens 22 = .ok (.putfield 203, 3) := dq_of dqX10_opens_0 14 rfl
theorem dX10_opens_25 : decode cX10_opens 25 = .ok (.aload_n 0, 1) := dq_of dqX10_opens_0 15 rfl
theorem dX10_opens_26 : decode cX10_opens 26 = .ok (.iconst 0, 1) := dq_of dqX10_opens_0 16 rfl
theorem dX10_opens_27 : decode cX10_opens 27 = .ok (.putfield 194, 3) := dq_of dqX10_opens_0 17 rfl
theorem dX10_opens_30 : decode cX10_opens 30 = .ok (.aload_n 0, 1) := dq_of dqX10_opens_0 18 rfl
theorem dX10_opens_31 : decode cX10_opens 31 = .ok (.iconst 0, 1) := dq_of dqX10_opens_0 19 rfl
theorem dX10_opens_32 : decode cX10_opens 32 = .ok (.putfield 188, 3) := dq_of dqX10_opens_0 20 rfl
theorem dX10_opens_35 : decode cX10_opens 35 = .ok (.aload_n 0, 1) := dq_of dqX10_opens_0 21 rfl
theorem dX10_opens_36 : decode cX10_opens 36 = .ok (.aload_n 0, 1) := dq_of dqX10_opens_0 22 rfl
theorem dX10_opens_37 : decode cX10_opens 37 = .ok (.getfield 106, 3) := dq_of dqX10_opens_0 23 rfl
theorem dX10_opens_40 : decode cX10_opens 40 = .ok (.putfield 236, 3) := dq_of dqX10_opens_0 24 rfl
theorem dX10_opens_43 : decode cX10_opens 43 = .ok (.return_, 1) := dq_of dqX10_opens_0 25 rfl
theorem dqX10_gap_0 : ([(0, .aload_n 0, 1), (1, .getfield 76, 3), (4, .ifCond .lt 4, 3), (7, .return_, 1), (8, .iload_n 1, 1), (9, .bipush 32, 2), (11, .if_icmp .eq 15, 3), (14, .iload_n 1, 1), (15, .bipush 9, 2), (17, .if_icmp .eq 9, 3), (20, .iload_n 1, 1), (21, .bipush 13, 2), (23, .if_icmp .ne 7, 3), (26, .iconst 1, 1), (27, .goto 4, 3), (30, .iconst 0, 1), (31, .istore_n 2, 1), (32, .iload_n 2, 1), (33, .ifCond .eq 4, 3), (36, .return_, 1), (37, .aload_n 0, 1), (38, .iconst 0, 1), (39, .invokevirtual 239, 3), (42, .iload_n 1, 1), (43, .bipush 10, 2), (45, .if_icmp .eq 8, 3), (48, .iload_n 1, 1), (49, .iconst (-1), 1), (50, .if_icmp .ne 8, 3), (53, .aload_n 0, 1), (54, .invokevirtual 242, 3), (57, .return_, 1), (58, .aload_n 0, 1), (59, .iconst 0, 1), (60, .putfield 150, 3), (63, .iload_n 1, 1), (64, .bipush 47, 2), (66, .if_icmp .ne 10, 3), (69, .aload_n 0, 1), (70, .bipush 17, 2)] : List (Nat × Instr × Nat)).all (fun q => decide (decode cX10_gap q.1 = .ok (q.2.1, q.2.2))) = true := by decide +kernel
theorem dX10_gap_0 : decode cX10_gap 0 = .ok (.aload_n 0, 1) := dq_of dqX10_gap_0 0 rfl
theorem dX10_gap_1 : decode cX10_gap 1 = .ok (.getfield 76, 3) := dq_of dqX10_gap_0 1 rfl
theorem dX10_gap_4 : decode cX10_gap 4 = .ok (.ifCond .lt 4, 3) := dq_of dqX10_gap_0 2 rfl
theorem dX10_gap_7 : decode cX10_gap 7 = .ok (.return_, 1) := dq_of dqX10_gap_0 3 rfl
theorem dX10_gap_8 : decode cX10_gap 8 = .ok (.iload_n 1, 1) := dq_of dqX10_gap_0 4 rfl
theorem dX10_gap_9 : decode cX10_gap 9 = .ok (.bipush 32, 2) := dq_of dqX10_gap_0 5 rfl
theorem dX10_gap_11 : decode cX10_gap 11 = .ok (.if_icmp .eq 15, 3) := dq_of dqX10_gap_0 6 rfl
theorem dX10_gap_14 : decode cX10_gap 14 = .ok (.iload_n 1, 1) := dq_of dqX10_gap_0 7 rfl
theorem dX10_gap_15 : decode cX10_gap 15 = .ok (.bipush 9, 2) := dq_of dqX10_gap_0 8 rfl
theorem dX10_gap_17 : decode cX10_gap 17 = .ok (.if_icmp .eq 9, 3) := dq_of dqX10_gap_0 9 rfl
theorem dX10_gap_20 : decode cX10_gap 20 = .ok (.iload_n 1, 1) := dq_of dqX10_gap_0 10 rfl
theorem dX10_gap_21 : decode cX10_gap 21 = .ok (.bipush 13, 2) := dq_of dqX10_gap_0 11 rfl
theorem dX10_gap_23 : decode cX10_gap 23 = .ok (.if_icmp .ne 7, 3) := dq_of dqX10_gap_0 12 rfl
theorem dX10_gap_26 : decode cX10_gap 26 = .ok (.iconst 1, 1) := dq_of dqX10_gap_0 13 rfl
theorem dX10_gap_27 : decode cX10_gap 27 = .ok (.goto 4, 3) := dq_of dqX10_gap_0 14 rfl
theorem dX10_gap_30 : decode cX10_gap 30 = .ok (.iconst 0, 1) := dq_of dqX10_gap_0 15 rfl
theorem dX10_gap_31 : decode cX10_gap 31 = .ok (.istore_n 2, 1) := dq_of dqX10_gap_0 16 rfl
theorem dX10_gap_32 : decode cX10_gap 32 = .ok (.iload_n 2, 1) := dq_of dqX10_gap_0 17 rfl
theorem dX10_gap_33 : decode cX10_gap 33 = .ok (.ifCond .eq 4, 3) := dq_of dqX10_gap_0 18 rfl
theorem dX10_gap_36 : decode cX10_gap 36 = .ok (.return_, 1) := dq_of dqX10_gap_0 19 rfl
theorem dX10_gap_37 : decode cX10_gap 37 = .ok (.aload_n 0, 1) := dq_of dqX10_gap_0 20 rfl
theorem dX10_gap_38 : decode cX10_gap 38 = .ok (.iconst 0, 1) := dq_of dqX10_gap_0 21 rfl
theorem dX10_gap_39 : decode cX10_gap 39 = .ok (.invokevirtual 239, 3) := dq_of dqX10_gap_0 22 rfl
theorem dX10_gap_42 : decode cX10_gap 42 = .ok (.iload_n 1, 1) := dq_of dqX10_gap_0 23 rfl
theorem dX10_gap_43 : decode cX10_gap 43 = .ok (.bipush 10, 2) := dq_of dqX10_gap_0 24 rfl
theorem dX10_gap_45 : decode cX10_gap 45 = .ok (.if_icmp .eq 8, 3) := dq_of dqX10_gap_0 25 rfl
theorem dX10_gap_48 : decode cX10_gap 48 = .ok (.iload_n 1, 1) := dq_of dqX10_gap_0 26 rfl
theorem dX10_gap_49 : decode cX10_gap 49 = .ok (.iconst (-1), 1) := dq_of dqX10_gap_0 27 rfl
theorem dX10_gap_50 : decode cX10_gap 50 = .ok (.if_icmp .ne 8, 3) := dq_of dqX10_gap_0 28 rfl
theorem dX10_gap_53 : decode cX10_gap 53 = .ok (.aload_n 0, 1) := dq_of dqX10_gap_0 29 rfl
theorem dX10_gap_54 : decode cX10_gap 54 = .ok (.invokevirtual 242, 3) := dq_of dqX10_gap_0 30 rfl
theorem dX10_gap_57 : decode cX10_gap 57 = .ok (.return_, 1) := dq_of dqX10_gap_0 31 rfl
theorem dX10_gap_58 : decode cX10_gap 58 = .ok (.aload_n 0, 1) := dq_of dqX10_gap_0 32 rfl
theorem dX10_gap_59 : decode cX10_gap 59 = .ok (.iconst 0, 1) := dq_of dqX10_gap_0 33 rfl
theorem dX10_gap_60 : decode cX10_gap 60 = .ok (.putfield 150, 3) := dq_of dqX10_gap_0 34 rfl
theorem dX10_gap_63 : decode cX10_gap 63 = .ok (.iload_n 1, 1) := dq_of dqX10_gap_0 35 rfl
theorem dX10_gap_64 : decode cX10_gap 64 = .ok (.bipush 47, 2) := dq_of dqX10_gap_0 36 rfl
theorem dX10_gap_66 : decode cX10_gap 66 = .ok (.if_icmp .ne 10, 3) := dq_of dqX10_gap_0 37 rfl
theorem dX10_gap_69 : decode cX10_gap 69 = .ok (.aload_n 0, 1) := dq_of dqX10_gap_0 38 rfl
theorem dX10_gap_70 : decode cX10_gap 70 = .ok (.bipush 17, 2) := dq_of dqX10_gap_0 39 rfl
theorem dqX10_gap_72 : ([(72, .putfield 82, 3), (75, .return_, 1), (76, .aload_n 0, 1), (77, .aload_n 0, 1), (78, .getfield 79, 3), (81, .invokevirtual 103, 3), (84, .ifCond .ne 4, 3), (87, .return_, 1), (88, .iload_n 1, 1), (89, .invokestatic 154, 3), (92, .ifCond .eq 11, 3), (95, .aload_n 0, 1), (96, .iconst 1, 1), (97, .putfield 82, 3), (100, .goto 122, 3), (103, .iload_n 1, 1), (104, .bipush 48, 2), (106, .if_icmp .ne 11, 3), (109, .aload_n 0, 1), (110, .iconst 2, 1), (111, .putfield 82, 3), (114, .goto 108, 3), (117, .iload_n 1, 1), (118, .invokestatic 72, 3), (121, .ifCond .eq 11, 3), (124, .aload_n 0, 1), (125, .iconst 5, 1), (126, .putfield 82, 3), (129, .goto 93, 3), (132, .iload_n 1, 1), (133, .bipush 46, 2), (135, .if_icmp .ne 12, 3), (138, .aload_n 0, 1), (139, .bipush 12, 2), (141, .putfield 82, 3), (144, .goto 78, 3), (147, .iload_n 1, 1), (148, .bipush 34, 2), (150, .if_icmp .eq 9, 3), (153, .iload_n 1, 1)] : List (Nat × Instr × Nat)).all (fun q => decide (decode cX10_gap q.1 = .ok (q.2.1, q.2.2))) = true := by decide +kernel
theorem dX10_gap_72 : decode cX10_gap 72 = .ok (.putfield 82, 3) := dq_of dqX10_gap_72 0 rfl
theorem dX10_gap_75 : decode cX10_gap 75 = .ok (.return_, 1) := dq_of dqX10_gap_72 1 rfl
theorem dX10_gap_76 : decode cX10_gap 76 = .ok (.aload_n 0, 1) := dq_of dqX10_gap_72 2 rfl
theorem dX10_gap_77 : decode cX10_gap 77 = .ok (.aload_n 0, 1) := dq_of dqX10_gap_72 3 rfl
theorem dX10_gap_78 : decode cX10_gap 78 = .ok (.getfield 79, 3) := dq_of dqX10_gap_72 4 rfl
theorem dX10_gap_81 : decode cX10_gap 81 = .ok (.invokevirtual 103, 3) := dq_of dqX10_gap_72 5 rfl
theorem dX10_gap_84 : decode cX10_gap 84 = .ok (.ifCond .ne 4, 3) := dq_of dqX10_gap_72 6 rfl
theorem dX10_gap_87 : decode cX10_gap 87 = .ok (.return_, 1) := dq_of dqX10_gap_72 7 rfl
theorem dX10_gap_88 : decode cX10_gap 88 = .ok (.iload_n 1, 1) := dq_of dqX10_gap_72 8 rfl
theorem dX10_gap_89 : decode cX10_gap 89 = .ok (.invokestatic 154, 3) := dq_of dqX10_gap_72 9 rfl
theorem dX10_gap_92 : decode cX10_gap 92 = .ok (.ifCond .eq 11, 3) := dq_of dqX10_gap_72 10 rfl
theorem dX10_gap_95 : decode cX10_gap 95 = .ok (.aload_n 0, 1) := dq_of dqX10_gap_72 11 rfl
theorem dX10_gap_96 : decode cX10_gap 96 = .ok (.iconst 1, 1) := dq_of dqX10_gap_72 12 rfl
theorem dX10_gap_97 : decode cX10_gap 97 = .ok (.putfield 82, 3) := dq_of dqX10_gap_72 13 rfl
theorem dX10_gap_100 : decode cX10_gap 100 = .ok (.goto 122, 3) := dq_of dqX10_gap_72 14 rfl
theorem dX10_gap_103 : decode cX10_gap 103 = .ok (.iload_n 1, 1) := dq_of dqX10_gap_72 15 rfl
theorem dX10_gap_104 : decode cX10_gap 104 = .ok (.bipush 48, 2) := dq_of dqX10_gap_72 16 rfl
theorem dX10_gap_106 : decode cX10_gap 106 = .ok (.if_icmp .ne 11, 3) := dq_of dqX10_gap_72 17 rfl
theorem dX10_gap_109 : decode cX10_gap 109 = .ok (.aload_n 0, 1) := dq_of dqX10_gap_72 18 rfl
theorem dX10_gap_110 : decode cX10_gap 110 = .ok (.iconst 2, 1) := dq_of dqX10_gap_72 19 rfl
theorem dX10_gap_111 : decode cX10_gap 111 = .ok (.putfield 82, 3) := dq_of dqX10_gap_72 20 rfl
theorem dX10_gap_114 : decode cX10_gap 114 = .ok (.goto 108, 3) := dq_of dqX10_gap_72 21 rfl
theorem dX10_gap_117 : decode cX10_gap 117 = .ok (.iload_n 1, 1) := dq_of dqX10_gap_72 22 rfl
theorem dX10_gap_118 : decode cX10_gap 118 = .ok (.invokestatic 72, 3) := dq_of dqX10_gap_72 23 rfl
theorem dX10_gap_121 : decode cX10_gap 121 = .ok (.ifCond .eq 11, 3) := dq_of dqX10_gap_72 24 rfl
theorem dX10_gap_124 : decode cX10_gap 124 = .ok (.aload_n 0, 1) := dq_of dqX10_gap_72 25 rfl
theorem dX10_gap_125 : decode cX10_gap 125 = .ok (.iconst 5, 1) := dq_of dqX10_gap_72 26 rfl
theorem dX10_gap_126 : decode cX10_gap 126 = .ok (.putfield 82, 3) := dq_of dqX10_gap_72 27 rfl
theorem dX10_gap_129 : decode cX10_gap 129 = .ok (.goto 93, 3) := dq_of dqX10_gap_72 28 rfl
theorem dX10_gap_132 : decode cX10_gap 132 = .ok (.iload_n 1, 1) := dq_of dqX10_gap_72 29 rfl
theorem dX10_gap_133 : decode cX10_gap 133 = .ok (.bipush 46, 2) := dq_of dqX10_gap_72 30 rfl
theorem dX10_gap_135 : decode cX10_gap 135 = .ok (.if_icmp .ne 12, 3) := dq_of dqX10_gap_72 31 rfl
theorem dX10_gap_138 : decode cX10_gap 138 = .ok (.aload_n 0, 1) := dq_of dqX10_gap_72 32 rfl
theorem dX10_gap_139 : decode cX10_gap 139 = .ok (.bipush 12, 2) := dq_of dqX10_gap_72 33 rfl
theorem dX10_gap_141 : decode cX10_gap 141 = .ok (.putfield 82, 3) := dq_of dqX10_gap_72 34 rfl
theorem dX10_gap_144 : decode cX10_gap 144 = .ok (.goto 78, 3) := dq_of dqX10_gap_72 35 rfl
theorem dX10_gap_147 : decode cX10_gap 147 = .ok (.iload_n 1, 1) := dq_of dqX10_gap_72 36 rfl
theorem dX10_gap_148 : decode cX10_gap 148 = .ok (.bipush 34, 2) := dq_of dqX10_gap_72 37 rfl
theorem dX10_gap_150 : decode cX10_gap 150 = .ok (.if_icmp .eq 9, 3) := dq_of dqX10_gap_72 38 rfl
theorem dX10_gap_153 : decode cX10_gap 153 = .ok (.iload_n 1, 1) := dq_of dqX10_gap_72 39 rfl
theorem dqX10_gap_154 : ([(154, .bipush 39, 2), (156, .if_icmp .ne 13, 3), (159, .aload_n 0, 1), (160, .iload_n 1, 1), (161, .bipush 15, 2), (163, .invokevirtual 245, 3), (166, .goto 56, 3), (169, .iload_n 1, 1), (170, .bipush 96, 2), (172, .if_icmp .ne 13, 3), (175, .aload_n 0, 1), (176, .iload_n 1, 1), (177, .bipush 16, 2), (179, .invokevirtual 245, 3), (182, .goto 40, 3), (185, .iload_n 1, 1), (186, .ifCond .le 32, 3), (189, .iload_n 1, 1), (190, .sipush 128, 3), (193, .if_icmp .ge 25, 3), (196, .aload_n 0, 1), (197, .aload_n 0, 1), (198, .getfield 79, 3), (201, .iconst 0, 1), (202, .iload_n 1, 1), (203, .invokevirtual 172, 3), (206, .ifCond .lt 12, 3), (209, .aload_n 0, 1), (210, .bipush 14, 2), (212, .putfield 82, 3), (215, .goto 7, 3), (218, .aload_n 0, 1), (219, .invokevirtual 157, 3), (222, .return_, 1)] : List (Nat × Instr × Nat)).all (fun q => decide (decode cX10_gap q.1 = .ok (q.2.1, q.2.2))) = true := by decide +kernel
theorem dX10_gap_154 : decode cX10_gap 154 = .ok (.bipush 39, 2) := dq_of dqX10_gap_154 0 rfl
theorem dX10_gap_156 : decode cX10_gap 156 = .ok (.if_icmp .ne 13, 3) := dq_of dqX10_gap_154 1 rfl
theorem dX10_gap_159 : decode cX10_gap 159 = .ok (.aload_n 0, 1) := dq_of dqX10_gap_154 2 rfl
theorem dX10_gap_160 : decode cX10_gap 160 = .ok (.iload_n 1, 1) := dq_of dqX10_gap_154 3 rfl
theorem dX10_gap_161 : decode cX10_gap 161 = .ok (.bipush 15, 2) := dq_of dqX10_gap_154 4 rfl
theorem dX10_gap_163 : decode cX10_gap 163 = .ok (.invokevirtual 245, 3) := dq_of dqX10_gap_154 5 rfl
theorem dX10_gap_166 : decode cX10_gap 166 = .ok (.goto 56, 3) := dq_of dqX10_gap_154 6 rfl
theorem dX10_gap_169 : decode cX10_gap 169 = .ok (.iload_n 1, 1) := dq_of dqX10_gap_154 7 rfl
theorem dX10_gap_170 : decode cX10_gap 170 = .ok (.bipush 96, 2) := dq_of dqX10_gap_154 8 rfl
theorem dX10_gap_172 : decode cX10_gap 172 = .ok (.if_icmp .ne 13, 3) := dq_of dqX10_gap_154 9 rfl
theorem dX10_gap_175 : decode cX10_gap 175 = .ok (.aload_n 0, 1) := dq_of dqX10_gap_154 10 rfl
theorem dX10_gap_176 : decode cX10_gap 176 = .ok (.iload_n 1, 1) := dq_of dqX10_gap_154 11 rfl
theorem dX10_gap_177 : decode cX10_gap 177 = .ok (.bipush 16, 2) := dq_of dqX10_gap_154 12 rfl
theorem dX10_gap_179 : decode cX10_gap 179 = .ok (.invokevirtual 245, 3) := dq_of dqX10_gap_154 13 rfl
theorem dX10_gap_182 : decode cX10_gap 182 = .ok (.goto 40, 3) := dq_of dqX10_gap_154 14 rfl
theorem dX10_gap_185 : decode cX10_gap 185 = .ok (.iload_n 1, 1) := dq_of dqX10_gap_154 15 rfl
theorem dX10_gap_186 : decode cX10_gap 186 = .ok (.ifCond .le 32, 3) := dq_of dqX10_gap_154 16 rfl
theorem dX10_gap_189 : decode cX10_gap 189 = .ok (.iload_n 1, 1) := dq_of dqX10_gap_154 17 rfl
theorem dX10_gap_190 : decode cX10_gap 190 = .ok (.sipush 128, 3) := dq_of dqX10_gap_154 18 rfl
theorem dX10_gap_193 : decode cX10_gap 193 = .ok (.if_icmp .ge 25, 3) := dq_of dqX10_gap_154 19 rfl
theorem dX10_gap_196 : decode cX10_gap 196 = .ok (.aload_n 0, 1) := dq_of dqX10_gap_154 20 rfl
theorem dX10_gap_197 : decode cX10_gap 197 = .ok (.aload_n 0, 1) := dq_of dqX10_gap_154 21 rfl
theorem dX10_gap_198 : decode cX10_gap 198 = .ok (.getfield 79, 3) := dq_of dqX10_gap_154 22 rfl
theorem dX10_gap_201 : decode cX10_gap 201 = .ok (.iconst 0, 1) := dq_of dqX10_gap_154 23 rfl
theorem dX10_gap_202 : decode cX10_gap 202 = .ok (.iload_n 1, 1) := dq_of dqX10_gap_154 24 rfl
theorem dX10_gap_203 : decode cX10_gap 203 = .ok (.invokevirtual 172, 3) := dq_of dqX10_gap_154 25 rfl
theorem dX10_gap_206 : decode cX10_gap 206 = .ok (.ifCond .lt 12, 3) := dq_of dqX10_gap_154 26 rfl
theorem dX10_gap_209 : decode cX10_gap 209 = .ok (.aload_n 0, 1) := dq_of dqX10_gap_154 27 rfl
theorem dX10_gap_210 : decode cX10_gap 210 = .ok (.bipush 14, 2) := dq_of dqX10_gap_154 28 rfl
theorem dX10_gap_212 : decode cX10_gap 212 = .ok (.putfield 82, 3) := dq_of dqX10_gap_154 29 rfl
theorem dX10_gap_215 : decode cX10_gap 215 = .ok (.goto 7, 3) := dq_of dqX10_gap_154 30 rfl
theorem dX10_gap_218 : decode cX10_gap 218 = .ok (.aload_n 0, 1) := dq_of dqX10_gap_154 31 rfl
theorem dX10_gap_219 : decode cX10_gap 219 = .ok (.invokevirtual 157, 3) := dq_of dqX10_gap_154 32 rfl
theorem dX10_gap_222 : decode cX10_gap 222 = .ok (.return_, 1) := dq_of dqX10_gap_154 33 rfl
theorem dqX10_slash_0 : ([(0, .iload_n 1, 1), (1, .bipush 47, 2), (3, .if_icmp .eq 9, 3), (6, .iload_n 1, 1), (7, .bipush 42, 2), (9, .if_icmp .ne 69, 3), (12, .aload_n 0, 1), (13, .getfield 85, 3), (16, .istore_n 2, 1), (17, .aload_n 0, 1), (18, .getfield 91, 3), (21, .istore_n 3, 1), (22, .aload_n 0, 1), (23, .getfield 97, 3), (26, .istore 4, 2), (28, .aload_n 0, 1), (29, .iconst 0, 1), (30, .iload_n 1, 1), (31, .bipush 47, 2), (33, .if_icmp .ne 8, 3), (36, .bipush 18, 2), (38, .goto 5, 3), (41, .bipush 19, 2), (43, .invokevirtual 245, 3), (46, .aload_n 0, 1), (47, .iload_n 2, 1), (48, .putfield 85, 3), (51, .aload_n 0, 1), (52, .iload_n 3, 1), (53, .putfield 91, 3), (56, .aload_n 0, 1), (57, .iload 4, 2), (59, .putfield 97, 3), (62, .aload_n 0, 1), (63, .iconst 0, 1), (64, .putfield 249, 3), (67, .iload_n 1, 1), (68, .bipush 47, 2), (70, .if_icmp .ne 7, 3), (73, .aload_n 0, 1)] : List (Nat × Instr × Nat)).all (fun q => decide (decode cX10_slash q.1 = .ok (q.2.1, q.2.2))) = true := by decide +kernel
theorem dX10_slash_0 : decode cX10_slash 0 = .ok (.iload_n 1, 1) := dq_of dqX10_slash_0 0 rfl
theorem dX10_slash_1 : decode cX10_slash 1 = .ok (.bipush 47, 2) := dq_of dqX10_slash_0 1 rfl
theorem dX10_slash_3 : decode cX10_slash 3 = .ok (.if_icmp .eq 9, 3) := dq_of dqX10_slash_0 2 rfl
theorem dX10_slash_6 : decode cX10_slash 6 = .ok (.iload_n 1, 1) := dq_of dqX10_slash_0 3 rfl
theorem dX10_slash_7 : decode cX10_slash 7 = .ok (.bipush 42, 2) := dq_of dqX10_slash_0 4 rfl
theorem dX10_slash_9 : decode cX10_slash 9 = .ok (.if_icmp .ne 69, 3) := dq_of dqX10_slash_0 5 rfl
theorem dX10_slash_12 : decode cX10_slash 12 = .ok (.aload_n 0, 1) := dq_of dqX10_slash_0 6 rfl
theorem dX10_slash_13 : decode cX10_slash 13 = .ok (.getfield 85, 3) := dq_of dqX10_slash_0 7 rfl
theorem dX10_slash_16 : decode cX10_slash 16 = .ok (.istore_n 2, 1) := dq_of dqX10_slash_0 8 rfl
theorem dX10_slash_17 : decode cX10_slash 17 = .ok (.aload_n 0, 1) := dq_of dqX10_slash_0 9 rfl
theorem dX10_slash_18 : decode cX10_slash 18 = .ok (.getfield 91, 3) := dq_of dqX10_slash_0 10 rfl
theorem dX10_slash_21 : decode cX10_slash 21 = .ok (.istore_n 3, 1) := dq_of dqX10_slash_0 11 rfl
theorem dX10_slash_22 : decode cX10_slash 22 = .ok (.aload_n 0, 1) := dq_of dqX10_slash_0 12 rfl
theorem dX10_slash_23 : decode cX10_slash 23 = .ok (.getfield 97, 3) := dq_of dqX10_slash_0 13 rfl
theorem dX10_slash_26 : decode cX10_slash 26 = .ok (.istore 4, 2) := dq_of dqX10_slash_0 14 rfl
theorem dX10_slash_28 : decode cX10_slash 28 = .ok (.aload_n 0, 1) := dq_of dqX10_slash_0 15 rfl
theorem dX10_slash_29 : decode cX10_slash 29 = .ok (.iconst 0, 1) := dq_of dqX10_slash_0 16 rfl
theorem dX10_slash_30 : decode cX10_slash 30 = .ok (.iload_n 1, 1) := dq_of dqX10_slash_0 17 rfl
theorem dX10_slash_31 : decode cX10_slash 31 = .ok (.bipush 47, 2) := dq_of dqX10_slash_0 18 rfl
theorem dX10_slash_33 : decode cX10_slash 33 = .ok (.if_icmp .ne 8, 3) := dq_of dqX10_slash_0 19 rfl
theorem dX10_slash_36 : decode cX10_slash 36 = .ok (.bipush 18, 2) := dq_of dqX10_slash_0 20 rfl
theorem dX10_slash_38 : decode cX10_slash 38 = .ok (.goto 5, 3) := dq_of dqX10_slash_0 21 rfl
theorem dX10_slash_41 : decode cX10_slash 41 = .ok (.bipush 19, 2) := dq_of dqX10_slash_0 22 rfl
theorem dX10_slash_43 : decode cX10_slash 43 = .ok (.invokevirtual 245, 3) := dq_of dqX10_slash_0 23 rfl
theorem dX10_slash_46 : decode cX10_slash 46 = .ok (.aload_n 0, 1) := dq_of dqX10_slash_0 24 rfl
theorem dX10_slash_47 : decode cX10_slash 47 = .ok (.iload_n 2, 1) := dq_of dqX10_slash_0 25 rfl
theorem dX10_slash_48 : decode cX10_slash 48 = .ok (.putfield 85, 3) := dq_of dqX10_slash_0 26 rfl
theorem dX10_slash_51 : decode cX10_slash 51 = .ok (.aload_n 0, 1) := dq_of dqX10_slash_0 27 rfl
theorem dX10_slash_52 : decode cX10_slash 52 = .ok (.iload_n 3, 1) := dq_of dqX10_slash_0 28 rfl
theorem dX10_slash_53 : decode cX10_slash 53 = .ok (.putfield 91, 3) := dq_of dqX10_slash_0 29 rfl
theorem dX10_slash_56 : decode cX10_slash 56 = .ok (.aload_n 0, 1) := dq_of dqX10_slash_0 30 rfl
theorem dX10_slash_57 : decode cX10_slash 57 = .ok (.iload 4, 2) := dq_of dqX10_slash_0 31 rfl
theorem dX10_slash_59 : decode cX10_slash 59 = .ok (.putfield 97, 3) := dq_of dqX10_slash_0 32 rfl
theorem dX10_slash_62 : decode cX10_slash 62 = .ok (.aload_n 0, 1) := dq_of dqX10_slash_0 33 rfl
theorem dX10_slash_63 : decode cX10_slash 63 = .ok (.iconst 0, 1) := dq_of dqX10_slash_0 34 rfl
theorem dX10_slash_64 : decode cX10_slash 64 = .ok (.putfield 249, 3) := dq_of dqX10_slash_0 35 rfl
theorem dX10_slash_67 : decode cX10_slash 67 = .ok (.iload_n 1, 1) := dq_of dqX10_slash_0 36 rfl
theorem dX10_slash_68 : decode cX10_slash 68 = .ok (.bipush 47, 2) := dq_of dqX10_slash_0 37 rfl
theorem dX10_slash_70 : decode cX10_slash 70 = .ok (.if_icmp .ne 7, 3) := dq_of dqX10_slash_0 38 rfl
theorem dX10_slash_73 : decode cX10_slash 73 = .ok (.aload_n 0, 1) := dq_of dqX10_slash_0 39 rfl
theorem dqX10_slash_74 : ([(74, .invokevirtual 242, 3), (77, .return_, 1), (78, .aload_n 0, 1), (79, .aload_n 0, 1), (80, .getfield 85, 3), (83, .invokevirtual 103, 3), (86, .ifCond .ne 4, 3), (89, .return_, 1), (90, .aload_n 0, 1), (91, .bipush 14, 2), (93, .putfield 82, 3), (96, .aload_n 0, 1), (97, .iload_n 1, 1), (98, .invokevirtual 252, 3), (101, .return_, 1)] : List (Nat × Instr × Nat)).all (fun q => decide (decode cX10_slash q.1 = .ok (q.2.1, q.2.2))) = true := by decide +kernel
theorem dX10_slash_74 : decode cX10_slash 74 = .ok (.invokevirtual 242, 3) := dq_of dqX10_slash_74 0 rfl
theorem dX10_slash_77 : decode cX10_slash 77 = .ok (.return_, 1) := dq_of dqX10_slash_74 1 rfl
theorem dX10_slash_78 : decode cX10_slash 78 = .ok (.aload_n 0, 1) := dq_of dqX10_slash_74 2 rfl
theorem dX10_slash_79 : decode cX10_slash 79 = .ok (.aload_n 0, 1) := dq_of dqX10_slash_74 3 rfl
theorem dX10_slash_80 : decode cX10_slash 80 = .ok (.getfield 85, 3) := dq_of dqX10_slash_74 4 rfl
theorem dX10_slash_83 : decode cX10_slash 83 = .ok (.invokevirtual 103, 3) := dq_of dqX10_slash_74 5 rfl
theorem dX10_slash_86 : decode cX10_slash 86 = .ok (.ifCond .ne 4, 3) := dq_of dqX10_slash_74 6 rfl
theorem dX10_slash_89 : decode cX10_slash 89 = .ok (.return_, 1) := dq_of dqX10_slash_74 7 rfl
theorem dX10_slash_90 : decode cX10_slash 90 = .ok (.aload_n 0, 1) := dq_of dqX10_slash_74 8 rfl
theorem dX10_slash_91 : decode cX10_slash 91 = .ok (.bipush 14, 2) := dq_of dqX10_slash_74 9 rfl
theorem dX10_slash_93 : decode cX10_slash 93 = .ok (.putfield 82, 3) := dq_of dqX10_slash_74 10 rfl
theorem dX10_slash_96 : decode cX10_slash 96 = .ok (.aload_n 0, 1) := dq_of dqX10_slash_74 11 rfl
theorem dX10_slash_97 : decode cX10_slash 97 = .ok (.iload_n 1, 1) := dq_of dqX10_slash_74 12 rfl
theorem dX10_slash_98 : decode cX10_slash 98 = .ok (.invokevirtual 252, 3) := dq_of dqX10_slash_74 13 rfl
theorem dX10_slash_101 : decode cX10_slash 101 = .ok (.return_, 1) := dq_of dqX10_slash_74 14 rfl
theorem dqX10_comment_0 : ([(0, .aload_n 0, 1), (1, .getfield 82, 3), (4, .bipush 18, 2), (6, .if_icmp .ne 32, 3), (9, .iload_n 1, 1), (10, .bipush 10, 2), (12, .if_icmp .eq 8, 3), (15, .iload_n 1, 1), (16, .iconst (-1), 1), (17, .if_icmp .ne 21, 3), (20, .aload_n 0, 1), (21, .getfield 179, 3), (24, .ifCond .ne 14, 3), (27, .aload_n 0, 1), (28, .iconst 0, 1), (29, .putfield 82, 3), (32, .aload_n 0, 1), (33, .iload_n 1, 1), (34, .invokevirtual 167, 3), (37, .return_, 1), (38, .aload_n 0, 1), (39, .getfield 82, 3), (42, .bipush 20, 2), (44, .if_icmp .ne 15, 3), (47, .iload_n 1, 1), (48, .bipush 47, 2), (50, .if_icmp .ne 9, 3), (53, .aload_n 0, 1), (54, .iconst 0, 1), (55, .putfield 82, 3), (58, .return_, 1), (59, .iload_n 1, 1), (60, .bipush 10, 2), (62, .if_icmp .ne 26, 3), (65, .aload_n 0, 1), (66, .getfield 179, 3), (69, .ifCond .ne 19, 3), (72, .aload_n 0, 1), (73, .getfield 249, 3), (76, .ifCond .ne 12, 3)] : List (Nat × Instr × Nat)).all (fun q => decide (decode cX10_comment q.1 = .ok (q.2.1, q.2.2))) = true := by decide +kernel
theorem dX10_comment_0 : decode cX10_comment 0 = .ok (.aload_n 0, 1) := dq_of dqX10_comment_0 0 rfl
theorem dX10_comment_1 : decode cX10_comment 1 = .ok (.getfield 82, 3) := dq_of dqX10_comment_0 1 rfl
theorem dX10_comment_4 : decode cX10_comment 4 = .ok (.bipush 18, 2) := dq_of dqX10_comment_0 2 rfl
theorem dX10_comment_6 : decode cX10_comment 6 = .ok (.if_icmp .ne 32, 3) := dq_of dqX10_comment_0 3 rfl
theorem dX10_comment_9 : decode cX10_comment 9 = .ok (.iload_n 1, 1) := dq_of dqX10_comment_0 4 rfl
theorem dX10_comment_10 : decode cX10_comment 10 = .ok (.bipush 10, 2) := dq_of dqX10_comment_0 5 rfl
theorem dX10_comment_12 : decode cX10_comment 12 = .ok (.if_icmp .eq 8, 3) := dq_of dqX10_comment_0 6 rfl
theorem dX10_comment_15 : decode cX10_comment 15 = .ok (.iload_n 1, 1) := dq_of dqX10_comment_0 7 rfl
theorem dX10_comment_16 : decode cX10_comment 16 = .ok (.iconst (-1), 1) := dq_of dqX10_comment_0 8 rfl
theorem dX10_comment_17 : decode cX10_comment 17 = .ok (.if_icmp .ne 21, 3) := dq_of dqX10_comment_0 9 rfl
theorem dX10_comment_20 : decode cX10_comment 20 = .ok (.aload_n 0, 1) := dq_of dqX10_comment_0 10 rfl
theorem dX10_comment_21 : decode cX10_comment 21 = .ok (.getfield 179, 3) := dq_of dqX10_comment_0 11 rfl
theorem dX10_comment_24 : decode cX10_comment 24 = .ok (.ifCond .ne 14, 3) := dq_of dqX10_comment_0 12 rfl
theorem dX10_comment_27 : decode cX10_comment 27 = .ok (.aload_n 0, 1) := dq_of dqX10_comment_0 13 rfl
theorem dX10_comment_28 : decode cX10_comment 28 = .ok (.iconst 0, 1) := dq_of dqX10_comment_0 14 rfl
theorem dX10_comment_29 : decode cX10_comment 29 = .ok (.putfield 82, 3) := dq_of dqX10_comment_0 15 rfl
theorem dX10_comment_32 : decode cX10_comment 32 = .ok (.aload_n 0, 1) := dq_of dqX10_comment_0 16 rfl
theorem dX10_comment_33 : decode cX10_comment 33 = .ok (.iload_n 1, 1) := dq_of dqX10_comment_0 17 rfl
theorem dX10_comment_34 : decode cX10_comment 34 = .ok (.invokevirtual 167, 3) := dq_of dqX10_comment_0 18 rfl
theorem dX10_comment_37 : decode cX10_comment 37 = .ok (.return_, 1) := dq_of dqX10_comment_0 19 rfl
theorem dX10_comment_38 : decode cX10_comment 38 = .ok (.aload_n 0, 1) := dq_of dqX10_comment_0 20 rfl
theorem dX10_comment_39 : decode cX10_comment 39 = .ok (.getfield 82, 3) := dq_of dqX10_comment_0 21 rfl
theorem dX10_comment_42 : decode cX10_comment 42 = .ok (.bipush 20, 2) := dq_of dqX10_comment_0 22 rfl
theorem dX10_comment_44 : decode cX10_comment 44 = .ok (.if_icmp .ne 15, 3) := dq_of dqX10_comment_0 23 rfl
theorem dX10_comment_47 : decode cX10_comment 47 = .ok (.iload_n 1, 1) := dq_of dqX10_comment_0 24 rfl
theorem dX10_comment_48 : decode cX10_comment 48 = .ok (.bipush 47, 2) := dq_of dqX10_comment_0 25 rfl
theorem dX10_comment_50 : decode cX10_comment 50 = .ok (.if_icmp .ne 9, 3) := dq_of dqX10_comment_0 26 rfl
theorem dX10_comment_53 : decode cX10_comment 53 = .ok (.aload_n 0, 1) := dq_of dqX10_comment_0 27 rfl
theorem dX10_comment_54 : decode cX10_comment 54 = .ok (.iconst 0, 1) := dq_of dqX10_comment_0 28 rfl
theorem dX10_comment_55 : decode cX10_comment 55 = .ok (.putfield 82, 3) := dq_of dqX10_comment_0 29 rfl
theorem dX10_comment_58 : decode cX10_comment 58 = .ok (.return_, 1) := dq_of dqX10_comment_0 30 rfl
theorem dX10_comment_59 : decode cX10_comment 59 = .ok (.iload_n 1, 1) := dq_of dqX10_comment_0 31 rfl
theorem dX10_comment_60 : decode cX10_comment 60 = .ok (.bipush 10, 2) := dq_of dqX10_comment_0 32 rfl
theorem dX10_comment_62 : decode cX10_comment 62 = .ok (.if_icmp .ne 26, 3) := dq_of dqX10_comment_0 33 rfl
theorem dX10_comment_65 : decode cX10_comment 65 = .ok (.aload_n 0, 1) := dq_of dqX10_comment_0 34 rfl
theorem dX10_comment_66 : decode cX10_comment 66 = .ok (.getfield 179, 3) := dq_of dqX10_comment_0 35 rfl
theorem dX10_comment_69 : decode cX10_comment 69 = .ok (.ifCond .ne 19, 3) := dq_of dqX10_comment_0 36 rfl
theorem dX10_comment_72 : decode cX10_comment 72 = .ok (.aload_n 0, 1) := dq_of dqX10_comment_0 37 rfl
theorem dX10_comment_73 : decode cX10_comment 73 = .ok (.getfield 249, 3) := dq_of dqX10_comment_0 38 rfl
theorem dX10_comment_76 : decode cX10_comment 76 = .ok (.ifCond .ne 12, 3) := dq_of dqX10_comment_0 39 rfl
theorem dqX10_comment_79 : ([(79, .aload_n 0, 1), (80, .iconst 1, 1), (81, .putfield 249, 3), (84, .aload_n 0, 1), (85, .invokevirtual 242, 3), (88, .aload_n 0, 1), (89, .iconst 0, 1), (90, .putfield 191, 3), (93, .iload_n 1, 1), (94, .ifCond .ne 8, 3), (97, .aload_n 0, 1), (98, .invokevirtual 157, 3), (101, .return_, 1), (102, .aload_n 0, 1), (103, .iload_n 1, 1), (104, .ifCond .ne 7, 3), (107, .iconst 1, 1), (108, .goto 4, 3), (111, .iload_n 1, 1), (112, .invokevirtual 255, 3), (115, .aload_n 0, 1), (116, .getfield 82, 3), (119, .bipush 18, 2), (121, .if_icmp .eq 20, 3), (124, .aload_n 0, 1), (125, .iload_n 1, 1), (126, .bipush 42, 2), (128, .if_icmp .ne 8, 3), (131, .bipush 20, 2), (133, .goto 5, 3), (136, .bipush 19, 2), (138, .putfield 82, 3), (141, .return_, 1)] : List (Nat × Instr × Nat)).all (fun q => decide (decode cX10_comment q.1 = .ok (q.2.1, q.2.2))) = true := by decide +kernel
theorem dX10_comment_79 : decode cX10_comment 79 = .ok (.aload_n 0, 1) := dq_of dqX10_comment_79 0 rfl
theorem dX10_comment_80 : decode cX10_comment 80 = .ok (.iconst 1, 1) := dq_of dqX10_comment_79 1 rfl
theorem dX10_comment_81 : decode cX10_comment 81 = .ok (.putfield 249, 3) := dq_of dqX10_comment_79 2 rfl
theorem dX10_comment_84 : decode cX10_comment 84 = .ok (.aload_n 0, 1) := dq_of dqX10_comment_79 3 rfl
theorem dX10_comment_85 : decode cX10_comment 85 = .ok (.invokevirtual 242, 3) := dq_of dqX10_comment_79 4 rfl
theorem dX10_comment_88 : decode cX10_comment 88 = .ok (.aload_n 0, 1) := dq_of dqX10_comment_79 5 rfl
theorem dX10_comment_89 : decode cX10_comment 89 = .ok (.iconst 0, 1) := dq_of dqX10_comment_79 6 rfl
theorem dX10_comment_90 : decode cX10_comment 90 = .ok (.putfield 191, 3) := dq_of dqX10_comment_79 7 rfl
theorem dX10_comment_93 : decode cX10_comment 93 = .ok (.iload_n 1, 1) := dq_of dqX10_comment_79 8 rfl
theorem dX10_comment_94 : decode cX10_comment 94 = .ok (.ifCond .ne 8, 3) := dq_of dqX10_comment_79 9 rfl
theorem dX10_comment_97 : decode cX10_comment 97 = .ok (.aload_n 0, 1) := dq_of dqX10_comment_79 10 rfl
theorem dX10_comment_98 : decode cX10_comment 98 = .ok (.invokevirtual 157, 3) := dq_of dqX10_comment_79 11 rfl
theorem dX10_comment_101 : decode cX10_comment 101 = .ok (.return_, 1) := dq_of dqX10_comment_79 12 rfl
theorem dX10_comment_102 : decode cX10_comment 102 = .ok (.aload_n 0, 1) := dq_of dqX10_comment_79 13 rfl
theorem dX10_comment_103 : decode cX10_comment 103 = .ok (.iload_n 1, 1) := dq_of dqX10_comment_79 14 rfl
theorem dX10_comment_104 : decode cX10_comment 104 = .ok (.ifCond .ne 7, 3) := dq_of dqX10_comment_79 15 rfl
theorem dX10_comment_107 : decode cX10_comment 107 = .ok (.iconst 1, 1) := dq_of dqX10_comment_79 16 rfl
theorem dX10_comment_108 : decode cX10_comment 108 = .ok (.goto 4, 3) := dq_of dqX10_comment_79 17 rfl
theorem dX10_comment_111 : decode cX10_comment 111 = .ok (.iload_n 1, 1) := dq_of dqX10_comment_79 18 rfl
theorem dX10_comment_112 : decode cX10_comment 112 = .ok (.invokevirtual 255, 3) := dq_of dqX10_comment_79 19 rfl
theorem dX10_comment_115 : decode cX10_comment 115 = .ok (.aload_n 0, 1) := dq_of dqX10_comment_79 20 rfl
theorem dX10_comment_116 : decode cX10_comment 116 = .ok (.getfield 82, 3) := dq_of dqX10_comment_79 21 rfl
theorem dX10_comment_119 : decode cX10_comment 119 = .ok (.bipush 18, 2) := dq_of dqX10_comment_79 22 rfl
theorem dX10_comment_121 : decode cX10_comment 121 = .ok (.if_icmp .eq 20, 3) := dq_of dqX10_comment_79 23 rfl
theorem dX10_comment_124 : decode cX10_comment 124 = .ok (.aload_n 0, 1) := dq_of dqX10_comment_79 24 rfl
theorem dX10_comment_125 : decode cX10_comment 125 = .ok (.iload_n 1, 1) := dq_of dqX10_comment_79 25 rfl
theorem dX10_comment_126 : decode cX10_comment 126 = .ok (.bipush 42, 2) := dq_of dqX10_comment_79 26 rfl
theorem dX10_comment_128 : decode cX10_comment 128 = .ok (.if_icmp .ne 8, 3) := dq_of dqX10_comment_79 27 rfl
theorem dX10_comment_131 : decode cX10_comment 131 = .ok (.bipush 20, 2) := dq_of dqX10_comment_79 28 rfl
theorem dX10_comment_133 : decode cX10_comment 133 = .ok (.goto 5, 3) := dq_of dqX10_comment_79 29 rfl
theorem dX10_comment_136 : decode cX10_comment 136 = .ok (.bipush 19, 2) := dq_of dqX10_comment_79 30 rfl
theorem dX10_comment_138 : decode cX10_comment 138 = .ok (.putfield 82, 3) := dq_of dqX10_comment_79 31 rfl
theorem dX10_comment_141 : decode cX10_comment 141 = .ok (.return_, 1) := dq_of dqX10_comment_79 32 rfl
theorem dqX10_step_0 : ([(0, .aload_n 0, 1), (1, .getfield 82, 3), (4, .ifCond .ne 11, 3), (7, .aload_n 0, 1), (8, .iload_n 1, 1), (9, .invokevirtual 167, 3), (12, .goto 158, 3), (15, .aload_n 0, 1), (16, .getfield 82, 3), (19, .iconst 1, 1), (20, .if_icmp .ne 18, 3), (23, .iload_n 1, 1), (24, .invokestatic 154, 3), (27, .ifCond .ne 10, 3), (30, .iload_n 1, 1), (31, .invokestatic 72, 3), (34, .ifCond .eq 4, 3), (37, .return_, 1), (38, .aload_n 0, 1), (39, .getfield 82, 3), (42, .iconst 1, 1), (43, .if_icmp .ne 11, 3), (46, .aload_n 0, 1), (47, .iload_n 1, 1), (48, .invokevirtual 258, 3), (51, .goto 119, 3), (54, .aload_n 0, 1), (55, .getfield 82, 3), (58, .iconst 2, 1), (59, .if_icmp .lt 20, 3), (62, .aload_n 0, 1), (63, .getfield 82, 3), (66, .bipush 11, 2), (68, .if_icmp .gt 11, 3), (71, .aload_n 0, 1), (72, .iload_n 1, 1), (73, .invokevirtual 261, 3), (76, .goto 94, 3), (79, .aload_n 0, 1), (80, .getfield 82, 3)] : List (Nat × Instr × Nat)).all (fun q => decide (decode cX10_step q.1 = .ok (q.2.1, q.2.2))) = true := by decide +kernel
theorem dX10_step_0 : decode cX10_step 0 = .ok (.aload_n 0, 1) := dq_of dqX10_step_0 0 rfl
theorem dX10_step_1 : decode cX10_step 1 = .ok (.getfield 82, 3) := dq_of dqX10_step_0 1 rfl
theorem dX10_step_4 : decode cX10_step 4 = .ok (.ifCond .ne 11, 3) := dq_of dqX10_step_0 2 rfl
theorem dX10_step_7 : decode cX10_step 7 = .ok (.aload_n 0, 1) := dq_of dqX10_step_0 3 rfl
theorem dX10_step_8 : decode cX10_step 8 = .ok (.iload_n 1, 1) := dq_of dqX10_step_0 4 rfl
theorem dX10_step_9 : decode cX10_step 9 = .ok (.invokevirtual 167, 3) := dq_of dqX10_step_0 5 rfl
theorem dX10_step_12 : decode cX10_step 12 = .ok (.goto 158, 3) := dq_of dqX10_step_0 6 rfl
theorem dX10_step_15 : decode cX10_step 15 = .ok (.aload_n 0, 1) := dq_of dqX10_step_0 7 rfl
theorem dX10_step_16 : decode cX10_step 16 = .ok (.getfield 82, 3) := dq_of dqX10_step_0 8 rfl
theorem dX10_step_19 : decode cX10_step 19 = .ok (.iconst 1, 1) := dq_of dqX10_step_0 9 rfl
theorem dX10_step_20 : decode cX10_step 20 = .ok (.if_icmp .ne 18, 3) := dq_of dqX10_step_0 10 rfl
theorem dX10_step_23 : decode cX10_step 23 = .ok (.iload_n 1, 1) := dq_of dqX10_step_0 11 rfl
theorem dX10_step_24 : decode cX10_step 24 = .ok (.invokestatic 154, 3) := dq_of dqX10_step_0 12 rfl
theorem dX10_step_27 : decode cX10_step 27 = .ok (.ifCond .ne 10, 3) := dq_of dqX10_step_0 13 rfl
theorem dX10_step_30 : decode cX10_step 30 = .ok (.iload_n 1, 1) := dq_of dqX10_step_0 14 rfl
theorem dX10_step_31 : decode cX10_step 31 = .ok (.invokestatic 72, 3) := dq_of dqX10_step_0 15 rfl
theorem dX10_step_34 : decode cX10_step 34 = .ok (.ifCond .eq 4, 3) := dq_of dqX10_step_0 16 rfl
theorem dX10_step_37 : decode cX10_step 37 = .ok (.return_, 1) := dq_of dqX10_step_0 17 rfl
theorem dX10_step_38 : decode cX10_step 38 = .ok (.aload_n 0, 1) := dq_of dqX10_step_0 18 rfl
theorem dX10_step_39 : decode cX10_step 39 = .ok (.getfield 82, 3) := dq_of dqX10_step_0 19 rfl
theorem dX10_step_42 : decode cX10_step 42 = .ok (.iconst 1, 1) := dq_of dqX10_step_0 20 rfl
theorem dX10_step_43 : decode cX10_step 43 = .ok (.if_icmp .ne 11, 3) := dq_of dqX10_step_0 21 rfl
theorem dX10_step_46 : decode cX10_step 46 = .ok (.aload_n 0, 1) := dq_of dqX10_step_0 22 rfl
theorem dX10_step_47 : decode cX10_step 47 = .ok (.iload_n 1, 1) := dq_of dqX10_step_0 23 rfl
theorem dX10_step_48 : decode cX10_step 48 = .ok (.invokevirtual 258, 3) := dq_of dqX10_step_0 24 rfl
theorem dX10_step_51 : decode cX10_step 51 = .ok (.goto 119, 3) := dq_of dqX10_step_0 25 rfl
theorem dX10_step_54 : decode cX10_step 54 = .ok (.aload_n 0, 1) := dq_of dqX10_step_0 26 rfl
theorem dX10_step_55 : decode cX10_step 55 = .ok (.getfield 82, 3) := dq_of dqX10_step_0 27 rfl
theorem dX10_step_58 : decode cX10_step 58 = .ok (.iconst 2, 1) := dq_of dqX10_step_0 28 rfl
theorem dX10_step_59 : decode cX10_step 59 = .ok (.if_icmp .lt 20, 3) := dq_of dqX10_step_0 29 rfl
theorem dX10_step_62 : decode cX10_step 62 = .ok (.aload_n 0, 1) := dq_of dqX10_step_0 30 rfl
theorem dX10_step_63 : decode cX10_step 63 = .ok (.getfield 82, 3) := dq_of dqX10_step_0 31 rfl
theorem dX10_step_66 : decode cX10_step 66 = .ok (.bipush 11, 2) := dq_of dqX10_step_0 32 rfl
theorem dX10_step_68 : decode cX10_step 68 = .ok (.if_icmp .gt 11, 3) := dq_of dqX10_step_0 33 rfl
theorem dX10_step_71 : decode cX10_step 71 = .ok (.aload_n 0, 1) := dq_of dqX10_step_0 34 rfl
theorem dX10_step_72 : decode cX10_step 72 = .ok (.iload_n 1, 1) := dq_of dqX10_step_0 35 rfl
theorem dX10_step_73 : decode cX10_step 73 = .ok (.invokevirtual 261, 3) := dq_of dqX10_step_0 36 rfl
theorem dX10_step_76 : decode cX10_step 76 = .ok (.goto 94, 3) := dq_of dqX10_step_0 37 rfl
theorem dX10_step_79 : decode cX10_step 79 = .ok (.aload_n 0, 1) := dq_of dqX10_step_0 38 rfl
theorem dX10_step_80 : decode cX10_step 80 = .ok (.getfield 82, 3) := dq_of dqX10_step_0 39 rfl
theorem dqX10_step_83 : ([(83, .bipush 12, 2), (85, .if_icmp .eq 12, 3), (88, .aload_n 0, 1), (89, .getfield 82, 3), (92, .bipush 13, 2), (94, .if_icmp .ne 11, 3), (97, .aload_n 0, 1), (98, .iload_n 1, 1), (99, .invokevirtual 176, 3), (102, .goto 68, 3), (105, .aload_n 0, 1), (106, .getfield 82, 3), (109, .bipush 14, 2), (111, .if_icmp .ne 11, 3), (114, .aload_n 0, 1), (115, .iload_n 1, 1), (116, .invokevirtual 252, 3), (119, .goto 51, 3), (122, .aload_n 0, 1), (123, .getfield 82, 3), (126, .bipush 15, 2), (128, .if_icmp .eq 12, 3), (131, .aload_n 0, 1), (132, .getfield 82, 3), (135, .bipush 16, 2), (137, .if_icmp .ne 11, 3), (140, .aload_n 0, 1), (141, .iload_n 1, 1), (142, .invokevirtual 255, 3), (145, .goto 25, 3), (148, .aload_n 0, 1), (149, .getfield 82, 3), (152, .bipush 17, 2), (154, .if_icmp .ne 11, 3), (157, .aload_n 0, 1), (158, .iload_n 1, 1), (159, .invokevirtual 264, 3), (162, .goto 8, 3), (165, .aload_n 0, 1), (166, .iload_n 1, 1)] : List (Nat × Instr × Nat)).all (fun q => decide (decode cX10_step q.1 = .ok (q.2.1, q.2.2))) = true := by decide +kernel
theorem dX10_step_83 : decode cX10_step 83 = .ok (.bipush 12, 2) := dq_of dqX10_step_83 0 rfl
theorem dX10_step_85 : decode cX10_step 85 = .ok (.if_icmp .eq 12, 3) := dq_of dqX10_step_83 1 rfl
theorem dX10_step_88 : decode cX10_step 88 = .ok (.aload_n 0, 1) := dq_of dqX10_step_83 2 rfl
theorem dX10_step_89 : decode cX10_step 89 = .ok (.getfield 82, 3) := dq_of dqX10_step_83 3 rfl
theorem dX10_step_92 : decode cX10_step 92 = .ok (.bipush 13, 2) := dq_of dqX10_step_83 4 rfl
theorem dX10_step_94 : decode cX10_step 94 = .ok (.if_icmp .ne 11, 3) := dq_of dqX10_step_83 5 rfl
theorem dX10_step_97 : decode cX10_step 97 = .ok (.aload_n 0, 1) := dq_of dqX10_step_83 6 rfl
theorem dX10_step_98 : decode cX10_step 98 = .ok (.iload_n 1, 1) := dq_of dqX10_step_83 7 rfl
theorem dX10_step_99 : decode cX10_step 99 = .ok (.invokevirtual 176, 3) := dq_of dqX10_step_83 8 rfl
theorem dX10_step_102 : decode cX10_step 102 = .ok (.goto 68, 3) := dq_of dqX10_step_83 9 rfl
theorem dX10_step_105 : decode cX10_step 105 = .ok (.aload_n 0, 1) := dq_of dqX10_step_83 10 rfl
theorem dX10_step_106 : decode cX10_step 106 = .ok (.getfield 82, 3) := dq_of dqX10_step_83 11 rfl
theorem dX10_step_109 : decode cX10_step 109 = .ok (.bipush 14, 2) := dq_of dqX10_step_83 12 rfl
theorem dX10_step_111 : decode cX10_step 111 = .ok (.if_icmp .ne 11, 3) := dq_of dqX10_step_83 13 rfl
theorem dX10_step_114 : decode cX10_step 114 = .ok (.aload_n 0, 1) := dq_of dqX10_step_83 14 rfl
theorem dX10_step_115 : decode cX10_step 115 = .ok (.iload_n 1, 1) := dq_of dqX10_step_83 15 rfl
theorem dX10_step_116 : decode cX10_step 116 = .ok (.invokevirtual 252, 3) := dq_of dqX10_step_83 16 rfl
theorem dX10_step_119 : decode cX10_step 119 = .ok (.goto 51, 3) := dq_of dqX10_step_83 17 rfl
theorem dX10_step_122 : decode cX10_step 122 = .ok (.aload_n 0, 1) := dq_of dqX10_step_83 18 rfl
theorem dX10_step_123 : decode cX10_step 123 = .ok (.getfield 82, 3) := dq_of dqX10_step_83 19 rfl
theorem dX10_step_126 : decode cX10_step 126 = .ok (.bipush 15, 2) := dq_of dqX10_step_83 20 rfl
theorem dX10_step_128 : decode cX10_step 128 = .ok (.if_icmp .eq 12, 3) := dq_of dqX10_step_83 21 rfl
theorem dX10_step_131 : decode cX10_step 131 = .ok (.aload_n 0, 1) := dq_of dqX10_step_83 22 rfl
theorem dX10_step_132 : decode cX10_step 132 = .ok (.getfield 82, 3) := dq_of dqX10_step_83 23 rfl
theorem dX10_step_135 : decode cX10_step 135 = .ok (.bipush 16, 2) := dq_of dqX10_step_83 24 rfl
theorem dX10_step_137 : decode cX10_step 137 = .ok (.if_icmp .ne 11, 3) := dq_of dqX10_step_83 25 rfl
theorem dX10_step_140 : decode cX10_step 140 = .ok (.aload_n 0, 1) := dq_of dqX10_step_83 26 rfl
theorem dX10_step_141 : decode cX10_step 141 = .ok (.iload_n 1, 1) := dq_of dqX10_step_83 27 rfl
theorem dX10_step_142 : decode cX10_step 142 = .ok (.invokevirtual 255, 3) := dq_of dqX10_step_83 28 rfl
theorem dX10_step_145 : decode cX10_step 145 = .ok (.goto 25, 3) := dq_of dqX10_step_83 29 rfl
theorem dX10_step_148 : decode cX10_step 148 = .ok (.aload_n 0, 1) := dq_of dqX10_step_83 30 rfl
theorem dX10_step_149 : decode cX10_step 149 = .ok (.getfield 82, 3) := dq_of dqX10_step_83 31 rfl
theorem dX10_step_152 : decode cX10_step 152 = .ok (.bipush 17, 2) := dq_of dqX10_step_83 32 rfl
theorem dX10_step_154 : decode cX10_step 154 = .ok (.if_icmp .ne 11, 3) := dq_of dqX10_step_83 33 rfl
theorem dX10_step_157 : decode cX10_step 157 = .ok (.aload_n 0, 1) := dq_of dqX10_step_83 34 rfl
theorem dX10_step_158 : decode cX10_step 158 = .ok (.iload_n 1, 1) := dq_of dqX10_step_83 35 rfl
theorem dX10_step_159 : decode cX10_step 159 = .ok (.invokevirtual 264, 3) := dq_of dqX10_step_83 36 rfl
theorem dX10_step_162 : decode cX10_step 162 = .ok (.goto 8, 3) := dq_of dqX10_step_83 37 rfl
theorem dX10_step_165 : decode cX10_step 165 = .ok (.aload_n 0, 1) := dq_of dqX10_step_83 38 rfl
theorem dX10_step_166 : decode cX10_step 166 = .ok (.iload_n 1, 1) := dq_of dqX10_step_83 39 rfl
theorem dqX10_step_167 : ([(167, .invokevirtual 267, 3), (170, .return_, 1)] : List (Nat × Instr × Nat)).all (fun q => decide (decode cX10_step q.1 = .ok (q.2.1, q.2.2))) = true := by decide +kernel
theorem dX10_step_167 : decode cX10_step 167 = .ok (.invokevirtual 267, 3) := dq_of dqX10_step_167 0 rfl
theorem dX10_step_170 : decode cX10_step 170 = .ok (.return_, 1) := dq_of dqX10_step_167 1 rfl
theorem dqX10_named_0 : ([(0, .aload_n 0, 1), (1, .invokevirtual 270, 3), (4, .aload_n 0, 1), (5, .iconst 0, 1), (6, .putfield 82, 3), (9, .aload_n 0, 1), (10, .iload_n 1, 1), (11, .invokevirtual 167, 3), (14, .return_, 1)] : List (Nat × Instr × Nat)).all (fun q => decide (decode cX10_named q.1 = .ok (q.2.1, q.2.2))) = true := by decide +kernel
theorem dX10_named_0 : decode cX10_named 0 = .ok (.aload_n 0, 1) := dq_of dqX10_named_0 0 rfl
theorem dX10_named_1 : decode cX10_named 1 = .ok (.invokevirtual 270, 3) := dq_of dqX10_named_0 1 rfl
theorem dX10_named_4 : decode cX10_named 4 = .ok (.aload_n 0, 1) := dq_of dqX10_named_0 2 rfl
theorem dX10_named_5 : decode cX10_named 5 = .ok (.iconst 0, 1) := dq_of dqX10_named_0 3 rfl
theorem dX10_named_6 : decode cX10_named 6 = .ok (.putfield 82, 3) := dq_of dqX10_named_0 4 rfl
theorem dX10_named_9 : decode cX10_named 9 = .ok (.aload_n 0, 1) := dq_of dqX10_named_0 5 rfl
theorem dX10_named_10 : decode cX10_named 10 = .ok (.iload_n 1, 1) := dq_of dqX10_named_0 6 rfl
theorem dX10_named_11 : decode cX10_named 11 = .ok (.invokevirtual 167, 3) := dq_of dqX10_named_0 7 rfl
theorem dX10_named_14 : decode cX10_named 14 = .ok (.return_, 1) := dq_of dqX10_named_0 8 rfl
theorem dqX10_scan_0 : ([(0, .aload_n 0, 1), (1, .iconst 0, 1), (2, .putfield 65, 3), (5, .aload_n 0, 1), (6, .iconst 0, 1), (7, .putfield 100, 3), (10, .aload_n 0, 1), (11, .iconst 0, 1), (12, .putfield 138, 3), (15, .aload_n 0, 1), (16, .iconst 0, 1), (17, .putfield 106, 3), (20, .aload_n 0, 1), (21, .iconst (-1), 1), (22, .putfield 76, 3), (25, .aload_n 0, 1), (26, .iconst 1, 1), (27, .putfield 88, 3), (30, .aload_n 0, 1), (31, .iconst 0, 1), (32, .putfield 94, 3), (35, .aload_n 0, 1), (36, .iconst 0, 1), (37, .putfield 82, 3), (40, .iconst 0, 1), (41, .istore_n 1, 1), (42, .iload_n 1, 1), (43, .sipush 4096, 3), (46, .if_icmp .ge 16, 3), (49, .aload_n 0, 1), (50, .getfield 59, 3), (53, .iload_n 1, 1), (54, .iconst (-1), 1), (55, .iastore, 1), (56, .iinc 1 1, 3), (59, .goto (-17), 3), (62, .aload_n 0, 1), (63, .iconst 0, 1), (64, .putfield 79, 3), (67, .aload_n 0, 1)] : List (Nat × Instr × Nat)).all (fun q => decide (decode cX10_scan q.1 = .ok (q.2.1, q.2.2))) = true := by decide +kernel
theorem dX10_scan_0 : decode cX10_scan 0 = .ok (.aload_n 0, 1) := dq_of dqX10_scan_0 0 rfl
theorem dX10_scan_1 : decode cX10_scan 1 = .ok (.iconst 0, 1) := dq_of dqX10_scan_0 1 rfl
theorem dX10_scan_2 : decode cX10_scan 2 = .ok (.putfield 65, 3) := dq_of dqX10_scan_0 2 rfl
theorem dX10_scan_5 : decode cX10_scan 5 = .ok (.aload_n 0, 1) := dq_of dqX10_scan_0 3 rfl
theorem dX10_scan_6 : decode cX10_scan 6 = .ok (.iconst 0, 1) := dq_of dqX10_scan_0 4 rfl
theorem dX10_scan_7 : decode cX10_scan 7 = .ok (.putfield 100, 3) := dq_of dqX10_scan_0 5 rfl
theorem dX10_scan_10 : decode cX10_scan 10 = .ok (.aload_n 0, 1) := dq_of dqX10_scan_0 6 rfl
theorem dX10_scan_11 : decode cX10_scan 11 = .ok (.iconst 0, 1) := dq_of dqX10_scan_0 7 rfl
theorem dX10_scan_12 : decode cX10_scan 12 = .ok (.putfield 138, 3) := dq_of dqX10_scan_0 8 rfl
theorem dX10_scan_15 : decode cX10_scan 15 = .ok (.aload_n 0, 1) := dq_of dqX10_scan_0 9 rfl
theorem dX10_scan_16 : decode cX10_scan 16 = .ok (.iconst 0, 1) := dq_of dqX10_scan_0 10 rfl
theorem dX10_scan_17 : decode cX10_scan 17 = .ok (.putfield 106, 3) := dq_of dqX10_scan_0 11 rfl
theorem dX10_scan_20 : decode cX10_scan 20 = .ok (.aload_n 0, 1) := dq_of dqX10_scan_0 12 rfl
theorem dX10_scan_21 : decode cX10_scan 21 = .ok (.iconst (-1), 1) := dq_of dqX10_scan_0 13 rfl
theorem dX10_scan_22 : decode cX10_scan 22 = .ok (.putfield 76, 3) := dq_of dqX10_scan_0 14 rfl
theorem dX10_scan_25 : decode cX10_scan 25 = .ok (.aload_n 0, 1) := dq_of dqX10_scan_0 15 rfl
theorem dX10_scan_26 : decode cX10_scan 26 = .ok (.iconst 1, 1) := dq_of dqX10_scan_0 16 rfl
theorem dX10_scan_27 : decode cX10_scan 27 = .ok (.putfield 88, 3) := dq_of dqX10_scan_0 17 rfl
theorem dX10_scan_30 : decode cX10_scan 30 = .ok (.aload_n 0, 1) := dq_of dqX10_scan_0 18 rfl
theorem dX10_scan_31 : decode cX10_scan 31 = .ok (.iconst 0, 1) := dq_of dqX10_scan_0 19 rfl
theorem dX10_scan_32 : decode cX10_scan 32 = .ok (.putfield 94, 3) := dq_of dqX10_scan_0 20 rfl
theorem dX10_scan_35 : decode cX10_scan 35 = .ok (.aload_n 0, 1) := dq_of dqX10_scan_0 21 rfl
theorem dX10_scan_36 : decode cX10_scan 36 = .ok (.iconst 0, 1) := dq_of dqX10_scan_0 22 rfl
theorem dX10_scan_37 : decode cX10_scan 37 = .ok (.putfield 82, 3) := dq_of dqX10_scan_0 23 rfl
theorem dX10_scan_40 : decode cX10_scan 40 = .ok (.iconst 0, 1) := dq_of dqX10_scan_0 24 rfl
theorem dX10_scan_41 : decode cX10_scan 41 = .ok (.istore_n 1, 1) := dq_of dqX10_scan_0 25 rfl
theorem dX10_scan_42 : decode cX10_scan 42 = .ok (.iload_n 1, 1) := dq_of dqX10_scan_0 26 rfl
theorem dX10_scan_43 : decode cX10_scan 43 = .ok (.sipush 4096, 3) := dq_of dqX10_scan_0 27 rfl
theorem dX10_scan_46 : decode cX10_scan 46 = .ok (.if_icmp .ge 16, 3) := dq_of dqX10_scan_0 28 rfl
theorem dX10_scan_49 : decode cX10_scan 49 = .ok (.aload_n 0, 1) := dq_of dqX10_scan_0 29 rfl
theorem dX10_scan_50 : decode cX10_scan 50 = .ok (.getfield 59, 3) := dq_of dqX10_scan_0 30 rfl
theorem dX10_scan_53 : decode cX10_scan 53 = .ok (.iload_n 1, 1) := dq_of dqX10_scan_0 31 rfl
theorem dX10_scan_54 : decode cX10_scan 54 = .ok (.iconst (-1), 1) := dq_of dqX10_scan_0 32 rfl
theorem dX10_scan_55 : decode cX10_scan 55 = .ok (.iastore, 1) := dq_of dqX10_scan_0 33 rfl
theorem dX10_scan_56 : decode cX10_scan 56 = .ok (.iinc 1 1, 3) := dq_of dqX10_scan_0 34 rfl
theorem dX10_scan_59 : decode cX10_scan 59 = .ok (.goto (-17), 3) := dq_of dqX10_scan_0 35 rfl
theorem dX10_scan_62 : decode cX10_scan 62 = .ok (.aload_n 0, 1) := dq_of dqX10_scan_0 36 rfl
theorem dX10_scan_63 : decode cX10_scan 63 = .ok (.iconst 0, 1) := dq_of dqX10_scan_0 37 rfl
theorem dX10_scan_64 : decode cX10_scan 64 = .ok (.putfield 79, 3) := dq_of dqX10_scan_0 38 rfl
theorem dX10_scan_67 : decode cX10_scan 67 = .ok (.aload_n 0, 1) := dq_of dqX10_scan_0 39 rfl
theorem dqX10_scan_68 : ([(68, .getfield 79, 3), (71, .aload_n 0, 1), (72, .getfield 69, 3), (75, .if_icmp .gt 78, 3), (78, .aload_n 0, 1), (79, .getfield 76, 3), (82, .ifCond .ge 71, 3), (85, .aload_n 0, 1), (86, .getfield 79, 3), (89, .aload_n 0, 1), (90, .getfield 69, 3), (93, .if_icmp .ge 14, 3), (96, .aload_n 0, 1), (97, .aload_n 0, 1), (98, .getfield 79, 3), (101, .invokevirtual 124, 3), (104, .goto 4, 3), (107, .iconst (-1), 1), (108, .istore_n 1, 1), (109, .aload_n 0, 1), (110, .iload_n 1, 1), (111, .invokevirtual 273, 3), (114, .iload_n 1, 1), (115, .bipush 10, 2), (117, .if_icmp .ne 23, 3), (120, .aload_n 0, 1), (121, .dup, 1), (122, .getfield 88, 3), (125, .iconst 1, 1), (126, .iadd, 1), (127, .putfield 88, 3), (130, .aload_n 0, 1), (131, .aload_n 0, 1), (132, .getfield 79, 3), (135, .iconst 1, 1), (136, .iadd, 1), (137, .putfield 94, 3), (140, .aload_n 0, 1), (141, .dup, 1), (142, .getfield 79, 3)] : List (Nat × Instr × Nat)).all (fun q => decide (decode cX10_scan q.1 = .ok (q.2.1, q.2.2))) = true := by decide +kernel
theorem dX10_scan_68 : decode cX10_scan 68 = .ok (.getfield 79, 3) := dq_of dqX10_scan_68 0 rfl
theorem dX10_scan_71 : decode cX10_scan 71 = .ok (.aload_n 0, 1) := dq_of dqX10_scan_68 1 rfl
theorem dX10_scan_72 : decode cX10_scan 72 = .ok (.getfield 69, 3) := dq_of dqX10_scan_68 2 rfl
theorem dX10_scan_75 : decode cX10_scan 75 = .ok (.if_icmp .gt 78, 3) := dq_of dqX10_scan_68 3 rfl
theorem dX10_scan_78 : decode cX10_scan 78 = .ok (.aload_n 0, 1) := dq_of dqX10_scan_68 4 rfl
theorem dX10_scan_79 : decode cX10_scan 79 = .ok (.getfield 76, 3) := dq_of dqX10_scan_68 5 rfl
theorem dX10_scan_82 : decode cX10_scan 82 = .ok (.ifCond .ge 71, 3) := dq_of dqX10_scan_68 6 rfl
theorem dX10_scan_85 : decode cX10_scan 85 = .ok (.aload_n 0, 1) := dq_of dqX10_scan_68 7 rfl
theorem dX10_scan_86 : decode cX10_scan 86 = .ok (.getfield 79, 3) := dq_of dqX10_scan_68 8 rfl
theorem dX10_scan_89 : decode cX10_scan 89 = .ok (.aload_n 0, 1) := dq_of dqX10_scan_68 9 rfl
theorem dX10_scan_90 : decode cX10_scan 90 = .ok (.getfield 69, 3) := dq_of dqX10_scan_68 10 rfl
theorem dX10_scan_93 : decode cX10_scan 93 = .ok (.if_icmp .ge 14, 3) := dq_of dqX10_scan_68 11 rfl
theorem dX10_scan_96 : decode cX10_scan 96 = .ok (.aload_n 0, 1) := dq_of dqX10_scan_68 12 rfl
theorem dX10_scan_97 : decode cX10_scan 97 = .ok (.aload_n 0, 1) := dq_of dqX10_scan_68 13 rfl
theorem dX10_scan_98 : decode cX10_scan 98 = .ok (.getfield 79, 3) := dq_of dqX10_scan_68 14 rfl
theorem dX10_scan_101 : decode cX10_scan 101 = .ok (.invokevirtual 124, 3) := dq_of dqX10_scan_68 15 rfl
theorem dX10_scan_104 : decode cX10_scan 104 = .ok (.goto 4, 3) := dq_of dqX10_scan_68 16 rfl
theorem dX10_scan_107 : decode cX10_scan 107 = .ok (.iconst (-1), 1) := dq_of dqX10_scan_68 17 rfl
theorem dX10_scan_108 : decode cX10_scan 108 = .ok (.istore_n 1, 1) := dq_of dqX10_scan_68 18 rfl
theorem dX10_scan_109 : decode cX10_scan 109 = .ok (.aload_n 0, 1) := dq_of dqX10_scan_68 19 rfl
theorem dX10_scan_110 : decode cX10_scan 110 = .ok (.iload_n 1, 1) := dq_of dqX10_scan_68 20 rfl
theorem dX10_scan_111 : decode cX10_scan 111 = .ok (.invokevirtual 273, 3) := dq_of dqX10_scan_68 21 rfl
theorem dX10_scan_114 : decode cX10_scan 114 = .ok (.iload_n 1, 1) := dq_of dqX10_scan_68 22 rfl
theorem dX10_scan_115 : decode cX10_scan 115 = .ok (.bipush 10, 2) := dq_of dqX10_scan_68 23 rfl
theorem dX10_scan_117 : decode cX10_scan 117 = .ok (.if_icmp .ne 23, 3) := dq_of dqX10_scan_68 24 rfl
theorem dX10_scan_120 : decode cX10_scan 120 = .ok (.aload_n 0, 1) := dq_of dqX10_scan_68 25 rfl
theorem dX10_scan_121 : decode cX10_scan 121 = .ok (.dup, 1) := dq_of dqX10_scan_68 26 rfl
theorem dX10_scan_122 : decode cX10_scan 122 = .ok (.getfield 88, 3) := dq_of dqX10_scan_68 27 rfl
theorem dX10_scan_125 : decode cX10_scan 125 = .ok (.iconst 1, 1) := dq_of dqX10_scan_68 28 rfl
theorem dX10_scan_126 : decode cX10_scan 126 = .ok (.iadd, 1) := dq_of dqX10_scan_68 29 rfl
theorem dX10_scan_127 : decode cX10_scan 127 = .ok (.putfield 88, 3) := dq_of dqX10_scan_68 30 rfl
theorem dX10_scan_130 : decode cX10_scan 130 = .ok (.aload_n 0, 1) := dq_of dqX10_scan_68 31 rfl
theorem dX10_scan_131 : decode cX10_scan 131 = .ok (.aload_n 0, 1) := dq_of dqX10_scan_68 32 rfl
theorem dX10_scan_132 : decode cX10_scan 132 = .ok (.getfield 79, 3) := dq_of dqX10_scan_68 33 rfl
theorem dX10_scan_135 : decode cX10_scan 135 = .ok (.iconst 1, 1) := dq_of dqX10_scan_68 34 rfl
theorem dX10_scan_136 : decode cX10_scan 136 = .ok (.iadd, 1) := dq_of dqX10_scan_68 35 rfl
theorem dX10_scan_137 : decode cX10_scan 137 = .ok (.putfield 94, 3) := dq_of dqX10_scan_68 36 rfl
theorem dX10_scan_140 : decode cX10_scan 140 = .ok (.aload_n 0, 1) := dq_of dqX10_scan_68 37 rfl
theorem dX10_scan_141 : decode cX10_scan 141 = .ok (.dup, 1) := dq_of dqX10_scan_68 38 rfl
theorem dX10_scan_142 : decode cX10_scan 142 = .ok (.getfield 79, 3) := dq_of dqX10_scan_68 39 rfl
theorem dqX10_scan_145 : ([(145, .iconst 1, 1), (146, .iadd, 1), (147, .putfield 79, 3), (150, .goto (-83), 3), (153, .aload_n 0, 1), (154, .iconst 0, 1), (155, .putfield 69, 3), (158, .aload_n 0, 1), (159, .getfield 76, 3), (162, .ifCond .ge 8, 3), (165, .aload_n 0, 1), (166, .getfield 100, 3), (169, .ireturn, 1), (170, .aload_n 0, 1), (171, .iconst 0, 1), (172, .putfield 100, 3), (175, .aload_n 0, 1), (176, .iconst 0, 1), (177, .putfield 138, 3), (180, .iconst (-1), 1), (181, .aload_n 0, 1), (182, .getfield 76, 3), (185, .isub, 1), (186, .ireturn, 1)] : List (Nat × Instr × Nat)).all (fun q => decide (decode cX10_scan q.1 = .ok (q.2.1, q.2.2))) = true := by decide +kernel
theorem dX10_scan_145 : decode cX10_scan 145 = .ok (.iconst 1, 1) := dq_of dqX10_scan_145 0 rfl
theorem dX10_scan_146 : decode cX10_scan 146 = .ok (.iadd, 1) := dq_of dqX10_scan_145 1 rfl
theorem dX10_scan_147 : decode cX10_scan 147 = .ok (.putfield 79, 3) := dq_of dqX10_scan_145 2 rfl
theorem dX10_scan_150 : decode cX10_scan 150 = .ok (.goto (-83), 3) := dq_of dqX10_scan_145 3 rfl
theorem dX10_scan_153 : decode cX10_scan 153 = .ok (.aload_n 0, 1) := dq_of dqX10_scan_145 4 rfl
theorem dX10_scan_154 : decode cX10_scan 154 = .ok (.iconst 0, 1) := dq_of dqX10_scan_145 5 rfl
theorem dX10_scan_155 : decode cX10_scan 155 = .ok (.putfield 69, 3) := dq_of dqX10_scan_145 6 rfl
theorem dX10_scan_158 : decode cX10_scan 158 = .ok (.aload_n 0, 1) := dq_of dqX10_scan_145 7 rfl
theorem dX10_scan_159 : decode cX10_scan 159 = .ok (.getfield 76, 3) := dq_of dqX10_scan_145 8 rfl
theorem dX10_scan_162 : decode cX10_scan 162 = .ok (.ifCond .ge 8, 3) := dq_of dqX10_scan_145 9 rfl
theorem dX10_scan_165 : decode cX10_scan 165 = .ok (.aload_n 0, 1) := dq_of dqX10_scan_145 10 rfl
theorem dX10_scan_166 : decode cX10_scan 166 = .ok (.getfield 100, 3) := dq_of dqX10_scan_145 11 rfl
theorem dX10_scan_169 : decode cX10_scan 169 = .ok (.ireturn, 1) := dq_of dqX10_scan_145 12 rfl
theorem dX10_scan_170 : decode cX10_scan 170 = .ok (.aload_n 0, 1) := dq_of dqX10_scan_145 13 rfl
theorem dX10_scan_171 : decode cX10_scan 171 = .ok (.iconst 0, 1) := dq_of dqX10_scan_145 14 rfl
theorem dX10_scan_172 : decode cX10_scan 172 = .ok (.putfield 100, 3) := dq_of dqX10_scan_145 15 rfl
theorem dX10_scan_175 : decode cX10_scan 175 = .ok (.aload_n 0, 1) := dq_of dqX10_scan_145 16 rfl
theorem dX10_scan_176 : decode cX10_scan 176 = .ok (.iconst 0, 1) := dq_of dqX10_scan_145 17 rfl
theorem dX10_scan_177 : decode cX10_scan 177 = .ok (.putfield 138, 3) := dq_of dqX10_scan_145 18 rfl
theorem dX10_scan_180 : decode cX10_scan 180 = .ok (.iconst (-1), 1) := dq_of dqX10_scan_145 19 rfl
theorem dX10_scan_181 : decode cX10_scan 181 = .ok (.aload_n 0, 1) := dq_of dqX10_scan_145 20 rfl
theorem dX10_scan_182 : decode cX10_scan 182 = .ok (.getfield 76, 3) := dq_of dqX10_scan_145 21 rfl
theorem dX10_scan_185 : decode cX10_scan 185 = .ok (.isub, 1) := dq_of dqX10_scan_145 22 rfl
theorem dX10_scan_186 : decode cX10_scan 186 = .ok (.ireturn, 1) := dq_of dqX10_scan_145 23 rfl
theorem dqX10_count_0 : ([(0, .aload_n 0, 1), (1, .iconst 0, 1), (2, .putfield 65, 3), (5, .aload_n 0, 1), (6, .getfield 100, 3), (9, .ireturn, 1)] : List (Nat × Instr × Nat)).all (fun q => decide (decode cX10_count q.1 = .ok (q.2.1, q.2.2))) = true := by decide +kernel
theorem dX10_count_0 : decode cX10_count 0 = .ok (.aload_n 0, 1) := dq_of dqX10_count_0 0 rfl
theorem dX10_count_1 : decode cX10_count 1 = .ok (.iconst 0, 1) := dq_of dqX10_count_0 1 rfl
theorem dX10_count_2 : decode cX10_count 2 = .ok (.putfield 65, 3) := dq_of dqX10_count_0 2 rfl
theorem dX10_count_5 : decode cX10_count 5 = .ok (.aload_n 0, 1) := dq_of dqX10_count_0 3 rfl
theorem dX10_count_6 : decode cX10_count 6 = .ok (.getfield 100, 3) := dq_of dqX10_count_0 4 rfl
theorem dX10_count_9 : decode cX10_count 9 = .ok (.ireturn, 1) := dq_of dqX10_count_0 5 rfl
theorem dqX10_names_0 : ([(0, .aload_n 0, 1), (1, .iconst 0, 1), (2, .putfield 65, 3), (5, .aload_n 0, 1), (6, .getfield 138, 3), (9, .ireturn, 1)] : List (Nat × Instr × Nat)).all (fun q => decide (decode cX10_names q.1 = .ok (q.2.1, q.2.2))) = true := by decide +kernel
theorem dX10_names_0 : decode cX10_names 0 = .ok (.aload_n 0, 1) := dq_of dqX10_names_0 0 rfl
theorem dX10_names_1 : decode cX10_names 1 = .ok (.iconst 0, 1) := dq_of dqX10_names_0 1 rfl
theorem dX10_names_2 : decode cX10_names 2 = .ok (.putfield 65, 3) := dq_of dqX10_names_0 2 rfl
theorem dX10_names_5 : decode cX10_names 5 = .ok (.aload_n 0, 1) := dq_of dqX10_names_0 3 rfl
theorem dX10_names_6 : decode cX10_names 6 = .ok (.getfield 138, 3) := dq_of dqX10_names_0 4 rfl
theorem dX10_names_9 : decode cX10_names 9 = .ok (.ireturn, 1) := dq_of dqX10_names_0 5 rfl
theorem dqX10_firstOf_0 : ([(0, .aload_n 0, 1), (1, .iconst 0, 1), (2, .putfield 65, 3), (5, .iload_n 1, 1), (6, .ifCond .lt 20, 3), (9, .iload_n 1, 1), (10, .aload_n 0, 1), (11, .getfield 138, 3), (14, .if_icmp .ge 12, 3), (17, .aload_n 0, 1), (18, .getfield 53, 3), (21, .iload_n 1, 1), (22, .iaload, 1), (23, .goto 4, 3), (26, .iconst (-1), 1), (27, .ireturn, 1)] : List (Nat × Instr × Nat)).all (fun q => decide (decode cX10_firstOf q.1 = .ok (q.2.1, q.2.2))) = true := by decide +kernel
theorem dX10_firstOf_0 : decode cX10_firstOf 0 = .ok (.aload_n 0, 1) := dq_of dqX10_firstOf_0 0 rfl
theorem dX10_firstOf_1 : decode cX10_firstOf 1 = .ok (.iconst 0, 1) := dq_of dqX10_firstOf_0 1 rfl
theorem dX10_firstOf_2 : decode cX10_firstOf 2 = .ok (.putfield 65, 3) := dq_of dqX10_firstOf_0 2 rfl
theorem dX10_firstOf_5 : decode cX10_firstOf 5 = .ok (.iload_n 1, 1) := dq_of dqX10_firstOf_0 3 rfl
theorem dX10_firstOf_6 : decode cX10_firstOf 6 = .ok (.ifCond .lt 20, 3) := dq_of dqX10_firstOf_0 4 rfl
theorem dX10_firstOf_9 : decode cX10_firstOf 9 = .ok (.iload_n 1, 1) := dq_of dqX10_firstOf_0 5 rfl
theorem dX10_firstOf_10 : decode cX10_firstOf 10 = .ok (.aload_n 0, 1) := dq_of dqX10_firstOf_0 6 rfl
theorem dX10_firstOf_11 : decode cX10_firstOf 11 = .ok (.getfield 138, 3) := dq_of dqX10_firstOf_0 7 rfl
theorem dX10_firstOf_14 : decode cX10_firstOf 14 = .ok (.if_icmp .ge 12, 3) := dq_of dqX10_firstOf_0 8 rfl
theorem dX10_firstOf_17 : decode cX10_firstOf 17 = .ok (.aload_n 0, 1) := dq_of dqX10_firstOf_0 9 rfl
theorem dX10_firstOf_18 : decode cX10_firstOf 18 = .ok (.getfield 53, 3) := dq_of dqX10_firstOf_0 10 rfl
theorem dX10_firstOf_21 : decode cX10_firstOf 21 = .ok (.iload_n 1, 1) := dq_of dqX10_firstOf_0 11 rfl
theorem dX10_firstOf_22 : decode cX10_firstOf 22 = .ok (.iaload, 1) := dq_of dqX10_firstOf_0 12 rfl
theorem dX10_firstOf_23 : decode cX10_firstOf 23 = .ok (.goto 4, 3) := dq_of dqX10_firstOf_0 13 rfl
theorem dX10_firstOf_26 : decode cX10_firstOf 26 = .ok (.iconst (-1), 1) := dq_of dqX10_firstOf_0 14 rfl
theorem dX10_firstOf_27 : decode cX10_firstOf 27 = .ok (.ireturn, 1) := dq_of dqX10_firstOf_0 15 rfl
theorem dqX10_token__0 : ([(0, .aload_n 0, 1), (1, .iconst 0, 1), (2, .putfield 65, 3), (5, .iload_n 1, 1), (6, .ifCond .lt 21, 3), (9, .iload_n 1, 1), (10, .aload_n 0, 1), (11, .getfield 100, 3), (14, .if_icmp .ge 13, 3), (17, .iload_n 2, 1), (18, .ifCond .lt 9, 3), (21, .iload_n 2, 1), (22, .bipush 8, 2), (24, .if_icmp .le 8, 3), (27, .aload_n 0, 1), (28, .invokevirtual 276, 3), (31, .ireturn, 1), (32, .iload_n 2, 1), (33, .iconst 4, 1), (34, .if_icmp .ge 51, 3), (37, .iload_n 2, 1), (38, .ifCond .ne 12, 3), (41, .aload_n 0, 1), (42, .getfield 14, 3), (45, .iload_n 1, 1), (46, .iaload, 1), (47, .goto 37, 3), (50, .iload_n 2, 1), (51, .iconst 1, 1), (52, .if_icmp .ne 12, 3), (55, .aload_n 0, 1), (56, .getfield 18, 3), (59, .iload_n 1, 1), (60, .iaload, 1), (61, .goto 23, 3), (64, .iload_n 2, 1), (65, .iconst 2, 1), (66, .if_icmp .ne 12, 3), (69, .aload_n 0, 1), (70, .getfield 21, 3)] : List (Nat × Instr × Nat)).all (fun q => decide (decode cX10_token_ q.1 = .ok (q.2.1, q.2.2))) = true := by decide +kernel
theorem dX10_token__0 : decode cX10_token_ 0 = .ok (.aload_n 0, 1) := dq_of dqX10_token__0 0 rfl
theorem dX10_token__1 : decode cX10_token_ 1 = .ok (.iconst 0, 1) := dq_of dqX10_token__0 1 rfl
theorem dX10_token__2 : decode cX10_token_ 2 = .ok (.putfield 65, 3) := dq_of dqX10_token__0 2 rfl
theorem dX10_token__5 : decode cX10_token_ 5 = .ok (.iload_n 1, 1) := dq_of dqX10_token__0 3 rfl
theorem dX10_token__6 : decode cX10_token_ 6 = .ok (.ifCond .lt 21, 3) := dq_of dqX10_token__0 4 rfl
theorem dX10_token__9 : decode cX10_token_ 9 = .ok (.iload_n 1, 1) := dq_of dqX10_token__0 5 rfl
theorem dX10_token__10 : decode cX10_token_ 10 = .ok (.aload_n 0, 1) := dq_of dqX10_token__0 6 rfl
theorem dX10_token__11 : decode cX10_token_ 11 = .ok (.getfield 100, 3) := dq_of dqX10_token__0 7 rfl
theorem dX10_token__14 : decode cX10_token_ 14 = .ok (.if_icmp .ge 13, 3) := dq_of dqX10_token__0 8 rfl
theorem dX10_token__17 : decode cX10_token_ 17 = .ok (.iload_n 2, 1) := dq_of dqX10_token__0 9 rfl
theorem dX10_token__18 : decode cX10_token_ 18 = .ok (.ifCond .lt 9, 3) := dq_of dqX10_token__0 10 rfl
theorem dX10_token__21 : decode cX10_token_ 21 = .ok (.iload_n 2, 1) := dq_of dqX10_token__0 11 rfl
theorem dX10_token__22 : decode cX10_token_ 22 = .ok (.bipush 8, 2) := dq_of dqX10_token__0 12 rfl
theorem dX10_token__24 : decode cX10_token_ 24 = .ok (.if_icmp .le 8, 3) := dq_of dqX10_token__0 13 rfl
theorem dX10_token__27 : decode cX10_token_ 27 = .ok (.aload_n 0, 1) := dq_of dqX10_token__0 14 rfl
theorem dX10_token__28 : decode cX10_token_ 28 = .ok (.invokevirtual 276, 3) := dq_of dqX10_token__0 15 rfl
theorem dX10_token__31 : decode cX10_token_ 31 = .ok (.ireturn, 1) := dq_of dqX10_token__0 16 rfl
theorem dX10_token__32 : decode cX10_token_ 32 = .ok (.iload_n 2, 1) := dq_of dqX10_token__0 17 rfl
theorem dX10_token__33 : decode cX10_token_ 33 = .ok (.iconst 4, 1) := dq_of dqX10_token__0 18 rfl
theorem dX10_token__34 : decode cX10_token_ 34 = .ok (.if_icmp .ge 51, 3) := dq_of dqX10_token__0 19 rfl
theorem dX10_token__37 : decode cX10_token_ 37 = .ok (.iload_n 2, 1) := dq_of dqX10_token__0 20 rfl
theorem dX10_token__38 : decode cX10_token_ 38 = .ok (.ifCond .ne 12, 3) := dq_of dqX10_token__0 21 rfl
theorem dX10_token__41 : decode cX10_token_ 41 = .ok (.aload_n 0, 1) := dq_of dqX10_token__0 22 rfl
theorem dX10_token__42 : decode cX10_token_ 42 = .ok (.getfield 14, 3) := dq_of dqX10_token__0 23 rfl
theorem dX10_token__45 : decode cX10_token_ 45 = .ok (.iload_n 1, 1) := dq_of dqX10_token__0 24 rfl
theorem dX10_token__46 : decode cX10_token_ 46 = .ok (.iaload, 1) := dq_of dqX10_token__0 25 rfl
theorem dX10_token__47 : decode cX10_token_ 47 = .ok (.goto 37, 3) := dq_of dqX10_token__0 26 rfl
theorem dX10_token__50 : decode cX10_token_ 50 = .ok (.iload_n 2, 1) := dq_of dqX10_token__0 27 rfl
theorem dX10_token__51 : decode cX10_token_ 51 = .ok (.iconst 1, 1) := dq_of dqX10_token__0 28 rfl
theorem dX10_token__52 : decode cX10_token_ 52 = .ok (.if_icmp .ne 12, 3) := dq_of dqX10_token__0 29 rfl
theorem dX10_token__55 : decode cX10_token_ 55 = .ok (.aload_n 0, 1) := dq_of dqX10_token__0 30 rfl
theorem dX10_token__56 : decode cX10_token_ 56 = .ok (.getfield 18, 3) := dq_of dqX10_token__0 31 rfl
theorem dX10_token__59 : decode cX10_token_ 59 = .ok (.iload_n 1, 1) := dq_of dqX10_token__0 32 rfl
theorem dX10_token__60 : decode cX10_token_ 60 = .ok (.iaload, 1) := dq_of dqX10_token__0 33 rfl
theorem dX10_token__61 : decode cX10_token_ 61 = .ok (.goto 23, 3) := dq_of dqX10_token__0 34 rfl
theorem dX10_token__64 : decode cX10_token_ 64 = .ok (.iload_n 2, 1) := dq_of dqX10_token__0 35 rfl
theorem dX10_token__65 : decode cX10_token_ 65 = .ok (.iconst 2, 1) := dq_of dqX10_token__0 36 rfl
theorem dX10_token__66 : decode cX10_token_ 66 = .ok (.if_icmp .ne 12, 3) := dq_of dqX10_token__0 37 rfl
theorem dX10_token__69 : decode cX10_token_ 69 = .ok (.aload_n 0, 1) := dq_of dqX10_token__0 38 rfl
theorem dX10_token__70 : decode cX10_token_ 70 = .ok (.getfield 21, 3) := dq_of dqX10_token__0 39 rfl
theorem dqX10_token__73 : ([(73, .iload_n 1, 1), (74, .iaload, 1), (75, .goto 9, 3), (78, .aload_n 0, 1), (79, .getfield 24, 3), (82, .iload_n 1, 1), (83, .iaload, 1), (84, .ireturn, 1), (85, .iload_n 2, 1), (86, .bipush 7, 2), (88, .if_icmp .ge 46, 3), (91, .iload_n 2, 1), (92, .iconst 4, 1), (93, .if_icmp .ne 12, 3), (96, .aload_n 0, 1), (97, .getfield 27, 3), (100, .iload_n 1, 1), (101, .iaload, 1), (102, .goto 31, 3), (105, .iload_n 2, 1), (106, .iconst 5, 1), (107, .if_icmp .ne 20, 3), (110, .aload_n 0, 1), (111, .getfield 30, 3), (114, .iload_n 1, 1), (115, .baload, 1), (116, .ifCond .eq 7, 3), (119, .iconst 1, 1), (120, .goto 13, 3), (123, .iconst 0, 1), (124, .goto 9, 3), (127, .aload_n 0, 1), (128, .getfield 34, 3), (131, .iload_n 1, 1), (132, .iaload, 1), (133, .ireturn, 1), (134, .iload_n 2, 1), (135, .bipush 7, 2), (137, .if_icmp .ne 12, 3), (140, .aload_n 0, 1)] : List (Nat × Instr × Nat)).all (fun q => decide (decode cX10_token_ q.1 = .ok (q.2.1, q.2.2))) = true := by decide +kernel
theorem dX10_token__73 : decode cX10_token_ 73 = .ok (.iload_n 1, 1) := dq_of dqX10_token__73 0 rfl
theorem dX10_token__74 : decode cX10_token_ 74 = .ok (.iaload, 1) := dq_of dqX10_token__73 1 rfl
theorem dX10_token__75 : decode cX10_token_ 75 = .ok (.goto 9, 3) := dq_of dqX10_token__73 2 rfl
theorem dX10_token__78 : decode cX10_token_ 78 = .ok (.aload_n 0, 1) := dq_of dqX10_token__73 3 rfl
theorem dX10_token__79 : decode cX10_token_ 79 = .ok (.getfield 24, 3) := dq_of dqX10_token__73 4 rfl
theorem dX10_token__82 : decode cX10_token_ 82 = .ok (.iload_n 1, 1) := dq_of dqX10_token__73 5 rfl
theorem dX10_token__83 : decode cX10_token_ 83 = .ok (.iaload, 1) := dq_of dqX10_token__73 6 rfl
theorem dX10_token__84 : decode cX10_token_ 84 = .ok (.ireturn, 1) := dq_of dqX10_token__73 7 rfl
theorem dX10_token__85 : decode cX10_token_ 85 = .ok (.iload_n 2, 1) := dq_of dqX10_token__73 8 rfl
theorem dX10_token__86 : decode cX10_token_ 86 = .ok (.bipush 7, 2) := dq_of dqX10_token__73 9 rfl
theorem dX10_token__88 : decode cX10_token_ 88 = .ok (.if_icmp .ge 46, 3) := dq_of dqX10_token__73 10 rfl
theorem dX10_token__91 : decode cX10_token_ 91 = .ok (.iload_n 2, 1) := dq_of dqX10_token__73 11 rfl
theorem dX10_token__92 : decode cX10_token_ 92 = .ok (.iconst 4, 1) := dq_of dqX10_token__73 12 rfl
theorem dX10_token__93 : decode cX10_token_ 93 = .ok (.if_icmp .ne 12, 3) := dq_of dqX10_token__73 13 rfl
theorem dX10_token__96 : decode cX10_token_ 96 = .ok (.aload_n 0, 1) := dq_of dqX10_token__73 14 rfl
theorem dX10_token__97 : decode cX10_token_ 97 = .ok (.getfield 27, 3) := dq_of dqX10_token__73 15 rfl
theorem dX10_token__100 : decode cX10_token_ 100 = .ok (.iload_n 1, 1) := dq_of dqX10_token__73 16 rfl
theorem dX10_token__101 : decode cX10_token_ 101 = .ok (.iaload, 1) := dq_of dqX10_token__73 17 rfl
theorem dX10_token__102 : decode cX10_token_ 102 = .ok (.goto 31, 3) := dq_of dqX10_token__73 18 rfl
theorem dX10_token__105 : decode cX10_token_ 105 = .ok (.iload_n 2, 1) := dq_of dqX10_token__73 19 rfl
theorem dX10_token__106 : decode cX10_token_ 106 = .ok (.iconst 5, 1) := dq_of dqX10_token__73 20 rfl
theorem dX10_token__107 : decode cX10_token_ 107 = .ok (.if_icmp .ne 20, 3) := dq_of dqX10_token__73 21 rfl
theorem dX10_token__110 : decode cX10_token_ 110 = .ok (.aload_n 0, 1) := dq_of dqX10_token__73 22 rfl
theorem dX10_token__111 : decode cX10_token_ 111 = .ok (.getfield 30, 3) := dq_of dqX10_token__73 23 rfl
theorem dX10_token__114 : decode cX10_token_ 114 = .ok (.iload_n 1, 1) := dq_of dqX10_token__73 24 rfl
theorem dX10_token__115 : decode cX10_token_ 115 = .ok (.baload, 1) := dq_of dqX10_token__73 25 rfl
theorem dX10_token__116 : decode cX10_token_ 116 = .ok (.ifCond .eq 7, 3) := dq_of dqX10_token__73 26 rfl
theorem dX10_token__119 : decode cX10_token_ 119 = .ok (.iconst 1, 1) := dq_of dqX10_token__73 27 rfl
theorem dX10_token__120 : decode cX10_token_ 120 = .ok (.goto 13, 3) := dq_of dqX10_token__73 28 rfl
theorem dX10_token__123 : decode cX10_token_ 123 = .ok (.iconst 0, 1) := dq_of dqX10_token__73 29 rfl
theorem dX10_token__124 : decode cX10_token_ 124 = .ok (.goto 9, 3) := dq_of dqX10_token__73 30 rfl
theorem dX10_token__127 : decode cX10_token_ 127 = .ok (.aload_n 0, 1) := dq_of dqX10_token__73 31 rfl
theorem dX10_token__128 : decode cX10_token_ 128 = .ok (.getfield 34, 3) := dq_of dqX10_token__73 32 rfl
theorem dX10_token__131 : decode cX10_token_ 131 = .ok (.iload_n 1, 1) := dq_of dqX10_token__73 33 rfl
theorem dX10_token__132 : decode cX10_token_ 132 = .ok (.iaload, 1) := dq_of dqX10_token__73 34 rfl
theorem dX10_token__133 : decode cX10_token_ 133 = .ok (.ireturn, 1) := dq_of dqX10_token__73 35 rfl
theorem dX10_token__134 : decode cX10_token_ 134 = .ok (.iload_n 2, 1) := dq_of dqX10_token__73 36 rfl
theorem dX10_token__135 : decode cX10_token_ 135 = .ok (.bipush 7, 2) := dq_of dqX10_token__73 37 rfl
theorem dX10_token__137 : decode cX10_token_ 137 = .ok (.if_icmp .ne 12, 3) := dq_of dqX10_token__73 38 rfl
theorem dX10_token__140 : decode cX10_token_ 140 = .ok (.aload_n 0, 1) := dq_of dqX10_token__73 39 rfl
theorem dqX10_token__141 : ([(141, .getfield 37, 3), (144, .iload_n 1, 1), (145, .iaload, 1), (146, .goto 9, 3), (149, .aload_n 0, 1), (150, .getfield 43, 3), (153, .iload_n 1, 1), (154, .iaload, 1), (155, .ireturn, 1)] : List (Nat × Instr × Nat)).all (fun q => decide (decode cX10_token_ q.1 = .ok (q.2.1, q.2.2))) = true := by decide +kernel
theorem dX10_token__141 : decode cX10_token_ 141 = .ok (.getfield 37, 3) := dq_of dqX10_token__141 0 rfl
theorem dX10_token__144 : decode cX10_token_ 144 = .ok (.iload_n 1, 1) := dq_of dqX10_token__141 1 rfl
theorem dX10_token__145 : decode cX10_token_ 145 = .ok (.iaload, 1) := dq_of dqX10_token__141 2 rfl
theorem dX10_token__146 : decode cX10_token_ 146 = .ok (.goto 9, 3) := dq_of dqX10_token__141 3 rfl
theorem dX10_token__149 : decode cX10_token_ 149 = .ok (.aload_n 0, 1) := dq_of dqX10_token__141 4 rfl
theorem dX10_token__150 : decode cX10_token_ 150 = .ok (.getfield 43, 3) := dq_of dqX10_token__141 5 rfl
theorem dX10_token__153 : decode cX10_token_ 153 = .ok (.iload_n 1, 1) := dq_of dqX10_token__141 6 rfl
theorem dX10_token__154 : decode cX10_token_ 154 = .ok (.iaload, 1) := dq_of dqX10_token__141 7 rfl
theorem dX10_token__155 : decode cX10_token_ 155 = .ok (.ireturn, 1) := dq_of dqX10_token__141 8 rfl
theorem dqX10_byteOf_0 : ([(0, .aload_n 0, 1), (1, .iconst 0, 1), (2, .putfield 65, 3), (5, .iload_n 1, 1), (6, .ifCond .lt 45, 3), (9, .iload_n 1, 1), (10, .aload_n 0, 1), (11, .getfield 100, 3), (14, .if_icmp .ge 37, 3), (17, .iload_n 2, 1), (18, .ifCond .lt 33, 3), (21, .iload_n 2, 1), (22, .aload_n 0, 1), (23, .getfield 43, 3), (26, .iload_n 1, 1), (27, .iaload, 1), (28, .if_icmp .ge 23, 3), (31, .aload_n 0, 1), (32, .getfield 50, 3), (35, .aload_n 0, 1), (36, .getfield 40, 3), (39, .iload_n 1, 1), (40, .iaload, 1), (41, .iload_n 2, 1), (42, .iadd, 1), (43, .baload, 1), (44, .sipush 255, 3), (47, .iand, 1), (48, .goto 7, 3), (51, .aload_n 0, 1), (52, .invokevirtual 276, 3), (55, .ireturn, 1)] : List (Nat × Instr × Nat)).all (fun q => decide (decode cX10_byteOf q.1 = .ok (q.2.1, q.2.2))) = true := by decide +kernel
theorem dX10_byteOf_0 : decode cX10_byteOf 0 = .ok (.aload_n 0, 1) := dq_of dqX10_byteOf_0 0 rfl
theorem dX10_byteOf_1 : decode cX10_byteOf 1 = .ok (.iconst 0, 1) := dq_of dqX10_byteOf_0 1 rfl
theorem dX10_byteOf_2 : decode cX10_byteOf 2 = .ok (.putfield 65, 3) := dq_of dqX10_byteOf_0 2 rfl
theorem dX10_byteOf_5 : decode cX10_byteOf 5 = .ok (.iload_n 1, 1) := dq_of dqX10_byteOf_0 3 rfl
theorem dX10_byteOf_6 : decode cX10_byteOf 6 = .ok (.ifCond .lt 45, 3) := dq_of dqX10_byteOf_0 4 rfl
theorem dX10_byteOf_9 : decode cX10_byteOf 9 = .ok (.iload_n 1, 1) := dq_of dqX10_byteOf_0 5 rfl
theorem dX10_byteOf_10 : decode cX10_byteOf 10 = .ok (.aload_n 0, 1) := dq_of dqX10_byteOf_0 6 rfl
theorem dX10_byteOf_11 : decode cX10_byteOf 11 = .ok (.getfield 100, 3) := dq_of dqX10_byteOf_0 7 rfl
theorem dX10_byteOf_14 : decode cX10_byteOf 14 = .ok (.if_icmp .ge 37, 3) := dq_of dqX10_byteOf_0 8 rfl
theorem dX10_byteOf_17 : decode cX10_byteOf 17 = .ok (.iload_n 2, 1) := dq_of dqX10_byteOf_0 9 rfl
theorem dX10_byteOf_18 : decode cX10_byteOf 18 = .ok (.ifCond .lt 33, 3) := dq_of dqX10_byteOf_0 10 rfl
theorem dX10_byteOf_21 : decode cX10_byteOf 21 = .ok (.iload_n 2, 1) := dq_of dqX10_byteOf_0 11 rfl
theorem dX10_byteOf_22 : decode cX10_byteOf 22 = .ok (.aload_n 0, 1) := dq_of dqX10_byteOf_0 12 rfl
theorem dX10_byteOf_23 : decode cX10_byteOf 23 = .ok (.getfield 43, 3) := dq_of dqX10_byteOf_0 13 rfl
theorem dX10_byteOf_26 : decode cX10_byteOf 26 = .ok (.iload_n 1, 1) := dq_of dqX10_byteOf_0 14 rfl
theorem dX10_byteOf_27 : decode cX10_byteOf 27 = .ok (.iaload, 1) := dq_of dqX10_byteOf_0 15 rfl
theorem dX10_byteOf_28 : decode cX10_byteOf 28 = .ok (.if_icmp .ge 23, 3) := dq_of dqX10_byteOf_0 16 rfl
theorem dX10_byteOf_31 : decode cX10_byteOf 31 = .ok (.aload_n 0, 1) := dq_of dqX10_byteOf_0 17 rfl
theorem dX10_byteOf_32 : decode cX10_byteOf 32 = .ok (.getfield 50, 3) := dq_of dqX10_byteOf_0 18 rfl
theorem dX10_byteOf_35 : decode cX10_byteOf 35 = .ok (.aload_n 0, 1) := dq_of dqX10_byteOf_0 19 rfl
theorem dX10_byteOf_36 : decode cX10_byteOf 36 = .ok (.getfield 40, 3) := dq_of dqX10_byteOf_0 20 rfl
theorem dX10_byteOf_39 : decode cX10_byteOf 39 = .ok (.iload_n 1, 1) := dq_of dqX10_byteOf_0 21 rfl
theorem dX10_byteOf_40 : decode cX10_byteOf 40 = .ok (.iaload, 1) := dq_of dqX10_byteOf_0 22 rfl
theorem dX10_byteOf_41 : decode cX10_byteOf 41 = .ok (.iload_n 2, 1) := dq_of dqX10_byteOf_0 23 rfl
theorem dX10_byteOf_42 : decode cX10_byteOf 42 = .ok (.iadd, 1) := dq_of dqX10_byteOf_0 24 rfl
theorem dX10_byteOf_43 : decode cX10_byteOf 43 = .ok (.baload, 1) := dq_of dqX10_byteOf_0 25 rfl
theorem dX10_byteOf_44 : decode cX10_byteOf 44 = .ok (.sipush 255, 3) := dq_of dqX10_byteOf_0 26 rfl
theorem dX10_byteOf_47 : decode cX10_byteOf 47 = .ok (.iand, 1) := dq_of dqX10_byteOf_0 27 rfl
theorem dX10_byteOf_48 : decode cX10_byteOf 48 = .ok (.goto 7, 3) := dq_of dqX10_byteOf_0 28 rfl
theorem dX10_byteOf_51 : decode cX10_byteOf 51 = .ok (.aload_n 0, 1) := dq_of dqX10_byteOf_0 29 rfl
theorem dX10_byteOf_52 : decode cX10_byteOf 52 = .ok (.invokevirtual 276, 3) := dq_of dqX10_byteOf_0 30 rfl
theorem dX10_byteOf_55 : decode cX10_byteOf 55 = .ok (.ireturn, 1) := dq_of dqX10_byteOf_0 31 rfl
theorem dqX10_number__0 : ([(0, .aload_n 0, 1), (1, .iconst 0, 1), (2, .putfield 65, 3), (5, .iload_n 1, 1), (6, .ifCond .lt 40, 3), (9, .iload_n 1, 1), (10, .aload_n 0, 1), (11, .getfield 100, 3), (14, .if_icmp .ge 32, 3), (17, .aload_n 0, 1), (18, .getfield 14, 3), (21, .iload_n 1, 1), (22, .iaload, 1), (23, .iconst 2, 1), (24, .if_icmp .eq 13, 3), (27, .aload_n 0, 1), (28, .getfield 14, 3), (31, .iload_n 1, 1), (32, .iaload, 1), (33, .iconst 4, 1), (34, .if_icmp .ne 12, 3), (37, .aload_n 0, 1), (38, .getfield 46, 3), (41, .iload_n 1, 1), (42, .laload, 1), (43, .goto 8, 3), (46, .aload_n 0, 1), (47, .invokevirtual 276, 3), (50, .i2l, 1), (51, .lreturn, 1)] : List (Nat × Instr × Nat)).all (fun q => decide (decode cX10_number_ q.1 = .ok (q.2.1, q.2.2))) = true := by decide +kernel
theorem dX10_number__0 : decode cX10_number_ 0 = .ok (.aload_n 0, 1) := dq_of dqX10_number__0 0 rfl
theorem dX10_number__1 : decode cX10_number_ 1 = .ok (.iconst 0, 1) := dq_of dqX10_number__0 1 rfl
theorem dX10_number__2 : decode cX10_number_ 2 = .ok (.putfield 65, 3) := dq_of dqX10_number__0 2 rfl
theorem dX10_number__5 : decode cX10_number_ 5 = .ok (.iload_n 1, 1) := dq_of dqX10_number__0 3 rfl
theorem dX10_number__6 : decode cX10_number_ 6 = .ok (.ifCond .lt 40, 3) := dq_of dqX10_number__0 4 rfl
theorem dX10_number__9 : decode cX10_number_ 9 = .ok (.iload_n 1, 1) := dq_of dqX10_number__0 5 rfl
theorem dX10_number__10 : decode cX10_number_ 10 = .ok (.aload_n 0, 1) := dq_of dqX10_number__0 6 rfl
theorem dX10_number__11 : decode cX10_number_ 11 = .ok (.getfield 100, 3) := dq_of dqX10_number__0 7 rfl
theorem dX10_number__14 : decode cX10_number_ 14 = .ok (.if_icmp .ge 32, 3) := dq_of dqX10_number__0 8 rfl
theorem dX10_number__17 : decode cX10_number_ 17 = .ok (.aload_n 0, 1) := dq_of dqX10_number__0 9 rfl
theorem dX10_number__18 : decode cX10_number_ 18 = .ok (.getfield 14, 3) := dq_of dqX10_number__0 10 rfl
theorem dX10_number__21 : decode cX10_number_ 21 = .ok (.iload_n 1, 1) := dq_of dqX10_number__0 11 rfl
theorem dX10_number__22 : decode cX10_number_ 22 = .ok (.iaload, 1) := dq_of dqX10_number__0 12 rfl
theorem dX10_number__23 : decode cX10_number_ 23 = .ok (.iconst 2, 1) := dq_of dqX10_number__0 13 rfl
theorem dX10_number__24 : decode cX10_number_ 24 = .ok (.if_icmp .eq 13, 3) := dq_of dqX10_number__0 14 rfl
theorem dX10_number__27 : decode cX10_number_ 27 = .ok (.aload_n 0, 1) := dq_of dqX10_number__0 15 rfl
theorem dX10_number__28 : decode cX10_number_ 28 = .ok (.getfield 14, 3) := dq_of dqX10_number__0 16 rfl
theorem dX10_number__31 : decode cX10_number_ 31 = .ok (.iload_n 1, 1) := dq_of dqX10_number__0 17 rfl
theorem dX10_number__32 : decode cX10_number_ 32 = .ok (.iaload, 1) := dq_of dqX10_number__0 18 rfl
theorem dX10_number__33 : decode cX10_number_ 33 = .ok (.iconst 4, 1) := dq_of dqX10_number__0 19 rfl
theorem dX10_number__34 : decode cX10_number_ 34 = .ok (.if_icmp .ne 12, 3) := dq_of dqX10_number__0 20 rfl
theorem dX10_number__37 : decode cX10_number_ 37 = .ok (.aload_n 0, 1) := dq_of dqX10_number__0 21 rfl
theorem dX10_number__38 : decode cX10_number_ 38 = .ok (.getfield 46, 3) := dq_of dqX10_number__0 22 rfl
theorem dX10_number__41 : decode cX10_number_ 41 = .ok (.iload_n 1, 1) := dq_of dqX10_number__0 23 rfl
theorem dX10_number__42 : decode cX10_number_ 42 = .ok (.laload, 1) := dq_of dqX10_number__0 24 rfl
theorem dX10_number__43 : decode cX10_number_ 43 = .ok (.goto 8, 3) := dq_of dqX10_number__0 25 rfl
theorem dX10_number__46 : decode cX10_number_ 46 = .ok (.aload_n 0, 1) := dq_of dqX10_number__0 26 rfl
theorem dX10_number__47 : decode cX10_number_ 47 = .ok (.invokevirtual 276, 3) := dq_of dqX10_number__0 27 rfl
theorem dX10_number__50 : decode cX10_number_ 50 = .ok (.i2l, 1) := dq_of dqX10_number__0 28 rfl
theorem dX10_number__51 : decode cX10_number_ 51 = .ok (.lreturn, 1) := dq_of dqX10_number__0 29 rfl
theorem dqX10_fits_0 : ([(0, .aload_n 0, 1), (1, .iconst 0, 1), (2, .putfield 65, 3), (5, .iload_n 1, 1), (6, .ifCond .lt 32, 3), (9, .iload_n 1, 1), (10, .aload_n 0, 1), (11, .getfield 100, 3), (14, .if_icmp .ge 24, 3), (17, .aload_n 0, 1), (18, .getfield 14, 3), (21, .iload_n 1, 1), (22, .iaload, 1), (23, .iconst 2, 1), (24, .if_icmp .ne 14, 3), (27, .iload_n 2, 1), (28, .ifCond .lt 10, 3), (31, .iload_n 2, 1), (32, .sipush 512, 3), (35, .if_icmp .le 10, 3), (38, .aload_n 0, 1), (39, .iconst 1, 1), (40, .putfield 65, 3), (43, .iconst 0, 1), (44, .ireturn, 1), (45, .aload_n 0, 1), (46, .iload_n 1, 1), (47, .invokevirtual 144, 3), (50, .istore_n 3, 1), (51, .aload_n 0, 1), (52, .getfield 40, 3), (55, .iload_n 1, 1), (56, .iaload, 1), (57, .aload_n 0, 1), (58, .getfield 43, 3), (61, .iload_n 1, 1), (62, .iaload, 1), (63, .iadd, 1), (64, .istore 4, 2), (66, .iload_n 3, 1)] : List (Nat × Instr × Nat)).all (fun q => decide (decode cX10_fits q.1 = .ok (q.2.1, q.2.2))) = true := by decide +kernel
theorem dX10_fits_0 : decode cX10_fits 0 = .ok (.aload_n 0, 1) := dq_of dqX10_fits_0 0 rfl
theorem dX10_fits_1 : decode cX10_fits 1 = .ok (.iconst 0, 1) := dq_of dqX10_fits_0 1 rfl
theorem dX10_fits_2 : decode cX10_fits 2 = .ok (.putfield 65, 3) := dq_of dqX10_fits_0 2 rfl
theorem dX10_fits_5 : decode cX10_fits 5 = .ok (.iload_n 1, 1) := dq_of dqX10_fits_0 3 rfl
theorem dX10_fits_6 : decode cX10_fits 6 = .ok (.ifCond .lt 32, 3) := dq_of dqX10_fits_0 4 rfl
theorem dX10_fits_9 : decode cX10_fits 9 = .ok (.iload_n 1, 1) := dq_of dqX10_fits_0 5 rfl
theorem dX10_fits_10 : decode cX10_fits 10 = .ok (.aload_n 0, 1) := dq_of dqX10_fits_0 6 rfl
theorem dX10_fits_11 : decode cX10_fits 11 = .ok (.getfield 100, 3) := dq_of dqX10_fits_0 7 rfl
theorem dX10_fits_14 : decode cX10_fits 14 = .ok (.if_icmp .ge 24, 3) := dq_of dqX10_fits_0 8 rfl
theorem dX10_fits_17 : decode cX10_fits 17 = .ok (.aload_n 0, 1) := dq_of dqX10_fits_0 9 rfl
theorem dX10_fits_18 : decode cX10_fits 18 = .ok (.getfield 14, 3) := dq_of dqX10_fits_0 10 rfl
theorem dX10_fits_21 : decode cX10_fits 21 = .ok (.iload_n 1, 1) := dq_of dqX10_fits_0 11 rfl
theorem dX10_fits_22 : decode cX10_fits 22 = .ok (.iaload, 1) := dq_of dqX10_fits_0 12 rfl
theorem dX10_fits_23 : decode cX10_fits 23 = .ok (.iconst 2, 1) := dq_of dqX10_fits_0 13 rfl
theorem dX10_fits_24 : decode cX10_fits 24 = .ok (.if_icmp .ne 14, 3) := dq_of dqX10_fits_0 14 rfl
theorem dX10_fits_27 : decode cX10_fits 27 = .ok (.iload_n 2, 1) := dq_of dqX10_fits_0 15 rfl
theorem dX10_fits_28 : decode cX10_fits 28 = .ok (.ifCond .lt 10, 3) := dq_of dqX10_fits_0 16 rfl
theorem dX10_fits_31 : decode cX10_fits 31 = .ok (.iload_n 2, 1) := dq_of dqX10_fits_0 17 rfl
theorem dX10_fits_32 : decode cX10_fits 32 = .ok (.sipush 512, 3) := dq_of dqX10_fits_0 18 rfl
theorem dX10_fits_35 : decode cX10_fits 35 = .ok (.if_icmp .le 10, 3) := dq_of dqX10_fits_0 19 rfl
theorem dX10_fits_38 : decode cX10_fits 38 = .ok (.aload_n 0, 1) := dq_of dqX10_fits_0 20 rfl
theorem dX10_fits_39 : decode cX10_fits 39 = .ok (.iconst 1, 1) := dq_of dqX10_fits_0 21 rfl
theorem dX10_fits_40 : decode cX10_fits 40 = .ok (.putfield 65, 3) := dq_of dqX10_fits_0 22 rfl
theorem dX10_fits_43 : decode cX10_fits 43 = .ok (.iconst 0, 1) := dq_of dqX10_fits_0 23 rfl
theorem dX10_fits_44 : decode cX10_fits 44 = .ok (.ireturn, 1) := dq_of dqX10_fits_0 24 rfl
theorem dX10_fits_45 : decode cX10_fits 45 = .ok (.aload_n 0, 1) := dq_of dqX10_fits_0 25 rfl
theorem dX10_fits_46 : decode cX10_fits 46 = .ok (.iload_n 1, 1) := dq_of dqX10_fits_0 26 rfl
theorem dX10_fits_47 : decode cX10_fits 47 = .ok (.invokevirtual 144, 3) := dq_of dqX10_fits_0 27 rfl
theorem dX10_fits_50 : decode cX10_fits 50 = .ok (.istore_n 3, 1) := dq_of dqX10_fits_0 28 rfl
theorem dX10_fits_51 : decode cX10_fits 51 = .ok (.aload_n 0, 1) := dq_of dqX10_fits_0 29 rfl
theorem dX10_fits_52 : decode cX10_fits 52 = .ok (.getfield 40, 3) := dq_of dqX10_fits_0 30 rfl
theorem dX10_fits_55 : decode cX10_fits 55 = .ok (.iload_n 1, 1) := dq_of dqX10_fits_0 31 rfl
theorem dX10_fits_56 : decode cX10_fits 56 = .ok (.iaload, 1) := dq_of dqX10_fits_0 32 rfl
theorem dX10_fits_57 : decode cX10_fits 57 = .ok (.aload_n 0, 1) := dq_of dqX10_fits_0 33 rfl
theorem dX10_fits_58 : decode cX10_fits 58 = .ok (.getfield 43, 3) := dq_of dqX10_fits_0 34 rfl
theorem dX10_fits_61 : decode cX10_fits 61 = .ok (.iload_n 1, 1) := dq_of dqX10_fits_0 35 rfl
theorem dX10_fits_62 : decode cX10_fits 62 = .ok (.iaload, 1) := dq_of dqX10_fits_0 36 rfl
theorem dX10_fits_63 : decode cX10_fits 63 = .ok (.iadd, 1) := dq_of dqX10_fits_0 37 rfl
theorem dX10_fits_64 : decode cX10_fits 64 = .ok (.istore 4, 2) := dq_of dqX10_fits_0 38 rfl
theorem dX10_fits_66 : decode cX10_fits 66 = .ok (.iload_n 3, 1) := dq_of dqX10_fits_0 39 rfl
theorem dqX10_fits_67 : ([(67, .iload 4, 2), (69, .if_icmp .ge 20, 3), (72, .aload_n 0, 1), (73, .getfield 50, 3), (76, .iload_n 3, 1), (77, .baload, 1), (78, .bipush 48, 2), (80, .if_icmp .ne 9, 3), (83, .iinc 3 1, 3), (86, .goto (-20), 3), (89, .iload_n 3, 1), (90, .iload 4, 2), (92, .if_icmp .ne 5, 3), (95, .iconst 1, 1), (96, .ireturn, 1), (97, .aload_n 0, 1), (98, .getfield 37, 3), (101, .iload_n 1, 1), (102, .iaload, 1), (103, .bipush 10, 2), (105, .if_icmp .ne 14, 3), (108, .aload_n 0, 1), (109, .iload_n 3, 1), (110, .iload 4, 2), (112, .iload_n 3, 1), (113, .isub, 1), (114, .iload_n 2, 1), (115, .invokevirtual 279, 3), (118, .ireturn, 1), (119, .aload_n 0, 1), (120, .getfield 37, 3), (123, .iload_n 1, 1), (124, .iaload, 1), (125, .iconst 2, 1), (126, .if_icmp .ne 7, 3), (129, .iconst 1, 1), (130, .goto 19, 3), (133, .aload_n 0, 1), (134, .getfield 37, 3), (137, .iload_n 1, 1)] : List (Nat × Instr × Nat)).all (fun q => decide (decode cX10_fits q.1 = .ok (q.2.1, q.2.2))) = true := by decide +kernel
theorem dX10_fits_67 : decode cX10_fits 67 = .ok (.iload 4, 2) := dq_of dqX10_fits_67 0 rfl
theorem dX10_fits_69 : decode cX10_fits 69 = .ok (.if_icmp .ge 20, 3) := dq_of dqX10_fits_67 1 rfl
theorem dX10_fits_72 : decode cX10_fits 72 = .ok (.aload_n 0, 1) := dq_of dqX10_fits_67 2 rfl
theorem dX10_fits_73 : decode cX10_fits 73 = .ok (.getfield 50, 3) := dq_of dqX10_fits_67 3 rfl
theorem dX10_fits_76 : decode cX10_fits 76 = .ok (.iload_n 3, 1) := dq_of dqX10_fits_67 4 rfl
theorem dX10_fits_77 : decode cX10_fits 77 = .ok (.baload, 1) := dq_of dqX10_fits_67 5 rfl
theorem dX10_fits_78 : decode cX10_fits 78 = .ok (.bipush 48, 2) := dq_of dqX10_fits_67 6 rfl
theorem dX10_fits_80 : decode cX10_fits 80 = .ok (.if_icmp .ne 9, 3) := dq_of dqX10_fits_67 7 rfl
theorem dX10_fits_83 : decode cX10_fits 83 = .ok (.iinc 3 1, 3) := dq_of dqX10_fits_67 8 rfl
theorem dX10_fits_86 : decode cX10_fits 86 = .ok (.goto (-20), 3) := dq_of dqX10_fits_67 9 rfl
theorem dX10_fits_89 : decode cX10_fits 89 = .ok (.iload_n 3, 1) := dq_of dqX10_fits_67 10 rfl
theorem dX10_fits_90 : decode cX10_fits 90 = .ok (.iload 4, 2) := dq_of dqX10_fits_67 11 rfl
theorem dX10_fits_92 : decode cX10_fits 92 = .ok (.if_icmp .ne 5, 3) := dq_of dqX10_fits_67 12 rfl
theorem dX10_fits_95 : decode cX10_fits 95 = .ok (.iconst 1, 1) := dq_of dqX10_fits_67 13 rfl
theorem dX10_fits_96 : decode cX10_fits 96 = .ok (.ireturn, 1) := dq_of dqX10_fits_67 14 rfl
theorem dX10_fits_97 : decode cX10_fits 97 = .ok (.aload_n 0, 1) := dq_of dqX10_fits_67 15 rfl
theorem dX10_fits_98 : decode cX10_fits 98 = .ok (.getfield 37, 3) := dq_of dqX10_fits_67 16 rfl
theorem dX10_fits_101 : decode cX10_fits 101 = .ok (.iload_n 1, 1) := dq_of dqX10_fits_67 17 rfl
theorem dX10_fits_102 : decode cX10_fits 102 = .ok (.iaload, 1) := dq_of dqX10_fits_67 18 rfl
theorem dX10_fits_103 : decode cX10_fits 103 = .ok (.bipush 10, 2) := dq_of dqX10_fits_67 19 rfl
theorem dX10_fits_105 : decode cX10_fits 105 = .ok (.if_icmp .ne 14, 3) := dq_of dqX10_fits_67 20 rfl
theorem dX10_fits_108 : decode cX10_fits 108 = .ok (.aload_n 0, 1) := dq_of dqX10_fits_67 21 rfl
theorem dX10_fits_109 : decode cX10_fits 109 = .ok (.iload_n 3, 1) := dq_of dqX10_fits_67 22 rfl
theorem dX10_fits_110 : decode cX10_fits 110 = .ok (.iload 4, 2) := dq_of dqX10_fits_67 23 rfl
theorem dX10_fits_112 : decode cX10_fits 112 = .ok (.iload_n 3, 1) := dq_of dqX10_fits_67 24 rfl
theorem dX10_fits_113 : decode cX10_fits 113 = .ok (.isub, 1) := dq_of dqX10_fits_67 25 rfl
theorem dX10_fits_114 : decode cX10_fits 114 = .ok (.iload_n 2, 1) := dq_of dqX10_fits_67 26 rfl
theorem dX10_fits_115 : decode cX10_fits 115 = .ok (.invokevirtual 279, 3) := dq_of dqX10_fits_67 27 rfl
theorem dX10_fits_118 : decode cX10_fits 118 = .ok (.ireturn, 1) := dq_of dqX10_fits_67 28 rfl
theorem dX10_fits_119 : decode cX10_fits 119 = .ok (.aload_n 0, 1) := dq_of dqX10_fits_67 29 rfl
theorem dX10_fits_120 : decode cX10_fits 120 = .ok (.getfield 37, 3) := dq_of dqX10_fits_67 30 rfl
theorem dX10_fits_123 : decode cX10_fits 123 = .ok (.iload_n 1, 1) := dq_of dqX10_fits_67 31 rfl
theorem dX10_fits_124 : decode cX10_fits 124 = .ok (.iaload, 1) := dq_of dqX10_fits_67 32 rfl
theorem dX10_fits_125 : decode cX10_fits 125 = .ok (.iconst 2, 1) := dq_of dqX10_fits_67 33 rfl
theorem dX10_fits_126 : decode cX10_fits 126 = .ok (.if_icmp .ne 7, 3) := dq_of dqX10_fits_67 34 rfl
theorem dX10_fits_129 : decode cX10_fits 129 = .ok (.iconst 1, 1) := dq_of dqX10_fits_67 35 rfl
theorem dX10_fits_130 : decode cX10_fits 130 = .ok (.goto 19, 3) := dq_of dqX10_fits_67 36 rfl
theorem dX10_fits_133 : decode cX10_fits 133 = .ok (.aload_n 0, 1) := dq_of dqX10_fits_67 37 rfl
theorem dX10_fits_134 : decode cX10_fits 134 = .ok (.getfield 37, 3) := dq_of dqX10_fits_67 38 rfl
theorem dX10_fits_137 : decode cX10_fits 137 = .ok (.iload_n 1, 1) := dq_of dqX10_fits_67 39 rfl
theorem dqX10_fits_138 : ([(138, .iaload, 1), (139, .bipush 8, 2), (141, .if_icmp .ne 7, 3), (144, .iconst 3, 1), (145, .goto 4, 3), (148, .iconst 4, 1), (149, .istore 5, 2), (151, .aload_n 0, 1), (152, .getfield 50, 3), (155, .iload_n 3, 1), (156, .baload, 1), (157, .invokestatic 147, 3), (160, .istore 6, 2), (162, .iload 5, 2), (164, .iload 4, 2), (166, .iload_n 3, 1), (167, .isub, 1), (168, .iconst 1, 1), (169, .isub, 1), (170, .imul, 1), (171, .iload 6, 2), (173, .bipush 7, 2), (175, .if_icmp .le 7, 3), (178, .iconst 4, 1), (179, .goto 24, 3), (182, .iload 6, 2), (184, .iconst 3, 1), (185, .if_icmp .le 7, 3), (188, .iconst 3, 1), (189, .goto 14, 3), (192, .iload 6, 2), (194, .iconst 1, 1), (195, .if_icmp .le 7, 3), (198, .iconst 2, 1), (199, .goto 4, 3), (202, .iconst 1, 1), (203, .iadd, 1), (204, .istore 7, 2), (206, .iload 7, 2), (208, .iload_n 2, 1)] : List (Nat × Instr × Nat)).all (fun q => decide (decode cX10_fits q.1 = .ok (q.2.1, q.2.2))) = true := by decide +kernel
theorem dX10_fits_138 : decode cX10_fits 138 = .ok (.iaload, 1) := dq_of dqX10_fits_138 0 rfl
theorem dX10_fits_139 : decode cX10_fits 139 = .ok (.bipush 8, 2) := dq_of dqX10_fits_138 1 rfl
theorem dX10_fits_141 : decode cX10_fits 141 = .ok (.if_icmp .ne 7, 3) := dq_of dqX10_fits_138 2 rfl
theorem dX10_fits_144 : decode cX10_fits 144 = .ok (.iconst 3, 1) := dq_of dqX10_fits_138 3 rfl
theorem dX10_fits_145 : decode cX10_fits 145 = .ok (.goto 4, 3) := dq_of dqX10_fits_138 4 rfl
theorem dX10_fits_148 : decode cX10_fits 148 = .ok (.iconst 4, 1) := dq_of dqX10_fits_138 5 rfl
theorem dX10_fits_149 : decode cX10_fits 149 = .ok (.istore 5, 2) := dq_of dqX10_fits_138 6 rfl
theorem dX10_fits_151 : decode cX10_fits 151 = .ok (.aload_n 0, 1) := dq_of dqX10_fits_138 7 rfl
theorem dX10_fits_152 : decode cX10_fits 152 = .ok (.getfield 50, 3) := dq_of dqX10_fits_138 8 rfl
theorem dX10_fits_155 : decode cX10_fits 155 = .ok (.iload_n 3, 1) := dq_of dqX10_fits_138 9 rfl
theorem dX10_fits_156 : decode cX10_fits 156 = .ok (.baload, 1) := dq_of dqX10_fits_138 10 rfl
theorem dX10_fits_157 : decode cX10_fits 157 = .ok (.invokestatic 147, 3) := dq_of dqX10_fits_138 11 rfl
theorem dX10_fits_160 : decode cX10_fits 160 = .ok (.istore 6, 2) := dq_of dqX10_fits_138 12 rfl
theorem dX10_fits_162 : decode cX10_fits 162 = .ok (.iload 5, 2) := dq_of dqX10_fits_138 13 rfl
theorem dX10_fits_164 : decode cX10_fits 164 = .ok (.iload 4, 2) := dq_of dqX10_fits_138 14 rfl
theorem dX10_fits_166 : decode cX10_fits 166 = .ok (.iload_n 3, 1) := dq_of dqX10_fits_138 15 rfl
theorem dX10_fits_167 : decode cX10_fits 167 = .ok (.isub, 1) := dq_of dqX10_fits_138 16 rfl
theorem dX10_fits_168 : decode cX10_fits 168 = .ok (.iconst 1, 1) := dq_of dqX10_fits_138 17 rfl
theorem dX10_fits_169 : decode cX10_fits 169 = .ok (.isub, 1) := dq_of dqX10_fits_138 18 rfl
theorem dX10_fits_170 : decode cX10_fits 170 = .ok (.imul, 1) := dq_of dqX10_fits_138 19 rfl
theorem dX10_fits_171 : decode cX10_fits 171 = .ok (.iload 6, 2) := dq_of dqX10_fits_138 20 rfl
theorem dX10_fits_173 : decode cX10_fits 173 = .ok (.bipush 7, 2) := dq_of dqX10_fits_138 21 rfl
theorem dX10_fits_175 : decode cX10_fits 175 = .ok (.if_icmp .le 7, 3) := dq_of dqX10_fits_138 22 rfl
theorem dX10_fits_178 : decode cX10_fits 178 = .ok (.iconst 4, 1) := dq_of dqX10_fits_138 23 rfl
theorem dX10_fits_179 : decode cX10_fits 179 = .ok (.goto 24, 3) := dq_of dqX10_fits_138 24 rfl
theorem dX10_fits_182 : decode cX10_fits 182 = .ok (.iload 6, 2) := dq_of dqX10_fits_138 25 rfl
theorem dX10_fits_184 : decode cX10_fits 184 = .ok (.iconst 3, 1) := dq_of dqX10_fits_138 26 rfl
theorem dX10_fits_185 : decode cX10_fits 185 = .ok (.if_icmp .le 7, 3) := dq_of dqX10_fits_138 27 rfl
theorem dX10_fits_188 : decode cX10_fits 188 = .ok (.iconst 3, 1) := dq_of dqX10_fits_138 28 rfl
theorem dX10_fits_189 : decode cX10_fits 189 = .ok (.goto 14, 3) := dq_of dqX10_fits_138 29 rfl
theorem dX10_fits_192 : decode cX10_fits 192 = .ok (.iload 6, 2) := dq_of dqX10_fits_138 30 rfl
theorem dX10_fits_194 : decode cX10_fits 194 = .ok (.iconst 1, 1) := dq_of dqX10_fits_138 31 rfl
theorem dX10_fits_195 : decode cX10_fits 195 = .ok (.if_icmp .le 7, 3) := dq_of dqX10_fits_138 32 rfl
theorem dX10_fits_198 : decode cX10_fits 198 = .ok (.iconst 2, 1) := dq_of dqX10_fits_138 33 rfl
theorem dX10_fits_199 : decode cX10_fits 199 = .ok (.goto 4, 3) := dq_of dqX10_fits_138 34 rfl
theorem dX10_fits_202 : decode cX10_fits 202 = .ok (.iconst 1, 1) := dq_of dqX10_fits_138 35 rfl
theorem dX10_fits_203 : decode cX10_fits 203 = .ok (.iadd, 1) := dq_of dqX10_fits_138 36 rfl
theorem dX10_fits_204 : decode cX10_fits 204 = .ok (.istore 7, 2) := dq_of dqX10_fits_138 37 rfl
theorem dX10_fits_206 : decode cX10_fits 206 = .ok (.iload 7, 2) := dq_of dqX10_fits_138 38 rfl
theorem dX10_fits_208 : decode cX10_fits 208 = .ok (.iload_n 2, 1) := dq_of dqX10_fits_138 39 rfl
theorem dqX10_fits_209 : ([(209, .if_icmp .gt 7, 3), (212, .iconst 1, 1), (213, .goto 4, 3), (216, .iconst 0, 1), (217, .ireturn, 1)] : List (Nat × Instr × Nat)).all (fun q => decide (decode cX10_fits q.1 = .ok (q.2.1, q.2.2))) = true := by decide +kernel
theorem dX10_fits_209 : decode cX10_fits 209 = .ok (.if_icmp .gt 7, 3) := dq_of dqX10_fits_209 0 rfl
theorem dX10_fits_212 : decode cX10_fits 212 = .ok (.iconst 1, 1) := dq_of dqX10_fits_209 1 rfl
theorem dX10_fits_213 : decode cX10_fits 213 = .ok (.goto 4, 3) := dq_of dqX10_fits_209 2 rfl
theorem dX10_fits_216 : decode cX10_fits 216 = .ok (.iconst 0, 1) := dq_of dqX10_fits_209 3 rfl
theorem dX10_fits_217 : decode cX10_fits 217 = .ok (.ireturn, 1) := dq_of dqX10_fits_209 4 rfl
theorem dqX10_below_0 : ([(0, .iload_n 2, 1), (1, .sipush 155, 3), (4, .if_icmp .le 5, 3), (7, .iconst 0, 1), (8, .ireturn, 1), (9, .iconst 0, 1), (10, .istore 4, 2), (12, .iload 4, 2), (14, .sipush 160, 3), (17, .if_icmp .ge 17, 3), (20, .aload_n 0, 1), (21, .getfield 62, 3), (24, .iload 4, 2), (26, .iconst 0, 1), (27, .iastore, 1), (28, .iinc 4 1, 3), (31, .goto (-19), 3), (34, .aload_n 0, 1), (35, .getfield 62, 3), (38, .iconst 0, 1), (39, .iconst 1, 1), (40, .iastore, 1), (41, .iconst 0, 1), (42, .istore 4, 2), (44, .iload 4, 2), (46, .iload_n 3, 1), (47, .if_icmp .ge 62, 3), (50, .iconst 0, 1), (51, .istore 5, 2), (53, .iconst 0, 1), (54, .istore 6, 2), (56, .iload 6, 2), (58, .sipush 160, 3), (61, .if_icmp .ge 42, 3), (64, .iconst 2, 1), (65, .aload_n 0, 1), (66, .getfield 62, 3), (69, .iload 6, 2), (71, .iaload, 1), (72, .imul, 1)] : List (Nat × Instr × Nat)).all (fun q => decide (decode cX10_below q.1 = .ok (q.2.1, q.2.2))) = true := by decide +kernel
theorem dX10_below_0 : decode cX10_below 0 = .ok (.iload_n 2, 1) := dq_of dqX10_below_0 0 rfl
theorem dX10_below_1 : decode cX10_below 1 = .ok (.sipush 155, 3) := dq_of dqX10_below_0 1 rfl
theorem dX10_below_4 : decode cX10_below 4 = .ok (.if_icmp .le 5, 3) := dq_of dqX10_below_0 2 rfl
theorem dX10_below_7 : decode cX10_below 7 = .ok (.iconst 0, 1) := dq_of dqX10_below_0 3 rfl
theorem dX10_below_8 : decode cX10_below 8 = .ok (.ireturn, 1) := dq_of dqX10_below_0 4 rfl
theorem dX10_below_9 : decode cX10_below 9 = .ok (.iconst 0, 1) := dq_of dqX10_below_0 5 rfl
theorem dX10_below_10 : decode cX10_below 10 = .ok (.istore 4, 2) := dq_of dqX10_below_0 6 rfl
theorem dX10_below_12 : decode cX10_below 12 = .ok (.iload 4, 2) := dq_of dqX10_below_0 7 rfl
theorem dX10_below_14 : decode cX10_below 14 = .ok (.sipush 160, 3) := dq_of dqX10_below_0 8 rfl
theorem dX10_below_17 : decode cX10_below 17 = .ok (.if_icmp .ge 17, 3) := dq_of dqX10_below_0 9 rfl
theorem dX10_below_20 : decode cX10_below 20 = .ok (.aload_n 0, 1) := dq_of dqX10_below_0 10 rfl
theorem dX10_below_21 : decode cX10_below 21 = .ok (.getfield 62, 3) := dq_of dqX10_below_0 11 rfl
theorem dX10_below_24 : decode cX10_below 24 = .ok (.iload 4, 2) := dq_of dqX10_below_0 12 rfl
theorem dX10_below_26 : decode cX10_below 26 = .ok (.iconst 0, 1) := dq_of dqX10_below_0 13 rfl
theorem dX10_below_27 : decode cX10_below 27 = .ok (.iastore, 1) := dq_of dqX10_below_0 14 rfl
theorem dX10_below_28 : decode cX10_below 28 = .ok (.iinc 4 1, 3) := dq_of dqX10_below_0 15 rfl
theorem dX10_below_31 : decode cX10_below 31 = .ok (.goto (-19), 3) := dq_of dqX10_below_0 16 rfl
theorem dX10_below_34 : decode cX10_below 34 = .ok (.aload_n 0, 1) := dq_of dqX10_below_0 17 rfl
theorem dX10_below_35 : decode cX10_below 35 = .ok (.getfield 62, 3) := dq_of dqX10_below_0 18 rfl
theorem dX10_below_38 : decode cX10_below 38 = .ok (.iconst 0, 1) := dq_of dqX10_below_0 19 rfl
theorem dX10_below_39 : decode cX10_below 39 = .ok (.iconst 1, 1) := dq_of dqX10_below_0 20 rfl
theorem dX10_below_40 : decode cX10_below 40 = .ok (.iastore, 1) := dq_of dqX10_below_0 21 rfl
theorem dX10_below_41 : decode cX10_below 41 = .ok (.iconst 0, 1) := dq_of dqX10_below_0 22 rfl
theorem dX10_below_42 : decode cX10_below 42 = .ok (.istore 4, 2) := dq_of dqX10_below_0 23 rfl
theorem dX10_below_44 : decode cX10_below 44 = .ok (.iload 4, 2) := dq_of dqX10_below_0 24 rfl
theorem dX10_below_46 : decode cX10_below 46 = .ok (.iload_n 3, 1) := dq_of dqX10_below_0 25 rfl
theorem dX10_below_47 : decode cX10_below 47 = .ok (.if_icmp .ge 62, 3) := dq_of dqX10_below_0 26 rfl
theorem dX10_below_50 : decode cX10_below 50 = .ok (.iconst 0, 1) := dq_of dqX10_below_0 27 rfl
theorem dX10_below_51 : decode cX10_below 51 = .ok (.istore 5, 2) := dq_of dqX10_below_0 28 rfl
theorem dX10_below_53 : decode cX10_below 53 = .ok (.iconst 0, 1) := dq_of dqX10_below_0 29 rfl
theorem dX10_below_54 : decode cX10_below 54 = .ok (.istore 6, 2) := dq_of dqX10_below_0 30 rfl
theorem dX10_below_56 : decode cX10_below 56 = .ok (.iload 6, 2) := dq_of dqX10_below_0 31 rfl
theorem dX10_below_58 : decode cX10_below 58 = .ok (.sipush 160, 3) := dq_of dqX10_below_0 32 rfl
theorem dX10_below_61 : decode cX10_below 61 = .ok (.if_icmp .ge 42, 3) := dq_of dqX10_below_0 33 rfl
theorem dX10_below_64 : decode cX10_below 64 = .ok (.iconst 2, 1) := dq_of dqX10_below_0 34 rfl
theorem dX10_below_65 : decode cX10_below 65 = .ok (.aload_n 0, 1) := dq_of dqX10_below_0 35 rfl
theorem dX10_below_66 : decode cX10_below 66 = .ok (.getfield 62, 3) := dq_of dqX10_below_0 36 rfl
theorem dX10_below_69 : decode cX10_below 69 = .ok (.iload 6, 2) := dq_of dqX10_below_0 37 rfl
theorem dX10_below_71 : decode cX10_below 71 = .ok (.iaload, 1) := dq_of dqX10_below_0 38 rfl
theorem dX10_below_72 : decode cX10_below 72 = .ok (.imul, 1) := dq_of dqX10_below_0 39 rfl
theorem dqX10_below_73 : ([(73, .iload 5, 2), (75, .iadd, 1), (76, .istore 7, 2), (78, .aload_n 0, 1), (79, .getfield 62, 3), (82, .iload 6, 2), (84, .iload 7, 2), (86, .bipush 10, 2), (88, .irem, 1), (89, .iastore, 1), (90, .iload 7, 2), (92, .bipush 10, 2), (94, .idiv, 1), (95, .istore 5, 2), (97, .iinc 6 1, 3), (100, .goto (-44), 3), (103, .iinc 4 1, 3), (106, .goto (-62), 3), (109, .sipush 159, 3), (112, .istore 4, 2), (114, .iload 4, 2), (116, .ifCond .lt 67, 3), (119, .iload 4, 2), (121, .iload_n 2, 1), (122, .if_icmp .ge 22, 3), (125, .aload_n 0, 1), (126, .getfield 50, 3), (129, .iload_n 1, 1), (130, .iload_n 2, 1), (131, .iadd, 1), (132, .iconst 1, 1), (133, .isub, 1), (134, .iload 4, 2), (136, .isub, 1), (137, .baload, 1), (138, .bipush 48, 2), (140, .isub, 1), (141, .goto 4, 3), (144, .iconst 0, 1), (145, .istore 5, 2)] : List (Nat × Instr × Nat)).all (fun q => decide (decode cX10_below q.1 = .ok (q.2.1, q.2.2))) = true := by decide +kernel
theorem dX10_below_73 : decode cX10_below 73 = .ok (.iload 5, 2) := dq_of dqX10_below_73 0 rfl
theorem dX10_below_75 : decode cX10_below 75 = .ok (.iadd, 1) := dq_of dqX10_below_73 1 rfl
theorem dX10_below_76 : decode cX10_below 76 = .ok (.istore 7, 2) := dq_of dqX10_below_73 2 rfl
theorem dX10_below_78 : decode cX10_below 78 = .ok (.aload_n 0, 1) := dq_of dqX10_below_73 3 rfl
theorem dX10_below_79 : decode cX10_below 79 = .ok (.getfield 62, 3) := dq_of dqX10_below_73 4 rfl
theorem dX10_below_82 : decode cX10_below 82 = .ok (.iload 6, 2) := dq_of dqX10_below_73 5 rfl
theorem dX10_below_84 : decode cX10_below 84 = .ok (.iload 7, 2) := dq_of dqX10_below_73 6 rfl
theorem dX10_below_86 : decode cX10_below 86 = .ok (.bipush 10, 2) := dq_of dqX10_below_73 7 rfl
theorem dX10_below_88 : decode cX10_below 88 = .ok (.irem, 1) := dq_of dqX10_below_73 8 rfl
theorem dX10_below_89 : decode cX10_below 89 = .ok (.iastore, 1) := dq_of dqX10_below_73 9 rfl
theorem dX10_below_90 : decode cX10_below 90 = .ok (.iload 7, 2) := dq_of dqX10_below_73 10 rfl
theorem dX10_below_92 : decode cX10_below 92 = .ok (.bipush 10, 2) := dq_of dqX10_below_73 11 rfl
theorem dX10_below_94 : decode cX10_below 94 = .ok (.idiv, 1) := dq_of dqX10_below_73 12 rfl
theorem dX10_below_95 : decode cX10_below 95 = .ok (.istore 5, 2) := dq_of dqX10_below_73 13 rfl
theorem dX10_below_97 : decode cX10_below 97 = .ok (.iinc 6 1, 3) := dq_of dqX10_below_73 14 rfl
theorem dX10_below_100 : decode cX10_below 100 = .ok (.goto (-44), 3) := dq_of dqX10_below_73 15 rfl
theorem dX10_below_103 : decode cX10_below 103 = .ok (.iinc 4 1, 3) := dq_of dqX10_below_73 16 rfl
theorem dX10_below_106 : decode cX10_below 106 = .ok (.goto (-62), 3) := dq_of dqX10_below_73 17 rfl
theorem dX10_below_109 : decode cX10_below 109 = .ok (.sipush 159, 3) := dq_of dqX10_below_73 18 rfl
theorem dX10_below_112 : decode cX10_below 112 = .ok (.istore 4, 2) := dq_of dqX10_below_73 19 rfl
theorem dX10_below_114 : decode cX10_below 114 = .ok (.iload 4, 2) := dq_of dqX10_below_73 20 rfl
theorem dX10_below_116 : decode cX10_below 116 = .ok (.ifCond .lt 67, 3) := dq_of dqX10_below_73 21 rfl
theorem dX10_below_119 : decode cX10_below 119 = .ok (.iload 4, 2) := dq_of dqX10_below_73 22 rfl
theorem dX10_below_121 : decode cX10_below 121 = .ok (.iload_n 2, 1) := dq_of dqX10_below_73 23 rfl
theorem dX10_below_122 : decode cX10_below 122 = .ok (.if_icmp .ge 22, 3) := dq_of dqX10_below_73 24 rfl
theorem dX10_below_125 : decode cX10_below 125 = .ok (.aload_n 0, 1) := dq_of dqX10_below_73 25 rfl
theorem dX10_below_126 : decode cX10_below 126 = .ok (.getfield 50, 3) := dq_of dqX10_below_73 26 rfl
theorem dX10_below_129 : decode cX10_below 129 = .ok (.iload_n 1, 1) := dq_of dqX10_below_73 27 rfl
theorem dX10_below_130 : decode cX10_below 130 = .ok (.iload_n 2, 1) := dq_of dqX10_below_73 28 rfl
theorem dX10_below_131 : decode cX10_below 131 = .ok (.iadd, 1) := dq_of dqX10_below_73 29 rfl
theorem dX10_below_132 : decode cX10_below 132 = .ok (.iconst 1, 1) := dq_of dqX10_below_73 30 rfl
theorem dX10_below_133 : decode cX10_below 133 = .ok (.isub, 1) := dq_of dqX10_below_73 31 rfl
theorem dX10_below_134 : decode cX10_below 134 = .ok (.iload 4, 2) := dq_of dqX10_below_73 32 rfl
theorem dX10_below_136 : decode cX10_below 136 = .ok (.isub, 1) := dq_of dqX10_below_73 33 rfl
theorem dX10_below_137 : decode cX10_below 137 = .ok (.baload, 1) := dq_of dqX10_below_73 34 rfl
theorem dX10_below_138 : decode cX10_below 138 = .ok (.bipush 48, 2) := dq_of dqX10_below_73 35 rfl
theorem dX10_below_140 : decode cX10_below 140 = .ok (.isub, 1) := dq_of dqX10_below_73 36 rfl
theorem dX10_below_141 : decode cX10_below 141 = .ok (.goto 4, 3) := dq_of dqX10_below_73 37 rfl
theorem dX10_below_144 : decode cX10_below 144 = .ok (.iconst 0, 1) := dq_of dqX10_below_73 38 rfl
theorem dX10_below_145 : decode cX10_below 145 = .ok (.istore 5, 2) := dq_of dqX10_below_73 39 rfl
theorem dqX10_below_147 : ([(147, .iload 5, 2), (149, .aload_n 0, 1), (150, .getfield 62, 3), (153, .iload 4, 2), (155, .iaload, 1), (156, .if_icmp .eq 21, 3), (159, .iload 5, 2), (161, .aload_n 0, 1), (162, .getfield 62, 3), (165, .iload 4, 2), (167, .iaload, 1), (168, .if_icmp .ge 7, 3), (171, .iconst 1, 1), (172, .goto 4, 3), (175, .iconst 0, 1), (176, .ireturn, 1), (177, .iinc 4 (-1), 3), (180, .goto (-66), 3), (183, .iconst 0, 1), (184, .ireturn, 1)] : List (Nat × Instr × Nat)).all (fun q => decide (decode cX10_below q.1 = .ok (q.2.1, q.2.2))) = true := by decide +kernel
theorem dX10_below_147 : decode cX10_below 147 = .ok (.iload 5, 2) := dq_of dqX10_below_147 0 rfl
theorem dX10_below_149 : decode cX10_below 149 = .ok (.aload_n 0, 1) := dq_of dqX10_below_147 1 rfl
theorem dX10_below_150 : decode cX10_below 150 = .ok (.getfield 62, 3) := dq_of dqX10_below_147 2 rfl
theorem dX10_below_153 : decode cX10_below 153 = .ok (.iload 4, 2) := dq_of dqX10_below_147 3 rfl
theorem dX10_below_155 : decode cX10_below 155 = .ok (.iaload, 1) := dq_of dqX10_below_147 4 rfl
theorem dX10_below_156 : decode cX10_below 156 = .ok (.if_icmp .eq 21, 3) := dq_of dqX10_below_147 5 rfl
theorem dX10_below_159 : decode cX10_below 159 = .ok (.iload 5, 2) := dq_of dqX10_below_147 6 rfl
theorem dX10_below_161 : decode cX10_below 161 = .ok (.aload_n 0, 1) := dq_of dqX10_below_147 7 rfl
theorem dX10_below_162 : decode cX10_below 162 = .ok (.getfield 62, 3) := dq_of dqX10_below_147 8 rfl
theorem dX10_below_165 : decode cX10_below 165 = .ok (.iload 4, 2) := dq_of dqX10_below_147 9 rfl
theorem dX10_below_167 : decode cX10_below 167 = .ok (.iaload, 1) := dq_of dqX10_below_147 10 rfl
theorem dX10_below_168 : decode cX10_below 168 = .ok (.if_icmp .ge 7, 3) := dq_of dqX10_below_147 11 rfl
theorem dX10_below_171 : decode cX10_below 171 = .ok (.iconst 1, 1) := dq_of dqX10_below_147 12 rfl
theorem dX10_below_172 : decode cX10_below 172 = .ok (.goto 4, 3) := dq_of dqX10_below_147 13 rfl
theorem dX10_below_175 : decode cX10_below 175 = .ok (.iconst 0, 1) := dq_of dqX10_below_147 14 rfl
theorem dX10_below_176 : decode cX10_below 176 = .ok (.ireturn, 1) := dq_of dqX10_below_147 15 rfl
theorem dX10_below_177 : decode cX10_below 177 = .ok (.iinc 4 (-1), 3) := dq_of dqX10_below_147 16 rfl
theorem dX10_below_180 : decode cX10_below 180 = .ok (.goto (-66), 3) := dq_of dqX10_below_147 17 rfl
theorem dX10_below_183 : decode cX10_below 183 = .ok (.iconst 0, 1) := dq_of dqX10_below_147 18 rfl
theorem dX10_below_184 : decode cX10_below 184 = .ok (.ireturn, 1) := dq_of dqX10_below_147 19 rfl
