theorem dq_of {c : ByteArray} {L : List (Nat × Instr × Nat)} (h : L.all (fun q => decide (decode c q.1 = .ok (q.2.1, q.2.2))) = true) (k : Nat) {pc n : Nat} {i : Instr} (e : L[k]? = some (pc, i, n)) : decode c pc = .ok (i, n) := by
  have h1 := List.all_eq_true.mp h _ (List.mem_of_getElem? e)
  exact of_decide_eq_true h1
theorem dqX0_init_0 : ([(0, .aload_n 0, 1), (1, .invokespecial 3, 3), (4, .aload_n 0, 1), (5, .sipush 256, 3), (8, .newarray .byte, 2), (10, .putfield 9, 3), (13, .aload_n 0, 1), (14, .iconst 0, 1), (15, .putfield 15, 3), (18, .return_, 1)] : List (Nat × Instr × Nat)).all (fun q => decide (decode cX0_init q.1 = .ok (q.2.1, q.2.2))) = true := by decide +kernel
theorem dX0_init_0 : decode cX0_init 0 = .ok (.aload_n 0, 1) := dq_of dqX0_init_0 0 rfl
theorem dX0_init_1 : decode cX0_init 1 = .ok (.invokespecial 3, 3) := dq_of dqX0_init_0 1 rfl
theorem dX0_init_4 : decode cX0_init 4 = .ok (.aload_n 0, 1) := dq_of dqX0_init_0 2 rfl
theorem dX0_init_5 : decode cX0_init 5 = .ok (.sipush 256, 3) := dq_of dqX0_init_0 3 rfl
theorem dX0_init_8 : decode cX0_init 8 = .ok (.newarray .byte, 2) := dq_of dqX0_init_0 4 rfl
theorem dX0_init_10 : decode cX0_init 10 = .ok (.putfield 9, 3) := dq_of dqX0_init_0 5 rfl
theorem dX0_init_13 : decode cX0_init 13 = .ok (.aload_n 0, 1) := dq_of dqX0_init_0 6 rfl
theorem dX0_init_14 : decode cX0_init 14 = .ok (.iconst 0, 1) := dq_of dqX0_init_0 7 rfl
theorem dX0_init_15 : decode cX0_init 15 = .ok (.putfield 15, 3) := dq_of dqX0_init_0 8 rfl
theorem dX0_init_18 : decode cX0_init 18 = .ok (.return_, 1) := dq_of dqX0_init_0 9 rfl
theorem dqX0_append_0 : ([(0, .aload_n 0, 1), (1, .getfield 15, 3), (4, .aload_n 0, 1), (5, .getfield 9, 3), (8, .arraylength, 1), (9, .if_icmp .lt 31, 3), (12, .aload_n 0, 1), (13, .getfield 9, 3), (16, .arraylength, 1), (17, .ldc 19, 2), (19, .if_icmp .ge 21, 3), (22, .aload_n 0, 1), (23, .aload_n 0, 1), (24, .getfield 9, 3), (27, .aload_n 0, 1), (28, .getfield 9, 3), (31, .arraylength, 1), (32, .iconst 2, 1), (33, .imul, 1), (34, .invokestatic 20, 3), (37, .putfield 9, 3), (40, .aload_n 0, 1), (41, .getfield 15, 3), (44, .aload_n 0, 1), (45, .getfield 9, 3), (48, .arraylength, 1), (49, .if_icmp .ge 24, 3), (52, .aload_n 0, 1), (53, .getfield 9, 3), (56, .aload_n 0, 1), (57, .getfield 15, 3), (60, .iload_n 1, 1), (61, .i2b, 1), (62, .bastore, 1), (63, .aload_n 0, 1), (64, .dup, 1), (65, .getfield 15, 3), (68, .iconst 1, 1), (69, .iadd, 1), (70, .putfield 15, 3)] : List (Nat × Instr × Nat)).all (fun q => decide (decode cX0_append q.1 = .ok (q.2.1, q.2.2))) = true := by decide +kernel
theorem dX0_append_0 : decode cX0_append 0 = .ok (.aload_n 0, 1) := dq_of dqX0_append_0 0 rfl
theorem dX0_append_1 : decode cX0_append 1 = .ok (.getfield 15, 3) := dq_of dqX0_append_0 1 rfl
theorem dX0_append_4 : decode cX0_append 4 = .ok (.aload_n 0, 1) := dq_of dqX0_append_0 2 rfl
theorem dX0_append_5 : decode cX0_append 5 = .ok (.getfield 9, 3) := dq_of dqX0_append_0 3 rfl
theorem dX0_append_8 : decode cX0_append 8 = .ok (.arraylength, 1) := dq_of dqX0_append_0 4 rfl
theorem dX0_append_9 : decode cX0_append 9 = .ok (.if_icmp .lt 31, 3) := dq_of dqX0_append_0 5 rfl
theorem dX0_append_12 : decode cX0_append 12 = .ok (.aload_n 0, 1) := dq_of dqX0_append_0 6 rfl
theorem dX0_append_13 : decode cX0_append 13 = .ok (.getfield 9, 3) := dq_of dqX0_append_0 7 rfl
theorem dX0_append_16 : decode cX0_append 16 = .ok (.arraylength, 1) := dq_of dqX0_append_0 8 rfl
theorem dX0_append_17 : decode cX0_append 17 = .ok (.ldc 19, 2) := dq_of dqX0_append_0 9 rfl
theorem dX0_append_19 : decode cX0_append 19 = .ok (.if_icmp .ge 21, 3) := dq_of dqX0_append_0 10 rfl
theorem dX0_append_22 : decode cX0_append 22 = .ok (.aload_n 0, 1) := dq_of dqX0_append_0 11 rfl
theorem dX0_append_23 : decode cX0_append 23 = .ok (.aload_n 0, 1) := dq_of dqX0_append_0 12 rfl
theorem dX0_append_24 : decode cX0_append 24 = .ok (.getfield 9, 3) := dq_of dqX0_append_0 13 rfl
theorem dX0_append_27 : decode cX0_append 27 = .ok (.aload_n 0, 1) := dq_of dqX0_append_0 14 rfl
theorem dX0_append_28 : decode cX0_append 28 = .ok (.getfield 9, 3) := dq_of dqX0_append_0 15 rfl
theorem dX0_append_31 : decode cX0_append 31 = .ok (.arraylength, 1) := dq_of dqX0_append_0 16 rfl
theorem dX0_append_32 : decode cX0_append 32 = .ok (.iconst 2, 1) := dq_of dqX0_append_0 17 rfl
theorem dX0_append_33 : decode cX0_append 33 = .ok (.imul, 1) := dq_of dqX0_append_0 18 rfl
theorem dX0_append_34 : decode cX0_append 34 = .ok (.invokestatic 20, 3) := dq_of dqX0_append_0 19 rfl
theorem dX0_append_37 : decode cX0_append 37 = .ok (.putfield 9, 3) := dq_of dqX0_append_0 20 rfl
theorem dX0_append_40 : decode cX0_append 40 = .ok (.aload_n 0, 1) := dq_of dqX0_append_0 21 rfl
theorem dX0_append_41 : decode cX0_append 41 = .ok (.getfield 15, 3) := dq_of dqX0_append_0 22 rfl
theorem dX0_append_44 : decode cX0_append 44 = .ok (.aload_n 0, 1) := dq_of dqX0_append_0 23 rfl
theorem dX0_append_45 : decode cX0_append 45 = .ok (.getfield 9, 3) := dq_of dqX0_append_0 24 rfl
theorem dX0_append_48 : decode cX0_append 48 = .ok (.arraylength, 1) := dq_of dqX0_append_0 25 rfl
theorem dX0_append_49 : decode cX0_append 49 = .ok (.if_icmp .ge 24, 3) := dq_of dqX0_append_0 26 rfl
theorem dX0_append_52 : decode cX0_append 52 = .ok (.aload_n 0, 1) := dq_of dqX0_append_0 27 rfl
theorem dX0_append_53 : decode cX0_append 53 = .ok (.getfield 9, 3) := dq_of dqX0_append_0 28 rfl
theorem dX0_append_56 : decode cX0_append 56 = .ok (.aload_n 0, 1) := dq_of dqX0_append_0 29 rfl
theorem dX0_append_57 : decode cX0_append 57 = .ok (.getfield 15, 3) := dq_of dqX0_append_0 30 rfl
theorem dX0_append_60 : decode cX0_append 60 = .ok (.iload_n 1, 1) := dq_of dqX0_append_0 31 rfl
theorem dX0_append_61 : decode cX0_append 61 = .ok (.i2b, 1) := dq_of dqX0_append_0 32 rfl
theorem dX0_append_62 : decode cX0_append 62 = .ok (.bastore, 1) := dq_of dqX0_append_0 33 rfl
theorem dX0_append_63 : decode cX0_append 63 = .ok (.aload_n 0, 1) := dq_of dqX0_append_0 34 rfl
theorem dX0_append_64 : decode cX0_append 64 = .ok (.dup, 1) := dq_of dqX0_append_0 35 rfl
theorem dX0_append_65 : decode cX0_append 65 = .ok (.getfield 15, 3) := dq_of dqX0_append_0 36 rfl
theorem dX0_append_68 : decode cX0_append 68 = .ok (.iconst 1, 1) := dq_of dqX0_append_0 37 rfl
theorem dX0_append_69 : decode cX0_append 69 = .ok (.iadd, 1) := dq_of dqX0_append_0 38 rfl
theorem dX0_append_70 : decode cX0_append 70 = .ok (.putfield 15, 3) := dq_of dqX0_append_0 39 rfl
theorem dqX0_append_73 : ([(73, .return_, 1)] : List (Nat × Instr × Nat)).all (fun q => decide (decode cX0_append q.1 = .ok (q.2.1, q.2.2))) = true := by decide +kernel
theorem dX0_append_73 : decode cX0_append 73 = .ok (.return_, 1) := dq_of dqX0_append_73 0 rfl
theorem dqX0_appendCode_0 : ([(0, .iload_n 1, 1), (1, .sipush 128, 3), (4, .if_icmp .ge 9, 3), (7, .aload_n 0, 1), (8, .iload_n 1, 1), (9, .invokevirtual 26, 3), (12, .return_, 1), (13, .iload_n 1, 1), (14, .sipush 2048, 3), (17, .if_icmp .ge 18, 3), (20, .aload_n 0, 1), (21, .sipush 192, 3), (24, .iload_n 1, 1), (25, .bipush 6, 2), (27, .ishr, 1), (28, .ior, 1), (29, .invokevirtual 26, 3), (32, .goto 66, 3), (35, .iload_n 1, 1), (36, .ldc 19, 2), (38, .if_icmp .ge 18, 3), (41, .aload_n 0, 1), (42, .sipush 224, 3), (45, .iload_n 1, 1), (46, .bipush 12, 2), (48, .ishr, 1), (49, .ior, 1), (50, .invokevirtual 26, 3), (53, .goto 30, 3), (56, .aload_n 0, 1), (57, .sipush 240, 3), (60, .iload_n 1, 1), (61, .bipush 18, 2), (63, .ishr, 1), (64, .ior, 1), (65, .invokevirtual 26, 3), (68, .aload_n 0, 1), (69, .sipush 128, 3), (72, .iload_n 1, 1), (73, .bipush 12, 2)] : List (Nat × Instr × Nat)).all (fun q => decide (decode cX0_appendCode q.1 = .ok (q.2.1, q.2.2))) = true := by decide +kernel
theorem dX0_appendCode_0 : decode cX0_appendCode 0 = .ok (.iload_n 1, 1) := dq_of dqX0_appendCode_0 0 rfl
theorem dX0_appendCode_1 : decode cX0_appendCode 1 = .ok (.sipush 128, 3) := dq_of dqX0_appendCode_0 1 rfl
theorem dX0_appendCode_4 : decode cX0_appendCode 4 = .ok (.if_icmp .ge 9, 3) := dq_of dqX0_appendCode_0 2 rfl
theorem dX0_appendCode_7 : decode cX0_appendCode 7 = .ok (.aload_n 0, 1) := dq_of dqX0_appendCode_0 3 rfl
theorem dX0_appendCode_8 : decode cX0_appendCode 8 = .ok (.iload_n 1, 1) := dq_of dqX0_appendCode_0 4 rfl
theorem dX0_appendCode_9 : decode cX0_appendCode 9 = .ok (.invokevirtual 26, 3) := dq_of dqX0_appendCode_0 5 rfl
theorem dX0_appendCode_12 : decode cX0_appendCode 12 = .ok (.return_, 1) := dq_of dqX0_appendCode_0 6 rfl
theorem dX0_appendCode_13 : decode cX0_appendCode 13 = .ok (.iload_n 1, 1) := dq_of dqX0_appendCode_0 7 rfl
theorem dX0_appendCode_14 : decode cX0_appendCode 14 = .ok (.sipush 2048, 3) := dq_of dqX0_appendCode_0 8 rfl
theorem dX0_appendCode_17 : decode cX0_appendCode 17 = .ok (.if_icmp .ge 18, 3) := dq_of dqX0_appendCode_0 9 rfl
theorem dX0_appendCode_20 : decode cX0_appendCode 20 = .ok (.aload_n 0, 1) := dq_of dqX0_appendCode_0 10 rfl
theorem dX0_appendCode_21 : decode cX0_appendCode 21 = .ok (.sipush 192, 3) := dq_of dqX0_appendCode_0 11 rfl
theorem dX0_appendCode_24 : decode cX0_appendCode 24 = .ok (.iload_n 1, 1) := dq_of dqX0_appendCode_0 12 rfl
theorem dX0_appendCode_25 : decode cX0_appendCode 25 = .ok (.bipush 6, 2) := dq_of dqX0_appendCode_0 13 rfl
theorem dX0_appendCode_27 : decode cX0_appendCode 27 = .ok (.ishr, 1) := dq_of dqX0_appendCode_0 14 rfl
theorem dX0_appendCode_28 : decode cX0_appendCode 28 = .ok (.ior, 1) := dq_of dqX0_appendCode_0 15 rfl
theorem dX0_appendCode_29 : decode cX0_appendCode 29 = .ok (.invokevirtual 26, 3) := dq_of dqX0_appendCode_0 16 rfl
theorem dX0_appendCode_32 : decode cX0_appendCode 32 = .ok (.goto 66, 3) := dq_of dqX0_appendCode_0 17 rfl
theorem dX0_appendCode_35 : decode cX0_appendCode 35 = .ok (.iload_n 1, 1) := dq_of dqX0_appendCode_0 18 rfl
theorem dX0_appendCode_36 : decode cX0_appendCode 36 = .ok (.ldc 19, 2) := dq_of dqX0_appendCode_0 19 rfl
theorem dX0_appendCode_38 : decode cX0_appendCode 38 = .ok (.if_icmp .ge 18, 3) := dq_of dqX0_appendCode_0 20 rfl
theorem dX0_appendCode_41 : decode cX0_appendCode 41 = .ok (.aload_n 0, 1) := dq_of dqX0_appendCode_0 21 rfl
theorem dX0_appendCode_42 : decode cX0_appendCode 42 = .ok (.sipush 224, 3) := dq_of dqX0_appendCode_0 22 rfl
theorem dX0_appendCode_45 : decode cX0_appendCode 45 = .ok (.iload_n 1, 1) := dq_of dqX0_appendCode_0 23 rfl
theorem dX0_appendCode_46 : decode cX0_appendCode 46 = .ok (.bipush 12, 2) := dq_of dqX0_appendCode_0 24 rfl
theorem dX0_appendCode_48 : decode cX0_appendCode 48 = .ok (.ishr, 1) := dq_of dqX0_appendCode_0 25 rfl
theorem dX0_appendCode_49 : decode cX0_appendCode 49 = .ok (.ior, 1) := dq_of dqX0_appendCode_0 26 rfl
theorem dX0_appendCode_50 : decode cX0_appendCode 50 = .ok (.invokevirtual 26, 3) := dq_of dqX0_appendCode_0 27 rfl
theorem dX0_appendCode_53 : decode cX0_appendCode 53 = .ok (.goto 30, 3) := dq_of dqX0_appendCode_0 28 rfl
theorem dX0_appendCode_56 : decode cX0_appendCode 56 = .ok (.aload_n 0, 1) := dq_of dqX0_appendCode_0 29 rfl
theorem dX0_appendCode_57 : decode cX0_appendCode 57 = .ok (.sipush 240, 3) := dq_of dqX0_appendCode_0 30 rfl
theorem dX0_appendCode_60 : decode cX0_appendCode 60 = .ok (.iload_n 1, 1) := dq_of dqX0_appendCode_0 31 rfl
theorem dX0_appendCode_61 : decode cX0_appendCode 61 = .ok (.bipush 18, 2) := dq_of dqX0_appendCode_0 32 rfl
theorem dX0_appendCode_63 : decode cX0_appendCode 63 = .ok (.ishr, 1) := dq_of dqX0_appendCode_0 33 rfl
theorem dX0_appendCode_64 : decode cX0_appendCode 64 = .ok (.ior, 1) := dq_of dqX0_appendCode_0 34 rfl
theorem dX0_appendCode_65 : decode cX0_appendCode 65 = .ok (.invokevirtual 26, 3) := dq_of dqX0_appendCode_0 35 rfl
theorem dX0_appendCode_68 : decode cX0_appendCode 68 = .ok (.aload_n 0, 1) := dq_of dqX0_appendCode_0 36 rfl
theorem dX0_appendCode_69 : decode cX0_appendCode 69 = .ok (.sipush 128, 3) := dq_of dqX0_appendCode_0 37 rfl
theorem dX0_appendCode_72 : decode cX0_appendCode 72 = .ok (.iload_n 1, 1) := dq_of dqX0_appendCode_0 38 rfl
theorem dX0_appendCode_73 : decode cX0_appendCode 73 = .ok (.bipush 12, 2) := dq_of dqX0_appendCode_0 39 rfl
theorem dqX0_appendCode_75 : ([(75, .ishr, 1), (76, .bipush 63, 2), (78, .iand, 1), (79, .ior, 1), (80, .invokevirtual 26, 3), (83, .aload_n 0, 1), (84, .sipush 128, 3), (87, .iload_n 1, 1), (88, .bipush 6, 2), (90, .ishr, 1), (91, .bipush 63, 2), (93, .iand, 1), (94, .ior, 1), (95, .invokevirtual 26, 3), (98, .aload_n 0, 1), (99, .sipush 128, 3), (102, .iload_n 1, 1), (103, .bipush 63, 2), (105, .iand, 1), (106, .ior, 1), (107, .invokevirtual 26, 3), (110, .return_, 1)] : List (Nat × Instr × Nat)).all (fun q => decide (decode cX0_appendCode q.1 = .ok (q.2.1, q.2.2))) = true := by decide +kernel
theorem dX0_appendCode_75 : decode cX0_appendCode 75 = .ok (.ishr, 1) := dq_of dqX0_appendCode_75 0 rfl
theorem dX0_appendCode_76 : decode cX0_appendCode 76 = .ok (.bipush 63, 2) := dq_of dqX0_appendCode_75 1 rfl
theorem dX0_appendCode_78 : decode cX0_appendCode 78 = .ok (.iand, 1) := dq_of dqX0_appendCode_75 2 rfl
theorem dX0_appendCode_79 : decode cX0_appendCode 79 = .ok (.ior, 1) := dq_of dqX0_appendCode_75 3 rfl
theorem dX0_appendCode_80 : decode cX0_appendCode 80 = .ok (.invokevirtual 26, 3) := dq_of dqX0_appendCode_75 4 rfl
theorem dX0_appendCode_83 : decode cX0_appendCode 83 = .ok (.aload_n 0, 1) := dq_of dqX0_appendCode_75 5 rfl
theorem dX0_appendCode_84 : decode cX0_appendCode 84 = .ok (.sipush 128, 3) := dq_of dqX0_appendCode_75 6 rfl
theorem dX0_appendCode_87 : decode cX0_appendCode 87 = .ok (.iload_n 1, 1) := dq_of dqX0_appendCode_75 7 rfl
theorem dX0_appendCode_88 : decode cX0_appendCode 88 = .ok (.bipush 6, 2) := dq_of dqX0_appendCode_75 8 rfl
theorem dX0_appendCode_90 : decode cX0_appendCode 90 = .ok (.ishr, 1) := dq_of dqX0_appendCode_75 9 rfl
theorem dX0_appendCode_91 : decode cX0_appendCode 91 = .ok (.bipush 63, 2) := dq_of dqX0_appendCode_75 10 rfl
theorem dX0_appendCode_93 : decode cX0_appendCode 93 = .ok (.iand, 1) := dq_of dqX0_appendCode_75 11 rfl
theorem dX0_appendCode_94 : decode cX0_appendCode 94 = .ok (.ior, 1) := dq_of dqX0_appendCode_75 12 rfl
theorem dX0_appendCode_95 : decode cX0_appendCode 95 = .ok (.invokevirtual 26, 3) := dq_of dqX0_appendCode_75 13 rfl
theorem dX0_appendCode_98 : decode cX0_appendCode 98 = .ok (.aload_n 0, 1) := dq_of dqX0_appendCode_75 14 rfl
theorem dX0_appendCode_99 : decode cX0_appendCode 99 = .ok (.sipush 128, 3) := dq_of dqX0_appendCode_75 15 rfl
theorem dX0_appendCode_102 : decode cX0_appendCode 102 = .ok (.iload_n 1, 1) := dq_of dqX0_appendCode_75 16 rfl
theorem dX0_appendCode_103 : decode cX0_appendCode 103 = .ok (.bipush 63, 2) := dq_of dqX0_appendCode_75 17 rfl
theorem dX0_appendCode_105 : decode cX0_appendCode 105 = .ok (.iand, 1) := dq_of dqX0_appendCode_75 18 rfl
theorem dX0_appendCode_106 : decode cX0_appendCode 106 = .ok (.ior, 1) := dq_of dqX0_appendCode_75 19 rfl
theorem dX0_appendCode_107 : decode cX0_appendCode 107 = .ok (.invokevirtual 26, 3) := dq_of dqX0_appendCode_75 20 rfl
theorem dX0_appendCode_110 : decode cX0_appendCode 110 = .ok (.return_, 1) := dq_of dqX0_appendCode_75 21 rfl
theorem dqX0_byteAt_0 : ([(0, .iload_n 1, 1), (1, .ifCond .lt 33, 3), (4, .iload_n 1, 1), (5, .aload_n 0, 1), (6, .getfield 15, 3), (9, .if_icmp .ge 25, 3), (12, .iload_n 1, 1), (13, .aload_n 0, 1), (14, .getfield 9, 3), (17, .arraylength, 1), (18, .if_icmp .ge 16, 3), (21, .aload_n 0, 1), (22, .getfield 9, 3), (25, .iload_n 1, 1), (26, .baload, 1), (27, .sipush 255, 3), (30, .iand, 1), (31, .goto 4, 3), (34, .iconst (-1), 1), (35, .ireturn, 1)] : List (Nat × Instr × Nat)).all (fun q => decide (decode cX0_byteAt q.1 = .ok (q.2.1, q.2.2))) = true := by decide +kernel
theorem dX0_byteAt_0 : decode cX0_byteAt 0 = .ok (.iload_n 1, 1) := dq_of dqX0_byteAt_0 0 rfl
theorem dX0_byteAt_1 : decode cX0_byteAt 1 = .ok (.ifCond .lt 33, 3) := dq_of dqX0_byteAt_0 1 rfl
theorem dX0_byteAt_4 : decode cX0_byteAt 4 = .ok (.iload_n 1, 1) := dq_of dqX0_byteAt_0 2 rfl
theorem dX0_byteAt_5 : decode cX0_byteAt 5 = .ok (.aload_n 0, 1) := dq_of dqX0_byteAt_0 3 rfl
theorem dX0_byteAt_6 : decode cX0_byteAt 6 = .ok (.getfield 15, 3) := dq_of dqX0_byteAt_0 4 rfl
theorem dX0_byteAt_9 : decode cX0_byteAt 9 = .ok (.if_icmp .ge 25, 3) := dq_of dqX0_byteAt_0 5 rfl
theorem dX0_byteAt_12 : decode cX0_byteAt 12 = .ok (.iload_n 1, 1) := dq_of dqX0_byteAt_0 6 rfl
theorem dX0_byteAt_13 : decode cX0_byteAt 13 = .ok (.aload_n 0, 1) := dq_of dqX0_byteAt_0 7 rfl
theorem dX0_byteAt_14 : decode cX0_byteAt 14 = .ok (.getfield 9, 3) := dq_of dqX0_byteAt_0 8 rfl
theorem dX0_byteAt_17 : decode cX0_byteAt 17 = .ok (.arraylength, 1) := dq_of dqX0_byteAt_0 9 rfl
theorem dX0_byteAt_18 : decode cX0_byteAt 18 = .ok (.if_icmp .ge 16, 3) := dq_of dqX0_byteAt_0 10 rfl
theorem dX0_byteAt_21 : decode cX0_byteAt 21 = .ok (.aload_n 0, 1) := dq_of dqX0_byteAt_0 11 rfl
theorem dX0_byteAt_22 : decode cX0_byteAt 22 = .ok (.getfield 9, 3) := dq_of dqX0_byteAt_0 12 rfl
theorem dX0_byteAt_25 : decode cX0_byteAt 25 = .ok (.iload_n 1, 1) := dq_of dqX0_byteAt_0 13 rfl
theorem dX0_byteAt_26 : decode cX0_byteAt 26 = .ok (.baload, 1) := dq_of dqX0_byteAt_0 14 rfl
theorem dX0_byteAt_27 : decode cX0_byteAt 27 = .ok (.sipush 255, 3) := dq_of dqX0_byteAt_0 15 rfl
theorem dX0_byteAt_30 : decode cX0_byteAt 30 = .ok (.iand, 1) := dq_of dqX0_byteAt_0 16 rfl
theorem dX0_byteAt_31 : decode cX0_byteAt 31 = .ok (.goto 4, 3) := dq_of dqX0_byteAt_0 17 rfl
theorem dX0_byteAt_34 : decode cX0_byteAt 34 = .ok (.iconst (-1), 1) := dq_of dqX0_byteAt_0 18 rfl
theorem dX0_byteAt_35 : decode cX0_byteAt 35 = .ok (.ireturn, 1) := dq_of dqX0_byteAt_0 19 rfl
theorem dqX0_areEqual_0 : ([(0, .iconst 0, 1), (1, .istore 4, 2), (3, .iload 4, 2), (5, .iload_n 3, 1), (6, .if_icmp .ge 30, 3), (9, .aload_n 0, 1), (10, .iload_n 1, 1), (11, .iload 4, 2), (13, .iadd, 1), (14, .invokevirtual 30, 3), (17, .aload_n 0, 1), (18, .iload_n 2, 1), (19, .iload 4, 2), (21, .iadd, 1), (22, .invokevirtual 30, 3), (25, .if_icmp .eq 5, 3), (28, .iconst 0, 1), (29, .ireturn, 1), (30, .iinc 4 1, 3), (33, .goto (-30), 3), (36, .iconst 1, 1), (37, .ireturn, 1)] : List (Nat × Instr × Nat)).all (fun q => decide (decode cX0_areEqual q.1 = .ok (q.2.1, q.2.2))) = true := by decide +kernel
theorem dX0_areEqual_0 : decode cX0_areEqual 0 = .ok (.iconst 0, 1) := dq_of dqX0_areEqual_0 0 rfl
theorem dX0_areEqual_1 : decode cX0_areEqual 1 = .ok (.istore 4, 2) := dq_of dqX0_areEqual_0 1 rfl
theorem dX0_areEqual_3 : decode cX0_areEqual 3 = .ok (.iload 4, 2) := dq_of dqX0_areEqual_0 2 rfl
theorem dX0_areEqual_5 : decode cX0_areEqual 5 = .ok (.iload_n 3, 1) := dq_of dqX0_areEqual_0 3 rfl
theorem dX0_areEqual_6 : decode cX0_areEqual 6 = .ok (.if_icmp .ge 30, 3) := dq_of dqX0_areEqual_0 4 rfl
theorem dX0_areEqual_9 : decode cX0_areEqual 9 = .ok (.aload_n 0, 1) := dq_of dqX0_areEqual_0 5 rfl
theorem dX0_areEqual_10 : decode cX0_areEqual 10 = .ok (.iload_n 1, 1) := dq_of dqX0_areEqual_0 6 rfl
theorem dX0_areEqual_11 : decode cX0_areEqual 11 = .ok (.iload 4, 2) := dq_of dqX0_areEqual_0 7 rfl
theorem dX0_areEqual_13 : decode cX0_areEqual 13 = .ok (.iadd, 1) := dq_of dqX0_areEqual_0 8 rfl
theorem dX0_areEqual_14 : decode cX0_areEqual 14 = .ok (.invokevirtual 30, 3) := dq_of dqX0_areEqual_0 9 rfl
theorem dX0_areEqual_17 : decode cX0_areEqual 17 = .ok (.aload_n 0, 1) := dq_of dqX0_areEqual_0 10 rfl
theorem dX0_areEqual_18 : decode cX0_areEqual 18 = .ok (.iload_n 2, 1) := dq_of dqX0_areEqual_0 11 rfl
theorem dX0_areEqual_19 : decode cX0_areEqual 19 = .ok (.iload 4, 2) := dq_of dqX0_areEqual_0 12 rfl
theorem dX0_areEqual_21 : decode cX0_areEqual 21 = .ok (.iadd, 1) := dq_of dqX0_areEqual_0 13 rfl
theorem dX0_areEqual_22 : decode cX0_areEqual 22 = .ok (.invokevirtual 30, 3) := dq_of dqX0_areEqual_0 14 rfl
theorem dX0_areEqual_25 : decode cX0_areEqual 25 = .ok (.if_icmp .eq 5, 3) := dq_of dqX0_areEqual_0 15 rfl
theorem dX0_areEqual_28 : decode cX0_areEqual 28 = .ok (.iconst 0, 1) := dq_of dqX0_areEqual_0 16 rfl
theorem dX0_areEqual_29 : decode cX0_areEqual 29 = .ok (.ireturn, 1) := dq_of dqX0_areEqual_0 17 rfl
theorem dX0_areEqual_30 : decode cX0_areEqual 30 = .ok (.iinc 4 1, 3) := dq_of dqX0_areEqual_0 18 rfl
theorem dX0_areEqual_33 : decode cX0_areEqual 33 = .ok (.goto (-30), 3) := dq_of dqX0_areEqual_0 19 rfl
theorem dX0_areEqual_36 : decode cX0_areEqual 36 = .ok (.iconst 1, 1) := dq_of dqX0_areEqual_0 20 rfl
theorem dX0_areEqual_37 : decode cX0_areEqual 37 = .ok (.ireturn, 1) := dq_of dqX0_areEqual_0 21 rfl
theorem dqX1_init_0 : ([(0, .aload_n 0, 1), (1, .invokespecial 3, 3), (4, .aload_n 0, 1), (5, .bipush 16, 2), (7, .newarray .long, 2), (9, .putfield 11, 3), (12, .aload_n 0, 1), (13, .iconst 0, 1), (14, .putfield 15, 3), (17, .aload_n 0, 1), (18, .aload_n 1, 1), (19, .putfield 19, 3), (22, .return_, 1)] : List (Nat × Instr × Nat)).all (fun q => decide (decode cX1_init q.1 = .ok (q.2.1, q.2.2))) = true := by decide +kernel
theorem dX1_init_0 : decode cX1_init 0 = .ok (.aload_n 0, 1) := dq_of dqX1_init_0 0 rfl
theorem dX1_init_1 : decode cX1_init 1 = .ok (.invokespecial 3, 3) := dq_of dqX1_init_0 1 rfl
theorem dX1_init_4 : decode cX1_init 4 = .ok (.aload_n 0, 1) := dq_of dqX1_init_0 2 rfl
theorem dX1_init_5 : decode cX1_init 5 = .ok (.bipush 16, 2) := dq_of dqX1_init_0 3 rfl
theorem dX1_init_7 : decode cX1_init 7 = .ok (.newarray .long, 2) := dq_of dqX1_init_0 4 rfl
theorem dX1_init_9 : decode cX1_init 9 = .ok (.putfield 11, 3) := dq_of dqX1_init_0 5 rfl
theorem dX1_init_12 : decode cX1_init 12 = .ok (.aload_n 0, 1) := dq_of dqX1_init_0 6 rfl
theorem dX1_init_13 : decode cX1_init 13 = .ok (.iconst 0, 1) := dq_of dqX1_init_0 7 rfl
theorem dX1_init_14 : decode cX1_init 14 = .ok (.putfield 15, 3) := dq_of dqX1_init_0 8 rfl
theorem dX1_init_17 : decode cX1_init 17 = .ok (.aload_n 0, 1) := dq_of dqX1_init_0 9 rfl
theorem dX1_init_18 : decode cX1_init 18 = .ok (.aload_n 1, 1) := dq_of dqX1_init_0 10 rfl
theorem dX1_init_19 : decode cX1_init 19 = .ok (.putfield 19, 3) := dq_of dqX1_init_0 11 rfl
theorem dX1_init_22 : decode cX1_init 22 = .ok (.return_, 1) := dq_of dqX1_init_0 12 rfl
theorem dqX1_lowBits_0 : ([(0, .aload_n 0, 1), (1, .getfield 19, 3), (4, .iload_n 1, 1), (5, .bipush 7, 2), (7, .invokevirtual 23, 3), (10, .istore_n 2, 1), (11, .aload_n 0, 1), (12, .getfield 19, 3), (15, .iload_n 1, 1), (16, .bipush 8, 2), (18, .invokevirtual 23, 3), (21, .istore_n 3, 1), (22, .lconst 0, 1), (23, .lstore 4, 2), (25, .aload_n 0, 1), (26, .iload_n 1, 1), (27, .invokevirtual 29, 3), (30, .istore 6, 2), (32, .iload 6, 2), (34, .iload_n 3, 1), (35, .if_icmp .ge 32, 3), (38, .lload 4, 2), (40, .iload_n 2, 1), (41, .i2l, 1), (42, .lmul, 1), (43, .aload_n 0, 1), (44, .getfield 19, 3), (47, .iload_n 1, 1), (48, .iload 6, 2), (50, .invokevirtual 33, 3), (53, .iload_n 2, 1), (54, .invokestatic 36, 3), (57, .i2l, 1), (58, .ladd, 1), (59, .lstore 4, 2), (61, .iinc 6 1, 3), (64, .goto (-32), 3), (67, .lload 4, 2), (69, .lreturn, 1)] : List (Nat × Instr × Nat)).all (fun q => decide (decode cX1_lowBits q.1 = .ok (q.2.1, q.2.2))) = true := by decide +kernel
theorem dX1_lowBits_0 : decode cX1_lowBits 0 = .ok (.aload_n 0, 1) := dq_of dqX1_lowBits_0 0 rfl
theorem dX1_lowBits_1 : decode cX1_lowBits 1 = .ok (.getfield 19, 3) := dq_of dqX1_lowBits_0 1 rfl
theorem dX1_lowBits_4 : decode cX1_lowBits 4 = .ok (.iload_n 1, 1) := dq_of dqX1_lowBits_0 2 rfl
theorem dX1_lowBits_5 : decode cX1_lowBits 5 = .ok (.bipush 7, 2) := dq_of dqX1_lowBits_0 3 rfl
theorem dX1_lowBits_7 : decode cX1_lowBits 7 = .ok (.invokevirtual 23, 3) := dq_of dqX1_lowBits_0 4 rfl
theorem dX1_lowBits_10 : decode cX1_lowBits 10 = .ok (.istore_n 2, 1) := dq_of dqX1_lowBits_0 5 rfl
theorem dX1_lowBits_11 : decode cX1_lowBits 11 = .ok (.aload_n 0, 1) := dq_of dqX1_lowBits_0 6 rfl
theorem dX1_lowBits_12 : decode cX1_lowBits 12 = .ok (.getfield 19, 3) := dq_of dqX1_lowBits_0 7 rfl
theorem dX1_lowBits_15 : decode cX1_lowBits 15 = .ok (.iload_n 1, 1) := dq_of dqX1_lowBits_0 8 rfl
theorem dX1_lowBits_16 : decode cX1_lowBits 16 = .ok (.bipush 8, 2) := dq_of dqX1_lowBits_0 9 rfl
theorem dX1_lowBits_18 : decode cX1_lowBits 18 = .ok (.invokevirtual 23, 3) := dq_of dqX1_lowBits_0 10 rfl
theorem dX1_lowBits_21 : decode cX1_lowBits 21 = .ok (.istore_n 3, 1) := dq_of dqX1_lowBits_0 11 rfl
theorem dX1_lowBits_22 : decode cX1_lowBits 22 = .ok (.lconst 0, 1) := dq_of dqX1_lowBits_0 12 rfl
theorem dX1_lowBits_23 : decode cX1_lowBits 23 = .ok (.lstore 4, 2) := dq_of dqX1_lowBits_0 13 rfl
theorem dX1_lowBits_25 : decode cX1_lowBits 25 = .ok (.aload_n 0, 1) := dq_of dqX1_lowBits_0 14 rfl
theorem dX1_lowBits_26 : decode cX1_lowBits 26 = .ok (.iload_n 1, 1) := dq_of dqX1_lowBits_0 15 rfl
theorem dX1_lowBits_27 : decode cX1_lowBits 27 = .ok (.invokevirtual 29, 3) := dq_of dqX1_lowBits_0 16 rfl
theorem dX1_lowBits_30 : decode cX1_lowBits 30 = .ok (.istore 6, 2) := dq_of dqX1_lowBits_0 17 rfl
theorem dX1_lowBits_32 : decode cX1_lowBits 32 = .ok (.iload 6, 2) := dq_of dqX1_lowBits_0 18 rfl
theorem dX1_lowBits_34 : decode cX1_lowBits 34 = .ok (.iload_n 3, 1) := dq_of dqX1_lowBits_0 19 rfl
theorem dX1_lowBits_35 : decode cX1_lowBits 35 = .ok (.if_icmp .ge 32, 3) := dq_of dqX1_lowBits_0 20 rfl
theorem dX1_lowBits_38 : decode cX1_lowBits 38 = .ok (.lload 4, 2) := dq_of dqX1_lowBits_0 21 rfl
theorem dX1_lowBits_40 : decode cX1_lowBits 40 = .ok (.iload_n 2, 1) := dq_of dqX1_lowBits_0 22 rfl
theorem dX1_lowBits_41 : decode cX1_lowBits 41 = .ok (.i2l, 1) := dq_of dqX1_lowBits_0 23 rfl
theorem dX1_lowBits_42 : decode cX1_lowBits 42 = .ok (.lmul, 1) := dq_of dqX1_lowBits_0 24 rfl
theorem dX1_lowBits_43 : decode cX1_lowBits 43 = .ok (.aload_n 0, 1) := dq_of dqX1_lowBits_0 25 rfl
theorem dX1_lowBits_44 : decode cX1_lowBits 44 = .ok (.getfield 19, 3) := dq_of dqX1_lowBits_0 26 rfl
theorem dX1_lowBits_47 : decode cX1_lowBits 47 = .ok (.iload_n 1, 1) := dq_of dqX1_lowBits_0 27 rfl
theorem dX1_lowBits_48 : decode cX1_lowBits 48 = .ok (.iload 6, 2) := dq_of dqX1_lowBits_0 28 rfl
theorem dX1_lowBits_50 : decode cX1_lowBits 50 = .ok (.invokevirtual 33, 3) := dq_of dqX1_lowBits_0 29 rfl
theorem dX1_lowBits_53 : decode cX1_lowBits 53 = .ok (.iload_n 2, 1) := dq_of dqX1_lowBits_0 30 rfl
theorem dX1_lowBits_54 : decode cX1_lowBits 54 = .ok (.invokestatic 36, 3) := dq_of dqX1_lowBits_0 31 rfl
theorem dX1_lowBits_57 : decode cX1_lowBits 57 = .ok (.i2l, 1) := dq_of dqX1_lowBits_0 32 rfl
theorem dX1_lowBits_58 : decode cX1_lowBits 58 = .ok (.ladd, 1) := dq_of dqX1_lowBits_0 33 rfl
theorem dX1_lowBits_59 : decode cX1_lowBits 59 = .ok (.lstore 4, 2) := dq_of dqX1_lowBits_0 34 rfl
theorem dX1_lowBits_61 : decode cX1_lowBits 61 = .ok (.iinc 6 1, 3) := dq_of dqX1_lowBits_0 35 rfl
theorem dX1_lowBits_64 : decode cX1_lowBits 64 = .ok (.goto (-32), 3) := dq_of dqX1_lowBits_0 36 rfl
theorem dX1_lowBits_67 : decode cX1_lowBits 67 = .ok (.lload 4, 2) := dq_of dqX1_lowBits_0 37 rfl
theorem dX1_lowBits_69 : decode cX1_lowBits 69 = .ok (.lreturn, 1) := dq_of dqX1_lowBits_0 38 rfl
theorem dqX1_isBelowPowerOfTwo_0 : ([(0, .aload_n 0, 1), (1, .getfield 19, 3), (4, .iload_n 1, 1), (5, .bipush 7, 2), (7, .invokevirtual 23, 3), (10, .istore_n 3, 1), (11, .aload_n 0, 1), (12, .getfield 19, 3), (15, .iload_n 1, 1), (16, .bipush 8, 2), (18, .invokevirtual 23, 3), (21, .istore 4, 2), (23, .aload_n 0, 1), (24, .iconst 0, 1), (25, .putfield 15, 3), (28, .aload_n 0, 1), (29, .iload_n 1, 1), (30, .invokevirtual 29, 3), (33, .istore 5, 2), (35, .iload 5, 2), (37, .iload 4, 2), (39, .if_icmp .ge 33, 3), (42, .aload_n 0, 1), (43, .iload_n 3, 1), (44, .aload_n 0, 1), (45, .getfield 19, 3), (48, .iload_n 1, 1), (49, .iload 5, 2), (51, .invokevirtual 33, 3), (54, .iload_n 3, 1), (55, .invokestatic 36, 3), (58, .invokevirtual 39, 3), (61, .ifCond .ne 5, 3), (64, .iconst 0, 1), (65, .ireturn, 1), (66, .iinc 5 1, 3), (69, .goto (-34), 3), (72, .aload_n 0, 1), (73, .iload_n 2, 1), (74, .invokevirtual 43, 3)] : List (Nat × Instr × Nat)).all (fun q => decide (decode cX1_isBelowPowerOfTwo q.1 = .ok (q.2.1, q.2.2))) = true := by decide +kernel
theorem dX1_isBelowPowerOfTwo_0 : decode cX1_isBelowPowerOfTwo 0 = .ok (.aload_n 0, 1) := dq_of dqX1_isBelowPowerOfTwo_0 0 rfl
theorem dX1_isBelowPowerOfTwo_1 : decode cX1_isBelowPowerOfTwo 1 = .ok (.getfield 19, 3) := dq_of dqX1_isBelowPowerOfTwo_0 1 rfl
theorem dX1_isBelowPowerOfTwo_4 : decode cX1_isBelowPowerOfTwo 4 = .ok (.iload_n 1, 1) := dq_of dqX1_isBelowPowerOfTwo_0 2 rfl
theorem dX1_isBelowPowerOfTwo_5 : decode cX1_isBelowPowerOfTwo 5 = .ok (.bipush 7, 2) := dq_of dqX1_isBelowPowerOfTwo_0 3 rfl
theorem dX1_isBelowPowerOfTwo_7 : decode cX1_isBelowPowerOfTwo 7 = .ok (.invokevirtual 23, 3) := dq_of dqX1_isBelowPowerOfTwo_0 4 rfl
theorem dX1_isBelowPowerOfTwo_10 : decode cX1_isBelowPowerOfTwo 10 = .ok (.istore_n 3, 1) := dq_of dqX1_isBelowPowerOfTwo_0 5 rfl
theorem dX1_isBelowPowerOfTwo_11 : decode cX1_isBelowPowerOfTwo 11 = .ok (.aload_n 0, 1) := dq_of dqX1_isBelowPowerOfTwo_0 6 rfl
theorem dX1_isBelowPowerOfTwo_12 : decode cX1_isBelowPowerOfTwo 12 = .ok (.getfield 19, 3) := dq_of dqX1_isBelowPowerOfTwo_0 7 rfl
theorem dX1_isBelowPowerOfTwo_15 : decode cX1_isBelowPowerOfTwo 15 = .ok (.iload_n 1, 1) := dq_of dqX1_isBelowPowerOfTwo_0 8 rfl
theorem dX1_isBelowPowerOfTwo_16 : decode cX1_isBelowPowerOfTwo 16 = .ok (.bipush 8, 2) := dq_of dqX1_isBelowPowerOfTwo_0 9 rfl
theorem dX1_isBelowPowerOfTwo_18 : decode cX1_isBelowPowerOfTwo 18 = .ok (.invokevirtual 23, 3) := dq_of dqX1_isBelowPowerOfTwo_0 10 rfl
theorem dX1_isBelowPowerOfTwo_21 : decode cX1_isBelowPowerOfTwo 21 = .ok (.istore 4, 2) := dq_of dqX1_isBelowPowerOfTwo_0 11 rfl
theorem dX1_isBelowPowerOfTwo_23 : decode cX1_isBelowPowerOfTwo 23 = .ok (.aload_n 0, 1) := dq_of dqX1_isBelowPowerOfTwo_0 12 rfl
theorem dX1_isBelowPowerOfTwo_24 : decode cX1_isBelowPowerOfTwo 24 = .ok (.iconst 0, 1) := dq_of dqX1_isBelowPowerOfTwo_0 13 rfl
theorem dX1_isBelowPowerOfTwo_25 : decode cX1_isBelowPowerOfTwo 25 = .ok (.putfield 15, 3) := dq_of dqX1_isBelowPowerOfTwo_0 14 rfl
theorem dX1_isBelowPowerOfTwo_28 : decode cX1_isBelowPowerOfTwo 28 = .ok (.aload_n 0, 1) := dq_of dqX1_isBelowPowerOfTwo_0 15 rfl
theorem dX1_isBelowPowerOfTwo_29 : decode cX1_isBelowPowerOfTwo 29 = .ok (.iload_n 1, 1) := dq_of dqX1_isBelowPowerOfTwo_0 16 rfl
theorem dX1_isBelowPowerOfTwo_30 : decode cX1_isBelowPowerOfTwo 30 = .ok (.invokevirtual 29, 3) := dq_of dqX1_isBelowPowerOfTwo_0 17 rfl
theorem dX1_isBelowPowerOfTwo_33 : decode cX1_isBelowPowerOfTwo 33 = .ok (.istore 5, 2) := dq_of dqX1_isBelowPowerOfTwo_0 18 rfl
theorem dX1_isBelowPowerOfTwo_35 : decode cX1_isBelowPowerOfTwo 35 = .ok (.iload 5, 2) := dq_of dqX1_isBelowPowerOfTwo_0 19 rfl
theorem dX1_isBelowPowerOfTwo_37 : decode cX1_isBelowPowerOfTwo 37 = .ok (.iload 4, 2) := dq_of dqX1_isBelowPowerOfTwo_0 20 rfl
theorem dX1_isBelowPowerOfTwo_39 : decode cX1_isBelowPowerOfTwo 39 = .ok (.if_icmp .ge 33, 3) := dq_of dqX1_isBelowPowerOfTwo_0 21 rfl
theorem dX1_isBelowPowerOfTwo_42 : decode cX1_isBelowPowerOfTwo 42 = .ok (.aload_n 0, 1) := dq_of dqX1_isBelowPowerOfTwo_0 22 rfl
theorem dX1_isBelowPowerOfTwo_43 : decode cX1_isBelowPowerOfTwo 43 = .ok (.iload_n 3, 1) := dq_of dqX1_isBelowPowerOfTwo_0 23 rfl
theorem dX1_isBelowPowerOfTwo_44 : decode cX1_isBelowPowerOfTwo 44 = .ok (.aload_n 0, 1) := dq_of dqX1_isBelowPowerOfTwo_0 24 rfl
theorem dX1_isBelowPowerOfTwo_45 : decode cX1_isBelowPowerOfTwo 45 = .ok (.getfield 19, 3) := dq_of dqX1_isBelowPowerOfTwo_0 25 rfl
theorem dX1_isBelowPowerOfTwo_48 : decode cX1_isBelowPowerOfTwo 48 = .ok (.iload_n 1, 1) := dq_of dqX1_isBelowPowerOfTwo_0 26 rfl
theorem dX1_isBelowPowerOfTwo_49 : decode cX1_isBelowPowerOfTwo 49 = .ok (.iload 5, 2) := dq_of dqX1_isBelowPowerOfTwo_0 27 rfl
theorem dX1_isBelowPowerOfTwo_51 : decode cX1_isBelowPowerOfTwo 51 = .ok (.invokevirtual 33, 3) := dq_of dqX1_isBelowPowerOfTwo_0 28 rfl
theorem dX1_isBelowPowerOfTwo_54 : decode cX1_isBelowPowerOfTwo 54 = .ok (.iload_n 3, 1) := dq_of dqX1_isBelowPowerOfTwo_0 29 rfl
theorem dX1_isBelowPowerOfTwo_55 : decode cX1_isBelowPowerOfTwo 55 = .ok (.invokestatic 36, 3) := dq_of dqX1_isBelowPowerOfTwo_0 30 rfl
theorem dX1_isBelowPowerOfTwo_58 : decode cX1_isBelowPowerOfTwo 58 = .ok (.invokevirtual 39, 3) := dq_of dqX1_isBelowPowerOfTwo_0 31 rfl
theorem dX1_isBelowPowerOfTwo_61 : decode cX1_isBelowPowerOfTwo 61 = .ok (.ifCond .ne 5, 3) := dq_of dqX1_isBelowPowerOfTwo_0 32 rfl
theorem dX1_isBelowPowerOfTwo_64 : decode cX1_isBelowPowerOfTwo 64 = .ok (.iconst 0, 1) := dq_of dqX1_isBelowPowerOfTwo_0 33 rfl
theorem dX1_isBelowPowerOfTwo_65 : decode cX1_isBelowPowerOfTwo 65 = .ok (.ireturn, 1) := dq_of dqX1_isBelowPowerOfTwo_0 34 rfl
theorem dX1_isBelowPowerOfTwo_66 : decode cX1_isBelowPowerOfTwo 66 = .ok (.iinc 5 1, 3) := dq_of dqX1_isBelowPowerOfTwo_0 35 rfl
theorem dX1_isBelowPowerOfTwo_69 : decode cX1_isBelowPowerOfTwo 69 = .ok (.goto (-34), 3) := dq_of dqX1_isBelowPowerOfTwo_0 36 rfl
theorem dX1_isBelowPowerOfTwo_72 : decode cX1_isBelowPowerOfTwo 72 = .ok (.aload_n 0, 1) := dq_of dqX1_isBelowPowerOfTwo_0 37 rfl
theorem dX1_isBelowPowerOfTwo_73 : decode cX1_isBelowPowerOfTwo 73 = .ok (.iload_n 2, 1) := dq_of dqX1_isBelowPowerOfTwo_0 38 rfl
theorem dX1_isBelowPowerOfTwo_74 : decode cX1_isBelowPowerOfTwo 74 = .ok (.invokevirtual 43, 3) := dq_of dqX1_isBelowPowerOfTwo_0 39 rfl
theorem dqX1_isBelowPowerOfTwo_77 : ([(77, .ireturn, 1)] : List (Nat × Instr × Nat)).all (fun q => decide (decode cX1_isBelowPowerOfTwo q.1 = .ok (q.2.1, q.2.2))) = true := by decide +kernel
theorem dX1_isBelowPowerOfTwo_77 : decode cX1_isBelowPowerOfTwo 77 = .ok (.ireturn, 1) := dq_of dqX1_isBelowPowerOfTwo_77 0 rfl
theorem dqX1_firstDigit_0 : ([(0, .aload_n 0, 1), (1, .getfield 19, 3), (4, .iload_n 1, 1), (5, .iconst 1, 1), (6, .invokevirtual 33, 3), (9, .bipush 57, 2), (11, .if_icmp .le 7, 3), (14, .iconst 2, 1), (15, .goto 4, 3), (18, .iconst 0, 1), (19, .ireturn, 1)] : List (Nat × Instr × Nat)).all (fun q => decide (decode cX1_firstDigit q.1 = .ok (q.2.1, q.2.2))) = true := by decide +kernel
theorem dX1_firstDigit_0 : decode cX1_firstDigit 0 = .ok (.aload_n 0, 1) := dq_of dqX1_firstDigit_0 0 rfl
theorem dX1_firstDigit_1 : decode cX1_firstDigit 1 = .ok (.getfield 19, 3) := dq_of dqX1_firstDigit_0 1 rfl
theorem dX1_firstDigit_4 : decode cX1_firstDigit 4 = .ok (.iload_n 1, 1) := dq_of dqX1_firstDigit_0 2 rfl
theorem dX1_firstDigit_5 : decode cX1_firstDigit 5 = .ok (.iconst 1, 1) := dq_of dqX1_firstDigit_0 3 rfl
theorem dX1_firstDigit_6 : decode cX1_firstDigit 6 = .ok (.invokevirtual 33, 3) := dq_of dqX1_firstDigit_0 4 rfl
theorem dX1_firstDigit_9 : decode cX1_firstDigit 9 = .ok (.bipush 57, 2) := dq_of dqX1_firstDigit_0 5 rfl
theorem dX1_firstDigit_11 : decode cX1_firstDigit 11 = .ok (.if_icmp .le 7, 3) := dq_of dqX1_firstDigit_0 6 rfl
theorem dX1_firstDigit_14 : decode cX1_firstDigit 14 = .ok (.iconst 2, 1) := dq_of dqX1_firstDigit_0 7 rfl
theorem dX1_firstDigit_15 : decode cX1_firstDigit 15 = .ok (.goto 4, 3) := dq_of dqX1_firstDigit_0 8 rfl
theorem dX1_firstDigit_18 : decode cX1_firstDigit 18 = .ok (.iconst 0, 1) := dq_of dqX1_firstDigit_0 9 rfl
theorem dX1_firstDigit_19 : decode cX1_firstDigit 19 = .ok (.ireturn, 1) := dq_of dqX1_firstDigit_0 10 rfl
theorem dqX1_appendDigit_0 : ([(0, .iload_n 2, 1), (1, .i2l, 1), (2, .lstore_n 3, 1), (3, .iconst 0, 1), (4, .istore 5, 2), (6, .iload 5, 2), (8, .aload_n 0, 1), (9, .getfield 15, 3), (12, .if_icmp .ge 49, 3), (15, .iload 5, 2), (17, .aload_n 0, 1), (18, .getfield 11, 3), (21, .arraylength, 1), (22, .if_icmp .ge 39, 3), (25, .lload_n 3, 1), (26, .aload_n 0, 1), (27, .getfield 11, 3), (30, .iload 5, 2), (32, .laload, 1), (33, .iload_n 1, 1), (34, .i2l, 1), (35, .lmul, 1), (36, .ladd, 1), (37, .lstore_n 3, 1), (38, .aload_n 0, 1), (39, .getfield 11, 3), (42, .iload 5, 2), (44, .lload_n 3, 1), (45, .ldc2_w 47, 3), (48, .land, 1), (49, .lastore, 1), (50, .lload_n 3, 1), (51, .bipush 32, 2), (53, .lushr, 1), (54, .lstore_n 3, 1), (55, .iinc 5 1, 3), (58, .goto (-52), 3), (61, .lload_n 3, 1), (62, .lconst 0, 1), (63, .lcmp, 1)] : List (Nat × Instr × Nat)).all (fun q => decide (decode cX1_appendDigit q.1 = .ok (q.2.1, q.2.2))) = true := by decide +kernel
theorem dX1_appendDigit_0 : decode cX1_appendDigit 0 = .ok (.iload_n 2, 1) := dq_of dqX1_appendDigit_0 0 rfl
theorem dX1_appendDigit_1 : decode cX1_appendDigit 1 = .ok (.i2l, 1) := dq_of dqX1_appendDigit_0 1 rfl
theorem dX1_appendDigit_2 : decode cX1_appendDigit 2 = .ok (.lstore_n 3, 1) := dq_of dqX1_appendDigit_0 2 rfl
theorem dX1_appendDigit_3 : decode cX1_appendDigit 3 = .ok (.iconst 0, 1) := dq_of dqX1_appendDigit_0 3 rfl
theorem dX1_appendDigit_4 : decode cX1_appendDigit 4 = .ok (.istore 5, 2) := dq_of dqX1_appendDigit_0 4 rfl
theorem dX1_appendDigit_6 : decode cX1_appendDigit 6 = .ok (.iload 5, 2) := dq_of dqX1_appendDigit_0 5 rfl
theorem dX1_appendDigit_8 : decode cX1_appendDigit 8 = .ok (.aload_n 0, 1) := dq_of dqX1_appendDigit_0 6 rfl
theorem dX1_appendDigit_9 : decode cX1_appendDigit 9 = .ok (.getfield 15, 3) := dq_of dqX1_appendDigit_0 7 rfl
theorem dX1_appendDigit_12 : decode cX1_appendDigit 12 = .ok (.if_icmp .ge 49, 3) := dq_of dqX1_appendDigit_0 8 rfl
theorem dX1_appendDigit_15 : decode cX1_appendDigit 15 = .ok (.iload 5, 2) := dq_of dqX1_appendDigit_0 9 rfl
theorem dX1_appendDigit_17 : decode cX1_appendDigit 17 = .ok (.aload_n 0, 1) := dq_of dqX1_appendDigit_0 10 rfl
theorem dX1_appendDigit_18 : decode cX1_appendDigit 18 = .ok (.getfield 11, 3) := dq_of dqX1_appendDigit_0 11 rfl
theorem dX1_appendDigit_21 : decode cX1_appendDigit 21 = .ok (.arraylength, 1) := dq_of dqX1_appendDigit_0 12 rfl
theorem dX1_appendDigit_22 : decode cX1_appendDigit 22 = .ok (.if_icmp .ge 39, 3) := dq_of dqX1_appendDigit_0 13 rfl
theorem dX1_appendDigit_25 : decode cX1_appendDigit 25 = .ok (.lload_n 3, 1) := dq_of dqX1_appendDigit_0 14 rfl
theorem dX1_appendDigit_26 : decode cX1_appendDigit 26 = .ok (.aload_n 0, 1) := dq_of dqX1_appendDigit_0 15 rfl
theorem dX1_appendDigit_27 : decode cX1_appendDigit 27 = .ok (.getfield 11, 3) := dq_of dqX1_appendDigit_0 16 rfl
theorem dX1_appendDigit_30 : decode cX1_appendDigit 30 = .ok (.iload 5, 2) := dq_of dqX1_appendDigit_0 17 rfl
theorem dX1_appendDigit_32 : decode cX1_appendDigit 32 = .ok (.laload, 1) := dq_of dqX1_appendDigit_0 18 rfl
theorem dX1_appendDigit_33 : decode cX1_appendDigit 33 = .ok (.iload_n 1, 1) := dq_of dqX1_appendDigit_0 19 rfl
theorem dX1_appendDigit_34 : decode cX1_appendDigit 34 = .ok (.i2l, 1) := dq_of dqX1_appendDigit_0 20 rfl
theorem dX1_appendDigit_35 : decode cX1_appendDigit 35 = .ok (.lmul, 1) := dq_of dqX1_appendDigit_0 21 rfl
theorem dX1_appendDigit_36 : decode cX1_appendDigit 36 = .ok (.ladd, 1) := dq_of dqX1_appendDigit_0 22 rfl
theorem dX1_appendDigit_37 : decode cX1_appendDigit 37 = .ok (.lstore_n 3, 1) := dq_of dqX1_appendDigit_0 23 rfl
theorem dX1_appendDigit_38 : decode cX1_appendDigit 38 = .ok (.aload_n 0, 1) := dq_of dqX1_appendDigit_0 24 rfl
theorem dX1_appendDigit_39 : decode cX1_appendDigit 39 = .ok (.getfield 11, 3) := dq_of dqX1_appendDigit_0 25 rfl
theorem dX1_appendDigit_42 : decode cX1_appendDigit 42 = .ok (.iload 5, 2) := dq_of dqX1_appendDigit_0 26 rfl
theorem dX1_appendDigit_44 : decode cX1_appendDigit 44 = .ok (.lload_n 3, 1) := dq_of dqX1_appendDigit_0 27 rfl
theorem dX1_appendDigit_45 : decode cX1_appendDigit 45 = .ok (.ldc2_w 47, 3) := dq_of dqX1_appendDigit_0 28 rfl
theorem dX1_appendDigit_48 : decode cX1_appendDigit 48 = .ok (.land, 1) := dq_of dqX1_appendDigit_0 29 rfl
theorem dX1_appendDigit_49 : decode cX1_appendDigit 49 = .ok (.lastore, 1) := dq_of dqX1_appendDigit_0 30 rfl
theorem dX1_appendDigit_50 : decode cX1_appendDigit 50 = .ok (.lload_n 3, 1) := dq_of dqX1_appendDigit_0 31 rfl
theorem dX1_appendDigit_51 : decode cX1_appendDigit 51 = .ok (.bipush 32, 2) := dq_of dqX1_appendDigit_0 32 rfl
theorem dX1_appendDigit_53 : decode cX1_appendDigit 53 = .ok (.lushr, 1) := dq_of dqX1_appendDigit_0 33 rfl
theorem dX1_appendDigit_54 : decode cX1_appendDigit 54 = .ok (.lstore_n 3, 1) := dq_of dqX1_appendDigit_0 34 rfl
theorem dX1_appendDigit_55 : decode cX1_appendDigit 55 = .ok (.iinc 5 1, 3) := dq_of dqX1_appendDigit_0 35 rfl
theorem dX1_appendDigit_58 : decode cX1_appendDigit 58 = .ok (.goto (-52), 3) := dq_of dqX1_appendDigit_0 36 rfl
theorem dX1_appendDigit_61 : decode cX1_appendDigit 61 = .ok (.lload_n 3, 1) := dq_of dqX1_appendDigit_0 37 rfl
theorem dX1_appendDigit_62 : decode cX1_appendDigit 62 = .ok (.lconst 0, 1) := dq_of dqX1_appendDigit_0 38 rfl
theorem dX1_appendDigit_63 : decode cX1_appendDigit 63 = .ok (.lcmp, 1) := dq_of dqX1_appendDigit_0 39 rfl
theorem dqX1_appendDigit_64 : ([(64, .ifCond .ne 5, 3), (67, .iconst 1, 1), (68, .ireturn, 1), (69, .aload_n 0, 1), (70, .getfield 15, 3), (73, .aload_n 0, 1), (74, .getfield 11, 3), (77, .arraylength, 1), (78, .if_icmp .lt 5, 3), (81, .iconst 0, 1), (82, .ireturn, 1), (83, .aload_n 0, 1), (84, .getfield 11, 3), (87, .aload_n 0, 1), (88, .getfield 15, 3), (91, .lload_n 3, 1), (92, .lastore, 1), (93, .aload_n 0, 1), (94, .dup, 1), (95, .getfield 15, 3), (98, .iconst 1, 1), (99, .iadd, 1), (100, .putfield 15, 3), (103, .iconst 1, 1), (104, .ireturn, 1)] : List (Nat × Instr × Nat)).all (fun q => decide (decode cX1_appendDigit q.1 = .ok (q.2.1, q.2.2))) = true := by decide +kernel
theorem dX1_appendDigit_64 : decode cX1_appendDigit 64 = .ok (.ifCond .ne 5, 3) := dq_of dqX1_appendDigit_64 0 rfl
theorem dX1_appendDigit_67 : decode cX1_appendDigit 67 = .ok (.iconst 1, 1) := dq_of dqX1_appendDigit_64 1 rfl
theorem dX1_appendDigit_68 : decode cX1_appendDigit 68 = .ok (.ireturn, 1) := dq_of dqX1_appendDigit_64 2 rfl
theorem dX1_appendDigit_69 : decode cX1_appendDigit 69 = .ok (.aload_n 0, 1) := dq_of dqX1_appendDigit_64 3 rfl
theorem dX1_appendDigit_70 : decode cX1_appendDigit 70 = .ok (.getfield 15, 3) := dq_of dqX1_appendDigit_64 4 rfl
theorem dX1_appendDigit_73 : decode cX1_appendDigit 73 = .ok (.aload_n 0, 1) := dq_of dqX1_appendDigit_64 5 rfl
theorem dX1_appendDigit_74 : decode cX1_appendDigit 74 = .ok (.getfield 11, 3) := dq_of dqX1_appendDigit_64 6 rfl
theorem dX1_appendDigit_77 : decode cX1_appendDigit 77 = .ok (.arraylength, 1) := dq_of dqX1_appendDigit_64 7 rfl
theorem dX1_appendDigit_78 : decode cX1_appendDigit 78 = .ok (.if_icmp .lt 5, 3) := dq_of dqX1_appendDigit_64 8 rfl
theorem dX1_appendDigit_81 : decode cX1_appendDigit 81 = .ok (.iconst 0, 1) := dq_of dqX1_appendDigit_64 9 rfl
theorem dX1_appendDigit_82 : decode cX1_appendDigit 82 = .ok (.ireturn, 1) := dq_of dqX1_appendDigit_64 10 rfl
theorem dX1_appendDigit_83 : decode cX1_appendDigit 83 = .ok (.aload_n 0, 1) := dq_of dqX1_appendDigit_64 11 rfl
theorem dX1_appendDigit_84 : decode cX1_appendDigit 84 = .ok (.getfield 11, 3) := dq_of dqX1_appendDigit_64 12 rfl
theorem dX1_appendDigit_87 : decode cX1_appendDigit 87 = .ok (.aload_n 0, 1) := dq_of dqX1_appendDigit_64 13 rfl
theorem dX1_appendDigit_88 : decode cX1_appendDigit 88 = .ok (.getfield 15, 3) := dq_of dqX1_appendDigit_64 14 rfl
theorem dX1_appendDigit_91 : decode cX1_appendDigit 91 = .ok (.lload_n 3, 1) := dq_of dqX1_appendDigit_64 15 rfl
theorem dX1_appendDigit_92 : decode cX1_appendDigit 92 = .ok (.lastore, 1) := dq_of dqX1_appendDigit_64 16 rfl
theorem dX1_appendDigit_93 : decode cX1_appendDigit 93 = .ok (.aload_n 0, 1) := dq_of dqX1_appendDigit_64 17 rfl
theorem dX1_appendDigit_94 : decode cX1_appendDigit 94 = .ok (.dup, 1) := dq_of dqX1_appendDigit_64 18 rfl
theorem dX1_appendDigit_95 : decode cX1_appendDigit 95 = .ok (.getfield 15, 3) := dq_of dqX1_appendDigit_64 19 rfl
theorem dX1_appendDigit_98 : decode cX1_appendDigit 98 = .ok (.iconst 1, 1) := dq_of dqX1_appendDigit_64 20 rfl
theorem dX1_appendDigit_99 : decode cX1_appendDigit 99 = .ok (.iadd, 1) := dq_of dqX1_appendDigit_64 21 rfl
theorem dX1_appendDigit_100 : decode cX1_appendDigit 100 = .ok (.putfield 15, 3) := dq_of dqX1_appendDigit_64 22 rfl
theorem dX1_appendDigit_103 : decode cX1_appendDigit 103 = .ok (.iconst 1, 1) := dq_of dqX1_appendDigit_64 23 rfl
theorem dX1_appendDigit_104 : decode cX1_appendDigit 104 = .ok (.ireturn, 1) := dq_of dqX1_appendDigit_64 24 rfl
theorem dqX1_hasNoBitFrom_0 : ([(0, .iload_n 1, 1), (1, .bipush 32, 2), (3, .idiv, 1), (4, .istore_n 2, 1), (5, .iload_n 2, 1), (6, .istore_n 3, 1), (7, .iload_n 3, 1), (8, .aload_n 0, 1), (9, .getfield 15, 3), (12, .if_icmp .ge 53, 3), (15, .iload_n 3, 1), (16, .aload_n 0, 1), (17, .getfield 11, 3), (20, .arraylength, 1), (21, .if_icmp .ge 44, 3), (24, .iload_n 3, 1), (25, .iload_n 2, 1), (26, .if_icmp .ne 10, 3), (29, .iload_n 1, 1), (30, .bipush 32, 2), (32, .irem, 1), (33, .goto 4, 3), (36, .iconst 0, 1), (37, .istore 4, 2), (39, .iload_n 3, 1), (40, .ifCond .lt 19, 3), (43, .aload_n 0, 1), (44, .getfield 11, 3), (47, .iload_n 3, 1), (48, .laload, 1), (49, .iload 4, 2), (51, .lushr, 1), (52, .lconst 0, 1), (53, .lcmp, 1), (54, .ifCond .eq 5, 3), (57, .iconst 0, 1), (58, .ireturn, 1), (59, .iinc 3 1, 3), (62, .goto (-55), 3), (65, .iconst 1, 1)] : List (Nat × Instr × Nat)).all (fun q => decide (decode cX1_hasNoBitFrom q.1 = .ok (q.2.1, q.2.2))) = true := by decide +kernel
theorem dX1_hasNoBitFrom_0 : decode cX1_hasNoBitFrom 0 = .ok (.iload_n 1, 1) := dq_of dqX1_hasNoBitFrom_0 0 rfl
theorem dX1_hasNoBitFrom_1 : decode cX1_hasNoBitFrom 1 = .ok (.bipush 32, 2) := dq_of dqX1_hasNoBitFrom_0 1 rfl
theorem dX1_hasNoBitFrom_3 : decode cX1_hasNoBitFrom 3 = .ok (.idiv, 1) := dq_of dqX1_hasNoBitFrom_0 2 rfl
theorem dX1_hasNoBitFrom_4 : decode cX1_hasNoBitFrom 4 = .ok (.istore_n 2, 1) := dq_of dqX1_hasNoBitFrom_0 3 rfl
theorem dX1_hasNoBitFrom_5 : decode cX1_hasNoBitFrom 5 = .ok (.iload_n 2, 1) := dq_of dqX1_hasNoBitFrom_0 4 rfl
theorem dX1_hasNoBitFrom_6 : decode cX1_hasNoBitFrom 6 = .ok (.istore_n 3, 1) := dq_of dqX1_hasNoBitFrom_0 5 rfl
theorem dX1_hasNoBitFrom_7 : decode cX1_hasNoBitFrom 7 = .ok (.iload_n 3, 1) := dq_of dqX1_hasNoBitFrom_0 6 rfl
theorem dX1_hasNoBitFrom_8 : decode cX1_hasNoBitFrom 8 = .ok (.aload_n 0, 1) := dq_of dqX1_hasNoBitFrom_0 7 rfl
theorem dX1_hasNoBitFrom_9 : decode cX1_hasNoBitFrom 9 = .ok (.getfield 15, 3) := dq_of dqX1_hasNoBitFrom_0 8 rfl
theorem dX1_hasNoBitFrom_12 : decode cX1_hasNoBitFrom 12 = .ok (.if_icmp .ge 53, 3) := dq_of dqX1_hasNoBitFrom_0 9 rfl
theorem dX1_hasNoBitFrom_15 : decode cX1_hasNoBitFrom 15 = .ok (.iload_n 3, 1) := dq_of dqX1_hasNoBitFrom_0 10 rfl
theorem dX1_hasNoBitFrom_16 : decode cX1_hasNoBitFrom 16 = .ok (.aload_n 0, 1) := dq_of dqX1_hasNoBitFrom_0 11 rfl
theorem dX1_hasNoBitFrom_17 : decode cX1_hasNoBitFrom 17 = .ok (.getfield 11, 3) := dq_of dqX1_hasNoBitFrom_0 12 rfl
theorem dX1_hasNoBitFrom_20 : decode cX1_hasNoBitFrom 20 = .ok (.arraylength, 1) := dq_of dqX1_hasNoBitFrom_0 13 rfl
theorem dX1_hasNoBitFrom_21 : decode cX1_hasNoBitFrom 21 = .ok (.if_icmp .ge 44, 3) := dq_of dqX1_hasNoBitFrom_0 14 rfl
theorem dX1_hasNoBitFrom_24 : decode cX1_hasNoBitFrom 24 = .ok (.iload_n 3, 1) := dq_of dqX1_hasNoBitFrom_0 15 rfl
theorem dX1_hasNoBitFrom_25 : decode cX1_hasNoBitFrom 25 = .ok (.iload_n 2, 1) := dq_of dqX1_hasNoBitFrom_0 16 rfl
theorem dX1_hasNoBitFrom_26 : decode cX1_hasNoBitFrom 26 = .ok (.if_icmp .ne 10, 3) := dq_of dqX1_hasNoBitFrom_0 17 rfl
theorem dX1_hasNoBitFrom_29 : decode cX1_hasNoBitFrom 29 = .ok (.iload_n 1, 1) := dq_of dqX1_hasNoBitFrom_0 18 rfl
theorem dX1_hasNoBitFrom_30 : decode cX1_hasNoBitFrom 30 = .ok (.bipush 32, 2) := dq_of dqX1_hasNoBitFrom_0 19 rfl
theorem dX1_hasNoBitFrom_32 : decode cX1_hasNoBitFrom 32 = .ok (.irem, 1) := dq_of dqX1_hasNoBitFrom_0 20 rfl
theorem dX1_hasNoBitFrom_33 : decode cX1_hasNoBitFrom 33 = .ok (.goto 4, 3) := dq_of dqX1_hasNoBitFrom_0 21 rfl
theorem dX1_hasNoBitFrom_36 : decode cX1_hasNoBitFrom 36 = .ok (.iconst 0, 1) := dq_of dqX1_hasNoBitFrom_0 22 rfl
theorem dX1_hasNoBitFrom_37 : decode cX1_hasNoBitFrom 37 = .ok (.istore 4, 2) := dq_of dqX1_hasNoBitFrom_0 23 rfl
theorem dX1_hasNoBitFrom_39 : decode cX1_hasNoBitFrom 39 = .ok (.iload_n 3, 1) := dq_of dqX1_hasNoBitFrom_0 24 rfl
theorem dX1_hasNoBitFrom_40 : decode cX1_hasNoBitFrom 40 = .ok (.ifCond .lt 19, 3) := dq_of dqX1_hasNoBitFrom_0 25 rfl
theorem dX1_hasNoBitFrom_43 : decode cX1_hasNoBitFrom 43 = .ok (.aload_n 0, 1) := dq_of dqX1_hasNoBitFrom_0 26 rfl
theorem dX1_hasNoBitFrom_44 : decode cX1_hasNoBitFrom 44 = .ok (.getfield 11, 3) := dq_of dqX1_hasNoBitFrom_0 27 rfl
theorem dX1_hasNoBitFrom_47 : decode cX1_hasNoBitFrom 47 = .ok (.iload_n 3, 1) := dq_of dqX1_hasNoBitFrom_0 28 rfl
theorem dX1_hasNoBitFrom_48 : decode cX1_hasNoBitFrom 48 = .ok (.laload, 1) := dq_of dqX1_hasNoBitFrom_0 29 rfl
theorem dX1_hasNoBitFrom_49 : decode cX1_hasNoBitFrom 49 = .ok (.iload 4, 2) := dq_of dqX1_hasNoBitFrom_0 30 rfl
theorem dX1_hasNoBitFrom_51 : decode cX1_hasNoBitFrom 51 = .ok (.lushr, 1) := dq_of dqX1_hasNoBitFrom_0 31 rfl
theorem dX1_hasNoBitFrom_52 : decode cX1_hasNoBitFrom 52 = .ok (.lconst 0, 1) := dq_of dqX1_hasNoBitFrom_0 32 rfl
theorem dX1_hasNoBitFrom_53 : decode cX1_hasNoBitFrom 53 = .ok (.lcmp, 1) := dq_of dqX1_hasNoBitFrom_0 33 rfl
theorem dX1_hasNoBitFrom_54 : decode cX1_hasNoBitFrom 54 = .ok (.ifCond .eq 5, 3) := dq_of dqX1_hasNoBitFrom_0 34 rfl
theorem dX1_hasNoBitFrom_57 : decode cX1_hasNoBitFrom 57 = .ok (.iconst 0, 1) := dq_of dqX1_hasNoBitFrom_0 35 rfl
theorem dX1_hasNoBitFrom_58 : decode cX1_hasNoBitFrom 58 = .ok (.ireturn, 1) := dq_of dqX1_hasNoBitFrom_0 36 rfl
theorem dX1_hasNoBitFrom_59 : decode cX1_hasNoBitFrom 59 = .ok (.iinc 3 1, 3) := dq_of dqX1_hasNoBitFrom_0 37 rfl
theorem dX1_hasNoBitFrom_62 : decode cX1_hasNoBitFrom 62 = .ok (.goto (-55), 3) := dq_of dqX1_hasNoBitFrom_0 38 rfl
theorem dX1_hasNoBitFrom_65 : decode cX1_hasNoBitFrom 65 = .ok (.iconst 1, 1) := dq_of dqX1_hasNoBitFrom_0 39 rfl
theorem dqX1_hasNoBitFrom_66 : ([(66, .ireturn, 1)] : List (Nat × Instr × Nat)).all (fun q => decide (decode cX1_hasNoBitFrom q.1 = .ok (q.2.1, q.2.2))) = true := by decide +kernel
theorem dX1_hasNoBitFrom_66 : decode cX1_hasNoBitFrom 66 = .ok (.ireturn, 1) := dq_of dqX1_hasNoBitFrom_66 0 rfl
theorem dqX2_init_0 : ([(0, .aload_n 0, 1), (1, .invokespecial 3, 3), (4, .aload_n 0, 1), (5, .sipush 512, 3), (8, .newarray .int, 2), (10, .putfield 11, 3), (13, .aload_n 0, 1), (14, .bipush 32, 2), (16, .newarray .int, 2), (18, .putfield 15, 3), (21, .aload_n 0, 1), (22, .bipush 32, 2), (24, .newarray .int, 2), (26, .putfield 18, 3), (29, .aload_n 0, 1), (30, .bipush 32, 2), (32, .newarray .int, 2), (34, .putfield 21, 3), (37, .aload_n 0, 1), (38, .iconst 0, 1), (39, .putfield 24, 3), (42, .aload_n 0, 1), (43, .getfield 11, 3), (46, .iconst (-1), 1), (47, .invokestatic 28, 3), (50, .return_, 1)] : List (Nat × Instr × Nat)).all (fun q => decide (decode cX2_init q.1 = .ok (q.2.1, q.2.2))) = true := by decide +kernel
theorem dX2_init_0 : decode cX2_init 0 = .ok (.aload_n 0, 1) := dq_of dqX2_init_0 0 rfl
theorem dX2_init_1 : decode cX2_init 1 = .ok (.invokespecial 3, 3) := dq_of dqX2_init_0 1 rfl
theorem dX2_init_4 : decode cX2_init 4 = .ok (.aload_n 0, 1) := dq_of dqX2_init_0 2 rfl
theorem dX2_init_5 : decode cX2_init 5 = .ok (.sipush 512, 3) := dq_of dqX2_init_0 3 rfl
theorem dX2_init_8 : decode cX2_init 8 = .ok (.newarray .int, 2) := dq_of dqX2_init_0 4 rfl
theorem dX2_init_10 : decode cX2_init 10 = .ok (.putfield 11, 3) := dq_of dqX2_init_0 5 rfl
theorem dX2_init_13 : decode cX2_init 13 = .ok (.aload_n 0, 1) := dq_of dqX2_init_0 6 rfl
theorem dX2_init_14 : decode cX2_init 14 = .ok (.bipush 32, 2) := dq_of dqX2_init_0 7 rfl
theorem dX2_init_16 : decode cX2_init 16 = .ok (.newarray .int, 2) := dq_of dqX2_init_0 8 rfl
theorem dX2_init_18 : decode cX2_init 18 = .ok (.putfield 15, 3) := dq_of dqX2_init_0 9 rfl
theorem dX2_init_21 : decode cX2_init 21 = .ok (.aload_n 0, 1) := dq_of dqX2_init_0 10 rfl
theorem dX2_init_22 : decode cX2_init 22 = .ok (.bipush 32, 2) := dq_of dqX2_init_0 11 rfl
theorem dX2_init_24 : decode cX2_init 24 = .ok (.newarray .int, 2) := dq_of dqX2_init_0 12 rfl
theorem dX2_init_26 : decode cX2_init 26 = .ok (.putfield 18, 3) := dq_of dqX2_init_0 13 rfl
theorem dX2_init_29 : decode cX2_init 29 = .ok (.aload_n 0, 1) := dq_of dqX2_init_0 14 rfl
theorem dX2_init_30 : decode cX2_init 30 = .ok (.bipush 32, 2) := dq_of dqX2_init_0 15 rfl
theorem dX2_init_32 : decode cX2_init 32 = .ok (.newarray .int, 2) := dq_of dqX2_init_0 16 rfl
theorem dX2_init_34 : decode cX2_init 34 = .ok (.putfield 21, 3) := dq_of dqX2_init_0 17 rfl
theorem dX2_init_37 : decode cX2_init 37 = .ok (.aload_n 0, 1) := dq_of dqX2_init_0 18 rfl
theorem dX2_init_38 : decode cX2_init 38 = .ok (.iconst 0, 1) := dq_of dqX2_init_0 19 rfl
theorem dX2_init_39 : decode cX2_init 39 = .ok (.putfield 24, 3) := dq_of dqX2_init_0 20 rfl
theorem dX2_init_42 : decode cX2_init 42 = .ok (.aload_n 0, 1) := dq_of dqX2_init_0 21 rfl
theorem dX2_init_43 : decode cX2_init 43 = .ok (.getfield 11, 3) := dq_of dqX2_init_0 22 rfl
theorem dX2_init_46 : decode cX2_init 46 = .ok (.iconst (-1), 1) := dq_of dqX2_init_0 23 rfl
theorem dX2_init_47 : decode cX2_init 47 = .ok (.invokestatic 28, 3) := dq_of dqX2_init_0 24 rfl
theorem dX2_init_50 : decode cX2_init 50 = .ok (.return_, 1) := dq_of dqX2_init_0 25 rfl
theorem dqX2_clear_0 : ([(0, .aload_n 0, 1), (1, .getfield 24, 3), (4, .ifCond .le 11, 3), (7, .aload_n 0, 1), (8, .getfield 11, 3), (11, .iconst (-1), 1), (12, .invokestatic 28, 3), (15, .aload_n 0, 1), (16, .iconst 0, 1), (17, .putfield 24, 3), (20, .return_, 1)] : List (Nat × Instr × Nat)).all (fun q => decide (decode cX2_clear q.1 = .ok (q.2.1, q.2.2))) = true := by decide +kernel
theorem dX2_clear_0 : decode cX2_clear 0 = .ok (.aload_n 0, 1) := dq_of dqX2_clear_0 0 rfl
theorem dX2_clear_1 : decode cX2_clear 1 = .ok (.getfield 24, 3) := dq_of dqX2_clear_0 1 rfl
theorem dX2_clear_4 : decode cX2_clear 4 = .ok (.ifCond .le 11, 3) := dq_of dqX2_clear_0 2 rfl
theorem dX2_clear_7 : decode cX2_clear 7 = .ok (.aload_n 0, 1) := dq_of dqX2_clear_0 3 rfl
theorem dX2_clear_8 : decode cX2_clear 8 = .ok (.getfield 11, 3) := dq_of dqX2_clear_0 4 rfl
theorem dX2_clear_11 : decode cX2_clear 11 = .ok (.iconst (-1), 1) := dq_of dqX2_clear_0 5 rfl
theorem dX2_clear_12 : decode cX2_clear 12 = .ok (.invokestatic 28, 3) := dq_of dqX2_clear_0 6 rfl
theorem dX2_clear_15 : decode cX2_clear 15 = .ok (.aload_n 0, 1) := dq_of dqX2_clear_0 7 rfl
theorem dX2_clear_16 : decode cX2_clear 16 = .ok (.iconst 0, 1) := dq_of dqX2_clear_0 8 rfl
theorem dX2_clear_17 : decode cX2_clear 17 = .ok (.putfield 24, 3) := dq_of dqX2_clear_0 9 rfl
theorem dX2_clear_20 : decode cX2_clear 20 = .ok (.return_, 1) := dq_of dqX2_clear_0 10 rfl
theorem dqX2_firstToken_0 : ([(0, .iload_n 1, 1), (1, .ifCond .lt 29, 3), (4, .iload_n 1, 1), (5, .aload_n 0, 1), (6, .getfield 24, 3), (9, .if_icmp .ge 21, 3), (12, .iload_n 1, 1), (13, .aload_n 0, 1), (14, .getfield 21, 3), (17, .arraylength, 1), (18, .if_icmp .ge 12, 3), (21, .aload_n 0, 1), (22, .getfield 21, 3), (25, .iload_n 1, 1), (26, .iaload, 1), (27, .goto 4, 3), (30, .iconst (-1), 1), (31, .ireturn, 1)] : List (Nat × Instr × Nat)).all (fun q => decide (decode cX2_firstToken q.1 = .ok (q.2.1, q.2.2))) = true := by decide +kernel
theorem dX2_firstToken_0 : decode cX2_firstToken 0 = .ok (.iload_n 1, 1) := dq_of dqX2_firstToken_0 0 rfl
theorem dX2_firstToken_1 : decode cX2_firstToken 1 = .ok (.ifCond .lt 29, 3) := dq_of dqX2_firstToken_0 1 rfl
theorem dX2_firstToken_4 : decode cX2_firstToken 4 = .ok (.iload_n 1, 1) := dq_of dqX2_firstToken_0 2 rfl
theorem dX2_firstToken_5 : decode cX2_firstToken 5 = .ok (.aload_n 0, 1) := dq_of dqX2_firstToken_0 3 rfl
theorem dX2_firstToken_6 : decode cX2_firstToken 6 = .ok (.getfield 24, 3) := dq_of dqX2_firstToken_0 4 rfl
theorem dX2_firstToken_9 : decode cX2_firstToken 9 = .ok (.if_icmp .ge 21, 3) := dq_of dqX2_firstToken_0 5 rfl
theorem dX2_firstToken_12 : decode cX2_firstToken 12 = .ok (.iload_n 1, 1) := dq_of dqX2_firstToken_0 6 rfl
theorem dX2_firstToken_13 : decode cX2_firstToken 13 = .ok (.aload_n 0, 1) := dq_of dqX2_firstToken_0 7 rfl
theorem dX2_firstToken_14 : decode cX2_firstToken 14 = .ok (.getfield 21, 3) := dq_of dqX2_firstToken_0 8 rfl
theorem dX2_firstToken_17 : decode cX2_firstToken 17 = .ok (.arraylength, 1) := dq_of dqX2_firstToken_0 9 rfl
theorem dX2_firstToken_18 : decode cX2_firstToken 18 = .ok (.if_icmp .ge 12, 3) := dq_of dqX2_firstToken_0 10 rfl
theorem dX2_firstToken_21 : decode cX2_firstToken 21 = .ok (.aload_n 0, 1) := dq_of dqX2_firstToken_0 11 rfl
theorem dX2_firstToken_22 : decode cX2_firstToken 22 = .ok (.getfield 21, 3) := dq_of dqX2_firstToken_0 12 rfl
theorem dX2_firstToken_25 : decode cX2_firstToken 25 = .ok (.iload_n 1, 1) := dq_of dqX2_firstToken_0 13 rfl
theorem dX2_firstToken_26 : decode cX2_firstToken 26 = .ok (.iaload, 1) := dq_of dqX2_firstToken_0 14 rfl
theorem dX2_firstToken_27 : decode cX2_firstToken 27 = .ok (.goto 4, 3) := dq_of dqX2_firstToken_0 15 rfl
theorem dX2_firstToken_30 : decode cX2_firstToken 30 = .ok (.iconst (-1), 1) := dq_of dqX2_firstToken_0 16 rfl
theorem dX2_firstToken_31 : decode cX2_firstToken 31 = .ok (.ireturn, 1) := dq_of dqX2_firstToken_0 17 rfl
theorem dqX2_numberOf_0 : ([(0, .aload_n 1, 1), (1, .iload_n 2, 1), (2, .bipush 9, 2), (4, .invokevirtual 34, 3), (7, .istore 4, 2), (9, .aload_n 1, 1), (10, .iload_n 2, 1), (11, .bipush 8, 2), (13, .invokevirtual 34, 3), (16, .istore 5, 2), (18, .aload_n 0, 1), (19, .getfield 11, 3), (22, .iload_n 3, 1), (23, .sipush 511, 3), (26, .iand, 1), (27, .iaload, 1), (28, .istore 6, 2), (30, .iconst 0, 1), (31, .istore 7, 2), (33, .iload 7, 2), (35, .aload_n 0, 1), (36, .getfield 24, 3), (39, .if_icmp .ge 100, 3), (42, .iload 6, 2), (44, .ifCond .lt 95, 3), (47, .iload 6, 2), (49, .aload_n 0, 1), (50, .getfield 18, 3), (53, .arraylength, 1), (54, .if_icmp .ge 85, 3), (57, .iload 6, 2), (59, .aload_n 0, 1), (60, .getfield 15, 3), (63, .arraylength, 1), (64, .if_icmp .ge 75, 3), (67, .aload_n 0, 1), (68, .iload 6, 2), (70, .invokevirtual 40, 3), (73, .istore 8, 2), (75, .aload_n 0, 1)] : List (Nat × Instr × Nat)).all (fun q => decide (decode cX2_numberOf q.1 = .ok (q.2.1, q.2.2))) = true := by decide +kernel
theorem dX2_numberOf_0 : decode cX2_numberOf 0 = .ok (.aload_n 1, 1) := dq_of dqX2_numberOf_0 0 rfl
theorem dX2_numberOf_1 : decode cX2_numberOf 1 = .ok (.iload_n 2, 1) := dq_of dqX2_numberOf_0 1 rfl
theorem dX2_numberOf_2 : decode cX2_numberOf 2 = .ok (.bipush 9, 2) := dq_of dqX2_numberOf_0 2 rfl
theorem dX2_numberOf_4 : decode cX2_numberOf 4 = .ok (.invokevirtual 34, 3) := dq_of dqX2_numberOf_0 3 rfl
theorem dX2_numberOf_7 : decode cX2_numberOf 7 = .ok (.istore 4, 2) := dq_of dqX2_numberOf_0 4 rfl
theorem dX2_numberOf_9 : decode cX2_numberOf 9 = .ok (.aload_n 1, 1) := dq_of dqX2_numberOf_0 5 rfl
theorem dX2_numberOf_10 : decode cX2_numberOf 10 = .ok (.iload_n 2, 1) := dq_of dqX2_numberOf_0 6 rfl
theorem dX2_numberOf_11 : decode cX2_numberOf 11 = .ok (.bipush 8, 2) := dq_of dqX2_numberOf_0 7 rfl
theorem dX2_numberOf_13 : decode cX2_numberOf 13 = .ok (.invokevirtual 34, 3) := dq_of dqX2_numberOf_0 8 rfl
theorem dX2_numberOf_16 : decode cX2_numberOf 16 = .ok (.istore 5, 2) := dq_of dqX2_numberOf_0 9 rfl
theorem dX2_numberOf_18 : decode cX2_numberOf 18 = .ok (.aload_n 0, 1) := dq_of dqX2_numberOf_0 10 rfl
theorem dX2_numberOf_19 : decode cX2_numberOf 19 = .ok (.getfield 11, 3) := dq_of dqX2_numberOf_0 11 rfl
theorem dX2_numberOf_22 : decode cX2_numberOf 22 = .ok (.iload_n 3, 1) := dq_of dqX2_numberOf_0 12 rfl
theorem dX2_numberOf_23 : decode cX2_numberOf 23 = .ok (.sipush 511, 3) := dq_of dqX2_numberOf_0 13 rfl
theorem dX2_numberOf_26 : decode cX2_numberOf 26 = .ok (.iand, 1) := dq_of dqX2_numberOf_0 14 rfl
theorem dX2_numberOf_27 : decode cX2_numberOf 27 = .ok (.iaload, 1) := dq_of dqX2_numberOf_0 15 rfl
theorem dX2_numberOf_28 : decode cX2_numberOf 28 = .ok (.istore 6, 2) := dq_of dqX2_numberOf_0 16 rfl
theorem dX2_numberOf_30 : decode cX2_numberOf 30 = .ok (.iconst 0, 1) := dq_of dqX2_numberOf_0 17 rfl
theorem dX2_numberOf_31 : decode cX2_numberOf 31 = .ok (.istore 7, 2) := dq_of dqX2_numberOf_0 18 rfl
theorem dX2_numberOf_33 : decode cX2_numberOf 33 = .ok (.iload 7, 2) := dq_of dqX2_numberOf_0 19 rfl
theorem dX2_numberOf_35 : decode cX2_numberOf 35 = .ok (.aload_n 0, 1) := dq_of dqX2_numberOf_0 20 rfl
theorem dX2_numberOf_36 : decode cX2_numberOf 36 = .ok (.getfield 24, 3) := dq_of dqX2_numberOf_0 21 rfl
theorem dX2_numberOf_39 : decode cX2_numberOf 39 = .ok (.if_icmp .ge 100, 3) := dq_of dqX2_numberOf_0 22 rfl
theorem dX2_numberOf_42 : decode cX2_numberOf 42 = .ok (.iload 6, 2) := dq_of dqX2_numberOf_0 23 rfl
theorem dX2_numberOf_44 : decode cX2_numberOf 44 = .ok (.ifCond .lt 95, 3) := dq_of dqX2_numberOf_0 24 rfl
theorem dX2_numberOf_47 : decode cX2_numberOf 47 = .ok (.iload 6, 2) := dq_of dqX2_numberOf_0 25 rfl
theorem dX2_numberOf_49 : decode cX2_numberOf 49 = .ok (.aload_n 0, 1) := dq_of dqX2_numberOf_0 26 rfl
theorem dX2_numberOf_50 : decode cX2_numberOf 50 = .ok (.getfield 18, 3) := dq_of dqX2_numberOf_0 27 rfl
theorem dX2_numberOf_53 : decode cX2_numberOf 53 = .ok (.arraylength, 1) := dq_of dqX2_numberOf_0 28 rfl
theorem dX2_numberOf_54 : decode cX2_numberOf 54 = .ok (.if_icmp .ge 85, 3) := dq_of dqX2_numberOf_0 29 rfl
theorem dX2_numberOf_57 : decode cX2_numberOf 57 = .ok (.iload 6, 2) := dq_of dqX2_numberOf_0 30 rfl
theorem dX2_numberOf_59 : decode cX2_numberOf 59 = .ok (.aload_n 0, 1) := dq_of dqX2_numberOf_0 31 rfl
theorem dX2_numberOf_60 : decode cX2_numberOf 60 = .ok (.getfield 15, 3) := dq_of dqX2_numberOf_0 32 rfl
theorem dX2_numberOf_63 : decode cX2_numberOf 63 = .ok (.arraylength, 1) := dq_of dqX2_numberOf_0 33 rfl
theorem dX2_numberOf_64 : decode cX2_numberOf 64 = .ok (.if_icmp .ge 75, 3) := dq_of dqX2_numberOf_0 34 rfl
theorem dX2_numberOf_67 : decode cX2_numberOf 67 = .ok (.aload_n 0, 1) := dq_of dqX2_numberOf_0 35 rfl
theorem dX2_numberOf_68 : decode cX2_numberOf 68 = .ok (.iload 6, 2) := dq_of dqX2_numberOf_0 36 rfl
theorem dX2_numberOf_70 : decode cX2_numberOf 70 = .ok (.invokevirtual 40, 3) := dq_of dqX2_numberOf_0 37 rfl
theorem dX2_numberOf_73 : decode cX2_numberOf 73 = .ok (.istore 8, 2) := dq_of dqX2_numberOf_0 38 rfl
theorem dX2_numberOf_75 : decode cX2_numberOf 75 = .ok (.aload_n 0, 1) := dq_of dqX2_numberOf_0 39 rfl
theorem dqX2_numberOf_76 : ([(76, .getfield 18, 3), (79, .iload 6, 2), (81, .iaload, 1), (82, .iload_n 3, 1), (83, .if_icmp .ne 41, 3), (86, .aload_n 1, 1), (87, .iload 8, 2), (89, .bipush 8, 2), (91, .invokevirtual 34, 3), (94, .iload 5, 2), (96, .if_icmp .ne 28, 3), (99, .aload_n 1, 1), (100, .getfield 44, 3), (103, .aload_n 1, 1), (104, .iload 8, 2), (106, .bipush 9, 2), (108, .invokevirtual 34, 3), (111, .iload 4, 2), (113, .iload 5, 2), (115, .invokevirtual 48, 3), (118, .ifCond .eq 6, 3), (121, .iload 6, 2), (123, .ireturn, 1), (124, .aload_n 0, 1), (125, .getfield 15, 3), (128, .iload 6, 2), (130, .iaload, 1), (131, .istore 6, 2), (133, .iinc 7 1, 3), (136, .goto (-103), 3), (139, .aload_n 0, 1), (140, .iload_n 2, 1), (141, .iload_n 3, 1), (142, .invokevirtual 54, 3), (145, .ireturn, 1)] : List (Nat × Instr × Nat)).all (fun q => decide (decode cX2_numberOf q.1 = .ok (q.2.1, q.2.2))) = true := by decide +kernel
theorem dX2_numberOf_76 : decode cX2_numberOf 76 = .ok (.getfield 18, 3) := dq_of dqX2_numberOf_76 0 rfl
theorem dX2_numberOf_79 : decode cX2_numberOf 79 = .ok (.iload 6, 2) := dq_of dqX2_numberOf_76 1 rfl
theorem dX2_numberOf_81 : decode cX2_numberOf 81 = .ok (.iaload, 1) := dq_of dqX2_numberOf_76 2 rfl
theorem dX2_numberOf_82 : decode cX2_numberOf 82 = .ok (.iload_n 3, 1) := dq_of dqX2_numberOf_76 3 rfl
theorem dX2_numberOf_83 : decode cX2_numberOf 83 = .ok (.if_icmp .ne 41, 3) := dq_of dqX2_numberOf_76 4 rfl
theorem dX2_numberOf_86 : decode cX2_numberOf 86 = .ok (.aload_n 1, 1) := dq_of dqX2_numberOf_76 5 rfl
theorem dX2_numberOf_87 : decode cX2_numberOf 87 = .ok (.iload 8, 2) := dq_of dqX2_numberOf_76 6 rfl
theorem dX2_numberOf_89 : decode cX2_numberOf 89 = .ok (.bipush 8, 2) := dq_of dqX2_numberOf_76 7 rfl
theorem dX2_numberOf_91 : decode cX2_numberOf 91 = .ok (.invokevirtual 34, 3) := dq_of dqX2_numberOf_76 8 rfl
theorem dX2_numberOf_94 : decode cX2_numberOf 94 = .ok (.iload 5, 2) := dq_of dqX2_numberOf_76 9 rfl
theorem dX2_numberOf_96 : decode cX2_numberOf 96 = .ok (.if_icmp .ne 28, 3) := dq_of dqX2_numberOf_76 10 rfl
theorem dX2_numberOf_99 : decode cX2_numberOf 99 = .ok (.aload_n 1, 1) := dq_of dqX2_numberOf_76 11 rfl
theorem dX2_numberOf_100 : decode cX2_numberOf 100 = .ok (.getfield 44, 3) := dq_of dqX2_numberOf_76 12 rfl
theorem dX2_numberOf_103 : decode cX2_numberOf 103 = .ok (.aload_n 1, 1) := dq_of dqX2_numberOf_76 13 rfl
theorem dX2_numberOf_104 : decode cX2_numberOf 104 = .ok (.iload 8, 2) := dq_of dqX2_numberOf_76 14 rfl
theorem dX2_numberOf_106 : decode cX2_numberOf 106 = .ok (.bipush 9, 2) := dq_of dqX2_numberOf_76 15 rfl
theorem dX2_numberOf_108 : decode cX2_numberOf 108 = .ok (.invokevirtual 34, 3) := dq_of dqX2_numberOf_76 16 rfl
theorem dX2_numberOf_111 : decode cX2_numberOf 111 = .ok (.iload 4, 2) := dq_of dqX2_numberOf_76 17 rfl
theorem dX2_numberOf_113 : decode cX2_numberOf 113 = .ok (.iload 5, 2) := dq_of dqX2_numberOf_76 18 rfl
theorem dX2_numberOf_115 : decode cX2_numberOf 115 = .ok (.invokevirtual 48, 3) := dq_of dqX2_numberOf_76 19 rfl
theorem dX2_numberOf_118 : decode cX2_numberOf 118 = .ok (.ifCond .eq 6, 3) := dq_of dqX2_numberOf_76 20 rfl
theorem dX2_numberOf_121 : decode cX2_numberOf 121 = .ok (.iload 6, 2) := dq_of dqX2_numberOf_76 21 rfl
theorem dX2_numberOf_123 : decode cX2_numberOf 123 = .ok (.ireturn, 1) := dq_of dqX2_numberOf_76 22 rfl
theorem dX2_numberOf_124 : decode cX2_numberOf 124 = .ok (.aload_n 0, 1) := dq_of dqX2_numberOf_76 23 rfl
theorem dX2_numberOf_125 : decode cX2_numberOf 125 = .ok (.getfield 15, 3) := dq_of dqX2_numberOf_76 24 rfl
theorem dX2_numberOf_128 : decode cX2_numberOf 128 = .ok (.iload 6, 2) := dq_of dqX2_numberOf_76 25 rfl
theorem dX2_numberOf_130 : decode cX2_numberOf 130 = .ok (.iaload, 1) := dq_of dqX2_numberOf_76 26 rfl
theorem dX2_numberOf_131 : decode cX2_numberOf 131 = .ok (.istore 6, 2) := dq_of dqX2_numberOf_76 27 rfl
theorem dX2_numberOf_133 : decode cX2_numberOf 133 = .ok (.iinc 7 1, 3) := dq_of dqX2_numberOf_76 28 rfl
theorem dX2_numberOf_136 : decode cX2_numberOf 136 = .ok (.goto (-103), 3) := dq_of dqX2_numberOf_76 29 rfl
theorem dX2_numberOf_139 : decode cX2_numberOf 139 = .ok (.aload_n 0, 1) := dq_of dqX2_numberOf_76 30 rfl
theorem dX2_numberOf_140 : decode cX2_numberOf 140 = .ok (.iload_n 2, 1) := dq_of dqX2_numberOf_76 31 rfl
theorem dX2_numberOf_141 : decode cX2_numberOf 141 = .ok (.iload_n 3, 1) := dq_of dqX2_numberOf_76 32 rfl
theorem dX2_numberOf_142 : decode cX2_numberOf 142 = .ok (.invokevirtual 54, 3) := dq_of dqX2_numberOf_76 33 rfl
theorem dX2_numberOf_145 : decode cX2_numberOf 145 = .ok (.ireturn, 1) := dq_of dqX2_numberOf_76 34 rfl
theorem dqX2_add_0 : ([(0, .aload_n 0, 1), (1, .getfield 24, 3), (4, .aload_n 0, 1), (5, .getfield 21, 3), (8, .arraylength, 1), (9, .if_icmp .lt 47, 3), (12, .aload_n 0, 1), (13, .getfield 21, 3), (16, .arraylength, 1), (17, .iconst 2, 1), (18, .imul, 1), (19, .istore_n 3, 1), (20, .aload_n 0, 1), (21, .aload_n 0, 1), (22, .getfield 15, 3), (25, .iload_n 3, 1), (26, .invokestatic 57, 3), (29, .putfield 15, 3), (32, .aload_n 0, 1), (33, .aload_n 0, 1), (34, .getfield 18, 3), (37, .iload_n 3, 1), (38, .invokestatic 57, 3), (41, .putfield 18, 3), (44, .aload_n 0, 1), (45, .aload_n 0, 1), (46, .getfield 21, 3), (49, .iload_n 3, 1), (50, .invokestatic 57, 3), (53, .putfield 21, 3), (56, .aload_n 0, 1), (57, .getfield 24, 3), (60, .aload_n 0, 1), (61, .getfield 21, 3), (64, .arraylength, 1), (65, .if_icmp .ge 27, 3), (68, .aload_n 0, 1), (69, .getfield 24, 3), (72, .aload_n 0, 1), (73, .getfield 18, 3)] : List (Nat × Instr × Nat)).all (fun q => decide (decode cX2_add q.1 = .ok (q.2.1, q.2.2))) = true := by decide +kernel
theorem dX2_add_0 : decode cX2_add 0 = .ok (.aload_n 0, 1) := dq_of dqX2_add_0 0 rfl
theorem dX2_add_1 : decode cX2_add 1 = .ok (.getfield 24, 3) := dq_of dqX2_add_0 1 rfl
theorem dX2_add_4 : decode cX2_add 4 = .ok (.aload_n 0, 1) := dq_of dqX2_add_0 2 rfl
theorem dX2_add_5 : decode cX2_add 5 = .ok (.getfield 21, 3) := dq_of dqX2_add_0 3 rfl
theorem dX2_add_8 : decode cX2_add 8 = .ok (.arraylength, 1) := dq_of dqX2_add_0 4 rfl
theorem dX2_add_9 : decode cX2_add 9 = .ok (.if_icmp .lt 47, 3) := dq_of dqX2_add_0 5 rfl
theorem dX2_add_12 : decode cX2_add 12 = .ok (.aload_n 0, 1) := dq_of dqX2_add_0 6 rfl
theorem dX2_add_13 : decode cX2_add 13 = .ok (.getfield 21, 3) := dq_of dqX2_add_0 7 rfl
theorem dX2_add_16 : decode cX2_add 16 = .ok (.arraylength, 1) := dq_of dqX2_add_0 8 rfl
theorem dX2_add_17 : decode cX2_add 17 = .ok (.iconst 2, 1) := dq_of dqX2_add_0 9 rfl
theorem dX2_add_18 : decode cX2_add 18 = .ok (.imul, 1) := dq_of dqX2_add_0 10 rfl
theorem dX2_add_19 : decode cX2_add 19 = .ok (.istore_n 3, 1) := dq_of dqX2_add_0 11 rfl
theorem dX2_add_20 : decode cX2_add 20 = .ok (.aload_n 0, 1) := dq_of dqX2_add_0 12 rfl
theorem dX2_add_21 : decode cX2_add 21 = .ok (.aload_n 0, 1) := dq_of dqX2_add_0 13 rfl
theorem dX2_add_22 : decode cX2_add 22 = .ok (.getfield 15, 3) := dq_of dqX2_add_0 14 rfl
theorem dX2_add_25 : decode cX2_add 25 = .ok (.iload_n 3, 1) := dq_of dqX2_add_0 15 rfl
theorem dX2_add_26 : decode cX2_add 26 = .ok (.invokestatic 57, 3) := dq_of dqX2_add_0 16 rfl
theorem dX2_add_29 : decode cX2_add 29 = .ok (.putfield 15, 3) := dq_of dqX2_add_0 17 rfl
theorem dX2_add_32 : decode cX2_add 32 = .ok (.aload_n 0, 1) := dq_of dqX2_add_0 18 rfl
theorem dX2_add_33 : decode cX2_add 33 = .ok (.aload_n 0, 1) := dq_of dqX2_add_0 19 rfl
theorem dX2_add_34 : decode cX2_add 34 = .ok (.getfield 18, 3) := dq_of dqX2_add_0 20 rfl
theorem dX2_add_37 : decode cX2_add 37 = .ok (.iload_n 3, 1) := dq_of dqX2_add_0 21 rfl
theorem dX2_add_38 : decode cX2_add 38 = .ok (.invokestatic 57, 3) := dq_of dqX2_add_0 22 rfl
theorem dX2_add_41 : decode cX2_add 41 = .ok (.putfield 18, 3) := dq_of dqX2_add_0 23 rfl
theorem dX2_add_44 : decode cX2_add 44 = .ok (.aload_n 0, 1) := dq_of dqX2_add_0 24 rfl
theorem dX2_add_45 : decode cX2_add 45 = .ok (.aload_n 0, 1) := dq_of dqX2_add_0 25 rfl
theorem dX2_add_46 : decode cX2_add 46 = .ok (.getfield 21, 3) := dq_of dqX2_add_0 26 rfl
theorem dX2_add_49 : decode cX2_add 49 = .ok (.iload_n 3, 1) := dq_of dqX2_add_0 27 rfl
theorem dX2_add_50 : decode cX2_add 50 = .ok (.invokestatic 57, 3) := dq_of dqX2_add_0 28 rfl
theorem dX2_add_53 : decode cX2_add 53 = .ok (.putfield 21, 3) := dq_of dqX2_add_0 29 rfl
theorem dX2_add_56 : decode cX2_add 56 = .ok (.aload_n 0, 1) := dq_of dqX2_add_0 30 rfl
theorem dX2_add_57 : decode cX2_add 57 = .ok (.getfield 24, 3) := dq_of dqX2_add_0 31 rfl
theorem dX2_add_60 : decode cX2_add 60 = .ok (.aload_n 0, 1) := dq_of dqX2_add_0 32 rfl
theorem dX2_add_61 : decode cX2_add 61 = .ok (.getfield 21, 3) := dq_of dqX2_add_0 33 rfl
theorem dX2_add_64 : decode cX2_add 64 = .ok (.arraylength, 1) := dq_of dqX2_add_0 34 rfl
theorem dX2_add_65 : decode cX2_add 65 = .ok (.if_icmp .ge 27, 3) := dq_of dqX2_add_0 35 rfl
theorem dX2_add_68 : decode cX2_add 68 = .ok (.aload_n 0, 1) := dq_of dqX2_add_0 36 rfl
theorem dX2_add_69 : decode cX2_add 69 = .ok (.getfield 24, 3) := dq_of dqX2_add_0 37 rfl
theorem dX2_add_72 : decode cX2_add 72 = .ok (.aload_n 0, 1) := dq_of dqX2_add_0 38 rfl
theorem dX2_add_73 : decode cX2_add 73 = .ok (.getfield 18, 3) := dq_of dqX2_add_0 39 rfl
theorem dqX2_add_76 : ([(76, .arraylength, 1), (77, .if_icmp .ge 15, 3), (80, .aload_n 0, 1), (81, .getfield 24, 3), (84, .aload_n 0, 1), (85, .getfield 15, 3), (88, .arraylength, 1), (89, .if_icmp .lt 5, 3), (92, .iconst (-1), 1), (93, .ireturn, 1), (94, .aload_n 0, 1), (95, .getfield 21, 3), (98, .aload_n 0, 1), (99, .getfield 24, 3), (102, .iload_n 1, 1), (103, .iastore, 1), (104, .aload_n 0, 1), (105, .getfield 18, 3), (108, .aload_n 0, 1), (109, .getfield 24, 3), (112, .iload_n 2, 1), (113, .iastore, 1), (114, .aload_n 0, 1), (115, .getfield 15, 3), (118, .aload_n 0, 1), (119, .getfield 24, 3), (122, .aload_n 0, 1), (123, .getfield 11, 3), (126, .iload_n 2, 1), (127, .sipush 511, 3), (130, .iand, 1), (131, .iaload, 1), (132, .iastore, 1), (133, .aload_n 0, 1), (134, .getfield 11, 3), (137, .iload_n 2, 1), (138, .sipush 511, 3), (141, .iand, 1), (142, .aload_n 0, 1), (143, .getfield 24, 3)] : List (Nat × Instr × Nat)).all (fun q => decide (decode cX2_add q.1 = .ok (q.2.1, q.2.2))) = true := by decide +kernel
theorem dX2_add_76 : decode cX2_add 76 = .ok (.arraylength, 1) := dq_of dqX2_add_76 0 rfl
theorem dX2_add_77 : decode cX2_add 77 = .ok (.if_icmp .ge 15, 3) := dq_of dqX2_add_76 1 rfl
theorem dX2_add_80 : decode cX2_add 80 = .ok (.aload_n 0, 1) := dq_of dqX2_add_76 2 rfl
theorem dX2_add_81 : decode cX2_add 81 = .ok (.getfield 24, 3) := dq_of dqX2_add_76 3 rfl
theorem dX2_add_84 : decode cX2_add 84 = .ok (.aload_n 0, 1) := dq_of dqX2_add_76 4 rfl
theorem dX2_add_85 : decode cX2_add 85 = .ok (.getfield 15, 3) := dq_of dqX2_add_76 5 rfl
theorem dX2_add_88 : decode cX2_add 88 = .ok (.arraylength, 1) := dq_of dqX2_add_76 6 rfl
theorem dX2_add_89 : decode cX2_add 89 = .ok (.if_icmp .lt 5, 3) := dq_of dqX2_add_76 7 rfl
theorem dX2_add_92 : decode cX2_add 92 = .ok (.iconst (-1), 1) := dq_of dqX2_add_76 8 rfl
theorem dX2_add_93 : decode cX2_add 93 = .ok (.ireturn, 1) := dq_of dqX2_add_76 9 rfl
theorem dX2_add_94 : decode cX2_add 94 = .ok (.aload_n 0, 1) := dq_of dqX2_add_76 10 rfl
theorem dX2_add_95 : decode cX2_add 95 = .ok (.getfield 21, 3) := dq_of dqX2_add_76 11 rfl
theorem dX2_add_98 : decode cX2_add 98 = .ok (.aload_n 0, 1) := dq_of dqX2_add_76 12 rfl
theorem dX2_add_99 : decode cX2_add 99 = .ok (.getfield 24, 3) := dq_of dqX2_add_76 13 rfl
theorem dX2_add_102 : decode cX2_add 102 = .ok (.iload_n 1, 1) := dq_of dqX2_add_76 14 rfl
theorem dX2_add_103 : decode cX2_add 103 = .ok (.iastore, 1) := dq_of dqX2_add_76 15 rfl
theorem dX2_add_104 : decode cX2_add 104 = .ok (.aload_n 0, 1) := dq_of dqX2_add_76 16 rfl
theorem dX2_add_105 : decode cX2_add 105 = .ok (.getfield 18, 3) := dq_of dqX2_add_76 17 rfl
theorem dX2_add_108 : decode cX2_add 108 = .ok (.aload_n 0, 1) := dq_of dqX2_add_76 18 rfl
theorem dX2_add_109 : decode cX2_add 109 = .ok (.getfield 24, 3) := dq_of dqX2_add_76 19 rfl
theorem dX2_add_112 : decode cX2_add 112 = .ok (.iload_n 2, 1) := dq_of dqX2_add_76 20 rfl
theorem dX2_add_113 : decode cX2_add 113 = .ok (.iastore, 1) := dq_of dqX2_add_76 21 rfl
theorem dX2_add_114 : decode cX2_add 114 = .ok (.aload_n 0, 1) := dq_of dqX2_add_76 22 rfl
theorem dX2_add_115 : decode cX2_add 115 = .ok (.getfield 15, 3) := dq_of dqX2_add_76 23 rfl
theorem dX2_add_118 : decode cX2_add 118 = .ok (.aload_n 0, 1) := dq_of dqX2_add_76 24 rfl
theorem dX2_add_119 : decode cX2_add 119 = .ok (.getfield 24, 3) := dq_of dqX2_add_76 25 rfl
theorem dX2_add_122 : decode cX2_add 122 = .ok (.aload_n 0, 1) := dq_of dqX2_add_76 26 rfl
theorem dX2_add_123 : decode cX2_add 123 = .ok (.getfield 11, 3) := dq_of dqX2_add_76 27 rfl
theorem dX2_add_126 : decode cX2_add 126 = .ok (.iload_n 2, 1) := dq_of dqX2_add_76 28 rfl
theorem dX2_add_127 : decode cX2_add 127 = .ok (.sipush 511, 3) := dq_of dqX2_add_76 29 rfl
theorem dX2_add_130 : decode cX2_add 130 = .ok (.iand, 1) := dq_of dqX2_add_76 30 rfl
theorem dX2_add_131 : decode cX2_add 131 = .ok (.iaload, 1) := dq_of dqX2_add_76 31 rfl
theorem dX2_add_132 : decode cX2_add 132 = .ok (.iastore, 1) := dq_of dqX2_add_76 32 rfl
theorem dX2_add_133 : decode cX2_add 133 = .ok (.aload_n 0, 1) := dq_of dqX2_add_76 33 rfl
theorem dX2_add_134 : decode cX2_add 134 = .ok (.getfield 11, 3) := dq_of dqX2_add_76 34 rfl
theorem dX2_add_137 : decode cX2_add 137 = .ok (.iload_n 2, 1) := dq_of dqX2_add_76 35 rfl
theorem dX2_add_138 : decode cX2_add 138 = .ok (.sipush 511, 3) := dq_of dqX2_add_76 36 rfl
theorem dX2_add_141 : decode cX2_add 141 = .ok (.iand, 1) := dq_of dqX2_add_76 37 rfl
theorem dX2_add_142 : decode cX2_add 142 = .ok (.aload_n 0, 1) := dq_of dqX2_add_76 38 rfl
theorem dX2_add_143 : decode cX2_add 143 = .ok (.getfield 24, 3) := dq_of dqX2_add_76 39 rfl
theorem dqX2_add_146 : ([(146, .iastore, 1), (147, .aload_n 0, 1), (148, .dup, 1), (149, .getfield 24, 3), (152, .iconst 1, 1), (153, .iadd, 1), (154, .putfield 24, 3), (157, .aload_n 0, 1), (158, .getfield 24, 3), (161, .iconst 1, 1), (162, .isub, 1), (163, .ireturn, 1)] : List (Nat × Instr × Nat)).all (fun q => decide (decode cX2_add q.1 = .ok (q.2.1, q.2.2))) = true := by decide +kernel
theorem dX2_add_146 : decode cX2_add 146 = .ok (.iastore, 1) := dq_of dqX2_add_146 0 rfl
theorem dX2_add_147 : decode cX2_add 147 = .ok (.aload_n 0, 1) := dq_of dqX2_add_146 1 rfl
theorem dX2_add_148 : decode cX2_add 148 = .ok (.dup, 1) := dq_of dqX2_add_146 2 rfl
theorem dX2_add_149 : decode cX2_add 149 = .ok (.getfield 24, 3) := dq_of dqX2_add_146 3 rfl
theorem dX2_add_152 : decode cX2_add 152 = .ok (.iconst 1, 1) := dq_of dqX2_add_146 4 rfl
theorem dX2_add_153 : decode cX2_add 153 = .ok (.iadd, 1) := dq_of dqX2_add_146 5 rfl
theorem dX2_add_154 : decode cX2_add 154 = .ok (.putfield 24, 3) := dq_of dqX2_add_146 6 rfl
theorem dX2_add_157 : decode cX2_add 157 = .ok (.aload_n 0, 1) := dq_of dqX2_add_146 7 rfl
theorem dX2_add_158 : decode cX2_add 158 = .ok (.getfield 24, 3) := dq_of dqX2_add_146 8 rfl
theorem dX2_add_161 : decode cX2_add 161 = .ok (.iconst 1, 1) := dq_of dqX2_add_146 9 rfl
theorem dX2_add_162 : decode cX2_add 162 = .ok (.isub, 1) := dq_of dqX2_add_146 10 rfl
theorem dX2_add_163 : decode cX2_add 163 = .ok (.ireturn, 1) := dq_of dqX2_add_146 11 rfl
theorem dqX3_init_0 : ([(0, .aload_n 0, 1), (1, .invokespecial 3, 3), (4, .aload_n 0, 1), (5, .aload_n 1, 1), (6, .putfield 9, 3), (9, .aload_n 0, 1), (10, .aload_n 2, 1), (11, .putfield 15, 3), (14, .return_, 1)] : List (Nat × Instr × Nat)).all (fun q => decide (decode cX3_init q.1 = .ok (q.2.1, q.2.2))) = true := by decide +kernel
theorem dX3_init_0 : decode cX3_init 0 = .ok (.aload_n 0, 1) := dq_of dqX3_init_0 0 rfl
theorem dX3_init_1 : decode cX3_init 1 = .ok (.invokespecial 3, 3) := dq_of dqX3_init_0 1 rfl
theorem dX3_init_4 : decode cX3_init 4 = .ok (.aload_n 0, 1) := dq_of dqX3_init_0 2 rfl
theorem dX3_init_5 : decode cX3_init 5 = .ok (.aload_n 1, 1) := dq_of dqX3_init_0 3 rfl
theorem dX3_init_6 : decode cX3_init 6 = .ok (.putfield 9, 3) := dq_of dqX3_init_0 4 rfl
theorem dX3_init_9 : decode cX3_init 9 = .ok (.aload_n 0, 1) := dq_of dqX3_init_0 5 rfl
theorem dX3_init_10 : decode cX3_init 10 = .ok (.aload_n 2, 1) := dq_of dqX3_init_0 6 rfl
theorem dX3_init_11 : decode cX3_init 11 = .ok (.putfield 15, 3) := dq_of dqX3_init_0 7 rfl
theorem dX3_init_14 : decode cX3_init 14 = .ok (.return_, 1) := dq_of dqX3_init_0 8 rfl
theorem dqX3_readNumber_0 : ([(0, .aload_n 0, 1), (1, .getfield 9, 3), (4, .invokevirtual 19, 3), (7, .bipush 48, 2), (9, .if_icmp .ne 16, 3), (12, .aload_n 0, 1), (13, .getfield 9, 3), (16, .invokevirtual 25, 3), (19, .invokestatic 28, 3), (22, .goto 4, 3), (25, .iconst (-1), 1), (26, .istore_n 1, 1), (27, .iload_n 1, 1), (28, .iconst (-1), 1), (29, .if_icmp .ne 10, 3), (32, .aload_n 0, 1), (33, .invokevirtual 32, 3), (36, .goto 8, 3), (39, .aload_n 0, 1), (40, .iload_n 1, 1), (41, .invokevirtual 35, 3), (44, .istore_n 2, 1), (45, .iload_n 2, 1), (46, .iconst (-1), 1), (47, .if_icmp .eq 26, 3), (50, .aload_n 0, 1), (51, .getfield 9, 3), (54, .invokevirtual 19, 3), (57, .invokestatic 38, 3), (60, .ifCond .eq 13, 3), (63, .aload_n 0, 1), (64, .getfield 9, 3), (67, .invokevirtual 42, 3), (70, .goto 4, 3), (73, .iload_n 2, 1), (74, .ireturn, 1)] : List (Nat × Instr × Nat)).all (fun q => decide (decode cX3_readNumber q.1 = .ok (q.2.1, q.2.2))) = true := by decide +kernel
theorem dX3_readNumber_0 : decode cX3_readNumber 0 = .ok (.aload_n 0, 1) := dq_of dqX3_readNumber_0 0 rfl
theorem dX3_readNumber_1 : decode cX3_readNumber 1 = .ok (.getfield 9, 3) := dq_of dqX3_readNumber_0 1 rfl
theorem dX3_readNumber_4 : decode cX3_readNumber 4 = .ok (.invokevirtual 19, 3) := dq_of dqX3_readNumber_0 2 rfl
theorem dX3_readNumber_7 : decode cX3_readNumber 7 = .ok (.bipush 48, 2) := dq_of dqX3_readNumber_0 3 rfl
theorem dX3_readNumber_9 : decode cX3_readNumber 9 = .ok (.if_icmp .ne 16, 3) := dq_of dqX3_readNumber_0 4 rfl
theorem dX3_readNumber_12 : decode cX3_readNumber 12 = .ok (.aload_n 0, 1) := dq_of dqX3_readNumber_0 5 rfl
theorem dX3_readNumber_13 : decode cX3_readNumber 13 = .ok (.getfield 9, 3) := dq_of dqX3_readNumber_0 6 rfl
theorem dX3_readNumber_16 : decode cX3_readNumber 16 = .ok (.invokevirtual 25, 3) := dq_of dqX3_readNumber_0 7 rfl
theorem dX3_readNumber_19 : decode cX3_readNumber 19 = .ok (.invokestatic 28, 3) := dq_of dqX3_readNumber_0 8 rfl
theorem dX3_readNumber_22 : decode cX3_readNumber 22 = .ok (.goto 4, 3) := dq_of dqX3_readNumber_0 9 rfl
theorem dX3_readNumber_25 : decode cX3_readNumber 25 = .ok (.iconst (-1), 1) := dq_of dqX3_readNumber_0 10 rfl
theorem dX3_readNumber_26 : decode cX3_readNumber 26 = .ok (.istore_n 1, 1) := dq_of dqX3_readNumber_0 11 rfl
theorem dX3_readNumber_27 : decode cX3_readNumber 27 = .ok (.iload_n 1, 1) := dq_of dqX3_readNumber_0 12 rfl
theorem dX3_readNumber_28 : decode cX3_readNumber 28 = .ok (.iconst (-1), 1) := dq_of dqX3_readNumber_0 13 rfl
theorem dX3_readNumber_29 : decode cX3_readNumber 29 = .ok (.if_icmp .ne 10, 3) := dq_of dqX3_readNumber_0 14 rfl
theorem dX3_readNumber_32 : decode cX3_readNumber 32 = .ok (.aload_n 0, 1) := dq_of dqX3_readNumber_0 15 rfl
theorem dX3_readNumber_33 : decode cX3_readNumber 33 = .ok (.invokevirtual 32, 3) := dq_of dqX3_readNumber_0 16 rfl
theorem dX3_readNumber_36 : decode cX3_readNumber 36 = .ok (.goto 8, 3) := dq_of dqX3_readNumber_0 17 rfl
theorem dX3_readNumber_39 : decode cX3_readNumber 39 = .ok (.aload_n 0, 1) := dq_of dqX3_readNumber_0 18 rfl
theorem dX3_readNumber_40 : decode cX3_readNumber 40 = .ok (.iload_n 1, 1) := dq_of dqX3_readNumber_0 19 rfl
theorem dX3_readNumber_41 : decode cX3_readNumber 41 = .ok (.invokevirtual 35, 3) := dq_of dqX3_readNumber_0 20 rfl
theorem dX3_readNumber_44 : decode cX3_readNumber 44 = .ok (.istore_n 2, 1) := dq_of dqX3_readNumber_0 21 rfl
theorem dX3_readNumber_45 : decode cX3_readNumber 45 = .ok (.iload_n 2, 1) := dq_of dqX3_readNumber_0 22 rfl
theorem dX3_readNumber_46 : decode cX3_readNumber 46 = .ok (.iconst (-1), 1) := dq_of dqX3_readNumber_0 23 rfl
theorem dX3_readNumber_47 : decode cX3_readNumber 47 = .ok (.if_icmp .eq 26, 3) := dq_of dqX3_readNumber_0 24 rfl
theorem dX3_readNumber_50 : decode cX3_readNumber 50 = .ok (.aload_n 0, 1) := dq_of dqX3_readNumber_0 25 rfl
theorem dX3_readNumber_51 : decode cX3_readNumber 51 = .ok (.getfield 9, 3) := dq_of dqX3_readNumber_0 26 rfl
theorem dX3_readNumber_54 : decode cX3_readNumber 54 = .ok (.invokevirtual 19, 3) := dq_of dqX3_readNumber_0 27 rfl
theorem dX3_readNumber_57 : decode cX3_readNumber 57 = .ok (.invokestatic 38, 3) := dq_of dqX3_readNumber_0 28 rfl
theorem dX3_readNumber_60 : decode cX3_readNumber 60 = .ok (.ifCond .eq 13, 3) := dq_of dqX3_readNumber_0 29 rfl
theorem dX3_readNumber_63 : decode cX3_readNumber 63 = .ok (.aload_n 0, 1) := dq_of dqX3_readNumber_0 30 rfl
theorem dX3_readNumber_64 : decode cX3_readNumber 64 = .ok (.getfield 9, 3) := dq_of dqX3_readNumber_0 31 rfl
theorem dX3_readNumber_67 : decode cX3_readNumber 67 = .ok (.invokevirtual 42, 3) := dq_of dqX3_readNumber_0 32 rfl
theorem dX3_readNumber_70 : decode cX3_readNumber 70 = .ok (.goto 4, 3) := dq_of dqX3_readNumber_0 33 rfl
theorem dX3_readNumber_73 : decode cX3_readNumber 73 = .ok (.iload_n 2, 1) := dq_of dqX3_readNumber_0 34 rfl
theorem dX3_readNumber_74 : decode cX3_readNumber 74 = .ok (.ireturn, 1) := dq_of dqX3_readNumber_0 35 rfl
theorem dqX3_baseOfLetter_0 : ([(0, .iload_n 0, 1), (1, .lookupswitch 67 #[(66, 59), (79, 61), (88, 64), (98, 59), (111, 61), (120, 64)], 59), (60, .iconst 2, 1), (61, .ireturn, 1), (62, .bipush 8, 2), (64, .ireturn, 1), (65, .bipush 16, 2), (67, .ireturn, 1), (68, .iconst (-1), 1), (69, .ireturn, 1)] : List (Nat × Instr × Nat)).all (fun q => decide (decode cX3_baseOfLetter q.1 = .ok (q.2.1, q.2.2))) = true := by decide +kernel
theorem dX3_baseOfLetter_0 : decode cX3_baseOfLetter 0 = .ok (.iload_n 0, 1) := dq_of dqX3_baseOfLetter_0 0 rfl
theorem dX3_baseOfLetter_1 : decode cX3_baseOfLetter 1 = .ok (.lookupswitch 67 #[(66, 59), (79, 61), (88, 64), (98, 59), (111, 61), (120, 64)], 59) := dq_of dqX3_baseOfLetter_0 1 rfl
theorem dX3_baseOfLetter_60 : decode cX3_baseOfLetter 60 = .ok (.iconst 2, 1) := dq_of dqX3_baseOfLetter_0 2 rfl
theorem dX3_baseOfLetter_61 : decode cX3_baseOfLetter 61 = .ok (.ireturn, 1) := dq_of dqX3_baseOfLetter_0 3 rfl
theorem dX3_baseOfLetter_62 : decode cX3_baseOfLetter 62 = .ok (.bipush 8, 2) := dq_of dqX3_baseOfLetter_0 4 rfl
theorem dX3_baseOfLetter_64 : decode cX3_baseOfLetter 64 = .ok (.ireturn, 1) := dq_of dqX3_baseOfLetter_0 5 rfl
theorem dX3_baseOfLetter_65 : decode cX3_baseOfLetter 65 = .ok (.bipush 16, 2) := dq_of dqX3_baseOfLetter_0 6 rfl
theorem dX3_baseOfLetter_67 : decode cX3_baseOfLetter 67 = .ok (.ireturn, 1) := dq_of dqX3_baseOfLetter_0 7 rfl
theorem dX3_baseOfLetter_68 : decode cX3_baseOfLetter 68 = .ok (.iconst (-1), 1) := dq_of dqX3_baseOfLetter_0 8 rfl
theorem dX3_baseOfLetter_69 : decode cX3_baseOfLetter 69 = .ok (.ireturn, 1) := dq_of dqX3_baseOfLetter_0 9 rfl
theorem dqX3_readWithLetter_0 : ([(0, .aload_n 0, 1), (1, .invokevirtual 45, 3), (4, .aload_n 0, 1), (5, .invokevirtual 45, 3), (8, .aload_n 0, 1), (9, .getfield 9, 3), (12, .invokevirtual 19, 3), (15, .bipush 95, 2), (17, .if_icmp .ne 10, 3), (20, .aload_n 0, 1), (21, .getfield 9, 3), (24, .invokevirtual 48, 3), (27, .aload_n 0, 1), (28, .iload_n 1, 1), (29, .invokevirtual 51, 3), (32, .ifCond .eq 7, 3), (35, .iload_n 1, 1), (36, .goto 4, 3), (39, .iconst (-1), 1), (40, .ireturn, 1)] : List (Nat × Instr × Nat)).all (fun q => decide (decode cX3_readWithLetter q.1 = .ok (q.2.1, q.2.2))) = true := by decide +kernel
theorem dX3_readWithLetter_0 : decode cX3_readWithLetter 0 = .ok (.aload_n 0, 1) := dq_of dqX3_readWithLetter_0 0 rfl
theorem dX3_readWithLetter_1 : decode cX3_readWithLetter 1 = .ok (.invokevirtual 45, 3) := dq_of dqX3_readWithLetter_0 1 rfl
theorem dX3_readWithLetter_4 : decode cX3_readWithLetter 4 = .ok (.aload_n 0, 1) := dq_of dqX3_readWithLetter_0 2 rfl
theorem dX3_readWithLetter_5 : decode cX3_readWithLetter 5 = .ok (.invokevirtual 45, 3) := dq_of dqX3_readWithLetter_0 3 rfl
theorem dX3_readWithLetter_8 : decode cX3_readWithLetter 8 = .ok (.aload_n 0, 1) := dq_of dqX3_readWithLetter_0 4 rfl
theorem dX3_readWithLetter_9 : decode cX3_readWithLetter 9 = .ok (.getfield 9, 3) := dq_of dqX3_readWithLetter_0 5 rfl
theorem dX3_readWithLetter_12 : decode cX3_readWithLetter 12 = .ok (.invokevirtual 19, 3) := dq_of dqX3_readWithLetter_0 6 rfl
theorem dX3_readWithLetter_15 : decode cX3_readWithLetter 15 = .ok (.bipush 95, 2) := dq_of dqX3_readWithLetter_0 7 rfl
theorem dX3_readWithLetter_17 : decode cX3_readWithLetter 17 = .ok (.if_icmp .ne 10, 3) := dq_of dqX3_readWithLetter_0 8 rfl
theorem dX3_readWithLetter_20 : decode cX3_readWithLetter 20 = .ok (.aload_n 0, 1) := dq_of dqX3_readWithLetter_0 9 rfl
theorem dX3_readWithLetter_21 : decode cX3_readWithLetter 21 = .ok (.getfield 9, 3) := dq_of dqX3_readWithLetter_0 10 rfl
theorem dX3_readWithLetter_24 : decode cX3_readWithLetter 24 = .ok (.invokevirtual 48, 3) := dq_of dqX3_readWithLetter_0 11 rfl
theorem dX3_readWithLetter_27 : decode cX3_readWithLetter 27 = .ok (.aload_n 0, 1) := dq_of dqX3_readWithLetter_0 12 rfl
theorem dX3_readWithLetter_28 : decode cX3_readWithLetter 28 = .ok (.iload_n 1, 1) := dq_of dqX3_readWithLetter_0 13 rfl
theorem dX3_readWithLetter_29 : decode cX3_readWithLetter 29 = .ok (.invokevirtual 51, 3) := dq_of dqX3_readWithLetter_0 14 rfl
theorem dX3_readWithLetter_32 : decode cX3_readWithLetter 32 = .ok (.ifCond .eq 7, 3) := dq_of dqX3_readWithLetter_0 15 rfl
theorem dX3_readWithLetter_35 : decode cX3_readWithLetter 35 = .ok (.iload_n 1, 1) := dq_of dqX3_readWithLetter_0 16 rfl
theorem dX3_readWithLetter_36 : decode cX3_readWithLetter 36 = .ok (.goto 4, 3) := dq_of dqX3_readWithLetter_0 17 rfl
theorem dX3_readWithLetter_39 : decode cX3_readWithLetter 39 = .ok (.iconst (-1), 1) := dq_of dqX3_readWithLetter_0 18 rfl
theorem dX3_readWithLetter_40 : decode cX3_readWithLetter 40 = .ok (.ireturn, 1) := dq_of dqX3_readWithLetter_0 19 rfl
theorem dqX3_readDecimal_0 : ([(0, .aload_n 0, 1), (1, .getfield 15, 3), (4, .getfield 54, 3), (7, .istore_n 1, 1), (8, .aload_n 0, 1), (9, .getfield 9, 3), (12, .invokevirtual 19, 3), (15, .bipush 46, 2), (17, .if_icmp .eq 14, 3), (20, .aload_n 0, 1), (21, .bipush 10, 2), (23, .invokevirtual 51, 3), (26, .ifCond .ne 5, 3), (29, .iconst (-1), 1), (30, .ireturn, 1), (31, .aload_n 0, 1), (32, .getfield 15, 3), (35, .getfield 54, 3), (38, .iload_n 1, 1), (39, .isub, 1), (40, .istore_n 2, 1), (41, .aload_n 0, 1), (42, .getfield 9, 3), (45, .invokevirtual 19, 3), (48, .bipush 46, 2), (50, .if_icmp .ne 31, 3), (53, .aload_n 0, 1), (54, .invokevirtual 45, 3), (57, .aload_n 0, 1), (58, .getfield 9, 3), (61, .invokevirtual 19, 3), (64, .invokestatic 60, 3), (67, .ifCond .eq 14, 3), (70, .aload_n 0, 1), (71, .bipush 10, 2), (73, .invokevirtual 51, 3), (76, .ifCond .ne 5, 3), (79, .iconst (-1), 1), (80, .ireturn, 1), (81, .aload_n 0, 1)] : List (Nat × Instr × Nat)).all (fun q => decide (decode cX3_readDecimal q.1 = .ok (q.2.1, q.2.2))) = true := by decide +kernel
theorem dX3_readDecimal_0 : decode cX3_readDecimal 0 = .ok (.aload_n 0, 1) := dq_of dqX3_readDecimal_0 0 rfl
theorem dX3_readDecimal_1 : decode cX3_readDecimal 1 = .ok (.getfield 15, 3) := dq_of dqX3_readDecimal_0 1 rfl
theorem dX3_readDecimal_4 : decode cX3_readDecimal 4 = .ok (.getfield 54, 3) := dq_of dqX3_readDecimal_0 2 rfl
theorem dX3_readDecimal_7 : decode cX3_readDecimal 7 = .ok (.istore_n 1, 1) := dq_of dqX3_readDecimal_0 3 rfl
theorem dX3_readDecimal_8 : decode cX3_readDecimal 8 = .ok (.aload_n 0, 1) := dq_of dqX3_readDecimal_0 4 rfl
theorem dX3_readDecimal_9 : decode cX3_readDecimal 9 = .ok (.getfield 9, 3) := dq_of dqX3_readDecimal_0 5 rfl
theorem dX3_readDecimal_12 : decode cX3_readDecimal 12 = .ok (.invokevirtual 19, 3) := dq_of dqX3_readDecimal_0 6 rfl
theorem dX3_readDecimal_15 : decode cX3_readDecimal 15 = .ok (.bipush 46, 2) := dq_of dqX3_readDecimal_0 7 rfl
theorem dX3_readDecimal_17 : decode cX3_readDecimal 17 = .ok (.if_icmp .eq 14, 3) := dq_of dqX3_readDecimal_0 8 rfl
theorem dX3_readDecimal_20 : decode cX3_readDecimal 20 = .ok (.aload_n 0, 1) := dq_of dqX3_readDecimal_0 9 rfl
theorem dX3_readDecimal_21 : decode cX3_readDecimal 21 = .ok (.bipush 10, 2) := dq_of dqX3_readDecimal_0 10 rfl
theorem dX3_readDecimal_23 : decode cX3_readDecimal 23 = .ok (.invokevirtual 51, 3) := dq_of dqX3_readDecimal_0 11 rfl
theorem dX3_readDecimal_26 : decode cX3_readDecimal 26 = .ok (.ifCond .ne 5, 3) := dq_of dqX3_readDecimal_0 12 rfl
theorem dX3_readDecimal_29 : decode cX3_readDecimal 29 = .ok (.iconst (-1), 1) := dq_of dqX3_readDecimal_0 13 rfl
theorem dX3_readDecimal_30 : decode cX3_readDecimal 30 = .ok (.ireturn, 1) := dq_of dqX3_readDecimal_0 14 rfl
theorem dX3_readDecimal_31 : decode cX3_readDecimal 31 = .ok (.aload_n 0, 1) := dq_of dqX3_readDecimal_0 15 rfl
theorem dX3_readDecimal_32 : decode cX3_readDecimal 32 = .ok (.getfield 15, 3) := dq_of dqX3_readDecimal_0 16 rfl
theorem dX3_readDecimal_35 : decode cX3_readDecimal 35 = .ok (.getfield 54, 3) := dq_of dqX3_readDecimal_0 17 rfl
theorem dX3_readDecimal_38 : decode cX3_readDecimal 38 = .ok (.iload_n 1, 1) := dq_of dqX3_readDecimal_0 18 rfl
theorem dX3_readDecimal_39 : decode cX3_readDecimal 39 = .ok (.isub, 1) := dq_of dqX3_readDecimal_0 19 rfl
theorem dX3_readDecimal_40 : decode cX3_readDecimal 40 = .ok (.istore_n 2, 1) := dq_of dqX3_readDecimal_0 20 rfl
theorem dX3_readDecimal_41 : decode cX3_readDecimal 41 = .ok (.aload_n 0, 1) := dq_of dqX3_readDecimal_0 21 rfl
theorem dX3_readDecimal_42 : decode cX3_readDecimal 42 = .ok (.getfield 9, 3) := dq_of dqX3_readDecimal_0 22 rfl
theorem dX3_readDecimal_45 : decode cX3_readDecimal 45 = .ok (.invokevirtual 19, 3) := dq_of dqX3_readDecimal_0 23 rfl
theorem dX3_readDecimal_48 : decode cX3_readDecimal 48 = .ok (.bipush 46, 2) := dq_of dqX3_readDecimal_0 24 rfl
theorem dX3_readDecimal_50 : decode cX3_readDecimal 50 = .ok (.if_icmp .ne 31, 3) := dq_of dqX3_readDecimal_0 25 rfl
theorem dX3_readDecimal_53 : decode cX3_readDecimal 53 = .ok (.aload_n 0, 1) := dq_of dqX3_readDecimal_0 26 rfl
theorem dX3_readDecimal_54 : decode cX3_readDecimal 54 = .ok (.invokevirtual 45, 3) := dq_of dqX3_readDecimal_0 27 rfl
theorem dX3_readDecimal_57 : decode cX3_readDecimal 57 = .ok (.aload_n 0, 1) := dq_of dqX3_readDecimal_0 28 rfl
theorem dX3_readDecimal_58 : decode cX3_readDecimal 58 = .ok (.getfield 9, 3) := dq_of dqX3_readDecimal_0 29 rfl
theorem dX3_readDecimal_61 : decode cX3_readDecimal 61 = .ok (.invokevirtual 19, 3) := dq_of dqX3_readDecimal_0 30 rfl
theorem dX3_readDecimal_64 : decode cX3_readDecimal 64 = .ok (.invokestatic 60, 3) := dq_of dqX3_readDecimal_0 31 rfl
theorem dX3_readDecimal_67 : decode cX3_readDecimal 67 = .ok (.ifCond .eq 14, 3) := dq_of dqX3_readDecimal_0 32 rfl
theorem dX3_readDecimal_70 : decode cX3_readDecimal 70 = .ok (.aload_n 0, 1) := dq_of dqX3_readDecimal_0 33 rfl
theorem dX3_readDecimal_71 : decode cX3_readDecimal 71 = .ok (.bipush 10, 2) := dq_of dqX3_readDecimal_0 34 rfl
theorem dX3_readDecimal_73 : decode cX3_readDecimal 73 = .ok (.invokevirtual 51, 3) := dq_of dqX3_readDecimal_0 35 rfl
theorem dX3_readDecimal_76 : decode cX3_readDecimal 76 = .ok (.ifCond .ne 5, 3) := dq_of dqX3_readDecimal_0 36 rfl
theorem dX3_readDecimal_79 : decode cX3_readDecimal 79 = .ok (.iconst (-1), 1) := dq_of dqX3_readDecimal_0 37 rfl
theorem dX3_readDecimal_80 : decode cX3_readDecimal 80 = .ok (.ireturn, 1) := dq_of dqX3_readDecimal_0 38 rfl
theorem dX3_readDecimal_81 : decode cX3_readDecimal 81 = .ok (.aload_n 0, 1) := dq_of dqX3_readDecimal_0 39 rfl
theorem dqX3_readDecimal_82 : ([(82, .getfield 9, 3), (85, .invokevirtual 19, 3), (88, .bipush 101, 2), (90, .if_icmp .eq 15, 3), (93, .aload_n 0, 1), (94, .getfield 9, 3), (97, .invokevirtual 19, 3), (100, .bipush 69, 2), (102, .if_icmp .ne 46, 3), (105, .aload_n 0, 1), (106, .invokevirtual 45, 3), (109, .aload_n 0, 1), (110, .getfield 9, 3), (113, .invokevirtual 19, 3), (116, .bipush 43, 2), (118, .if_icmp .eq 15, 3), (121, .aload_n 0, 1), (122, .getfield 9, 3), (125, .invokevirtual 19, 3), (128, .bipush 45, 2), (130, .if_icmp .ne 7, 3), (133, .aload_n 0, 1), (134, .invokevirtual 45, 3), (137, .aload_n 0, 1), (138, .bipush 10, 2), (140, .invokevirtual 51, 3), (143, .ifCond .ne 5, 3), (146, .iconst (-1), 1), (147, .ireturn, 1), (148, .aload_n 0, 1), (149, .getfield 15, 3), (152, .getfield 54, 3), (155, .iload_n 1, 1), (156, .isub, 1), (157, .iload_n 2, 1), (158, .if_icmp .le 7, 3), (161, .iconst 0, 1), (162, .goto 9, 3), (165, .aload_n 0, 1), (166, .iload_n 1, 1)] : List (Nat × Instr × Nat)).all (fun q => decide (decode cX3_readDecimal q.1 = .ok (q.2.1, q.2.2))) = true := by decide +kernel
theorem dX3_readDecimal_82 : decode cX3_readDecimal 82 = .ok (.getfield 9, 3) := dq_of dqX3_readDecimal_82 0 rfl
theorem dX3_readDecimal_85 : decode cX3_readDecimal 85 = .ok (.invokevirtual 19, 3) := dq_of dqX3_readDecimal_82 1 rfl
theorem dX3_readDecimal_88 : decode cX3_readDecimal 88 = .ok (.bipush 101, 2) := dq_of dqX3_readDecimal_82 2 rfl
theorem dX3_readDecimal_90 : decode cX3_readDecimal 90 = .ok (.if_icmp .eq 15, 3) := dq_of dqX3_readDecimal_82 3 rfl
theorem dX3_readDecimal_93 : decode cX3_readDecimal 93 = .ok (.aload_n 0, 1) := dq_of dqX3_readDecimal_82 4 rfl
theorem dX3_readDecimal_94 : decode cX3_readDecimal 94 = .ok (.getfield 9, 3) := dq_of dqX3_readDecimal_82 5 rfl
theorem dX3_readDecimal_97 : decode cX3_readDecimal 97 = .ok (.invokevirtual 19, 3) := dq_of dqX3_readDecimal_82 6 rfl
theorem dX3_readDecimal_100 : decode cX3_readDecimal 100 = .ok (.bipush 69, 2) := dq_of dqX3_readDecimal_82 7 rfl
theorem dX3_readDecimal_102 : decode cX3_readDecimal 102 = .ok (.if_icmp .ne 46, 3) := dq_of dqX3_readDecimal_82 8 rfl
theorem dX3_readDecimal_105 : decode cX3_readDecimal 105 = .ok (.aload_n 0, 1) := dq_of dqX3_readDecimal_82 9 rfl
theorem dX3_readDecimal_106 : decode cX3_readDecimal 106 = .ok (.invokevirtual 45, 3) := dq_of dqX3_readDecimal_82 10 rfl
theorem dX3_readDecimal_109 : decode cX3_readDecimal 109 = .ok (.aload_n 0, 1) := dq_of dqX3_readDecimal_82 11 rfl
theorem dX3_readDecimal_110 : decode cX3_readDecimal 110 = .ok (.getfield 9, 3) := dq_of dqX3_readDecimal_82 12 rfl
theorem dX3_readDecimal_113 : decode cX3_readDecimal 113 = .ok (.invokevirtual 19, 3) := dq_of dqX3_readDecimal_82 13 rfl
theorem dX3_readDecimal_116 : decode cX3_readDecimal 116 = .ok (.bipush 43, 2) := dq_of dqX3_readDecimal_82 14 rfl
theorem dX3_readDecimal_118 : decode cX3_readDecimal 118 = .ok (.if_icmp .eq 15, 3) := dq_of dqX3_readDecimal_82 15 rfl
theorem dX3_readDecimal_121 : decode cX3_readDecimal 121 = .ok (.aload_n 0, 1) := dq_of dqX3_readDecimal_82 16 rfl
theorem dX3_readDecimal_122 : decode cX3_readDecimal 122 = .ok (.getfield 9, 3) := dq_of dqX3_readDecimal_82 17 rfl
theorem dX3_readDecimal_125 : decode cX3_readDecimal 125 = .ok (.invokevirtual 19, 3) := dq_of dqX3_readDecimal_82 18 rfl
theorem dX3_readDecimal_128 : decode cX3_readDecimal 128 = .ok (.bipush 45, 2) := dq_of dqX3_readDecimal_82 19 rfl
theorem dX3_readDecimal_130 : decode cX3_readDecimal 130 = .ok (.if_icmp .ne 7, 3) := dq_of dqX3_readDecimal_82 20 rfl
theorem dX3_readDecimal_133 : decode cX3_readDecimal 133 = .ok (.aload_n 0, 1) := dq_of dqX3_readDecimal_82 21 rfl
theorem dX3_readDecimal_134 : decode cX3_readDecimal 134 = .ok (.invokevirtual 45, 3) := dq_of dqX3_readDecimal_82 22 rfl
theorem dX3_readDecimal_137 : decode cX3_readDecimal 137 = .ok (.aload_n 0, 1) := dq_of dqX3_readDecimal_82 23 rfl
theorem dX3_readDecimal_138 : decode cX3_readDecimal 138 = .ok (.bipush 10, 2) := dq_of dqX3_readDecimal_82 24 rfl
theorem dX3_readDecimal_140 : decode cX3_readDecimal 140 = .ok (.invokevirtual 51, 3) := dq_of dqX3_readDecimal_82 25 rfl
theorem dX3_readDecimal_143 : decode cX3_readDecimal 143 = .ok (.ifCond .ne 5, 3) := dq_of dqX3_readDecimal_82 26 rfl
theorem dX3_readDecimal_146 : decode cX3_readDecimal 146 = .ok (.iconst (-1), 1) := dq_of dqX3_readDecimal_82 27 rfl
theorem dX3_readDecimal_147 : decode cX3_readDecimal 147 = .ok (.ireturn, 1) := dq_of dqX3_readDecimal_82 28 rfl
theorem dX3_readDecimal_148 : decode cX3_readDecimal 148 = .ok (.aload_n 0, 1) := dq_of dqX3_readDecimal_82 29 rfl
theorem dX3_readDecimal_149 : decode cX3_readDecimal 149 = .ok (.getfield 15, 3) := dq_of dqX3_readDecimal_82 30 rfl
theorem dX3_readDecimal_152 : decode cX3_readDecimal 152 = .ok (.getfield 54, 3) := dq_of dqX3_readDecimal_82 31 rfl
theorem dX3_readDecimal_155 : decode cX3_readDecimal 155 = .ok (.iload_n 1, 1) := dq_of dqX3_readDecimal_82 32 rfl
theorem dX3_readDecimal_156 : decode cX3_readDecimal 156 = .ok (.isub, 1) := dq_of dqX3_readDecimal_82 33 rfl
theorem dX3_readDecimal_157 : decode cX3_readDecimal 157 = .ok (.iload_n 2, 1) := dq_of dqX3_readDecimal_82 34 rfl
theorem dX3_readDecimal_158 : decode cX3_readDecimal 158 = .ok (.if_icmp .le 7, 3) := dq_of dqX3_readDecimal_82 35 rfl
theorem dX3_readDecimal_161 : decode cX3_readDecimal 161 = .ok (.iconst 0, 1) := dq_of dqX3_readDecimal_82 36 rfl
theorem dX3_readDecimal_162 : decode cX3_readDecimal 162 = .ok (.goto 9, 3) := dq_of dqX3_readDecimal_82 37 rfl
theorem dX3_readDecimal_165 : decode cX3_readDecimal 165 = .ok (.aload_n 0, 1) := dq_of dqX3_readDecimal_82 38 rfl
theorem dX3_readDecimal_166 : decode cX3_readDecimal 166 = .ok (.iload_n 1, 1) := dq_of dqX3_readDecimal_82 39 rfl
theorem dqX3_readDecimal_167 : ([(167, .iload_n 2, 1), (168, .invokevirtual 63, 3), (171, .ireturn, 1)] : List (Nat × Instr × Nat)).all (fun q => decide (decode cX3_readDecimal q.1 = .ok (q.2.1, q.2.2))) = true := by decide +kernel
theorem dX3_readDecimal_167 : decode cX3_readDecimal 167 = .ok (.iload_n 2, 1) := dq_of dqX3_readDecimal_167 0 rfl
theorem dX3_readDecimal_168 : decode cX3_readDecimal 168 = .ok (.invokevirtual 63, 3) := dq_of dqX3_readDecimal_167 1 rfl
theorem dX3_readDecimal_171 : decode cX3_readDecimal 171 = .ok (.ireturn, 1) := dq_of dqX3_readDecimal_167 2 rfl
theorem dqX3_baseOfDigits_0 : ([(0, .iload_n 2, 1), (1, .iconst 1, 1), (2, .if_icmp .eq 16, 3), (5, .aload_n 0, 1), (6, .getfield 15, 3), (9, .iload_n 1, 1), (10, .invokevirtual 67, 3), (13, .bipush 48, 2), (15, .if_icmp .eq 6, 3), (18, .bipush 10, 2), (20, .ireturn, 1), (21, .iconst 1, 1), (22, .istore_n 3, 1), (23, .iload_n 3, 1), (24, .iload_n 2, 1), (25, .if_icmp .ge 32, 3), (28, .aload_n 0, 1), (29, .getfield 15, 3), (32, .iload_n 1, 1), (33, .iload_n 3, 1), (34, .iadd, 1), (35, .invokevirtual 67, 3), (38, .bipush 55, 2), (40, .if_icmp .le 11, 3), (43, .aload_n 0, 1), (44, .getfield 9, 3), (47, .invokevirtual 42, 3), (50, .ireturn, 1), (51, .iinc 3 1, 3), (54, .goto (-31), 3), (57, .bipush 8, 2), (59, .ireturn, 1)] : List (Nat × Instr × Nat)).all (fun q => decide (decode cX3_baseOfDigits q.1 = .ok (q.2.1, q.2.2))) = true := by decide +kernel
theorem dX3_baseOfDigits_0 : decode cX3_baseOfDigits 0 = .ok (.iload_n 2, 1) := dq_of dqX3_baseOfDigits_0 0 rfl
theorem dX3_baseOfDigits_1 : decode cX3_baseOfDigits 1 = .ok (.iconst 1, 1) := dq_of dqX3_baseOfDigits_0 1 rfl
theorem dX3_baseOfDigits_2 : decode cX3_baseOfDigits 2 = .ok (.if_icmp .eq 16, 3) := dq_of dqX3_baseOfDigits_0 2 rfl
theorem dX3_baseOfDigits_5 : decode cX3_baseOfDigits 5 = .ok (.aload_n 0, 1) := dq_of dqX3_baseOfDigits_0 3 rfl
theorem dX3_baseOfDigits_6 : decode cX3_baseOfDigits 6 = .ok (.getfield 15, 3) := dq_of dqX3_baseOfDigits_0 4 rfl
theorem dX3_baseOfDigits_9 : decode cX3_baseOfDigits 9 = .ok (.iload_n 1, 1) := dq_of dqX3_baseOfDigits_0 5 rfl
theorem dX3_baseOfDigits_10 : decode cX3_baseOfDigits 10 = .ok (.invokevirtual 67, 3) := dq_of dqX3_baseOfDigits_0 6 rfl
theorem dX3_baseOfDigits_13 : decode cX3_baseOfDigits 13 = .ok (.bipush 48, 2) := dq_of dqX3_baseOfDigits_0 7 rfl
theorem dX3_baseOfDigits_15 : decode cX3_baseOfDigits 15 = .ok (.if_icmp .eq 6, 3) := dq_of dqX3_baseOfDigits_0 8 rfl
theorem dX3_baseOfDigits_18 : decode cX3_baseOfDigits 18 = .ok (.bipush 10, 2) := dq_of dqX3_baseOfDigits_0 9 rfl
theorem dX3_baseOfDigits_20 : decode cX3_baseOfDigits 20 = .ok (.ireturn, 1) := dq_of dqX3_baseOfDigits_0 10 rfl
theorem dX3_baseOfDigits_21 : decode cX3_baseOfDigits 21 = .ok (.iconst 1, 1) := dq_of dqX3_baseOfDigits_0 11 rfl
theorem dX3_baseOfDigits_22 : decode cX3_baseOfDigits 22 = .ok (.istore_n 3, 1) := dq_of dqX3_baseOfDigits_0 12 rfl
theorem dX3_baseOfDigits_23 : decode cX3_baseOfDigits 23 = .ok (.iload_n 3, 1) := dq_of dqX3_baseOfDigits_0 13 rfl
theorem dX3_baseOfDigits_24 : decode cX3_baseOfDigits 24 = .ok (.iload_n 2, 1) := dq_of dqX3_baseOfDigits_0 14 rfl
theorem dX3_baseOfDigits_25 : decode cX3_baseOfDigits 25 = .ok (.if_icmp .ge 32, 3) := dq_of dqX3_baseOfDigits_0 15 rfl
theorem dX3_baseOfDigits_28 : decode cX3_baseOfDigits 28 = .ok (.aload_n 0, 1) := dq_of dqX3_baseOfDigits_0 16 rfl
theorem dX3_baseOfDigits_29 : decode cX3_baseOfDigits 29 = .ok (.getfield 15, 3) := dq_of dqX3_baseOfDigits_0 17 rfl
theorem dX3_baseOfDigits_32 : decode cX3_baseOfDigits 32 = .ok (.iload_n 1, 1) := dq_of dqX3_baseOfDigits_0 18 rfl
theorem dX3_baseOfDigits_33 : decode cX3_baseOfDigits 33 = .ok (.iload_n 3, 1) := dq_of dqX3_baseOfDigits_0 19 rfl
theorem dX3_baseOfDigits_34 : decode cX3_baseOfDigits 34 = .ok (.iadd, 1) := dq_of dqX3_baseOfDigits_0 20 rfl
theorem dX3_baseOfDigits_35 : decode cX3_baseOfDigits 35 = .ok (.invokevirtual 67, 3) := dq_of dqX3_baseOfDigits_0 21 rfl
theorem dX3_baseOfDigits_38 : decode cX3_baseOfDigits 38 = .ok (.bipush 55, 2) := dq_of dqX3_baseOfDigits_0 22 rfl
theorem dX3_baseOfDigits_40 : decode cX3_baseOfDigits 40 = .ok (.if_icmp .le 11, 3) := dq_of dqX3_baseOfDigits_0 23 rfl
theorem dX3_baseOfDigits_43 : decode cX3_baseOfDigits 43 = .ok (.aload_n 0, 1) := dq_of dqX3_baseOfDigits_0 24 rfl
theorem dX3_baseOfDigits_44 : decode cX3_baseOfDigits 44 = .ok (.getfield 9, 3) := dq_of dqX3_baseOfDigits_0 25 rfl
theorem dX3_baseOfDigits_47 : decode cX3_baseOfDigits 47 = .ok (.invokevirtual 42, 3) := dq_of dqX3_baseOfDigits_0 26 rfl
theorem dX3_baseOfDigits_50 : decode cX3_baseOfDigits 50 = .ok (.ireturn, 1) := dq_of dqX3_baseOfDigits_0 27 rfl
theorem dX3_baseOfDigits_51 : decode cX3_baseOfDigits 51 = .ok (.iinc 3 1, 3) := dq_of dqX3_baseOfDigits_0 28 rfl
theorem dX3_baseOfDigits_54 : decode cX3_baseOfDigits 54 = .ok (.goto (-31), 3) := dq_of dqX3_baseOfDigits_0 29 rfl
theorem dX3_baseOfDigits_57 : decode cX3_baseOfDigits 57 = .ok (.bipush 8, 2) := dq_of dqX3_baseOfDigits_0 30 rfl
theorem dX3_baseOfDigits_59 : decode cX3_baseOfDigits 59 = .ok (.ireturn, 1) := dq_of dqX3_baseOfDigits_0 31 rfl
theorem dqX3_readDigits_0 : ([(0, .iconst 0, 1), (1, .istore_n 2, 1), (2, .iload_n 2, 1), (3, .ldc 70, 2), (5, .if_icmp .ge 77, 3), (8, .aload_n 0, 1), (9, .getfield 9, 3), (12, .invokevirtual 19, 3), (15, .iload_n 1, 1), (16, .invokestatic 71, 3), (19, .iconst (-1), 1), (20, .if_icmp .ne 13, 3), (23, .aload_n 0, 1), (24, .getfield 9, 3), (27, .invokevirtual 42, 3), (30, .pop, 1), (31, .iconst 0, 1), (32, .ireturn, 1), (33, .aload_n 0, 1), (34, .invokevirtual 45, 3), (37, .aload_n 0, 1), (38, .getfield 9, 3), (41, .invokevirtual 19, 3), (44, .bipush 95, 2), (46, .if_icmp .ne 13, 3), (49, .aload_n 0, 1), (50, .getfield 9, 3), (53, .invokevirtual 48, 3), (56, .goto 20, 3), (59, .aload_n 0, 1), (60, .getfield 9, 3), (63, .invokevirtual 19, 3), (66, .iload_n 1, 1), (67, .invokestatic 71, 3), (70, .iconst (-1), 1), (71, .if_icmp .ne 5, 3), (74, .iconst 1, 1), (75, .ireturn, 1), (76, .iinc 2 1, 3), (79, .goto (-77), 3)] : List (Nat × Instr × Nat)).all (fun q => decide (decode cX3_readDigits q.1 = .ok (q.2.1, q.2.2))) = true := by decide +kernel
theorem dX3_readDigits_0 : decode cX3_readDigits 0 = .ok (.iconst 0, 1) := dq_of dqX3_readDigits_0 0 rfl
theorem dX3_readDigits_1 : decode cX3_readDigits 1 = .ok (.istore_n 2, 1) := dq_of dqX3_readDigits_0 1 rfl
theorem dX3_readDigits_2 : decode cX3_readDigits 2 = .ok (.iload_n 2, 1) := dq_of dqX3_readDigits_0 2 rfl
theorem dX3_readDigits_3 : decode cX3_readDigits 3 = .ok (.ldc 70, 2) := dq_of dqX3_readDigits_0 3 rfl
theorem dX3_readDigits_5 : decode cX3_readDigits 5 = .ok (.if_icmp .ge 77, 3) := dq_of dqX3_readDigits_0 4 rfl
theorem dX3_readDigits_8 : decode cX3_readDigits 8 = .ok (.aload_n 0, 1) := dq_of dqX3_readDigits_0 5 rfl
theorem dX3_readDigits_9 : decode cX3_readDigits 9 = .ok (.getfield 9, 3) := dq_of dqX3_readDigits_0 6 rfl
theorem dX3_readDigits_12 : decode cX3_readDigits 12 = .ok (.invokevirtual 19, 3) := dq_of dqX3_readDigits_0 7 rfl
theorem dX3_readDigits_15 : decode cX3_readDigits 15 = .ok (.iload_n 1, 1) := dq_of dqX3_readDigits_0 8 rfl
theorem dX3_readDigits_16 : decode cX3_readDigits 16 = .ok (.invokestatic 71, 3) := dq_of dqX3_readDigits_0 9 rfl
theorem dX3_readDigits_19 : decode cX3_readDigits 19 = .ok (.iconst (-1), 1) := dq_of dqX3_readDigits_0 10 rfl
theorem dX3_readDigits_20 : decode cX3_readDigits 20 = .ok (.if_icmp .ne 13, 3) := dq_of dqX3_readDigits_0 11 rfl
theorem dX3_readDigits_23 : decode cX3_readDigits 23 = .ok (.aload_n 0, 1) := dq_of dqX3_readDigits_0 12 rfl
theorem dX3_readDigits_24 : decode cX3_readDigits 24 = .ok (.getfield 9, 3) := dq_of dqX3_readDigits_0 13 rfl
theorem dX3_readDigits_27 : decode cX3_readDigits 27 = .ok (.invokevirtual 42, 3) := dq_of dqX3_readDigits_0 14 rfl
theorem dX3_readDigits_30 : decode cX3_readDigits 30 = .ok (.pop, 1) := dq_of dqX3_readDigits_0 15 rfl
theorem dX3_readDigits_31 : decode cX3_readDigits 31 = .ok (.iconst 0, 1) := dq_of dqX3_readDigits_0 16 rfl
theorem dX3_readDigits_32 : decode cX3_readDigits 32 = .ok (.ireturn, 1) := dq_of dqX3_readDigits_0 17 rfl
theorem dX3_readDigits_33 : decode cX3_readDigits 33 = .ok (.aload_n 0, 1) := dq_of dqX3_readDigits_0 18 rfl
theorem dX3_readDigits_34 : decode cX3_readDigits 34 = .ok (.invokevirtual 45, 3) := dq_of dqX3_readDigits_0 19 rfl
theorem dX3_readDigits_37 : decode cX3_readDigits 37 = .ok (.aload_n 0, 1) := dq_of dqX3_readDigits_0 20 rfl
theorem dX3_readDigits_38 : decode cX3_readDigits 38 = .ok (.getfield 9, 3) := dq_of dqX3_readDigits_0 21 rfl
theorem dX3_readDigits_41 : decode cX3_readDigits 41 = .ok (.invokevirtual 19, 3) := dq_of dqX3_readDigits_0 22 rfl
theorem dX3_readDigits_44 : decode cX3_readDigits 44 = .ok (.bipush 95, 2) := dq_of dqX3_readDigits_0 23 rfl
theorem dX3_readDigits_46 : decode cX3_readDigits 46 = .ok (.if_icmp .ne 13, 3) := dq_of dqX3_readDigits_0 24 rfl
theorem dX3_readDigits_49 : decode cX3_readDigits 49 = .ok (.aload_n 0, 1) := dq_of dqX3_readDigits_0 25 rfl
theorem dX3_readDigits_50 : decode cX3_readDigits 50 = .ok (.getfield 9, 3) := dq_of dqX3_readDigits_0 26 rfl
theorem dX3_readDigits_53 : decode cX3_readDigits 53 = .ok (.invokevirtual 48, 3) := dq_of dqX3_readDigits_0 27 rfl
theorem dX3_readDigits_56 : decode cX3_readDigits 56 = .ok (.goto 20, 3) := dq_of dqX3_readDigits_0 28 rfl
theorem dX3_readDigits_59 : decode cX3_readDigits 59 = .ok (.aload_n 0, 1) := dq_of dqX3_readDigits_0 29 rfl
theorem dX3_readDigits_60 : decode cX3_readDigits 60 = .ok (.getfield 9, 3) := dq_of dqX3_readDigits_0 30 rfl
theorem dX3_readDigits_63 : decode cX3_readDigits 63 = .ok (.invokevirtual 19, 3) := dq_of dqX3_readDigits_0 31 rfl
theorem dX3_readDigits_66 : decode cX3_readDigits 66 = .ok (.iload_n 1, 1) := dq_of dqX3_readDigits_0 32 rfl
theorem dX3_readDigits_67 : decode cX3_readDigits 67 = .ok (.invokestatic 71, 3) := dq_of dqX3_readDigits_0 33 rfl
theorem dX3_readDigits_70 : decode cX3_readDigits 70 = .ok (.iconst (-1), 1) := dq_of dqX3_readDigits_0 34 rfl
theorem dX3_readDigits_71 : decode cX3_readDigits 71 = .ok (.if_icmp .ne 5, 3) := dq_of dqX3_readDigits_0 35 rfl
theorem dX3_readDigits_74 : decode cX3_readDigits 74 = .ok (.iconst 1, 1) := dq_of dqX3_readDigits_0 36 rfl
theorem dX3_readDigits_75 : decode cX3_readDigits 75 = .ok (.ireturn, 1) := dq_of dqX3_readDigits_0 37 rfl
theorem dX3_readDigits_76 : decode cX3_readDigits 76 = .ok (.iinc 2 1, 3) := dq_of dqX3_readDigits_0 38 rfl
theorem dX3_readDigits_79 : decode cX3_readDigits 79 = .ok (.goto (-77), 3) := dq_of dqX3_readDigits_0 39 rfl
theorem dqX3_readDigits_82 : ([(82, .iconst 0, 1), (83, .ireturn, 1)] : List (Nat × Instr × Nat)).all (fun q => decide (decode cX3_readDigits q.1 = .ok (q.2.1, q.2.2))) = true := by decide +kernel
theorem dX3_readDigits_82 : decode cX3_readDigits 82 = .ok (.iconst 0, 1) := dq_of dqX3_readDigits_82 0 rfl
theorem dX3_readDigits_83 : decode cX3_readDigits 83 = .ok (.ireturn, 1) := dq_of dqX3_readDigits_82 1 rfl
theorem dqX3_keepByte_0 : ([(0, .aload_n 0, 1), (1, .getfield 15, 3), (4, .aload_n 0, 1), (5, .getfield 9, 3), (8, .invokevirtual 19, 3), (11, .invokevirtual 74, 3), (14, .aload_n 0, 1), (15, .getfield 9, 3), (18, .invokevirtual 48, 3), (21, .return_, 1)] : List (Nat × Instr × Nat)).all (fun q => decide (decode cX3_keepByte q.1 = .ok (q.2.1, q.2.2))) = true := by decide +kernel
theorem dX3_keepByte_0 : decode cX3_keepByte 0 = .ok (.aload_n 0, 1) := dq_of dqX3_keepByte_0 0 rfl
theorem dX3_keepByte_1 : decode cX3_keepByte 1 = .ok (.getfield 15, 3) := dq_of dqX3_keepByte_0 1 rfl
theorem dX3_keepByte_4 : decode cX3_keepByte 4 = .ok (.aload_n 0, 1) := dq_of dqX3_keepByte_0 2 rfl
theorem dX3_keepByte_5 : decode cX3_keepByte 5 = .ok (.getfield 9, 3) := dq_of dqX3_keepByte_0 3 rfl
theorem dX3_keepByte_8 : decode cX3_keepByte 8 = .ok (.invokevirtual 19, 3) := dq_of dqX3_keepByte_0 4 rfl
theorem dX3_keepByte_11 : decode cX3_keepByte 11 = .ok (.invokevirtual 74, 3) := dq_of dqX3_keepByte_0 5 rfl
theorem dX3_keepByte_14 : decode cX3_keepByte 14 = .ok (.aload_n 0, 1) := dq_of dqX3_keepByte_0 6 rfl
theorem dX3_keepByte_15 : decode cX3_keepByte 15 = .ok (.getfield 9, 3) := dq_of dqX3_keepByte_0 7 rfl
theorem dX3_keepByte_18 : decode cX3_keepByte 18 = .ok (.invokevirtual 48, 3) := dq_of dqX3_keepByte_0 8 rfl
theorem dX3_keepByte_21 : decode cX3_keepByte 21 = .ok (.return_, 1) := dq_of dqX3_keepByte_0 9 rfl
theorem dqX4_init_0 : ([(0, .aload_n 0, 1), (1, .invokespecial 3, 3), (4, .aload_n 0, 1), (5, .iconst 0, 1), (6, .putfield 9, 3), (9, .aload_n 0, 1), (10, .aload_n 1, 1), (11, .putfield 15, 3), (14, .aload_n 0, 1), (15, .aload_n 2, 1), (16, .putfield 19, 3), (19, .return_, 1)] : List (Nat × Instr × Nat)).all (fun q => decide (decode cX4_init q.1 = .ok (q.2.1, q.2.2))) = true := by decide +kernel
theorem dX4_init_0 : decode cX4_init 0 = .ok (.aload_n 0, 1) := dq_of dqX4_init_0 0 rfl
theorem dX4_init_1 : decode cX4_init 1 = .ok (.invokespecial 3, 3) := dq_of dqX4_init_0 1 rfl
theorem dX4_init_4 : decode cX4_init 4 = .ok (.aload_n 0, 1) := dq_of dqX4_init_0 2 rfl
theorem dX4_init_5 : decode cX4_init 5 = .ok (.iconst 0, 1) := dq_of dqX4_init_0 3 rfl
theorem dX4_init_6 : decode cX4_init 6 = .ok (.putfield 9, 3) := dq_of dqX4_init_0 4 rfl
theorem dX4_init_9 : decode cX4_init 9 = .ok (.aload_n 0, 1) := dq_of dqX4_init_0 5 rfl
theorem dX4_init_10 : decode cX4_init 10 = .ok (.aload_n 1, 1) := dq_of dqX4_init_0 6 rfl
theorem dX4_init_11 : decode cX4_init 11 = .ok (.putfield 15, 3) := dq_of dqX4_init_0 7 rfl
theorem dX4_init_14 : decode cX4_init 14 = .ok (.aload_n 0, 1) := dq_of dqX4_init_0 8 rfl
theorem dX4_init_15 : decode cX4_init 15 = .ok (.aload_n 2, 1) := dq_of dqX4_init_0 9 rfl
theorem dX4_init_16 : decode cX4_init 16 = .ok (.putfield 19, 3) := dq_of dqX4_init_0 10 rfl
theorem dX4_init_19 : decode cX4_init 19 = .ok (.return_, 1) := dq_of dqX4_init_0 11 rfl
theorem dqX4_readRune_0 : ([(0, .aload_n 0, 1), (1, .getfield 15, 3), (4, .invokevirtual 23, 3), (7, .aload_n 0, 1), (8, .bipush 39, 2), (10, .invokevirtual 28, 3), (13, .istore_n 1, 1), (14, .iload_n 1, 1), (15, .iconst (-1), 1), (16, .if_icmp .ne 5, 3), (19, .iconst (-1), 1), (20, .ireturn, 1), (21, .aload_n 0, 1), (22, .getfield 15, 3), (25, .invokevirtual 32, 3), (28, .bipush 39, 2), (30, .if_icmp .eq 11, 3), (33, .aload_n 0, 1), (34, .getfield 15, 3), (37, .invokevirtual 36, 3), (40, .ireturn, 1), (41, .aload_n 0, 1), (42, .getfield 15, 3), (45, .invokevirtual 23, 3), (48, .iload_n 1, 1), (49, .ireturn, 1)] : List (Nat × Instr × Nat)).all (fun q => decide (decode cX4_readRune q.1 = .ok (q.2.1, q.2.2))) = true := by decide +kernel
theorem dX4_readRune_0 : decode cX4_readRune 0 = .ok (.aload_n 0, 1) := dq_of dqX4_readRune_0 0 rfl
theorem dX4_readRune_1 : decode cX4_readRune 1 = .ok (.getfield 15, 3) := dq_of dqX4_readRune_0 1 rfl
theorem dX4_readRune_4 : decode cX4_readRune 4 = .ok (.invokevirtual 23, 3) := dq_of dqX4_readRune_0 2 rfl
theorem dX4_readRune_7 : decode cX4_readRune 7 = .ok (.aload_n 0, 1) := dq_of dqX4_readRune_0 3 rfl
theorem dX4_readRune_8 : decode cX4_readRune 8 = .ok (.bipush 39, 2) := dq_of dqX4_readRune_0 4 rfl
theorem dX4_readRune_10 : decode cX4_readRune 10 = .ok (.invokevirtual 28, 3) := dq_of dqX4_readRune_0 5 rfl
theorem dX4_readRune_13 : decode cX4_readRune 13 = .ok (.istore_n 1, 1) := dq_of dqX4_readRune_0 6 rfl
theorem dX4_readRune_14 : decode cX4_readRune 14 = .ok (.iload_n 1, 1) := dq_of dqX4_readRune_0 7 rfl
theorem dX4_readRune_15 : decode cX4_readRune 15 = .ok (.iconst (-1), 1) := dq_of dqX4_readRune_0 8 rfl
theorem dX4_readRune_16 : decode cX4_readRune 16 = .ok (.if_icmp .ne 5, 3) := dq_of dqX4_readRune_0 9 rfl
theorem dX4_readRune_19 : decode cX4_readRune 19 = .ok (.iconst (-1), 1) := dq_of dqX4_readRune_0 10 rfl
theorem dX4_readRune_20 : decode cX4_readRune 20 = .ok (.ireturn, 1) := dq_of dqX4_readRune_0 11 rfl
theorem dX4_readRune_21 : decode cX4_readRune 21 = .ok (.aload_n 0, 1) := dq_of dqX4_readRune_0 12 rfl
theorem dX4_readRune_22 : decode cX4_readRune 22 = .ok (.getfield 15, 3) := dq_of dqX4_readRune_0 13 rfl
theorem dX4_readRune_25 : decode cX4_readRune 25 = .ok (.invokevirtual 32, 3) := dq_of dqX4_readRune_0 14 rfl
theorem dX4_readRune_28 : decode cX4_readRune 28 = .ok (.bipush 39, 2) := dq_of dqX4_readRune_0 15 rfl
theorem dX4_readRune_30 : decode cX4_readRune 30 = .ok (.if_icmp .eq 11, 3) := dq_of dqX4_readRune_0 16 rfl
theorem dX4_readRune_33 : decode cX4_readRune 33 = .ok (.aload_n 0, 1) := dq_of dqX4_readRune_0 17 rfl
theorem dX4_readRune_34 : decode cX4_readRune 34 = .ok (.getfield 15, 3) := dq_of dqX4_readRune_0 18 rfl
theorem dX4_readRune_37 : decode cX4_readRune 37 = .ok (.invokevirtual 36, 3) := dq_of dqX4_readRune_0 19 rfl
theorem dX4_readRune_40 : decode cX4_readRune 40 = .ok (.ireturn, 1) := dq_of dqX4_readRune_0 20 rfl
theorem dX4_readRune_41 : decode cX4_readRune 41 = .ok (.aload_n 0, 1) := dq_of dqX4_readRune_0 21 rfl
theorem dX4_readRune_42 : decode cX4_readRune 42 = .ok (.getfield 15, 3) := dq_of dqX4_readRune_0 22 rfl
theorem dX4_readRune_45 : decode cX4_readRune 45 = .ok (.invokevirtual 23, 3) := dq_of dqX4_readRune_0 23 rfl
theorem dX4_readRune_48 : decode cX4_readRune 48 = .ok (.iload_n 1, 1) := dq_of dqX4_readRune_0 24 rfl
theorem dX4_readRune_49 : decode cX4_readRune 49 = .ok (.ireturn, 1) := dq_of dqX4_readRune_0 25 rfl
theorem dqX4_readString_0 : ([(0, .aload_n 0, 1), (1, .getfield 15, 3), (4, .invokevirtual 23, 3), (7, .iconst 0, 1), (8, .istore_n 1, 1), (9, .iload_n 1, 1), (10, .ldc 39, 2), (12, .if_icmp .ge 61, 3), (15, .aload_n 0, 1), (16, .getfield 15, 3), (19, .invokevirtual 32, 3), (22, .bipush 34, 2), (24, .if_icmp .eq 49, 3), (27, .aload_n 0, 1), (28, .bipush 34, 2), (30, .invokevirtual 28, 3), (33, .istore_n 2, 1), (34, .iload_n 2, 1), (35, .iconst (-1), 1), (36, .if_icmp .ne 5, 3), (39, .iconst 0, 1), (40, .ireturn, 1), (41, .aload_n 0, 1), (42, .getfield 9, 3), (45, .ifCond .eq 14, 3), (48, .aload_n 0, 1), (49, .getfield 19, 3), (52, .iload_n 2, 1), (53, .invokevirtual 40, 3), (56, .goto 11, 3), (59, .aload_n 0, 1), (60, .getfield 19, 3), (63, .iload_n 2, 1), (64, .invokevirtual 46, 3), (67, .iinc 1 1, 3), (70, .goto (-61), 3), (73, .aload_n 0, 1), (74, .getfield 15, 3), (77, .invokevirtual 23, 3), (80, .iconst 1, 1)] : List (Nat × Instr × Nat)).all (fun q => decide (decode cX4_readString q.1 = .ok (q.2.1, q.2.2))) = true := by decide +kernel
theorem dX4_readString_0 : decode cX4_readString 0 = .ok (.aload_n 0, 1) := dq_of dqX4_readString_0 0 rfl
theorem dX4_readString_1 : decode cX4_readString 1 = .ok (.getfield 15, 3) := dq_of dqX4_readString_0 1 rfl
theorem dX4_readString_4 : decode cX4_readString 4 = .ok (.invokevirtual 23, 3) := dq_of dqX4_readString_0 2 rfl
theorem dX4_readString_7 : decode cX4_readString 7 = .ok (.iconst 0, 1) := dq_of dqX4_readString_0 3 rfl
theorem dX4_readString_8 : decode cX4_readString 8 = .ok (.istore_n 1, 1) := dq_of dqX4_readString_0 4 rfl
theorem dX4_readString_9 : decode cX4_readString 9 = .ok (.iload_n 1, 1) := dq_of dqX4_readString_0 5 rfl
theorem dX4_readString_10 : decode cX4_readString 10 = .ok (.ldc 39, 2) := dq_of dqX4_readString_0 6 rfl
theorem dX4_readString_12 : decode cX4_readString 12 = .ok (.if_icmp .ge 61, 3) := dq_of dqX4_readString_0 7 rfl
theorem dX4_readString_15 : decode cX4_readString 15 = .ok (.aload_n 0, 1) := dq_of dqX4_readString_0 8 rfl
theorem dX4_readString_16 : decode cX4_readString 16 = .ok (.getfield 15, 3) := dq_of dqX4_readString_0 9 rfl
theorem dX4_readString_19 : decode cX4_readString 19 = .ok (.invokevirtual 32, 3) := dq_of dqX4_readString_0 10 rfl
theorem dX4_readString_22 : decode cX4_readString 22 = .ok (.bipush 34, 2) := dq_of dqX4_readString_0 11 rfl
theorem dX4_readString_24 : decode cX4_readString 24 = .ok (.if_icmp .eq 49, 3) := dq_of dqX4_readString_0 12 rfl
theorem dX4_readString_27 : decode cX4_readString 27 = .ok (.aload_n 0, 1) := dq_of dqX4_readString_0 13 rfl
theorem dX4_readString_28 : decode cX4_readString 28 = .ok (.bipush 34, 2) := dq_of dqX4_readString_0 14 rfl
theorem dX4_readString_30 : decode cX4_readString 30 = .ok (.invokevirtual 28, 3) := dq_of dqX4_readString_0 15 rfl
theorem dX4_readString_33 : decode cX4_readString 33 = .ok (.istore_n 2, 1) := dq_of dqX4_readString_0 16 rfl
theorem dX4_readString_34 : decode cX4_readString 34 = .ok (.iload_n 2, 1) := dq_of dqX4_readString_0 17 rfl
theorem dX4_readString_35 : decode cX4_readString 35 = .ok (.iconst (-1), 1) := dq_of dqX4_readString_0 18 rfl
theorem dX4_readString_36 : decode cX4_readString 36 = .ok (.if_icmp .ne 5, 3) := dq_of dqX4_readString_0 19 rfl
theorem dX4_readString_39 : decode cX4_readString 39 = .ok (.iconst 0, 1) := dq_of dqX4_readString_0 20 rfl
theorem dX4_readString_40 : decode cX4_readString 40 = .ok (.ireturn, 1) := dq_of dqX4_readString_0 21 rfl
theorem dX4_readString_41 : decode cX4_readString 41 = .ok (.aload_n 0, 1) := dq_of dqX4_readString_0 22 rfl
theorem dX4_readString_42 : decode cX4_readString 42 = .ok (.getfield 9, 3) := dq_of dqX4_readString_0 23 rfl
theorem dX4_readString_45 : decode cX4_readString 45 = .ok (.ifCond .eq 14, 3) := dq_of dqX4_readString_0 24 rfl
theorem dX4_readString_48 : decode cX4_readString 48 = .ok (.aload_n 0, 1) := dq_of dqX4_readString_0 25 rfl
theorem dX4_readString_49 : decode cX4_readString 49 = .ok (.getfield 19, 3) := dq_of dqX4_readString_0 26 rfl
theorem dX4_readString_52 : decode cX4_readString 52 = .ok (.iload_n 2, 1) := dq_of dqX4_readString_0 27 rfl
theorem dX4_readString_53 : decode cX4_readString 53 = .ok (.invokevirtual 40, 3) := dq_of dqX4_readString_0 28 rfl
theorem dX4_readString_56 : decode cX4_readString 56 = .ok (.goto 11, 3) := dq_of dqX4_readString_0 29 rfl
theorem dX4_readString_59 : decode cX4_readString 59 = .ok (.aload_n 0, 1) := dq_of dqX4_readString_0 30 rfl
theorem dX4_readString_60 : decode cX4_readString 60 = .ok (.getfield 19, 3) := dq_of dqX4_readString_0 31 rfl
theorem dX4_readString_63 : decode cX4_readString 63 = .ok (.iload_n 2, 1) := dq_of dqX4_readString_0 32 rfl
theorem dX4_readString_64 : decode cX4_readString 64 = .ok (.invokevirtual 46, 3) := dq_of dqX4_readString_0 33 rfl
theorem dX4_readString_67 : decode cX4_readString 67 = .ok (.iinc 1 1, 3) := dq_of dqX4_readString_0 34 rfl
theorem dX4_readString_70 : decode cX4_readString 70 = .ok (.goto (-61), 3) := dq_of dqX4_readString_0 35 rfl
theorem dX4_readString_73 : decode cX4_readString 73 = .ok (.aload_n 0, 1) := dq_of dqX4_readString_0 36 rfl
theorem dX4_readString_74 : decode cX4_readString 74 = .ok (.getfield 15, 3) := dq_of dqX4_readString_0 37 rfl
theorem dX4_readString_77 : decode cX4_readString 77 = .ok (.invokevirtual 23, 3) := dq_of dqX4_readString_0 38 rfl
theorem dX4_readString_80 : decode cX4_readString 80 = .ok (.iconst 1, 1) := dq_of dqX4_readString_0 39 rfl
theorem dqX4_readString_81 : ([(81, .ireturn, 1)] : List (Nat × Instr × Nat)).all (fun q => decide (decode cX4_readString q.1 = .ok (q.2.1, q.2.2))) = true := by decide +kernel
theorem dX4_readString_81 : decode cX4_readString 81 = .ok (.ireturn, 1) := dq_of dqX4_readString_81 0 rfl
theorem dqX4_readRaw_0 : ([(0, .aload_n 0, 1), (1, .getfield 15, 3), (4, .invokevirtual 23, 3), (7, .iconst 0, 1), (8, .istore_n 1, 1), (9, .iload_n 1, 1), (10, .ldc 39, 2), (12, .if_icmp .ge 50, 3), (15, .aload_n 0, 1), (16, .getfield 15, 3), (19, .invokevirtual 32, 3), (22, .bipush 96, 2), (24, .if_icmp .eq 38, 3), (27, .aload_n 0, 1), (28, .getfield 15, 3), (31, .invokevirtual 49, 3), (34, .istore_n 2, 1), (35, .iload_n 2, 1), (36, .iconst (-1), 1), (37, .if_icmp .ne 5, 3), (40, .iconst 0, 1), (41, .ireturn, 1), (42, .iload_n 2, 1), (43, .bipush 13, 2), (45, .if_icmp .eq 11, 3), (48, .aload_n 0, 1), (49, .getfield 19, 3), (52, .iload_n 2, 1), (53, .invokevirtual 46, 3), (56, .iinc 1 1, 3), (59, .goto (-50), 3), (62, .aload_n 0, 1), (63, .getfield 15, 3), (66, .invokevirtual 23, 3), (69, .iconst 1, 1), (70, .ireturn, 1)] : List (Nat × Instr × Nat)).all (fun q => decide (decode cX4_readRaw q.1 = .ok (q.2.1, q.2.2))) = true := by decide +kernel
theorem dX4_readRaw_0 : decode cX4_readRaw 0 = .ok (.aload_n 0, 1) := dq_of dqX4_readRaw_0 0 rfl
theorem dX4_readRaw_1 : decode cX4_readRaw 1 = .ok (.getfield 15, 3) := dq_of dqX4_readRaw_0 1 rfl
theorem dX4_readRaw_4 : decode cX4_readRaw 4 = .ok (.invokevirtual 23, 3) := dq_of dqX4_readRaw_0 2 rfl
theorem dX4_readRaw_7 : decode cX4_readRaw 7 = .ok (.iconst 0, 1) := dq_of dqX4_readRaw_0 3 rfl
theorem dX4_readRaw_8 : decode cX4_readRaw 8 = .ok (.istore_n 1, 1) := dq_of dqX4_readRaw_0 4 rfl
theorem dX4_readRaw_9 : decode cX4_readRaw 9 = .ok (.iload_n 1, 1) := dq_of dqX4_readRaw_0 5 rfl
theorem dX4_readRaw_10 : decode cX4_readRaw 10 = .ok (.ldc 39, 2) := dq_of dqX4_readRaw_0 6 rfl
theorem dX4_readRaw_12 : decode cX4_readRaw 12 = .ok (.if_icmp .ge 50, 3) := dq_of dqX4_readRaw_0 7 rfl
theorem dX4_readRaw_15 : decode cX4_readRaw 15 = .ok (.aload_n 0, 1) := dq_of dqX4_readRaw_0 8 rfl
theorem dX4_readRaw_16 : decode cX4_readRaw 16 = .ok (.getfield 15, 3) := dq_of dqX4_readRaw_0 9 rfl
theorem dX4_readRaw_19 : decode cX4_readRaw 19 = .ok (.invokevirtual 32, 3) := dq_of dqX4_readRaw_0 10 rfl
theorem dX4_readRaw_22 : decode cX4_readRaw 22 = .ok (.bipush 96, 2) := dq_of dqX4_readRaw_0 11 rfl
theorem dX4_readRaw_24 : decode cX4_readRaw 24 = .ok (.if_icmp .eq 38, 3) := dq_of dqX4_readRaw_0 12 rfl
theorem dX4_readRaw_27 : decode cX4_readRaw 27 = .ok (.aload_n 0, 1) := dq_of dqX4_readRaw_0 13 rfl
theorem dX4_readRaw_28 : decode cX4_readRaw 28 = .ok (.getfield 15, 3) := dq_of dqX4_readRaw_0 14 rfl
theorem dX4_readRaw_31 : decode cX4_readRaw 31 = .ok (.invokevirtual 49, 3) := dq_of dqX4_readRaw_0 15 rfl
theorem dX4_readRaw_34 : decode cX4_readRaw 34 = .ok (.istore_n 2, 1) := dq_of dqX4_readRaw_0 16 rfl
theorem dX4_readRaw_35 : decode cX4_readRaw 35 = .ok (.iload_n 2, 1) := dq_of dqX4_readRaw_0 17 rfl
theorem dX4_readRaw_36 : decode cX4_readRaw 36 = .ok (.iconst (-1), 1) := dq_of dqX4_readRaw_0 18 rfl
theorem dX4_readRaw_37 : decode cX4_readRaw 37 = .ok (.if_icmp .ne 5, 3) := dq_of dqX4_readRaw_0 19 rfl
theorem dX4_readRaw_40 : decode cX4_readRaw 40 = .ok (.iconst 0, 1) := dq_of dqX4_readRaw_0 20 rfl
theorem dX4_readRaw_41 : decode cX4_readRaw 41 = .ok (.ireturn, 1) := dq_of dqX4_readRaw_0 21 rfl
theorem dX4_readRaw_42 : decode cX4_readRaw 42 = .ok (.iload_n 2, 1) := dq_of dqX4_readRaw_0 22 rfl
theorem dX4_readRaw_43 : decode cX4_readRaw 43 = .ok (.bipush 13, 2) := dq_of dqX4_readRaw_0 23 rfl
theorem dX4_readRaw_45 : decode cX4_readRaw 45 = .ok (.if_icmp .eq 11, 3) := dq_of dqX4_readRaw_0 24 rfl
theorem dX4_readRaw_48 : decode cX4_readRaw 48 = .ok (.aload_n 0, 1) := dq_of dqX4_readRaw_0 25 rfl
theorem dX4_readRaw_49 : decode cX4_readRaw 49 = .ok (.getfield 19, 3) := dq_of dqX4_readRaw_0 26 rfl
theorem dX4_readRaw_52 : decode cX4_readRaw 52 = .ok (.iload_n 2, 1) := dq_of dqX4_readRaw_0 27 rfl
theorem dX4_readRaw_53 : decode cX4_readRaw 53 = .ok (.invokevirtual 46, 3) := dq_of dqX4_readRaw_0 28 rfl
theorem dX4_readRaw_56 : decode cX4_readRaw 56 = .ok (.iinc 1 1, 3) := dq_of dqX4_readRaw_0 29 rfl
theorem dX4_readRaw_59 : decode cX4_readRaw 59 = .ok (.goto (-50), 3) := dq_of dqX4_readRaw_0 30 rfl
theorem dX4_readRaw_62 : decode cX4_readRaw 62 = .ok (.aload_n 0, 1) := dq_of dqX4_readRaw_0 31 rfl
theorem dX4_readRaw_63 : decode cX4_readRaw 63 = .ok (.getfield 15, 3) := dq_of dqX4_readRaw_0 32 rfl
theorem dX4_readRaw_66 : decode cX4_readRaw 66 = .ok (.invokevirtual 23, 3) := dq_of dqX4_readRaw_0 33 rfl
theorem dX4_readRaw_69 : decode cX4_readRaw 69 = .ok (.iconst 1, 1) := dq_of dqX4_readRaw_0 34 rfl
theorem dX4_readRaw_70 : decode cX4_readRaw 70 = .ok (.ireturn, 1) := dq_of dqX4_readRaw_0 35 rfl
theorem dqX4_readCharacter_0 : ([(0, .aload_n 0, 1), (1, .iconst 0, 1), (2, .putfield 9, 3), (5, .aload_n 0, 1), (6, .getfield 15, 3), (9, .invokevirtual 32, 3), (12, .istore_n 2, 1), (13, .iload_n 2, 1), (14, .bipush 92, 2), (16, .if_icmp .ne 16, 3), (19, .aload_n 0, 1), (20, .getfield 15, 3), (23, .invokevirtual 23, 3), (26, .aload_n 0, 1), (27, .iload_n 1, 1), (28, .invokevirtual 52, 3), (31, .ireturn, 1), (32, .iload_n 2, 1), (33, .iload_n 1, 1), (34, .if_icmp .eq 9, 3), (37, .iload_n 2, 1), (38, .bipush 10, 2), (40, .if_icmp .ne 13, 3), (43, .aload_n 0, 1), (44, .getfield 15, 3), (47, .invokevirtual 36, 3), (50, .goto 10, 3), (53, .aload_n 0, 1), (54, .getfield 15, 3), (57, .invokevirtual 49, 3), (60, .ireturn, 1)] : List (Nat × Instr × Nat)).all (fun q => decide (decode cX4_readCharacter q.1 = .ok (q.2.1, q.2.2))) = true := by decide +kernel
theorem dX4_readCharacter_0 : decode cX4_readCharacter 0 = .ok (.aload_n 0, 1) := dq_of dqX4_readCharacter_0 0 rfl
theorem dX4_readCharacter_1 : decode cX4_readCharacter 1 = .ok (.iconst 0, 1) := dq_of dqX4_readCharacter_0 1 rfl
theorem dX4_readCharacter_2 : decode cX4_readCharacter 2 = .ok (.putfield 9, 3) := dq_of dqX4_readCharacter_0 2 rfl
theorem dX4_readCharacter_5 : decode cX4_readCharacter 5 = .ok (.aload_n 0, 1) := dq_of dqX4_readCharacter_0 3 rfl
theorem dX4_readCharacter_6 : decode cX4_readCharacter 6 = .ok (.getfield 15, 3) := dq_of dqX4_readCharacter_0 4 rfl
theorem dX4_readCharacter_9 : decode cX4_readCharacter 9 = .ok (.invokevirtual 32, 3) := dq_of dqX4_readCharacter_0 5 rfl
theorem dX4_readCharacter_12 : decode cX4_readCharacter 12 = .ok (.istore_n 2, 1) := dq_of dqX4_readCharacter_0 6 rfl
theorem dX4_readCharacter_13 : decode cX4_readCharacter 13 = .ok (.iload_n 2, 1) := dq_of dqX4_readCharacter_0 7 rfl
theorem dX4_readCharacter_14 : decode cX4_readCharacter 14 = .ok (.bipush 92, 2) := dq_of dqX4_readCharacter_0 8 rfl
theorem dX4_readCharacter_16 : decode cX4_readCharacter 16 = .ok (.if_icmp .ne 16, 3) := dq_of dqX4_readCharacter_0 9 rfl
theorem dX4_readCharacter_19 : decode cX4_readCharacter 19 = .ok (.aload_n 0, 1) := dq_of dqX4_readCharacter_0 10 rfl
theorem dX4_readCharacter_20 : decode cX4_readCharacter 20 = .ok (.getfield 15, 3) := dq_of dqX4_readCharacter_0 11 rfl
theorem dX4_readCharacter_23 : decode cX4_readCharacter 23 = .ok (.invokevirtual 23, 3) := dq_of dqX4_readCharacter_0 12 rfl
theorem dX4_readCharacter_26 : decode cX4_readCharacter 26 = .ok (.aload_n 0, 1) := dq_of dqX4_readCharacter_0 13 rfl
theorem dX4_readCharacter_27 : decode cX4_readCharacter 27 = .ok (.iload_n 1, 1) := dq_of dqX4_readCharacter_0 14 rfl
theorem dX4_readCharacter_28 : decode cX4_readCharacter 28 = .ok (.invokevirtual 52, 3) := dq_of dqX4_readCharacter_0 15 rfl
theorem dX4_readCharacter_31 : decode cX4_readCharacter 31 = .ok (.ireturn, 1) := dq_of dqX4_readCharacter_0 16 rfl
theorem dX4_readCharacter_32 : decode cX4_readCharacter 32 = .ok (.iload_n 2, 1) := dq_of dqX4_readCharacter_0 17 rfl
theorem dX4_readCharacter_33 : decode cX4_readCharacter 33 = .ok (.iload_n 1, 1) := dq_of dqX4_readCharacter_0 18 rfl
theorem dX4_readCharacter_34 : decode cX4_readCharacter 34 = .ok (.if_icmp .eq 9, 3) := dq_of dqX4_readCharacter_0 19 rfl
theorem dX4_readCharacter_37 : decode cX4_readCharacter 37 = .ok (.iload_n 2, 1) := dq_of dqX4_readCharacter_0 20 rfl
theorem dX4_readCharacter_38 : decode cX4_readCharacter 38 = .ok (.bipush 10, 2) := dq_of dqX4_readCharacter_0 21 rfl
theorem dX4_readCharacter_40 : decode cX4_readCharacter 40 = .ok (.if_icmp .ne 13, 3) := dq_of dqX4_readCharacter_0 22 rfl
theorem dX4_readCharacter_43 : decode cX4_readCharacter 43 = .ok (.aload_n 0, 1) := dq_of dqX4_readCharacter_0 23 rfl
theorem dX4_readCharacter_44 : decode cX4_readCharacter 44 = .ok (.getfield 15, 3) := dq_of dqX4_readCharacter_0 24 rfl
theorem dX4_readCharacter_47 : decode cX4_readCharacter 47 = .ok (.invokevirtual 36, 3) := dq_of dqX4_readCharacter_0 25 rfl
theorem dX4_readCharacter_50 : decode cX4_readCharacter 50 = .ok (.goto 10, 3) := dq_of dqX4_readCharacter_0 26 rfl
theorem dX4_readCharacter_53 : decode cX4_readCharacter 53 = .ok (.aload_n 0, 1) := dq_of dqX4_readCharacter_0 27 rfl
theorem dX4_readCharacter_54 : decode cX4_readCharacter 54 = .ok (.getfield 15, 3) := dq_of dqX4_readCharacter_0 28 rfl
theorem dX4_readCharacter_57 : decode cX4_readCharacter 57 = .ok (.invokevirtual 49, 3) := dq_of dqX4_readCharacter_0 29 rfl
theorem dX4_readCharacter_60 : decode cX4_readCharacter 60 = .ok (.ireturn, 1) := dq_of dqX4_readCharacter_0 30 rfl
theorem dqX4_readEscaped_0 : ([(0, .aload_n 0, 1), (1, .getfield 15, 3), (4, .invokevirtual 32, 3), (7, .istore_n 2, 1), (8, .iload_n 2, 1), (9, .iload_n 1, 1), (10, .if_icmp .ne 7, 3), (13, .iload_n 1, 1), (14, .goto 7, 3), (17, .iload_n 2, 1), (18, .invokestatic 55, 3), (21, .istore_n 3, 1), (22, .iload_n 3, 1), (23, .iconst (-1), 1), (24, .if_icmp .eq 12, 3), (27, .aload_n 0, 1), (28, .getfield 15, 3), (31, .invokevirtual 23, 3), (34, .iload_n 3, 1), (35, .ireturn, 1), (36, .iload_n 2, 1), (37, .bipush 48, 2), (39, .if_icmp .lt 17, 3), (42, .iload_n 2, 1), (43, .bipush 51, 2), (45, .if_icmp .gt 11, 3), (48, .aload_n 0, 1), (49, .bipush 8, 2), (51, .iconst 3, 1), (52, .invokevirtual 58, 3), (55, .ireturn, 1), (56, .iload_n 2, 1), (57, .bipush 120, 2), (59, .if_icmp .eq 23, 3), (62, .iload_n 2, 1), (63, .bipush 117, 2), (65, .if_icmp .eq 17, 3), (68, .iload_n 2, 1), (69, .bipush 85, 2), (71, .if_icmp .eq 11, 3)] : List (Nat × Instr × Nat)).all (fun q => decide (decode cX4_readEscaped q.1 = .ok (q.2.1, q.2.2))) = true := by decide +kernel
theorem dX4_readEscaped_0 : decode cX4_readEscaped 0 = .ok (.aload_n 0, 1) := dq_of dqX4_readEscaped_0 0 rfl
theorem dX4_readEscaped_1 : decode cX4_readEscaped 1 = .ok (.getfield 15, 3) := dq_of dqX4_readEscaped_0 1 rfl
theorem dX4_readEscaped_4 : decode cX4_readEscaped 4 = .ok (.invokevirtual 32, 3) := dq_of dqX4_readEscaped_0 2 rfl
theorem dX4_readEscaped_7 : decode cX4_readEscaped 7 = .ok (.istore_n 2, 1) := dq_of dqX4_readEscaped_0 3 rfl
theorem dX4_readEscaped_8 : decode cX4_readEscaped 8 = .ok (.iload_n 2, 1) := dq_of dqX4_readEscaped_0 4 rfl
theorem dX4_readEscaped_9 : decode cX4_readEscaped 9 = .ok (.iload_n 1, 1) := dq_of dqX4_readEscaped_0 5 rfl
theorem dX4_readEscaped_10 : decode cX4_readEscaped 10 = .ok (.if_icmp .ne 7, 3) := dq_of dqX4_readEscaped_0 6 rfl
theorem dX4_readEscaped_13 : decode cX4_readEscaped 13 = .ok (.iload_n 1, 1) := dq_of dqX4_readEscaped_0 7 rfl
theorem dX4_readEscaped_14 : decode cX4_readEscaped 14 = .ok (.goto 7, 3) := dq_of dqX4_readEscaped_0 8 rfl
theorem dX4_readEscaped_17 : decode cX4_readEscaped 17 = .ok (.iload_n 2, 1) := dq_of dqX4_readEscaped_0 9 rfl
theorem dX4_readEscaped_18 : decode cX4_readEscaped 18 = .ok (.invokestatic 55, 3) := dq_of dqX4_readEscaped_0 10 rfl
theorem dX4_readEscaped_21 : decode cX4_readEscaped 21 = .ok (.istore_n 3, 1) := dq_of dqX4_readEscaped_0 11 rfl
theorem dX4_readEscaped_22 : decode cX4_readEscaped 22 = .ok (.iload_n 3, 1) := dq_of dqX4_readEscaped_0 12 rfl
theorem dX4_readEscaped_23 : decode cX4_readEscaped 23 = .ok (.iconst (-1), 1) := dq_of dqX4_readEscaped_0 13 rfl
theorem dX4_readEscaped_24 : decode cX4_readEscaped 24 = .ok (.if_icmp .eq 12, 3) := dq_of dqX4_readEscaped_0 14 rfl
theorem dX4_readEscaped_27 : decode cX4_readEscaped 27 = .ok (.aload_n 0, 1) := dq_of dqX4_readEscaped_0 15 rfl
theorem dX4_readEscaped_28 : decode cX4_readEscaped 28 = .ok (.getfield 15, 3) := dq_of dqX4_readEscaped_0 16 rfl
theorem dX4_readEscaped_31 : decode cX4_readEscaped 31 = .ok (.invokevirtual 23, 3) := dq_of dqX4_readEscaped_0 17 rfl
theorem dX4_readEscaped_34 : decode cX4_readEscaped 34 = .ok (.iload_n 3, 1) := dq_of dqX4_readEscaped_0 18 rfl
theorem dX4_readEscaped_35 : decode cX4_readEscaped 35 = .ok (.ireturn, 1) := dq_of dqX4_readEscaped_0 19 rfl
theorem dX4_readEscaped_36 : decode cX4_readEscaped 36 = .ok (.iload_n 2, 1) := dq_of dqX4_readEscaped_0 20 rfl
theorem dX4_readEscaped_37 : decode cX4_readEscaped 37 = .ok (.bipush 48, 2) := dq_of dqX4_readEscaped_0 21 rfl
theorem dX4_readEscaped_39 : decode cX4_readEscaped 39 = .ok (.if_icmp .lt 17, 3) := dq_of dqX4_readEscaped_0 22 rfl
theorem dX4_readEscaped_42 : decode cX4_readEscaped 42 = .ok (.iload_n 2, 1) := dq_of dqX4_readEscaped_0 23 rfl
theorem dX4_readEscaped_43 : decode cX4_readEscaped 43 = .ok (.bipush 51, 2) := dq_of dqX4_readEscaped_0 24 rfl
theorem dX4_readEscaped_45 : decode cX4_readEscaped 45 = .ok (.if_icmp .gt 11, 3) := dq_of dqX4_readEscaped_0 25 rfl
theorem dX4_readEscaped_48 : decode cX4_readEscaped 48 = .ok (.aload_n 0, 1) := dq_of dqX4_readEscaped_0 26 rfl
theorem dX4_readEscaped_49 : decode cX4_readEscaped 49 = .ok (.bipush 8, 2) := dq_of dqX4_readEscaped_0 27 rfl
theorem dX4_readEscaped_51 : decode cX4_readEscaped 51 = .ok (.iconst 3, 1) := dq_of dqX4_readEscaped_0 28 rfl
theorem dX4_readEscaped_52 : decode cX4_readEscaped 52 = .ok (.invokevirtual 58, 3) := dq_of dqX4_readEscaped_0 29 rfl
theorem dX4_readEscaped_55 : decode cX4_readEscaped 55 = .ok (.ireturn, 1) := dq_of dqX4_readEscaped_0 30 rfl
theorem dX4_readEscaped_56 : decode cX4_readEscaped 56 = .ok (.iload_n 2, 1) := dq_of dqX4_readEscaped_0 31 rfl
theorem dX4_readEscaped_57 : decode cX4_readEscaped 57 = .ok (.bipush 120, 2) := dq_of dqX4_readEscaped_0 32 rfl
theorem dX4_readEscaped_59 : decode cX4_readEscaped 59 = .ok (.if_icmp .eq 23, 3) := dq_of dqX4_readEscaped_0 33 rfl
theorem dX4_readEscaped_62 : decode cX4_readEscaped 62 = .ok (.iload_n 2, 1) := dq_of dqX4_readEscaped_0 34 rfl
theorem dX4_readEscaped_63 : decode cX4_readEscaped 63 = .ok (.bipush 117, 2) := dq_of dqX4_readEscaped_0 35 rfl
theorem dX4_readEscaped_65 : decode cX4_readEscaped 65 = .ok (.if_icmp .eq 17, 3) := dq_of dqX4_readEscaped_0 36 rfl
theorem dX4_readEscaped_68 : decode cX4_readEscaped 68 = .ok (.iload_n 2, 1) := dq_of dqX4_readEscaped_0 37 rfl
theorem dX4_readEscaped_69 : decode cX4_readEscaped 69 = .ok (.bipush 85, 2) := dq_of dqX4_readEscaped_0 38 rfl
theorem dX4_readEscaped_71 : decode cX4_readEscaped 71 = .ok (.if_icmp .eq 11, 3) := dq_of dqX4_readEscaped_0 39 rfl
theorem dqX4_readEscaped_74 : ([(74, .aload_n 0, 1), (75, .getfield 15, 3), (78, .invokevirtual 36, 3), (81, .ireturn, 1), (82, .aload_n 0, 1), (83, .getfield 15, 3), (86, .invokevirtual 23, 3), (89, .iload_n 2, 1), (90, .bipush 120, 2), (92, .if_icmp .ne 13, 3), (95, .aload_n 0, 1), (96, .bipush 16, 2), (98, .iconst 2, 1), (99, .invokevirtual 58, 3), (102, .goto 19, 3), (105, .aload_n 0, 1), (106, .iload_n 2, 1), (107, .bipush 117, 2), (109, .if_icmp .ne 7, 3), (112, .iconst 4, 1), (113, .goto 5, 3), (116, .bipush 8, 2), (118, .invokevirtual 62, 3), (121, .ireturn, 1)] : List (Nat × Instr × Nat)).all (fun q => decide (decode cX4_readEscaped q.1 = .ok (q.2.1, q.2.2))) = true := by decide +kernel
theorem dX4_readEscaped_74 : decode cX4_readEscaped 74 = .ok (.aload_n 0, 1) := dq_of dqX4_readEscaped_74 0 rfl
theorem dX4_readEscaped_75 : decode cX4_readEscaped 75 = .ok (.getfield 15, 3) := dq_of dqX4_readEscaped_74 1 rfl
theorem dX4_readEscaped_78 : decode cX4_readEscaped 78 = .ok (.invokevirtual 36, 3) := dq_of dqX4_readEscaped_74 2 rfl
theorem dX4_readEscaped_81 : decode cX4_readEscaped 81 = .ok (.ireturn, 1) := dq_of dqX4_readEscaped_74 3 rfl
theorem dX4_readEscaped_82 : decode cX4_readEscaped 82 = .ok (.aload_n 0, 1) := dq_of dqX4_readEscaped_74 4 rfl
theorem dX4_readEscaped_83 : decode cX4_readEscaped 83 = .ok (.getfield 15, 3) := dq_of dqX4_readEscaped_74 5 rfl
theorem dX4_readEscaped_86 : decode cX4_readEscaped 86 = .ok (.invokevirtual 23, 3) := dq_of dqX4_readEscaped_74 6 rfl
theorem dX4_readEscaped_89 : decode cX4_readEscaped 89 = .ok (.iload_n 2, 1) := dq_of dqX4_readEscaped_74 7 rfl
theorem dX4_readEscaped_90 : decode cX4_readEscaped 90 = .ok (.bipush 120, 2) := dq_of dqX4_readEscaped_74 8 rfl
theorem dX4_readEscaped_92 : decode cX4_readEscaped 92 = .ok (.if_icmp .ne 13, 3) := dq_of dqX4_readEscaped_74 9 rfl
theorem dX4_readEscaped_95 : decode cX4_readEscaped 95 = .ok (.aload_n 0, 1) := dq_of dqX4_readEscaped_74 10 rfl
theorem dX4_readEscaped_96 : decode cX4_readEscaped 96 = .ok (.bipush 16, 2) := dq_of dqX4_readEscaped_74 11 rfl
theorem dX4_readEscaped_98 : decode cX4_readEscaped 98 = .ok (.iconst 2, 1) := dq_of dqX4_readEscaped_74 12 rfl
theorem dX4_readEscaped_99 : decode cX4_readEscaped 99 = .ok (.invokevirtual 58, 3) := dq_of dqX4_readEscaped_74 13 rfl
theorem dX4_readEscaped_102 : decode cX4_readEscaped 102 = .ok (.goto 19, 3) := dq_of dqX4_readEscaped_74 14 rfl
theorem dX4_readEscaped_105 : decode cX4_readEscaped 105 = .ok (.aload_n 0, 1) := dq_of dqX4_readEscaped_74 15 rfl
theorem dX4_readEscaped_106 : decode cX4_readEscaped 106 = .ok (.iload_n 2, 1) := dq_of dqX4_readEscaped_74 16 rfl
theorem dX4_readEscaped_107 : decode cX4_readEscaped 107 = .ok (.bipush 117, 2) := dq_of dqX4_readEscaped_74 17 rfl
theorem dX4_readEscaped_109 : decode cX4_readEscaped 109 = .ok (.if_icmp .ne 7, 3) := dq_of dqX4_readEscaped_74 18 rfl
theorem dX4_readEscaped_112 : decode cX4_readEscaped 112 = .ok (.iconst 4, 1) := dq_of dqX4_readEscaped_74 19 rfl
theorem dX4_readEscaped_113 : decode cX4_readEscaped 113 = .ok (.goto 5, 3) := dq_of dqX4_readEscaped_74 20 rfl
theorem dX4_readEscaped_116 : decode cX4_readEscaped 116 = .ok (.bipush 8, 2) := dq_of dqX4_readEscaped_74 21 rfl
theorem dX4_readEscaped_118 : decode cX4_readEscaped 118 = .ok (.invokevirtual 62, 3) := dq_of dqX4_readEscaped_74 22 rfl
theorem dX4_readEscaped_121 : decode cX4_readEscaped 121 = .ok (.ireturn, 1) := dq_of dqX4_readEscaped_74 23 rfl
theorem dqX4_plainEscape_0 : ([(0, .iload_n 0, 1), (1, .tableswitch 147 92 118 #[144, 147, 147, 147, 147, 123, 126, 147, 147, 147, 129, 147, 147, 147, 147, 147, 147, 147, 132, 147, 147, 147, 135, 147, 138, 147, 141], 123), (124, .bipush 7, 2), (126, .ireturn, 1), (127, .bipush 8, 2), (129, .ireturn, 1), (130, .bipush 12, 2), (132, .ireturn, 1), (133, .bipush 10, 2), (135, .ireturn, 1), (136, .bipush 13, 2), (138, .ireturn, 1), (139, .bipush 9, 2), (141, .ireturn, 1), (142, .bipush 11, 2), (144, .ireturn, 1), (145, .bipush 92, 2), (147, .ireturn, 1), (148, .iconst (-1), 1), (149, .ireturn, 1)] : List (Nat × Instr × Nat)).all (fun q => decide (decode cX4_plainEscape q.1 = .ok (q.2.1, q.2.2))) = true := by decide +kernel
theorem dX4_plainEscape_0 : decode cX4_plainEscape 0 = .ok (.iload_n 0, 1) := dq_of dqX4_plainEscape_0 0 rfl
theorem dX4_plainEscape_1 : decode cX4_plainEscape 1 = .ok (.tableswitch 147 92 118 #[144, 147, 147, 147, 147, 123, 126, 147, 147, 147, 129, 147, 147, 147, 147, 147, 147, 147, 132, 147, 147, 147, 135, 147, 138, 147, 141], 123) := dq_of dqX4_plainEscape_0 1 rfl
theorem dX4_plainEscape_124 : decode cX4_plainEscape 124 = .ok (.bipush 7, 2) := dq_of dqX4_plainEscape_0 2 rfl
theorem dX4_plainEscape_126 : decode cX4_plainEscape 126 = .ok (.ireturn, 1) := dq_of dqX4_plainEscape_0 3 rfl
theorem dX4_plainEscape_127 : decode cX4_plainEscape 127 = .ok (.bipush 8, 2) := dq_of dqX4_plainEscape_0 4 rfl
theorem dX4_plainEscape_129 : decode cX4_plainEscape 129 = .ok (.ireturn, 1) := dq_of dqX4_plainEscape_0 5 rfl
theorem dX4_plainEscape_130 : decode cX4_plainEscape 130 = .ok (.bipush 12, 2) := dq_of dqX4_plainEscape_0 6 rfl
theorem dX4_plainEscape_132 : decode cX4_plainEscape 132 = .ok (.ireturn, 1) := dq_of dqX4_plainEscape_0 7 rfl
theorem dX4_plainEscape_133 : decode cX4_plainEscape 133 = .ok (.bipush 10, 2) := dq_of dqX4_plainEscape_0 8 rfl
theorem dX4_plainEscape_135 : decode cX4_plainEscape 135 = .ok (.ireturn, 1) := dq_of dqX4_plainEscape_0 9 rfl
theorem dX4_plainEscape_136 : decode cX4_plainEscape 136 = .ok (.bipush 13, 2) := dq_of dqX4_plainEscape_0 10 rfl
theorem dX4_plainEscape_138 : decode cX4_plainEscape 138 = .ok (.ireturn, 1) := dq_of dqX4_plainEscape_0 11 rfl
theorem dX4_plainEscape_139 : decode cX4_plainEscape 139 = .ok (.bipush 9, 2) := dq_of dqX4_plainEscape_0 12 rfl
theorem dX4_plainEscape_141 : decode cX4_plainEscape 141 = .ok (.ireturn, 1) := dq_of dqX4_plainEscape_0 13 rfl
theorem dX4_plainEscape_142 : decode cX4_plainEscape 142 = .ok (.bipush 11, 2) := dq_of dqX4_plainEscape_0 14 rfl
theorem dX4_plainEscape_144 : decode cX4_plainEscape 144 = .ok (.ireturn, 1) := dq_of dqX4_plainEscape_0 15 rfl
theorem dX4_plainEscape_145 : decode cX4_plainEscape 145 = .ok (.bipush 92, 2) := dq_of dqX4_plainEscape_0 16 rfl
theorem dX4_plainEscape_147 : decode cX4_plainEscape 147 = .ok (.ireturn, 1) := dq_of dqX4_plainEscape_0 17 rfl
theorem dX4_plainEscape_148 : decode cX4_plainEscape 148 = .ok (.iconst (-1), 1) := dq_of dqX4_plainEscape_0 18 rfl
theorem dX4_plainEscape_149 : decode cX4_plainEscape 149 = .ok (.ireturn, 1) := dq_of dqX4_plainEscape_0 19 rfl
theorem dqX4_readByte_0 : ([(0, .aload_n 0, 1), (1, .iconst 1, 1), (2, .putfield 9, 3), (5, .iconst 0, 1), (6, .istore_n 3, 1), (7, .iconst 0, 1), (8, .istore 4, 2), (10, .iload 4, 2), (12, .iload_n 2, 1), (13, .if_icmp .ge 50, 3), (16, .aload_n 0, 1), (17, .getfield 15, 3), (20, .invokevirtual 32, 3), (23, .iload_n 1, 1), (24, .invokestatic 65, 3), (27, .istore 5, 2), (29, .iload 5, 2), (31, .iconst (-1), 1), (32, .if_icmp .ne 11, 3), (35, .aload_n 0, 1), (36, .getfield 15, 3), (39, .invokevirtual 36, 3), (42, .ireturn, 1), (43, .iload_n 3, 1), (44, .iload_n 1, 1), (45, .imul, 1), (46, .iload 5, 2), (48, .iadd, 1), (49, .istore_n 3, 1), (50, .aload_n 0, 1), (51, .getfield 15, 3), (54, .invokevirtual 23, 3), (57, .iinc 4 1, 3), (60, .goto (-50), 3), (63, .iload_n 3, 1), (64, .ireturn, 1)] : List (Nat × Instr × Nat)).all (fun q => decide (decode cX4_readByte q.1 = .ok (q.2.1, q.2.2))) = true := by decide +kernel
theorem dX4_readByte_0 : decode cX4_readByte 0 = .ok (.aload_n 0, 1) := dq_of dqX4_readByte_0 0 rfl
theorem dX4_readByte_1 : decode cX4_readByte 1 = .ok (.iconst 1, 1) := dq_of dqX4_readByte_0 1 rfl
theorem dX4_readByte_2 : decode cX4_readByte 2 = .ok (.putfield 9, 3) := dq_of dqX4_readByte_0 2 rfl
theorem dX4_readByte_5 : decode cX4_readByte 5 = .ok (.iconst 0, 1) := dq_of dqX4_readByte_0 3 rfl
theorem dX4_readByte_6 : decode cX4_readByte 6 = .ok (.istore_n 3, 1) := dq_of dqX4_readByte_0 4 rfl
theorem dX4_readByte_7 : decode cX4_readByte 7 = .ok (.iconst 0, 1) := dq_of dqX4_readByte_0 5 rfl
theorem dX4_readByte_8 : decode cX4_readByte 8 = .ok (.istore 4, 2) := dq_of dqX4_readByte_0 6 rfl
theorem dX4_readByte_10 : decode cX4_readByte 10 = .ok (.iload 4, 2) := dq_of dqX4_readByte_0 7 rfl
theorem dX4_readByte_12 : decode cX4_readByte 12 = .ok (.iload_n 2, 1) := dq_of dqX4_readByte_0 8 rfl
theorem dX4_readByte_13 : decode cX4_readByte 13 = .ok (.if_icmp .ge 50, 3) := dq_of dqX4_readByte_0 9 rfl
theorem dX4_readByte_16 : decode cX4_readByte 16 = .ok (.aload_n 0, 1) := dq_of dqX4_readByte_0 10 rfl
theorem dX4_readByte_17 : decode cX4_readByte 17 = .ok (.getfield 15, 3) := dq_of dqX4_readByte_0 11 rfl
theorem dX4_readByte_20 : decode cX4_readByte 20 = .ok (.invokevirtual 32, 3) := dq_of dqX4_readByte_0 12 rfl
theorem dX4_readByte_23 : decode cX4_readByte 23 = .ok (.iload_n 1, 1) := dq_of dqX4_readByte_0 13 rfl
theorem dX4_readByte_24 : decode cX4_readByte 24 = .ok (.invokestatic 65, 3) := dq_of dqX4_readByte_0 14 rfl
theorem dX4_readByte_27 : decode cX4_readByte 27 = .ok (.istore 5, 2) := dq_of dqX4_readByte_0 15 rfl
theorem dX4_readByte_29 : decode cX4_readByte 29 = .ok (.iload 5, 2) := dq_of dqX4_readByte_0 16 rfl
theorem dX4_readByte_31 : decode cX4_readByte 31 = .ok (.iconst (-1), 1) := dq_of dqX4_readByte_0 17 rfl
theorem dX4_readByte_32 : decode cX4_readByte 32 = .ok (.if_icmp .ne 11, 3) := dq_of dqX4_readByte_0 18 rfl
theorem dX4_readByte_35 : decode cX4_readByte 35 = .ok (.aload_n 0, 1) := dq_of dqX4_readByte_0 19 rfl
theorem dX4_readByte_36 : decode cX4_readByte 36 = .ok (.getfield 15, 3) := dq_of dqX4_readByte_0 20 rfl
theorem dX4_readByte_39 : decode cX4_readByte 39 = .ok (.invokevirtual 36, 3) := dq_of dqX4_readByte_0 21 rfl
theorem dX4_readByte_42 : decode cX4_readByte 42 = .ok (.ireturn, 1) := dq_of dqX4_readByte_0 22 rfl
theorem dX4_readByte_43 : decode cX4_readByte 43 = .ok (.iload_n 3, 1) := dq_of dqX4_readByte_0 23 rfl
theorem dX4_readByte_44 : decode cX4_readByte 44 = .ok (.iload_n 1, 1) := dq_of dqX4_readByte_0 24 rfl
theorem dX4_readByte_45 : decode cX4_readByte 45 = .ok (.imul, 1) := dq_of dqX4_readByte_0 25 rfl
theorem dX4_readByte_46 : decode cX4_readByte 46 = .ok (.iload 5, 2) := dq_of dqX4_readByte_0 26 rfl
theorem dX4_readByte_48 : decode cX4_readByte 48 = .ok (.iadd, 1) := dq_of dqX4_readByte_0 27 rfl
theorem dX4_readByte_49 : decode cX4_readByte 49 = .ok (.istore_n 3, 1) := dq_of dqX4_readByte_0 28 rfl
theorem dX4_readByte_50 : decode cX4_readByte 50 = .ok (.aload_n 0, 1) := dq_of dqX4_readByte_0 29 rfl
theorem dX4_readByte_51 : decode cX4_readByte 51 = .ok (.getfield 15, 3) := dq_of dqX4_readByte_0 30 rfl
theorem dX4_readByte_54 : decode cX4_readByte 54 = .ok (.invokevirtual 23, 3) := dq_of dqX4_readByte_0 31 rfl
theorem dX4_readByte_57 : decode cX4_readByte 57 = .ok (.iinc 4 1, 3) := dq_of dqX4_readByte_0 32 rfl
theorem dX4_readByte_60 : decode cX4_readByte 60 = .ok (.goto (-50), 3) := dq_of dqX4_readByte_0 33 rfl
theorem dX4_readByte_63 : decode cX4_readByte 63 = .ok (.iload_n 3, 1) := dq_of dqX4_readByte_0 34 rfl
theorem dX4_readByte_64 : decode cX4_readByte 64 = .ok (.ireturn, 1) := dq_of dqX4_readByte_0 35 rfl
theorem dqX4_readCode_0 : ([(0, .lconst 0, 1), (1, .lstore_n 2, 1), (2, .iload_n 1, 1), (3, .iconst 1, 1), (4, .isub, 1), (5, .istore 4, 2), (7, .iload 4, 2), (9, .ifCond .lt 85, 3), (12, .aload_n 0, 1), (13, .getfield 15, 3), (16, .invokevirtual 32, 3), (19, .bipush 16, 2), (21, .invokestatic 65, 3), (24, .istore 5, 2), (26, .lload_n 2, 1), (27, .ldc2_w 68, 3), (30, .lmul, 1), (31, .iload 5, 2), (33, .i2l, 1), (34, .ladd, 1), (35, .lstore_n 2, 1), (36, .lload_n 2, 1), (37, .iconst 4, 1), (38, .iload 4, 2), (40, .imul, 1), (41, .lshl, 1), (42, .lstore 6, 2), (44, .lload 6, 2), (46, .lconst 1, 1), (47, .iconst 4, 1), (48, .iload 4, 2), (50, .imul, 1), (51, .lshl, 1), (52, .ladd, 1), (53, .lconst 1, 1), (54, .lsub, 1), (55, .lstore 8, 2), (57, .iload 5, 2), (59, .iconst (-1), 1), (60, .if_icmp .eq 13, 3)] : List (Nat × Instr × Nat)).all (fun q => decide (decode cX4_readCode q.1 = .ok (q.2.1, q.2.2))) = true := by decide +kernel
theorem dX4_readCode_0 : decode cX4_readCode 0 = .ok (.lconst 0, 1) := dq_of dqX4_readCode_0 0 rfl
theorem dX4_readCode_1 : decode cX4_readCode 1 = .ok (.lstore_n 2, 1) := dq_of dqX4_readCode_0 1 rfl
theorem dX4_readCode_2 : decode cX4_readCode 2 = .ok (.iload_n 1, 1) := dq_of dqX4_readCode_0 2 rfl
theorem dX4_readCode_3 : decode cX4_readCode 3 = .ok (.iconst 1, 1) := dq_of dqX4_readCode_0 3 rfl
theorem dX4_readCode_4 : decode cX4_readCode 4 = .ok (.isub, 1) := dq_of dqX4_readCode_0 4 rfl
theorem dX4_readCode_5 : decode cX4_readCode 5 = .ok (.istore 4, 2) := dq_of dqX4_readCode_0 5 rfl
theorem dX4_readCode_7 : decode cX4_readCode 7 = .ok (.iload 4, 2) := dq_of dqX4_readCode_0 6 rfl
theorem dX4_readCode_9 : decode cX4_readCode 9 = .ok (.ifCond .lt 85, 3) := dq_of dqX4_readCode_0 7 rfl
theorem dX4_readCode_12 : decode cX4_readCode 12 = .ok (.aload_n 0, 1) := dq_of dqX4_readCode_0 8 rfl
theorem dX4_readCode_13 : decode cX4_readCode 13 = .ok (.getfield 15, 3) := dq_of dqX4_readCode_0 9 rfl
theorem dX4_readCode_16 : decode cX4_readCode 16 = .ok (.invokevirtual 32, 3) := dq_of dqX4_readCode_0 10 rfl
theorem dX4_readCode_19 : decode cX4_readCode 19 = .ok (.bipush 16, 2) := dq_of dqX4_readCode_0 11 rfl
theorem dX4_readCode_21 : decode cX4_readCode 21 = .ok (.invokestatic 65, 3) := dq_of dqX4_readCode_0 12 rfl
theorem dX4_readCode_24 : decode cX4_readCode 24 = .ok (.istore 5, 2) := dq_of dqX4_readCode_0 13 rfl
theorem dX4_readCode_26 : decode cX4_readCode 26 = .ok (.lload_n 2, 1) := dq_of dqX4_readCode_0 14 rfl
theorem dX4_readCode_27 : decode cX4_readCode 27 = .ok (.ldc2_w 68, 3) := dq_of dqX4_readCode_0 15 rfl
theorem dX4_readCode_30 : decode cX4_readCode 30 = .ok (.lmul, 1) := dq_of dqX4_readCode_0 16 rfl
theorem dX4_readCode_31 : decode cX4_readCode 31 = .ok (.iload 5, 2) := dq_of dqX4_readCode_0 17 rfl
theorem dX4_readCode_33 : decode cX4_readCode 33 = .ok (.i2l, 1) := dq_of dqX4_readCode_0 18 rfl
theorem dX4_readCode_34 : decode cX4_readCode 34 = .ok (.ladd, 1) := dq_of dqX4_readCode_0 19 rfl
theorem dX4_readCode_35 : decode cX4_readCode 35 = .ok (.lstore_n 2, 1) := dq_of dqX4_readCode_0 20 rfl
theorem dX4_readCode_36 : decode cX4_readCode 36 = .ok (.lload_n 2, 1) := dq_of dqX4_readCode_0 21 rfl
theorem dX4_readCode_37 : decode cX4_readCode 37 = .ok (.iconst 4, 1) := dq_of dqX4_readCode_0 22 rfl
theorem dX4_readCode_38 : decode cX4_readCode 38 = .ok (.iload 4, 2) := dq_of dqX4_readCode_0 23 rfl
theorem dX4_readCode_40 : decode cX4_readCode 40 = .ok (.imul, 1) := dq_of dqX4_readCode_0 24 rfl
theorem dX4_readCode_41 : decode cX4_readCode 41 = .ok (.lshl, 1) := dq_of dqX4_readCode_0 25 rfl
theorem dX4_readCode_42 : decode cX4_readCode 42 = .ok (.lstore 6, 2) := dq_of dqX4_readCode_0 26 rfl
theorem dX4_readCode_44 : decode cX4_readCode 44 = .ok (.lload 6, 2) := dq_of dqX4_readCode_0 27 rfl
theorem dX4_readCode_46 : decode cX4_readCode 46 = .ok (.lconst 1, 1) := dq_of dqX4_readCode_0 28 rfl
theorem dX4_readCode_47 : decode cX4_readCode 47 = .ok (.iconst 4, 1) := dq_of dqX4_readCode_0 29 rfl
theorem dX4_readCode_48 : decode cX4_readCode 48 = .ok (.iload 4, 2) := dq_of dqX4_readCode_0 30 rfl
theorem dX4_readCode_50 : decode cX4_readCode 50 = .ok (.imul, 1) := dq_of dqX4_readCode_0 31 rfl
theorem dX4_readCode_51 : decode cX4_readCode 51 = .ok (.lshl, 1) := dq_of dqX4_readCode_0 32 rfl
theorem dX4_readCode_52 : decode cX4_readCode 52 = .ok (.ladd, 1) := dq_of dqX4_readCode_0 33 rfl
theorem dX4_readCode_53 : decode cX4_readCode 53 = .ok (.lconst 1, 1) := dq_of dqX4_readCode_0 34 rfl
theorem dX4_readCode_54 : decode cX4_readCode 54 = .ok (.lsub, 1) := dq_of dqX4_readCode_0 35 rfl
theorem dX4_readCode_55 : decode cX4_readCode 55 = .ok (.lstore 8, 2) := dq_of dqX4_readCode_0 36 rfl
theorem dX4_readCode_57 : decode cX4_readCode 57 = .ok (.iload 5, 2) := dq_of dqX4_readCode_0 37 rfl
theorem dX4_readCode_59 : decode cX4_readCode 59 = .ok (.iconst (-1), 1) := dq_of dqX4_readCode_0 38 rfl
theorem dX4_readCode_60 : decode cX4_readCode 60 = .ok (.if_icmp .eq 13, 3) := dq_of dqX4_readCode_0 39 rfl
theorem dqX4_readCode_63 : ([(63, .lload 6, 2), (65, .lload 8, 2), (67, .invokestatic 70, 3), (70, .ifCond .ne 11, 3), (73, .aload_n 0, 1), (74, .getfield 15, 3), (77, .invokevirtual 36, 3), (80, .ireturn, 1), (81, .aload_n 0, 1), (82, .getfield 15, 3), (85, .invokevirtual 23, 3), (88, .iinc 4 (-1), 3), (91, .goto (-84), 3), (94, .lload_n 2, 1), (95, .l2i, 1), (96, .ireturn, 1)] : List (Nat × Instr × Nat)).all (fun q => decide (decode cX4_readCode q.1 = .ok (q.2.1, q.2.2))) = true := by decide +kernel
theorem dX4_readCode_63 : decode cX4_readCode 63 = .ok (.lload 6, 2) := dq_of dqX4_readCode_63 0 rfl
theorem dX4_readCode_65 : decode cX4_readCode 65 = .ok (.lload 8, 2) := dq_of dqX4_readCode_63 1 rfl
theorem dX4_readCode_67 : decode cX4_readCode 67 = .ok (.invokestatic 70, 3) := dq_of dqX4_readCode_63 2 rfl
theorem dX4_readCode_70 : decode cX4_readCode 70 = .ok (.ifCond .ne 11, 3) := dq_of dqX4_readCode_63 3 rfl
theorem dX4_readCode_73 : decode cX4_readCode 73 = .ok (.aload_n 0, 1) := dq_of dqX4_readCode_63 4 rfl
theorem dX4_readCode_74 : decode cX4_readCode 74 = .ok (.getfield 15, 3) := dq_of dqX4_readCode_63 5 rfl
theorem dX4_readCode_77 : decode cX4_readCode 77 = .ok (.invokevirtual 36, 3) := dq_of dqX4_readCode_63 6 rfl
theorem dX4_readCode_80 : decode cX4_readCode 80 = .ok (.ireturn, 1) := dq_of dqX4_readCode_63 7 rfl
theorem dX4_readCode_81 : decode cX4_readCode 81 = .ok (.aload_n 0, 1) := dq_of dqX4_readCode_63 8 rfl
theorem dX4_readCode_82 : decode cX4_readCode 82 = .ok (.getfield 15, 3) := dq_of dqX4_readCode_63 9 rfl
theorem dX4_readCode_85 : decode cX4_readCode 85 = .ok (.invokevirtual 23, 3) := dq_of dqX4_readCode_63 10 rfl
theorem dX4_readCode_88 : decode cX4_readCode 88 = .ok (.iinc 4 (-1), 3) := dq_of dqX4_readCode_63 11 rfl
theorem dX4_readCode_91 : decode cX4_readCode 91 = .ok (.goto (-84), 3) := dq_of dqX4_readCode_63 12 rfl
theorem dX4_readCode_94 : decode cX4_readCode 94 = .ok (.lload_n 2, 1) := dq_of dqX4_readCode_63 13 rfl
theorem dX4_readCode_95 : decode cX4_readCode 95 = .ok (.l2i, 1) := dq_of dqX4_readCode_63 14 rfl
theorem dX4_readCode_96 : decode cX4_readCode 96 = .ok (.ireturn, 1) := dq_of dqX4_readCode_63 15 rfl
theorem dqX5_init_0 : ([(0, .aload_n 0, 1), (1, .invokespecial 3, 3), (4, .aload_n 0, 1), (5, .iconst 0, 1), (6, .putfield 9, 3), (9, .aload_n 0, 1), (10, .iconst 1, 1), (11, .putfield 15, 3), (14, .aload_n 0, 1), (15, .iconst 1, 1), (16, .putfield 18, 3), (19, .aload_n 0, 1), (20, .iconst 0, 1), (21, .putfield 21, 3), (24, .aload_n 0, 1), (25, .iconst 0, 1), (26, .putfield 24, 3), (29, .aload_n 0, 1), (30, .aload_n 1, 1), (31, .putfield 28, 3), (34, .aload_n 0, 1), (35, .aload_n 2, 1), (36, .putfield 32, 3), (39, .aload_n 0, 1), (40, .new 36, 3), (43, .dup, 1), (44, .aload_n 1, 1), (45, .aload_n 2, 1), (46, .getfield 38, 3), (49, .invokespecial 44, 3), (52, .putfield 47, 3), (55, .aload_n 0, 1), (56, .new 51, 3), (59, .dup, 1), (60, .aload_n 1, 1), (61, .aload_n 2, 1), (62, .getfield 38, 3), (65, .invokespecial 53, 3), (68, .putfield 54, 3), (71, .return_, 1)] : List (Nat × Instr × Nat)).all (fun q => decide (decode cX5_init q.1 = .ok (q.2.1, q.2.2))) = true := by decide +kernel
theorem dX5_init_0 : decode cX5_init 0 = .ok (.aload_n 0, 1) := dq_of dqX5_init_0 0 rfl
theorem dX5_init_1 : decode cX5_init 1 = .ok (.invokespecial 3, 3) := dq_of dqX5_init_0 1 rfl
theorem dX5_init_4 : decode cX5_init 4 = .ok (.aload_n 0, 1) := dq_of dqX5_init_0 2 rfl
theorem dX5_init_5 : decode cX5_init 5 = .ok (.iconst 0, 1) := dq_of dqX5_init_0 3 rfl
theorem dX5_init_6 : decode cX5_init 6 = .ok (.putfield 9, 3) := dq_of dqX5_init_0 4 rfl
theorem dX5_init_9 : decode cX5_init 9 = .ok (.aload_n 0, 1) := dq_of dqX5_init_0 5 rfl
theorem dX5_init_10 : decode cX5_init 10 = .ok (.iconst 1, 1) := dq_of dqX5_init_0 6 rfl
theorem dX5_init_11 : decode cX5_init 11 = .ok (.putfield 15, 3) := dq_of dqX5_init_0 7 rfl
theorem dX5_init_14 : decode cX5_init 14 = .ok (.aload_n 0, 1) := dq_of dqX5_init_0 8 rfl
theorem dX5_init_15 : decode cX5_init 15 = .ok (.iconst 1, 1) := dq_of dqX5_init_0 9 rfl
theorem dX5_init_16 : decode cX5_init 16 = .ok (.putfield 18, 3) := dq_of dqX5_init_0 10 rfl
theorem dX5_init_19 : decode cX5_init 19 = .ok (.aload_n 0, 1) := dq_of dqX5_init_0 11 rfl
theorem dX5_init_20 : decode cX5_init 20 = .ok (.iconst 0, 1) := dq_of dqX5_init_0 12 rfl
theorem dX5_init_21 : decode cX5_init 21 = .ok (.putfield 21, 3) := dq_of dqX5_init_0 13 rfl
theorem dX5_init_24 : decode cX5_init 24 = .ok (.aload_n 0, 1) := dq_of dqX5_init_0 14 rfl
theorem dX5_init_25 : decode cX5_init 25 = .ok (.iconst 0, 1) := dq_of dqX5_init_0 15 rfl
theorem dX5_init_26 : decode cX5_init 26 = .ok (.putfield 24, 3) := dq_of dqX5_init_0 16 rfl
theorem dX5_init_29 : decode cX5_init 29 = .ok (.aload_n 0, 1) := dq_of dqX5_init_0 17 rfl
theorem dX5_init_30 : decode cX5_init 30 = .ok (.aload_n 1, 1) := dq_of dqX5_init_0 18 rfl
theorem dX5_init_31 : decode cX5_init 31 = .ok (.putfield 28, 3) := dq_of dqX5_init_0 19 rfl
theorem dX5_init_34 : decode cX5_init 34 = .ok (.aload_n 0, 1) := dq_of dqX5_init_0 20 rfl
theorem dX5_init_35 : decode cX5_init 35 = .ok (.aload_n 2, 1) := dq_of dqX5_init_0 21 rfl
theorem dX5_init_36 : decode cX5_init 36 = .ok (.putfield 32, 3) := dq_of dqX5_init_0 22 rfl
theorem dX5_init_39 : decode cX5_init 39 = .ok (.aload_n 0, 1) := dq_of dqX5_init_0 23 rfl
theorem dX5_init_40 : decode cX5_init 40 = .ok (.new 36, 3) := dq_of dqX5_init_0 24 rfl
theorem dX5_init_43 : decode cX5_init 43 = .ok (.dup, 1) := dq_of dqX5_init_0 25 rfl
theorem dX5_init_44 : decode cX5_init 44 = .ok (.aload_n 1, 1) := dq_of dqX5_init_0 26 rfl
theorem dX5_init_45 : decode cX5_init 45 = .ok (.aload_n 2, 1) := dq_of dqX5_init_0 27 rfl
theorem dX5_init_46 : decode cX5_init 46 = .ok (.getfield 38, 3) := dq_of dqX5_init_0 28 rfl
theorem dX5_init_49 : decode cX5_init 49 = .ok (.invokespecial 44, 3) := dq_of dqX5_init_0 29 rfl
theorem dX5_init_52 : decode cX5_init 52 = .ok (.putfield 47, 3) := dq_of dqX5_init_0 30 rfl
theorem dX5_init_55 : decode cX5_init 55 = .ok (.aload_n 0, 1) := dq_of dqX5_init_0 31 rfl
theorem dX5_init_56 : decode cX5_init 56 = .ok (.new 51, 3) := dq_of dqX5_init_0 32 rfl
theorem dX5_init_59 : decode cX5_init 59 = .ok (.dup, 1) := dq_of dqX5_init_0 33 rfl
theorem dX5_init_60 : decode cX5_init 60 = .ok (.aload_n 1, 1) := dq_of dqX5_init_0 34 rfl
theorem dX5_init_61 : decode cX5_init 61 = .ok (.aload_n 2, 1) := dq_of dqX5_init_0 35 rfl
theorem dX5_init_62 : decode cX5_init 62 = .ok (.getfield 38, 3) := dq_of dqX5_init_0 36 rfl
theorem dX5_init_65 : decode cX5_init 65 = .ok (.invokespecial 53, 3) := dq_of dqX5_init_0 37 rfl
theorem dX5_init_68 : decode cX5_init 68 = .ok (.putfield 54, 3) := dq_of dqX5_init_0 38 rfl
theorem dX5_init_71 : decode cX5_init 71 = .ok (.return_, 1) := dq_of dqX5_init_0 39 rfl
theorem dqX5_begin_0 : ([(0, .aload_n 0, 1), (1, .getfield 32, 3), (4, .invokevirtual 58, 3), (7, .aload_n 0, 1), (8, .getfield 28, 3), (11, .invokevirtual 61, 3), (14, .aload_n 0, 1), (15, .iconst 0, 1), (16, .putfield 24, 3), (19, .return_, 1)] : List (Nat × Instr × Nat)).all (fun q => decide (decode cX5_begin q.1 = .ok (q.2.1, q.2.2))) = true := by decide +kernel
theorem dX5_begin_0 : decode cX5_begin 0 = .ok (.aload_n 0, 1) := dq_of dqX5_begin_0 0 rfl
theorem dX5_begin_1 : decode cX5_begin 1 = .ok (.getfield 32, 3) := dq_of dqX5_begin_0 1 rfl
theorem dX5_begin_4 : decode cX5_begin 4 = .ok (.invokevirtual 58, 3) := dq_of dqX5_begin_0 2 rfl
theorem dX5_begin_7 : decode cX5_begin 7 = .ok (.aload_n 0, 1) := dq_of dqX5_begin_0 3 rfl
theorem dX5_begin_8 : decode cX5_begin 8 = .ok (.getfield 28, 3) := dq_of dqX5_begin_0 4 rfl
theorem dX5_begin_11 : decode cX5_begin 11 = .ok (.invokevirtual 61, 3) := dq_of dqX5_begin_0 5 rfl
theorem dX5_begin_14 : decode cX5_begin 14 = .ok (.aload_n 0, 1) := dq_of dqX5_begin_0 6 rfl
theorem dX5_begin_15 : decode cX5_begin 15 = .ok (.iconst 0, 1) := dq_of dqX5_begin_0 7 rfl
theorem dX5_begin_16 : decode cX5_begin 16 = .ok (.putfield 24, 3) := dq_of dqX5_begin_0 8 rfl
theorem dX5_begin_19 : decode cX5_begin 19 = .ok (.return_, 1) := dq_of dqX5_begin_0 9 rfl
theorem dqX5_goesOn_0 : ([(0, .aload_n 0, 1), (1, .getfield 28, 3), (4, .getfield 66, 3), (7, .ifCond .ne 18, 3), (10, .aload_n 0, 1), (11, .getfield 28, 3), (14, .invokevirtual 69, 3), (17, .iconst (-1), 1), (18, .if_icmp .eq 7, 3), (21, .iconst 1, 1), (22, .goto 4, 3), (25, .iconst 0, 1), (26, .ireturn, 1)] : List (Nat × Instr × Nat)).all (fun q => decide (decode cX5_goesOn q.1 = .ok (q.2.1, q.2.2))) = true := by decide +kernel
theorem dX5_goesOn_0 : decode cX5_goesOn 0 = .ok (.aload_n 0, 1) := dq_of dqX5_goesOn_0 0 rfl
theorem dX5_goesOn_1 : decode cX5_goesOn 1 = .ok (.getfield 28, 3) := dq_of dqX5_goesOn_0 1 rfl
theorem dX5_goesOn_4 : decode cX5_goesOn 4 = .ok (.getfield 66, 3) := dq_of dqX5_goesOn_0 2 rfl
theorem dX5_goesOn_7 : decode cX5_goesOn 7 = .ok (.ifCond .ne 18, 3) := dq_of dqX5_goesOn_0 3 rfl
theorem dX5_goesOn_10 : decode cX5_goesOn 10 = .ok (.aload_n 0, 1) := dq_of dqX5_goesOn_0 4 rfl
theorem dX5_goesOn_11 : decode cX5_goesOn 11 = .ok (.getfield 28, 3) := dq_of dqX5_goesOn_0 5 rfl
theorem dX5_goesOn_14 : decode cX5_goesOn 14 = .ok (.invokevirtual 69, 3) := dq_of dqX5_goesOn_0 6 rfl
theorem dX5_goesOn_17 : decode cX5_goesOn 17 = .ok (.iconst (-1), 1) := dq_of dqX5_goesOn_0 7 rfl
theorem dX5_goesOn_18 : decode cX5_goesOn 18 = .ok (.if_icmp .eq 7, 3) := dq_of dqX5_goesOn_0 8 rfl
theorem dX5_goesOn_21 : decode cX5_goesOn 21 = .ok (.iconst 1, 1) := dq_of dqX5_goesOn_0 9 rfl
theorem dX5_goesOn_22 : decode cX5_goesOn 22 = .ok (.goto 4, 3) := dq_of dqX5_goesOn_0 10 rfl
theorem dX5_goesOn_25 : decode cX5_goesOn 25 = .ok (.iconst 0, 1) := dq_of dqX5_goesOn_0 11 rfl
theorem dX5_goesOn_26 : decode cX5_goesOn 26 = .ok (.ireturn, 1) := dq_of dqX5_goesOn_0 12 rfl
theorem dqX5_finish_0 : ([(0, .aload_n 0, 1), (1, .getfield 28, 3), (4, .getfield 66, 3), (7, .ifCond .ne 12, 3), (10, .aload_n 0, 1), (11, .invokevirtual 73, 3), (14, .aload_n 0, 1), (15, .invokevirtual 76, 3), (18, .pop, 1), (19, .aload_n 0, 1), (20, .getfield 28, 3), (23, .getfield 66, 3), (26, .ifCond .eq 20, 3), (29, .aload_n 0, 1), (30, .getfield 32, 3), (33, .invokevirtual 58, 3), (36, .iconst (-1), 1), (37, .aload_n 0, 1), (38, .getfield 28, 3), (41, .getfield 80, 3), (44, .isub, 1), (45, .ireturn, 1), (46, .aload_n 0, 1), (47, .getfield 32, 3), (50, .getfield 83, 3), (53, .ireturn, 1)] : List (Nat × Instr × Nat)).all (fun q => decide (decode cX5_finish q.1 = .ok (q.2.1, q.2.2))) = true := by decide +kernel
theorem dX5_finish_0 : decode cX5_finish 0 = .ok (.aload_n 0, 1) := dq_of dqX5_finish_0 0 rfl
theorem dX5_finish_1 : decode cX5_finish 1 = .ok (.getfield 28, 3) := dq_of dqX5_finish_0 1 rfl
theorem dX5_finish_4 : decode cX5_finish 4 = .ok (.getfield 66, 3) := dq_of dqX5_finish_0 2 rfl
theorem dX5_finish_7 : decode cX5_finish 7 = .ok (.ifCond .ne 12, 3) := dq_of dqX5_finish_0 3 rfl
theorem dX5_finish_10 : decode cX5_finish 10 = .ok (.aload_n 0, 1) := dq_of dqX5_finish_0 4 rfl
theorem dX5_finish_11 : decode cX5_finish 11 = .ok (.invokevirtual 73, 3) := dq_of dqX5_finish_0 5 rfl
theorem dX5_finish_14 : decode cX5_finish 14 = .ok (.aload_n 0, 1) := dq_of dqX5_finish_0 6 rfl
theorem dX5_finish_15 : decode cX5_finish 15 = .ok (.invokevirtual 76, 3) := dq_of dqX5_finish_0 7 rfl
theorem dX5_finish_18 : decode cX5_finish 18 = .ok (.pop, 1) := dq_of dqX5_finish_0 8 rfl
theorem dX5_finish_19 : decode cX5_finish 19 = .ok (.aload_n 0, 1) := dq_of dqX5_finish_0 9 rfl
theorem dX5_finish_20 : decode cX5_finish 20 = .ok (.getfield 28, 3) := dq_of dqX5_finish_0 10 rfl
theorem dX5_finish_23 : decode cX5_finish 23 = .ok (.getfield 66, 3) := dq_of dqX5_finish_0 11 rfl
theorem dX5_finish_26 : decode cX5_finish 26 = .ok (.ifCond .eq 20, 3) := dq_of dqX5_finish_0 12 rfl
theorem dX5_finish_29 : decode cX5_finish 29 = .ok (.aload_n 0, 1) := dq_of dqX5_finish_0 13 rfl
theorem dX5_finish_30 : decode cX5_finish 30 = .ok (.getfield 32, 3) := dq_of dqX5_finish_0 14 rfl
theorem dX5_finish_33 : decode cX5_finish 33 = .ok (.invokevirtual 58, 3) := dq_of dqX5_finish_0 15 rfl
theorem dX5_finish_36 : decode cX5_finish 36 = .ok (.iconst (-1), 1) := dq_of dqX5_finish_0 16 rfl
theorem dX5_finish_37 : decode cX5_finish 37 = .ok (.aload_n 0, 1) := dq_of dqX5_finish_0 17 rfl
theorem dX5_finish_38 : decode cX5_finish 38 = .ok (.getfield 28, 3) := dq_of dqX5_finish_0 18 rfl
theorem dX5_finish_41 : decode cX5_finish 41 = .ok (.getfield 80, 3) := dq_of dqX5_finish_0 19 rfl
theorem dX5_finish_44 : decode cX5_finish 44 = .ok (.isub, 1) := dq_of dqX5_finish_0 20 rfl
theorem dX5_finish_45 : decode cX5_finish 45 = .ok (.ireturn, 1) := dq_of dqX5_finish_0 21 rfl
theorem dX5_finish_46 : decode cX5_finish 46 = .ok (.aload_n 0, 1) := dq_of dqX5_finish_0 22 rfl
theorem dX5_finish_47 : decode cX5_finish 47 = .ok (.getfield 32, 3) := dq_of dqX5_finish_0 23 rfl
theorem dX5_finish_50 : decode cX5_finish 50 = .ok (.getfield 83, 3) := dq_of dqX5_finish_0 24 rfl
theorem dX5_finish_53 : decode cX5_finish 53 = .ok (.ireturn, 1) := dq_of dqX5_finish_0 25 rfl
theorem dqX5_passBetweenTokens_0 : ([(0, .aload_n 0, 1), (1, .invokevirtual 73, 3), (4, .aload_n 0, 1), (5, .getfield 28, 3), (8, .invokevirtual 69, 3), (11, .istore_n 1, 1), (12, .iload_n 1, 1), (13, .bipush 10, 2), (15, .if_icmp .ne 20, 3), (18, .aload_n 0, 1), (19, .invokevirtual 76, 3), (22, .ifCond .eq 93, 3), (25, .aload_n 0, 1), (26, .getfield 28, 3), (29, .invokevirtual 86, 3), (32, .goto 83, 3), (35, .iload_n 1, 1), (36, .bipush 32, 2), (38, .if_icmp .eq 15, 3), (41, .iload_n 1, 1), (42, .bipush 9, 2), (44, .if_icmp .eq 9, 3), (47, .iload_n 1, 1), (48, .bipush 13, 2), (50, .if_icmp .ne 13, 3), (53, .aload_n 0, 1), (54, .getfield 28, 3), (57, .invokevirtual 86, 3), (60, .goto 55, 3), (63, .iload_n 1, 1), (64, .bipush 47, 2), (66, .if_icmp .ne 22, 3), (69, .aload_n 0, 1), (70, .getfield 28, 3), (73, .invokevirtual 89, 3), (76, .bipush 47, 2), (78, .if_icmp .ne 10, 3), (81, .aload_n 0, 1), (82, .invokevirtual 92, 3), (85, .goto 30, 3)] : List (Nat × Instr × Nat)).all (fun q => decide (decode cX5_passBetweenTokens q.1 = .ok (q.2.1, q.2.2))) = true := by decide +kernel
theorem dX5_passBetweenTokens_0 : decode cX5_passBetweenTokens 0 = .ok (.aload_n 0, 1) := dq_of dqX5_passBetweenTokens_0 0 rfl
theorem dX5_passBetweenTokens_1 : decode cX5_passBetweenTokens 1 = .ok (.invokevirtual 73, 3) := dq_of dqX5_passBetweenTokens_0 1 rfl
theorem dX5_passBetweenTokens_4 : decode cX5_passBetweenTokens 4 = .ok (.aload_n 0, 1) := dq_of dqX5_passBetweenTokens_0 2 rfl
theorem dX5_passBetweenTokens_5 : decode cX5_passBetweenTokens 5 = .ok (.getfield 28, 3) := dq_of dqX5_passBetweenTokens_0 3 rfl
theorem dX5_passBetweenTokens_8 : decode cX5_passBetweenTokens 8 = .ok (.invokevirtual 69, 3) := dq_of dqX5_passBetweenTokens_0 4 rfl
theorem dX5_passBetweenTokens_11 : decode cX5_passBetweenTokens 11 = .ok (.istore_n 1, 1) := dq_of dqX5_passBetweenTokens_0 5 rfl
theorem dX5_passBetweenTokens_12 : decode cX5_passBetweenTokens 12 = .ok (.iload_n 1, 1) := dq_of dqX5_passBetweenTokens_0 6 rfl
theorem dX5_passBetweenTokens_13 : decode cX5_passBetweenTokens 13 = .ok (.bipush 10, 2) := dq_of dqX5_passBetweenTokens_0 7 rfl
theorem dX5_passBetweenTokens_15 : decode cX5_passBetweenTokens 15 = .ok (.if_icmp .ne 20, 3) := dq_of dqX5_passBetweenTokens_0 8 rfl
theorem dX5_passBetweenTokens_18 : decode cX5_passBetweenTokens 18 = .ok (.aload_n 0, 1) := dq_of dqX5_passBetweenTokens_0 9 rfl
theorem dX5_passBetweenTokens_19 : decode cX5_passBetweenTokens 19 = .ok (.invokevirtual 76, 3) := dq_of dqX5_passBetweenTokens_0 10 rfl
theorem dX5_passBetweenTokens_22 : decode cX5_passBetweenTokens 22 = .ok (.ifCond .eq 93, 3) := dq_of dqX5_passBetweenTokens_0 11 rfl
theorem dX5_passBetweenTokens_25 : decode cX5_passBetweenTokens 25 = .ok (.aload_n 0, 1) := dq_of dqX5_passBetweenTokens_0 12 rfl
theorem dX5_passBetweenTokens_26 : decode cX5_passBetweenTokens 26 = .ok (.getfield 28, 3) := dq_of dqX5_passBetweenTokens_0 13 rfl
theorem dX5_passBetweenTokens_29 : decode cX5_passBetweenTokens 29 = .ok (.invokevirtual 86, 3) := dq_of dqX5_passBetweenTokens_0 14 rfl
theorem dX5_passBetweenTokens_32 : decode cX5_passBetweenTokens 32 = .ok (.goto 83, 3) := dq_of dqX5_passBetweenTokens_0 15 rfl
theorem dX5_passBetweenTokens_35 : decode cX5_passBetweenTokens 35 = .ok (.iload_n 1, 1) := dq_of dqX5_passBetweenTokens_0 16 rfl
theorem dX5_passBetweenTokens_36 : decode cX5_passBetweenTokens 36 = .ok (.bipush 32, 2) := dq_of dqX5_passBetweenTokens_0 17 rfl
theorem dX5_passBetweenTokens_38 : decode cX5_passBetweenTokens 38 = .ok (.if_icmp .eq 15, 3) := dq_of dqX5_passBetweenTokens_0 18 rfl
theorem dX5_passBetweenTokens_41 : decode cX5_passBetweenTokens 41 = .ok (.iload_n 1, 1) := dq_of dqX5_passBetweenTokens_0 19 rfl
theorem dX5_passBetweenTokens_42 : decode cX5_passBetweenTokens 42 = .ok (.bipush 9, 2) := dq_of dqX5_passBetweenTokens_0 20 rfl
theorem dX5_passBetweenTokens_44 : decode cX5_passBetweenTokens 44 = .ok (.if_icmp .eq 9, 3) := dq_of dqX5_passBetweenTokens_0 21 rfl
theorem dX5_passBetweenTokens_47 : decode cX5_passBetweenTokens 47 = .ok (.iload_n 1, 1) := dq_of dqX5_passBetweenTokens_0 22 rfl
theorem dX5_passBetweenTokens_48 : decode cX5_passBetweenTokens 48 = .ok (.bipush 13, 2) := dq_of dqX5_passBetweenTokens_0 23 rfl
theorem dX5_passBetweenTokens_50 : decode cX5_passBetweenTokens 50 = .ok (.if_icmp .ne 13, 3) := dq_of dqX5_passBetweenTokens_0 24 rfl
theorem dX5_passBetweenTokens_53 : decode cX5_passBetweenTokens 53 = .ok (.aload_n 0, 1) := dq_of dqX5_passBetweenTokens_0 25 rfl
theorem dX5_passBetweenTokens_54 : decode cX5_passBetweenTokens 54 = .ok (.getfield 28, 3) := dq_of dqX5_passBetweenTokens_0 26 rfl
theorem dX5_passBetweenTokens_57 : decode cX5_passBetweenTokens 57 = .ok (.invokevirtual 86, 3) := dq_of dqX5_passBetweenTokens_0 27 rfl
theorem dX5_passBetweenTokens_60 : decode cX5_passBetweenTokens 60 = .ok (.goto 55, 3) := dq_of dqX5_passBetweenTokens_0 28 rfl
theorem dX5_passBetweenTokens_63 : decode cX5_passBetweenTokens 63 = .ok (.iload_n 1, 1) := dq_of dqX5_passBetweenTokens_0 29 rfl
theorem dX5_passBetweenTokens_64 : decode cX5_passBetweenTokens 64 = .ok (.bipush 47, 2) := dq_of dqX5_passBetweenTokens_0 30 rfl
theorem dX5_passBetweenTokens_66 : decode cX5_passBetweenTokens 66 = .ok (.if_icmp .ne 22, 3) := dq_of dqX5_passBetweenTokens_0 31 rfl
theorem dX5_passBetweenTokens_69 : decode cX5_passBetweenTokens 69 = .ok (.aload_n 0, 1) := dq_of dqX5_passBetweenTokens_0 32 rfl
theorem dX5_passBetweenTokens_70 : decode cX5_passBetweenTokens 70 = .ok (.getfield 28, 3) := dq_of dqX5_passBetweenTokens_0 33 rfl
theorem dX5_passBetweenTokens_73 : decode cX5_passBetweenTokens 73 = .ok (.invokevirtual 89, 3) := dq_of dqX5_passBetweenTokens_0 34 rfl
theorem dX5_passBetweenTokens_76 : decode cX5_passBetweenTokens 76 = .ok (.bipush 47, 2) := dq_of dqX5_passBetweenTokens_0 35 rfl
theorem dX5_passBetweenTokens_78 : decode cX5_passBetweenTokens 78 = .ok (.if_icmp .ne 10, 3) := dq_of dqX5_passBetweenTokens_0 36 rfl
theorem dX5_passBetweenTokens_81 : decode cX5_passBetweenTokens 81 = .ok (.aload_n 0, 1) := dq_of dqX5_passBetweenTokens_0 37 rfl
theorem dX5_passBetweenTokens_82 : decode cX5_passBetweenTokens 82 = .ok (.invokevirtual 92, 3) := dq_of dqX5_passBetweenTokens_0 38 rfl
theorem dX5_passBetweenTokens_85 : decode cX5_passBetweenTokens 85 = .ok (.goto 30, 3) := dq_of dqX5_passBetweenTokens_0 39 rfl
theorem dqX5_passBetweenTokens_88 : ([(88, .iload_n 1, 1), (89, .bipush 47, 2), (91, .if_icmp .ne 22, 3), (94, .aload_n 0, 1), (95, .getfield 28, 3), (98, .invokevirtual 89, 3), (101, .bipush 42, 2), (103, .if_icmp .ne 10, 3), (106, .aload_n 0, 1), (107, .invokevirtual 95, 3), (110, .goto 5, 3), (113, .iconst 0, 1), (114, .ireturn, 1), (115, .iconst 1, 1), (116, .ireturn, 1)] : List (Nat × Instr × Nat)).all (fun q => decide (decode cX5_passBetweenTokens q.1 = .ok (q.2.1, q.2.2))) = true := by decide +kernel
theorem dX5_passBetweenTokens_88 : decode cX5_passBetweenTokens 88 = .ok (.iload_n 1, 1) := dq_of dqX5_passBetweenTokens_88 0 rfl
theorem dX5_passBetweenTokens_89 : decode cX5_passBetweenTokens 89 = .ok (.bipush 47, 2) := dq_of dqX5_passBetweenTokens_88 1 rfl
theorem dX5_passBetweenTokens_91 : decode cX5_passBetweenTokens 91 = .ok (.if_icmp .ne 22, 3) := dq_of dqX5_passBetweenTokens_88 2 rfl
theorem dX5_passBetweenTokens_94 : decode cX5_passBetweenTokens 94 = .ok (.aload_n 0, 1) := dq_of dqX5_passBetweenTokens_88 3 rfl
theorem dX5_passBetweenTokens_95 : decode cX5_passBetweenTokens 95 = .ok (.getfield 28, 3) := dq_of dqX5_passBetweenTokens_88 4 rfl
theorem dX5_passBetweenTokens_98 : decode cX5_passBetweenTokens 98 = .ok (.invokevirtual 89, 3) := dq_of dqX5_passBetweenTokens_88 5 rfl
theorem dX5_passBetweenTokens_101 : decode cX5_passBetweenTokens 101 = .ok (.bipush 42, 2) := dq_of dqX5_passBetweenTokens_88 6 rfl
theorem dX5_passBetweenTokens_103 : decode cX5_passBetweenTokens 103 = .ok (.if_icmp .ne 10, 3) := dq_of dqX5_passBetweenTokens_88 7 rfl
theorem dX5_passBetweenTokens_106 : decode cX5_passBetweenTokens 106 = .ok (.aload_n 0, 1) := dq_of dqX5_passBetweenTokens_88 8 rfl
theorem dX5_passBetweenTokens_107 : decode cX5_passBetweenTokens 107 = .ok (.invokevirtual 95, 3) := dq_of dqX5_passBetweenTokens_88 9 rfl
theorem dX5_passBetweenTokens_110 : decode cX5_passBetweenTokens 110 = .ok (.goto 5, 3) := dq_of dqX5_passBetweenTokens_88 10 rfl
theorem dX5_passBetweenTokens_113 : decode cX5_passBetweenTokens 113 = .ok (.iconst 0, 1) := dq_of dqX5_passBetweenTokens_88 11 rfl
theorem dX5_passBetweenTokens_114 : decode cX5_passBetweenTokens 114 = .ok (.ireturn, 1) := dq_of dqX5_passBetweenTokens_88 12 rfl
theorem dX5_passBetweenTokens_115 : decode cX5_passBetweenTokens 115 = .ok (.iconst 1, 1) := dq_of dqX5_passBetweenTokens_88 13 rfl
theorem dX5_passBetweenTokens_116 : decode cX5_passBetweenTokens 116 = .ok (.ireturn, 1) := dq_of dqX5_passBetweenTokens_88 14 rfl
theorem dqX5_readToken_0 : ([(0, .aload_n 0, 1), (1, .getfield 28, 3), (4, .invokevirtual 69, 3), (7, .istore_n 1, 1), (8, .aload_n 0, 1), (9, .getfield 32, 3), (12, .invokevirtual 98, 3), (15, .ifCond .eq 14, 3), (18, .aload_n 0, 1), (19, .getfield 28, 3), (22, .invokevirtual 101, 3), (25, .pop, 1), (26, .goto 122, 3), (29, .iload_n 1, 1), (30, .invokestatic 104, 3), (33, .ifCond .eq 10, 3), (36, .aload_n 0, 1), (37, .invokevirtual 108, 3), (40, .goto 108, 3), (43, .iload_n 1, 1), (44, .invokestatic 111, 3), (47, .ifCond .ne 22, 3), (50, .iload_n 1, 1), (51, .bipush 46, 2), (53, .if_icmp .ne 30, 3), (56, .aload_n 0, 1), (57, .getfield 28, 3), (60, .invokevirtual 89, 3), (63, .invokestatic 111, 3), (66, .ifCond .eq 17, 3), (69, .aload_n 0, 1), (70, .aload_n 0, 1), (71, .getfield 47, 3), (74, .invokevirtual 114, 3), (77, .invokevirtual 117, 3), (80, .goto 68, 3), (83, .iload_n 1, 1), (84, .bipush 39, 2), (86, .if_icmp .ne 17, 3), (89, .aload_n 0, 1)] : List (Nat × Instr × Nat)).all (fun q => decide (decode cX5_readToken q.1 = .ok (q.2.1, q.2.2))) = true := by decide +kernel
theorem dX5_readToken_0 : decode cX5_readToken 0 = .ok (.aload_n 0, 1) := dq_of dqX5_readToken_0 0 rfl
theorem dX5_readToken_1 : decode cX5_readToken 1 = .ok (.getfield 28, 3) := dq_of dqX5_readToken_0 1 rfl
theorem dX5_readToken_4 : decode cX5_readToken 4 = .ok (.invokevirtual 69, 3) := dq_of dqX5_readToken_0 2 rfl
theorem dX5_readToken_7 : decode cX5_readToken 7 = .ok (.istore_n 1, 1) := dq_of dqX5_readToken_0 3 rfl
theorem dX5_readToken_8 : decode cX5_readToken 8 = .ok (.aload_n 0, 1) := dq_of dqX5_readToken_0 4 rfl
theorem dX5_readToken_9 : decode cX5_readToken 9 = .ok (.getfield 32, 3) := dq_of dqX5_readToken_0 5 rfl
theorem dX5_readToken_12 : decode cX5_readToken 12 = .ok (.invokevirtual 98, 3) := dq_of dqX5_readToken_0 6 rfl
theorem dX5_readToken_15 : decode cX5_readToken 15 = .ok (.ifCond .eq 14, 3) := dq_of dqX5_readToken_0 7 rfl
theorem dX5_readToken_18 : decode cX5_readToken 18 = .ok (.aload_n 0, 1) := dq_of dqX5_readToken_0 8 rfl
theorem dX5_readToken_19 : decode cX5_readToken 19 = .ok (.getfield 28, 3) := dq_of dqX5_readToken_0 9 rfl
theorem dX5_readToken_22 : decode cX5_readToken 22 = .ok (.invokevirtual 101, 3) := dq_of dqX5_readToken_0 10 rfl
theorem dX5_readToken_25 : decode cX5_readToken 25 = .ok (.pop, 1) := dq_of dqX5_readToken_0 11 rfl
theorem dX5_readToken_26 : decode cX5_readToken 26 = .ok (.goto 122, 3) := dq_of dqX5_readToken_0 12 rfl
theorem dX5_readToken_29 : decode cX5_readToken 29 = .ok (.iload_n 1, 1) := dq_of dqX5_readToken_0 13 rfl
theorem dX5_readToken_30 : decode cX5_readToken 30 = .ok (.invokestatic 104, 3) := dq_of dqX5_readToken_0 14 rfl
theorem dX5_readToken_33 : decode cX5_readToken 33 = .ok (.ifCond .eq 10, 3) := dq_of dqX5_readToken_0 15 rfl
theorem dX5_readToken_36 : decode cX5_readToken 36 = .ok (.aload_n 0, 1) := dq_of dqX5_readToken_0 16 rfl
theorem dX5_readToken_37 : decode cX5_readToken 37 = .ok (.invokevirtual 108, 3) := dq_of dqX5_readToken_0 17 rfl
theorem dX5_readToken_40 : decode cX5_readToken 40 = .ok (.goto 108, 3) := dq_of dqX5_readToken_0 18 rfl
theorem dX5_readToken_43 : decode cX5_readToken 43 = .ok (.iload_n 1, 1) := dq_of dqX5_readToken_0 19 rfl
theorem dX5_readToken_44 : decode cX5_readToken 44 = .ok (.invokestatic 111, 3) := dq_of dqX5_readToken_0 20 rfl
theorem dX5_readToken_47 : decode cX5_readToken 47 = .ok (.ifCond .ne 22, 3) := dq_of dqX5_readToken_0 21 rfl
theorem dX5_readToken_50 : decode cX5_readToken 50 = .ok (.iload_n 1, 1) := dq_of dqX5_readToken_0 22 rfl
theorem dX5_readToken_51 : decode cX5_readToken 51 = .ok (.bipush 46, 2) := dq_of dqX5_readToken_0 23 rfl
theorem dX5_readToken_53 : decode cX5_readToken 53 = .ok (.if_icmp .ne 30, 3) := dq_of dqX5_readToken_0 24 rfl
theorem dX5_readToken_56 : decode cX5_readToken 56 = .ok (.aload_n 0, 1) := dq_of dqX5_readToken_0 25 rfl
theorem dX5_readToken_57 : decode cX5_readToken 57 = .ok (.getfield 28, 3) := dq_of dqX5_readToken_0 26 rfl
theorem dX5_readToken_60 : decode cX5_readToken 60 = .ok (.invokevirtual 89, 3) := dq_of dqX5_readToken_0 27 rfl
theorem dX5_readToken_63 : decode cX5_readToken 63 = .ok (.invokestatic 111, 3) := dq_of dqX5_readToken_0 28 rfl
theorem dX5_readToken_66 : decode cX5_readToken 66 = .ok (.ifCond .eq 17, 3) := dq_of dqX5_readToken_0 29 rfl
theorem dX5_readToken_69 : decode cX5_readToken 69 = .ok (.aload_n 0, 1) := dq_of dqX5_readToken_0 30 rfl
theorem dX5_readToken_70 : decode cX5_readToken 70 = .ok (.aload_n 0, 1) := dq_of dqX5_readToken_0 31 rfl
theorem dX5_readToken_71 : decode cX5_readToken 71 = .ok (.getfield 47, 3) := dq_of dqX5_readToken_0 32 rfl
theorem dX5_readToken_74 : decode cX5_readToken 74 = .ok (.invokevirtual 114, 3) := dq_of dqX5_readToken_0 33 rfl
theorem dX5_readToken_77 : decode cX5_readToken 77 = .ok (.invokevirtual 117, 3) := dq_of dqX5_readToken_0 34 rfl
theorem dX5_readToken_80 : decode cX5_readToken 80 = .ok (.goto 68, 3) := dq_of dqX5_readToken_0 35 rfl
theorem dX5_readToken_83 : decode cX5_readToken 83 = .ok (.iload_n 1, 1) := dq_of dqX5_readToken_0 36 rfl
theorem dX5_readToken_84 : decode cX5_readToken 84 = .ok (.bipush 39, 2) := dq_of dqX5_readToken_0 37 rfl
theorem dX5_readToken_86 : decode cX5_readToken 86 = .ok (.if_icmp .ne 17, 3) := dq_of dqX5_readToken_0 38 rfl
theorem dX5_readToken_89 : decode cX5_readToken 89 = .ok (.aload_n 0, 1) := dq_of dqX5_readToken_0 39 rfl
theorem dqX5_readToken_90 : ([(90, .aload_n 0, 1), (91, .getfield 54, 3), (94, .invokevirtual 121, 3), (97, .invokevirtual 124, 3), (100, .goto 48, 3), (103, .iload_n 1, 1), (104, .bipush 34, 2), (106, .if_icmp .ne 17, 3), (109, .aload_n 0, 1), (110, .aload_n 0, 1), (111, .getfield 54, 3), (114, .invokevirtual 127, 3), (117, .invokevirtual 130, 3), (120, .goto 28, 3), (123, .iload_n 1, 1), (124, .bipush 96, 2), (126, .if_icmp .ne 17, 3), (129, .aload_n 0, 1), (130, .aload_n 0, 1), (131, .getfield 54, 3), (134, .invokevirtual 134, 3), (137, .invokevirtual 130, 3), (140, .goto 8, 3), (143, .aload_n 0, 1), (144, .iload_n 1, 1), (145, .invokevirtual 137, 3), (148, .return_, 1)] : List (Nat × Instr × Nat)).all (fun q => decide (decode cX5_readToken q.1 = .ok (q.2.1, q.2.2))) = true := by decide +kernel
theorem dX5_readToken_90 : decode cX5_readToken 90 = .ok (.aload_n 0, 1) := dq_of dqX5_readToken_90 0 rfl
theorem dX5_readToken_91 : decode cX5_readToken 91 = .ok (.getfield 54, 3) := dq_of dqX5_readToken_90 1 rfl
theorem dX5_readToken_94 : decode cX5_readToken 94 = .ok (.invokevirtual 121, 3) := dq_of dqX5_readToken_90 2 rfl
theorem dX5_readToken_97 : decode cX5_readToken 97 = .ok (.invokevirtual 124, 3) := dq_of dqX5_readToken_90 3 rfl
theorem dX5_readToken_100 : decode cX5_readToken 100 = .ok (.goto 48, 3) := dq_of dqX5_readToken_90 4 rfl
theorem dX5_readToken_103 : decode cX5_readToken 103 = .ok (.iload_n 1, 1) := dq_of dqX5_readToken_90 5 rfl
theorem dX5_readToken_104 : decode cX5_readToken 104 = .ok (.bipush 34, 2) := dq_of dqX5_readToken_90 6 rfl
theorem dX5_readToken_106 : decode cX5_readToken 106 = .ok (.if_icmp .ne 17, 3) := dq_of dqX5_readToken_90 7 rfl
theorem dX5_readToken_109 : decode cX5_readToken 109 = .ok (.aload_n 0, 1) := dq_of dqX5_readToken_90 8 rfl
theorem dX5_readToken_110 : decode cX5_readToken 110 = .ok (.aload_n 0, 1) := dq_of dqX5_readToken_90 9 rfl
theorem dX5_readToken_111 : decode cX5_readToken 111 = .ok (.getfield 54, 3) := dq_of dqX5_readToken_90 10 rfl
theorem dX5_readToken_114 : decode cX5_readToken 114 = .ok (.invokevirtual 127, 3) := dq_of dqX5_readToken_90 11 rfl
theorem dX5_readToken_117 : decode cX5_readToken 117 = .ok (.invokevirtual 130, 3) := dq_of dqX5_readToken_90 12 rfl
theorem dX5_readToken_120 : decode cX5_readToken 120 = .ok (.goto 28, 3) := dq_of dqX5_readToken_90 13 rfl
theorem dX5_readToken_123 : decode cX5_readToken 123 = .ok (.iload_n 1, 1) := dq_of dqX5_readToken_90 14 rfl
theorem dX5_readToken_124 : decode cX5_readToken 124 = .ok (.bipush 96, 2) := dq_of dqX5_readToken_90 15 rfl
theorem dX5_readToken_126 : decode cX5_readToken 126 = .ok (.if_icmp .ne 17, 3) := dq_of dqX5_readToken_90 16 rfl
theorem dX5_readToken_129 : decode cX5_readToken 129 = .ok (.aload_n 0, 1) := dq_of dqX5_readToken_90 17 rfl
theorem dX5_readToken_130 : decode cX5_readToken 130 = .ok (.aload_n 0, 1) := dq_of dqX5_readToken_90 18 rfl
theorem dX5_readToken_131 : decode cX5_readToken 131 = .ok (.getfield 54, 3) := dq_of dqX5_readToken_90 19 rfl
theorem dX5_readToken_134 : decode cX5_readToken 134 = .ok (.invokevirtual 134, 3) := dq_of dqX5_readToken_90 20 rfl
theorem dX5_readToken_137 : decode cX5_readToken 137 = .ok (.invokevirtual 130, 3) := dq_of dqX5_readToken_90 21 rfl
theorem dX5_readToken_140 : decode cX5_readToken 140 = .ok (.goto 8, 3) := dq_of dqX5_readToken_90 22 rfl
theorem dX5_readToken_143 : decode cX5_readToken 143 = .ok (.aload_n 0, 1) := dq_of dqX5_readToken_90 23 rfl
theorem dX5_readToken_144 : decode cX5_readToken 144 = .ok (.iload_n 1, 1) := dq_of dqX5_readToken_90 24 rfl
theorem dX5_readToken_145 : decode cX5_readToken 145 = .ok (.invokevirtual 137, 3) := dq_of dqX5_readToken_90 25 rfl
theorem dX5_readToken_148 : decode cX5_readToken 148 = .ok (.return_, 1) := dq_of dqX5_readToken_90 26 rfl
theorem dqX5_markStart_0 : ([(0, .aload_n 0, 1), (1, .aload_n 0, 1), (2, .getfield 28, 3), (5, .getfield 80, 3), (8, .putfield 9, 3), (11, .aload_n 0, 1), (12, .aload_n 0, 1), (13, .getfield 28, 3), (16, .getfield 140, 3), (19, .putfield 15, 3), (22, .aload_n 0, 1), (23, .aload_n 0, 1), (24, .getfield 28, 3), (27, .getfield 80, 3), (30, .aload_n 0, 1), (31, .getfield 28, 3), (34, .getfield 143, 3), (37, .isub, 1), (38, .iconst 1, 1), (39, .iadd, 1), (40, .putfield 18, 3), (43, .aload_n 0, 1), (44, .aload_n 0, 1), (45, .getfield 32, 3), (48, .getfield 38, 3), (51, .getfield 146, 3), (54, .putfield 21, 3), (57, .return_, 1)] : List (Nat × Instr × Nat)).all (fun q => decide (decode cX5_markStart q.1 = .ok (q.2.1, q.2.2))) = true := by decide +kernel
theorem dX5_markStart_0 : decode cX5_markStart 0 = .ok (.aload_n 0, 1) := dq_of dqX5_markStart_0 0 rfl
theorem dX5_markStart_1 : decode cX5_markStart 1 = .ok (.aload_n 0, 1) := dq_of dqX5_markStart_0 1 rfl
theorem dX5_markStart_2 : decode cX5_markStart 2 = .ok (.getfield 28, 3) := dq_of dqX5_markStart_0 2 rfl
theorem dX5_markStart_5 : decode cX5_markStart 5 = .ok (.getfield 80, 3) := dq_of dqX5_markStart_0 3 rfl
theorem dX5_markStart_8 : decode cX5_markStart 8 = .ok (.putfield 9, 3) := dq_of dqX5_markStart_0 4 rfl
theorem dX5_markStart_11 : decode cX5_markStart 11 = .ok (.aload_n 0, 1) := dq_of dqX5_markStart_0 5 rfl
theorem dX5_markStart_12 : decode cX5_markStart 12 = .ok (.aload_n 0, 1) := dq_of dqX5_markStart_0 6 rfl
theorem dX5_markStart_13 : decode cX5_markStart 13 = .ok (.getfield 28, 3) := dq_of dqX5_markStart_0 7 rfl
theorem dX5_markStart_16 : decode cX5_markStart 16 = .ok (.getfield 140, 3) := dq_of dqX5_markStart_0 8 rfl
theorem dX5_markStart_19 : decode cX5_markStart 19 = .ok (.putfield 15, 3) := dq_of dqX5_markStart_0 9 rfl
theorem dX5_markStart_22 : decode cX5_markStart 22 = .ok (.aload_n 0, 1) := dq_of dqX5_markStart_0 10 rfl
theorem dX5_markStart_23 : decode cX5_markStart 23 = .ok (.aload_n 0, 1) := dq_of dqX5_markStart_0 11 rfl
theorem dX5_markStart_24 : decode cX5_markStart 24 = .ok (.getfield 28, 3) := dq_of dqX5_markStart_0 12 rfl
theorem dX5_markStart_27 : decode cX5_markStart 27 = .ok (.getfield 80, 3) := dq_of dqX5_markStart_0 13 rfl
theorem dX5_markStart_30 : decode cX5_markStart 30 = .ok (.aload_n 0, 1) := dq_of dqX5_markStart_0 14 rfl
theorem dX5_markStart_31 : decode cX5_markStart 31 = .ok (.getfield 28, 3) := dq_of dqX5_markStart_0 15 rfl
theorem dX5_markStart_34 : decode cX5_markStart 34 = .ok (.getfield 143, 3) := dq_of dqX5_markStart_0 16 rfl
theorem dX5_markStart_37 : decode cX5_markStart 37 = .ok (.isub, 1) := dq_of dqX5_markStart_0 17 rfl
theorem dX5_markStart_38 : decode cX5_markStart 38 = .ok (.iconst 1, 1) := dq_of dqX5_markStart_0 18 rfl
theorem dX5_markStart_39 : decode cX5_markStart 39 = .ok (.iadd, 1) := dq_of dqX5_markStart_0 19 rfl
theorem dX5_markStart_40 : decode cX5_markStart 40 = .ok (.putfield 18, 3) := dq_of dqX5_markStart_0 20 rfl
theorem dX5_markStart_43 : decode cX5_markStart 43 = .ok (.aload_n 0, 1) := dq_of dqX5_markStart_0 21 rfl
theorem dX5_markStart_44 : decode cX5_markStart 44 = .ok (.aload_n 0, 1) := dq_of dqX5_markStart_0 22 rfl
theorem dX5_markStart_45 : decode cX5_markStart 45 = .ok (.getfield 32, 3) := dq_of dqX5_markStart_0 23 rfl
theorem dX5_markStart_48 : decode cX5_markStart 48 = .ok (.getfield 38, 3) := dq_of dqX5_markStart_0 24 rfl
theorem dX5_markStart_51 : decode cX5_markStart 51 = .ok (.getfield 146, 3) := dq_of dqX5_markStart_0 25 rfl
theorem dX5_markStart_54 : decode cX5_markStart 54 = .ok (.putfield 21, 3) := dq_of dqX5_markStart_0 26 rfl
theorem dX5_markStart_57 : decode cX5_markStart 57 = .ok (.return_, 1) := dq_of dqX5_markStart_0 27 rfl
theorem dqX5_passLineComment_0 : ([(0, .aload_n 0, 1), (1, .invokevirtual 76, 3), (4, .istore_n 1, 1), (5, .iconst 0, 1), (6, .istore_n 2, 1), (7, .iload_n 2, 1), (8, .ldc 151, 2), (10, .if_icmp .ge 49, 3), (13, .iload_n 1, 1), (14, .ifCond .eq 45, 3), (17, .aload_n 0, 1), (18, .getfield 28, 3), (21, .invokevirtual 69, 3), (24, .istore_n 3, 1), (25, .iload_n 3, 1), (26, .bipush 10, 2), (28, .if_icmp .eq 23, 3), (31, .iload_n 3, 1), (32, .iconst (-1), 1), (33, .if_icmp .eq 18, 3), (36, .aload_n 0, 1), (37, .getfield 28, 3), (40, .invokevirtual 152, 3), (43, .iconst (-1), 1), (44, .if_icmp .eq 7, 3), (47, .iconst 1, 1), (48, .goto 4, 3), (51, .iconst 0, 1), (52, .istore_n 1, 1), (53, .iinc 2 1, 3), (56, .goto (-49), 3), (59, .return_, 1)] : List (Nat × Instr × Nat)).all (fun q => decide (decode cX5_passLineComment q.1 = .ok (q.2.1, q.2.2))) = true := by decide +kernel
theorem dX5_passLineComment_0 : decode cX5_passLineComment 0 = .ok (.aload_n 0, 1) := dq_of dqX5_passLineComment_0 0 rfl
theorem dX5_passLineComment_1 : decode cX5_passLineComment 1 = .ok (.invokevirtual 76, 3) := dq_of dqX5_passLineComment_0 1 rfl
theorem dX5_passLineComment_4 : decode cX5_passLineComment 4 = .ok (.istore_n 1, 1) := dq_of dqX5_passLineComment_0 2 rfl
theorem dX5_passLineComment_5 : decode cX5_passLineComment 5 = .ok (.iconst 0, 1) := dq_of dqX5_passLineComment_0 3 rfl
theorem dX5_passLineComment_6 : decode cX5_passLineComment 6 = .ok (.istore_n 2, 1) := dq_of dqX5_passLineComment_0 4 rfl
theorem dX5_passLineComment_7 : decode cX5_passLineComment 7 = .ok (.iload_n 2, 1) := dq_of dqX5_passLineComment_0 5 rfl
theorem dX5_passLineComment_8 : decode cX5_passLineComment 8 = .ok (.ldc 151, 2) := dq_of dqX5_passLineComment_0 6 rfl
theorem dX5_passLineComment_10 : decode cX5_passLineComment 10 = .ok (.if_icmp .ge 49, 3) := dq_of dqX5_passLineComment_0 7 rfl
theorem dX5_passLineComment_13 : decode cX5_passLineComment 13 = .ok (.iload_n 1, 1) := dq_of dqX5_passLineComment_0 8 rfl
theorem dX5_passLineComment_14 : decode cX5_passLineComment 14 = .ok (.ifCond .eq 45, 3) := dq_of dqX5_passLineComment_0 9 rfl
theorem dX5_passLineComment_17 : decode cX5_passLineComment 17 = .ok (.aload_n 0, 1) := dq_of dqX5_passLineComment_0 10 rfl
theorem dX5_passLineComment_18 : decode cX5_passLineComment 18 = .ok (.getfield 28, 3) := dq_of dqX5_passLineComment_0 11 rfl
theorem dX5_passLineComment_21 : decode cX5_passLineComment 21 = .ok (.invokevirtual 69, 3) := dq_of dqX5_passLineComment_0 12 rfl
theorem dX5_passLineComment_24 : decode cX5_passLineComment 24 = .ok (.istore_n 3, 1) := dq_of dqX5_passLineComment_0 13 rfl
theorem dX5_passLineComment_25 : decode cX5_passLineComment 25 = .ok (.iload_n 3, 1) := dq_of dqX5_passLineComment_0 14 rfl
theorem dX5_passLineComment_26 : decode cX5_passLineComment 26 = .ok (.bipush 10, 2) := dq_of dqX5_passLineComment_0 15 rfl
theorem dX5_passLineComment_28 : decode cX5_passLineComment 28 = .ok (.if_icmp .eq 23, 3) := dq_of dqX5_passLineComment_0 16 rfl
theorem dX5_passLineComment_31 : decode cX5_passLineComment 31 = .ok (.iload_n 3, 1) := dq_of dqX5_passLineComment_0 17 rfl
theorem dX5_passLineComment_32 : decode cX5_passLineComment 32 = .ok (.iconst (-1), 1) := dq_of dqX5_passLineComment_0 18 rfl
theorem dX5_passLineComment_33 : decode cX5_passLineComment 33 = .ok (.if_icmp .eq 18, 3) := dq_of dqX5_passLineComment_0 19 rfl
theorem dX5_passLineComment_36 : decode cX5_passLineComment 36 = .ok (.aload_n 0, 1) := dq_of dqX5_passLineComment_0 20 rfl
theorem dX5_passLineComment_37 : decode cX5_passLineComment 37 = .ok (.getfield 28, 3) := dq_of dqX5_passLineComment_0 21 rfl
theorem dX5_passLineComment_40 : decode cX5_passLineComment 40 = .ok (.invokevirtual 152, 3) := dq_of dqX5_passLineComment_0 22 rfl
theorem dX5_passLineComment_43 : decode cX5_passLineComment 43 = .ok (.iconst (-1), 1) := dq_of dqX5_passLineComment_0 23 rfl
theorem dX5_passLineComment_44 : decode cX5_passLineComment 44 = .ok (.if_icmp .eq 7, 3) := dq_of dqX5_passLineComment_0 24 rfl
theorem dX5_passLineComment_47 : decode cX5_passLineComment 47 = .ok (.iconst 1, 1) := dq_of dqX5_passLineComment_0 25 rfl
theorem dX5_passLineComment_48 : decode cX5_passLineComment 48 = .ok (.goto 4, 3) := dq_of dqX5_passLineComment_0 26 rfl
theorem dX5_passLineComment_51 : decode cX5_passLineComment 51 = .ok (.iconst 0, 1) := dq_of dqX5_passLineComment_0 27 rfl
theorem dX5_passLineComment_52 : decode cX5_passLineComment 52 = .ok (.istore_n 1, 1) := dq_of dqX5_passLineComment_0 28 rfl
theorem dX5_passLineComment_53 : decode cX5_passLineComment 53 = .ok (.iinc 2 1, 3) := dq_of dqX5_passLineComment_0 29 rfl
theorem dX5_passLineComment_56 : decode cX5_passLineComment 56 = .ok (.goto (-49), 3) := dq_of dqX5_passLineComment_0 30 rfl
theorem dX5_passLineComment_59 : decode cX5_passLineComment 59 = .ok (.return_, 1) := dq_of dqX5_passLineComment_0 31 rfl
theorem dqX5_passLongComment_0 : ([(0, .aload_n 0, 1), (1, .getfield 28, 3), (4, .invokevirtual 86, 3), (7, .aload_n 0, 1), (8, .getfield 28, 3), (11, .invokevirtual 86, 3), (14, .iconst 0, 1), (15, .istore_n 1, 1), (16, .iload_n 1, 1), (17, .ldc 151, 2), (19, .if_icmp .ge 75, 3), (22, .aload_n 0, 1), (23, .getfield 28, 3), (26, .invokevirtual 69, 3), (29, .istore_n 2, 1), (30, .iload_n 2, 1), (31, .bipush 42, 2), (33, .if_icmp .ne 30, 3), (36, .aload_n 0, 1), (37, .getfield 28, 3), (40, .invokevirtual 89, 3), (43, .bipush 47, 2), (45, .if_icmp .ne 18, 3), (48, .aload_n 0, 1), (49, .getfield 28, 3), (52, .invokevirtual 86, 3), (55, .aload_n 0, 1), (56, .getfield 28, 3), (59, .invokevirtual 86, 3), (62, .return_, 1), (63, .iload_n 2, 1), (64, .bipush 10, 2), (66, .if_icmp .ne 10, 3), (69, .aload_n 0, 1), (70, .invokevirtual 76, 3), (73, .ifCond .eq 14, 3), (76, .aload_n 0, 1), (77, .getfield 28, 3), (80, .invokevirtual 152, 3), (83, .iconst (-1), 1)] : List (Nat × Instr × Nat)).all (fun q => decide (decode cX5_passLongComment q.1 = .ok (q.2.1, q.2.2))) = true := by decide +kernel
theorem dX5_passLongComment_0 : decode cX5_passLongComment 0 = .ok (.aload_n 0, 1) := dq_of dqX5_passLongComment_0 0 rfl
theorem dX5_passLongComment_1 : decode cX5_passLongComment 1 = .ok (.getfield 28, 3) := dq_of dqX5_passLongComment_0 1 rfl
theorem dX5_passLongComment_4 : decode cX5_passLongComment 4 = .ok (.invokevirtual 86, 3) := dq_of dqX5_passLongComment_0 2 rfl
theorem dX5_passLongComment_7 : decode cX5_passLongComment 7 = .ok (.aload_n 0, 1) := dq_of dqX5_passLongComment_0 3 rfl
theorem dX5_passLongComment_8 : decode cX5_passLongComment 8 = .ok (.getfield 28, 3) := dq_of dqX5_passLongComment_0 4 rfl
theorem dX5_passLongComment_11 : decode cX5_passLongComment 11 = .ok (.invokevirtual 86, 3) := dq_of dqX5_passLongComment_0 5 rfl
theorem dX5_passLongComment_14 : decode cX5_passLongComment 14 = .ok (.iconst 0, 1) := dq_of dqX5_passLongComment_0 6 rfl
theorem dX5_passLongComment_15 : decode cX5_passLongComment 15 = .ok (.istore_n 1, 1) := dq_of dqX5_passLongComment_0 7 rfl
theorem dX5_passLongComment_16 : decode cX5_passLongComment 16 = .ok (.iload_n 1, 1) := dq_of dqX5_passLongComment_0 8 rfl
theorem dX5_passLongComment_17 : decode cX5_passLongComment 17 = .ok (.ldc 151, 2) := dq_of dqX5_passLongComment_0 9 rfl
theorem dX5_passLongComment_19 : decode cX5_passLongComment 19 = .ok (.if_icmp .ge 75, 3) := dq_of dqX5_passLongComment_0 10 rfl
theorem dX5_passLongComment_22 : decode cX5_passLongComment 22 = .ok (.aload_n 0, 1) := dq_of dqX5_passLongComment_0 11 rfl
theorem dX5_passLongComment_23 : decode cX5_passLongComment 23 = .ok (.getfield 28, 3) := dq_of dqX5_passLongComment_0 12 rfl
theorem dX5_passLongComment_26 : decode cX5_passLongComment 26 = .ok (.invokevirtual 69, 3) := dq_of dqX5_passLongComment_0 13 rfl
theorem dX5_passLongComment_29 : decode cX5_passLongComment 29 = .ok (.istore_n 2, 1) := dq_of dqX5_passLongComment_0 14 rfl
theorem dX5_passLongComment_30 : decode cX5_passLongComment 30 = .ok (.iload_n 2, 1) := dq_of dqX5_passLongComment_0 15 rfl
theorem dX5_passLongComment_31 : decode cX5_passLongComment 31 = .ok (.bipush 42, 2) := dq_of dqX5_passLongComment_0 16 rfl
theorem dX5_passLongComment_33 : decode cX5_passLongComment 33 = .ok (.if_icmp .ne 30, 3) := dq_of dqX5_passLongComment_0 17 rfl
theorem dX5_passLongComment_36 : decode cX5_passLongComment 36 = .ok (.aload_n 0, 1) := dq_of dqX5_passLongComment_0 18 rfl
theorem dX5_passLongComment_37 : decode cX5_passLongComment 37 = .ok (.getfield 28, 3) := dq_of dqX5_passLongComment_0 19 rfl
theorem dX5_passLongComment_40 : decode cX5_passLongComment 40 = .ok (.invokevirtual 89, 3) := dq_of dqX5_passLongComment_0 20 rfl
theorem dX5_passLongComment_43 : decode cX5_passLongComment 43 = .ok (.bipush 47, 2) := dq_of dqX5_passLongComment_0 21 rfl
theorem dX5_passLongComment_45 : decode cX5_passLongComment 45 = .ok (.if_icmp .ne 18, 3) := dq_of dqX5_passLongComment_0 22 rfl
theorem dX5_passLongComment_48 : decode cX5_passLongComment 48 = .ok (.aload_n 0, 1) := dq_of dqX5_passLongComment_0 23 rfl
theorem dX5_passLongComment_49 : decode cX5_passLongComment 49 = .ok (.getfield 28, 3) := dq_of dqX5_passLongComment_0 24 rfl
theorem dX5_passLongComment_52 : decode cX5_passLongComment 52 = .ok (.invokevirtual 86, 3) := dq_of dqX5_passLongComment_0 25 rfl
theorem dX5_passLongComment_55 : decode cX5_passLongComment 55 = .ok (.aload_n 0, 1) := dq_of dqX5_passLongComment_0 26 rfl
theorem dX5_passLongComment_56 : decode cX5_passLongComment 56 = .ok (.getfield 28, 3) := dq_of dqX5_passLongComment_0 27 rfl
theorem dX5_passLongComment_59 : decode cX5_passLongComment 59 = .ok (.invokevirtual 86, 3) := dq_of dqX5_passLongComment_0 28 rfl
theorem dX5_passLongComment_62 : decode cX5_passLongComment 62 = .ok (.return_, 1) := dq_of dqX5_passLongComment_0 29 rfl
theorem dX5_passLongComment_63 : decode cX5_passLongComment 63 = .ok (.iload_n 2, 1) := dq_of dqX5_passLongComment_0 30 rfl
theorem dX5_passLongComment_64 : decode cX5_passLongComment 64 = .ok (.bipush 10, 2) := dq_of dqX5_passLongComment_0 31 rfl
theorem dX5_passLongComment_66 : decode cX5_passLongComment 66 = .ok (.if_icmp .ne 10, 3) := dq_of dqX5_passLongComment_0 32 rfl
theorem dX5_passLongComment_69 : decode cX5_passLongComment 69 = .ok (.aload_n 0, 1) := dq_of dqX5_passLongComment_0 33 rfl
theorem dX5_passLongComment_70 : decode cX5_passLongComment 70 = .ok (.invokevirtual 76, 3) := dq_of dqX5_passLongComment_0 34 rfl
theorem dX5_passLongComment_73 : decode cX5_passLongComment 73 = .ok (.ifCond .eq 14, 3) := dq_of dqX5_passLongComment_0 35 rfl
theorem dX5_passLongComment_76 : decode cX5_passLongComment 76 = .ok (.aload_n 0, 1) := dq_of dqX5_passLongComment_0 36 rfl
theorem dX5_passLongComment_77 : decode cX5_passLongComment 77 = .ok (.getfield 28, 3) := dq_of dqX5_passLongComment_0 37 rfl
theorem dX5_passLongComment_80 : decode cX5_passLongComment 80 = .ok (.invokevirtual 152, 3) := dq_of dqX5_passLongComment_0 38 rfl
theorem dX5_passLongComment_83 : decode cX5_passLongComment 83 = .ok (.iconst (-1), 1) := dq_of dqX5_passLongComment_0 39 rfl
theorem dqX5_passLongComment_84 : ([(84, .if_icmp .ne 4, 3), (87, .return_, 1), (88, .iinc 1 1, 3), (91, .goto (-75), 3), (94, .return_, 1)] : List (Nat × Instr × Nat)).all (fun q => decide (decode cX5_passLongComment q.1 = .ok (q.2.1, q.2.2))) = true := by decide +kernel
theorem dX5_passLongComment_84 : decode cX5_passLongComment 84 = .ok (.if_icmp .ne 4, 3) := dq_of dqX5_passLongComment_84 0 rfl
theorem dX5_passLongComment_87 : decode cX5_passLongComment 87 = .ok (.return_, 1) := dq_of dqX5_passLongComment_84 1 rfl
theorem dX5_passLongComment_88 : decode cX5_passLongComment 88 = .ok (.iinc 1 1, 3) := dq_of dqX5_passLongComment_84 2 rfl
theorem dX5_passLongComment_91 : decode cX5_passLongComment 91 = .ok (.goto (-75), 3) := dq_of dqX5_passLongComment_84 3 rfl
theorem dX5_passLongComment_94 : decode cX5_passLongComment 94 = .ok (.return_, 1) := dq_of dqX5_passLongComment_84 4 rfl
theorem dqX5_readName_0 : ([(0, .iconst 0, 1), (1, .istore_n 1, 1), (2, .iconst 0, 1), (3, .istore_n 2, 1), (4, .iload_n 2, 1), (5, .ldc 151, 2), (7, .if_icmp .ge 55, 3), (10, .aload_n 0, 1), (11, .getfield 28, 3), (14, .invokevirtual 69, 3), (17, .invokestatic 155, 3), (20, .ifCond .eq 42, 3), (23, .aload_n 0, 1), (24, .getfield 28, 3), (27, .invokevirtual 69, 3), (30, .istore_n 3, 1), (31, .iload_n 1, 1), (32, .bipush 31, 2), (34, .imul, 1), (35, .iload_n 3, 1), (36, .iadd, 1), (37, .istore_n 1, 1), (38, .aload_n 0, 1), (39, .getfield 32, 3), (42, .getfield 38, 3), (45, .iload_n 3, 1), (46, .invokevirtual 158, 3), (49, .aload_n 0, 1), (50, .getfield 28, 3), (53, .invokevirtual 86, 3), (56, .iinc 2 1, 3), (59, .goto (-55), 3), (62, .aload_n 0, 1), (63, .invokevirtual 161, 3), (66, .istore_n 2, 1), (67, .iload_n 2, 1), (68, .iconst (-1), 1), (69, .if_icmp .eq 9, 3), (72, .aload_n 0, 1), (73, .iload_n 2, 1)] : List (Nat × Instr × Nat)).all (fun q => decide (decode cX5_readName q.1 = .ok (q.2.1, q.2.2))) = true := by decide +kernel
theorem dX5_readName_0 : decode cX5_readName 0 = .ok (.iconst 0, 1) := dq_of dqX5_readName_0 0 rfl
theorem dX5_readName_1 : decode cX5_readName 1 = .ok (.istore_n 1, 1) := dq_of dqX5_readName_0 1 rfl
theorem dX5_readName_2 : decode cX5_readName 2 = .ok (.iconst 0, 1) := dq_of dqX5_readName_0 2 rfl
theorem dX5_readName_3 : decode cX5_readName 3 = .ok (.istore_n 2, 1) := dq_of dqX5_readName_0 3 rfl
theorem dX5_readName_4 : decode cX5_readName 4 = .ok (.iload_n 2, 1) := dq_of dqX5_readName_0 4 rfl
theorem dX5_readName_5 : decode cX5_readName 5 = .ok (.ldc 151, 2) := dq_of dqX5_readName_0 5 rfl
theorem dX5_readName_7 : decode cX5_readName 7 = .ok (.if_icmp .ge 55, 3) := dq_of dqX5_readName_0 6 rfl
theorem dX5_readName_10 : decode cX5_readName 10 = .ok (.aload_n 0, 1) := dq_of dqX5_readName_0 7 rfl
theorem dX5_readName_11 : decode cX5_readName 11 = .ok (.getfield 28, 3) := dq_of dqX5_readName_0 8 rfl
theorem dX5_readName_14 : decode cX5_readName 14 = .ok (.invokevirtual 69, 3) := dq_of dqX5_readName_0 9 rfl
theorem dX5_readName_17 : decode cX5_readName 17 = .ok (.invokestatic 155, 3) := dq_of dqX5_readName_0 10 rfl
theorem dX5_readName_20 : decode cX5_readName 20 = .ok (.ifCond .eq 42, 3) := dq_of dqX5_readName_0 11 rfl
theorem dX5_readName_23 : decode cX5_readName 23 = .ok (.aload_n 0, 1) := dq_of dqX5_readName_0 12 rfl
theorem dX5_readName_24 : decode cX5_readName 24 = .ok (.getfield 28, 3) := dq_of dqX5_readName_0 13 rfl
theorem dX5_readName_27 : decode cX5_readName 27 = .ok (.invokevirtual 69, 3) := dq_of dqX5_readName_0 14 rfl
theorem dX5_readName_30 : decode cX5_readName 30 = .ok (.istore_n 3, 1) := dq_of dqX5_readName_0 15 rfl
theorem dX5_readName_31 : decode cX5_readName 31 = .ok (.iload_n 1, 1) := dq_of dqX5_readName_0 16 rfl
theorem dX5_readName_32 : decode cX5_readName 32 = .ok (.bipush 31, 2) := dq_of dqX5_readName_0 17 rfl
theorem dX5_readName_34 : decode cX5_readName 34 = .ok (.imul, 1) := dq_of dqX5_readName_0 18 rfl
theorem dX5_readName_35 : decode cX5_readName 35 = .ok (.iload_n 3, 1) := dq_of dqX5_readName_0 19 rfl
theorem dX5_readName_36 : decode cX5_readName 36 = .ok (.iadd, 1) := dq_of dqX5_readName_0 20 rfl
theorem dX5_readName_37 : decode cX5_readName 37 = .ok (.istore_n 1, 1) := dq_of dqX5_readName_0 21 rfl
theorem dX5_readName_38 : decode cX5_readName 38 = .ok (.aload_n 0, 1) := dq_of dqX5_readName_0 22 rfl
theorem dX5_readName_39 : decode cX5_readName 39 = .ok (.getfield 32, 3) := dq_of dqX5_readName_0 23 rfl
theorem dX5_readName_42 : decode cX5_readName 42 = .ok (.getfield 38, 3) := dq_of dqX5_readName_0 24 rfl
theorem dX5_readName_45 : decode cX5_readName 45 = .ok (.iload_n 3, 1) := dq_of dqX5_readName_0 25 rfl
theorem dX5_readName_46 : decode cX5_readName 46 = .ok (.invokevirtual 158, 3) := dq_of dqX5_readName_0 26 rfl
theorem dX5_readName_49 : decode cX5_readName 49 = .ok (.aload_n 0, 1) := dq_of dqX5_readName_0 27 rfl
theorem dX5_readName_50 : decode cX5_readName 50 = .ok (.getfield 28, 3) := dq_of dqX5_readName_0 28 rfl
theorem dX5_readName_53 : decode cX5_readName 53 = .ok (.invokevirtual 86, 3) := dq_of dqX5_readName_0 29 rfl
theorem dX5_readName_56 : decode cX5_readName 56 = .ok (.iinc 2 1, 3) := dq_of dqX5_readName_0 30 rfl
theorem dX5_readName_59 : decode cX5_readName 59 = .ok (.goto (-55), 3) := dq_of dqX5_readName_0 31 rfl
theorem dX5_readName_62 : decode cX5_readName 62 = .ok (.aload_n 0, 1) := dq_of dqX5_readName_0 32 rfl
theorem dX5_readName_63 : decode cX5_readName 63 = .ok (.invokevirtual 161, 3) := dq_of dqX5_readName_0 33 rfl
theorem dX5_readName_66 : decode cX5_readName 66 = .ok (.istore_n 2, 1) := dq_of dqX5_readName_0 34 rfl
theorem dX5_readName_67 : decode cX5_readName 67 = .ok (.iload_n 2, 1) := dq_of dqX5_readName_0 35 rfl
theorem dX5_readName_68 : decode cX5_readName 68 = .ok (.iconst (-1), 1) := dq_of dqX5_readName_0 36 rfl
theorem dX5_readName_69 : decode cX5_readName 69 = .ok (.if_icmp .eq 9, 3) := dq_of dqX5_readName_0 37 rfl
theorem dX5_readName_72 : decode cX5_readName 72 = .ok (.aload_n 0, 1) := dq_of dqX5_readName_0 38 rfl
theorem dX5_readName_73 : decode cX5_readName 73 = .ok (.iload_n 2, 1) := dq_of dqX5_readName_0 39 rfl
theorem dqX5_readName_74 : ([(74, .invokevirtual 164, 3), (77, .return_, 1), (78, .aload_n 0, 1), (79, .iconst 1, 1), (80, .invokevirtual 164, 3), (83, .aload_n 0, 1), (84, .getfield 32, 3), (87, .bipush 6, 2), (89, .aload_n 0, 1), (90, .getfield 32, 3), (93, .getfield 167, 3), (96, .aload_n 0, 1), (97, .getfield 32, 3), (100, .aload_n 0, 1), (101, .getfield 32, 3), (104, .getfield 83, 3), (107, .iconst 1, 1), (108, .isub, 1), (109, .iload_n 1, 1), (110, .invokevirtual 171, 3), (113, .invokevirtual 177, 3), (116, .return_, 1)] : List (Nat × Instr × Nat)).all (fun q => decide (decode cX5_readName q.1 = .ok (q.2.1, q.2.2))) = true := by decide +kernel
theorem dX5_readName_74 : decode cX5_readName 74 = .ok (.invokevirtual 164, 3) := dq_of dqX5_readName_74 0 rfl
theorem dX5_readName_77 : decode cX5_readName 77 = .ok (.return_, 1) := dq_of dqX5_readName_74 1 rfl
theorem dX5_readName_78 : decode cX5_readName 78 = .ok (.aload_n 0, 1) := dq_of dqX5_readName_74 2 rfl
theorem dX5_readName_79 : decode cX5_readName 79 = .ok (.iconst 1, 1) := dq_of dqX5_readName_74 3 rfl
theorem dX5_readName_80 : decode cX5_readName 80 = .ok (.invokevirtual 164, 3) := dq_of dqX5_readName_74 4 rfl
theorem dX5_readName_83 : decode cX5_readName 83 = .ok (.aload_n 0, 1) := dq_of dqX5_readName_74 5 rfl
theorem dX5_readName_84 : decode cX5_readName 84 = .ok (.getfield 32, 3) := dq_of dqX5_readName_74 6 rfl
theorem dX5_readName_87 : decode cX5_readName 87 = .ok (.bipush 6, 2) := dq_of dqX5_readName_74 7 rfl
theorem dX5_readName_89 : decode cX5_readName 89 = .ok (.aload_n 0, 1) := dq_of dqX5_readName_74 8 rfl
theorem dX5_readName_90 : decode cX5_readName 90 = .ok (.getfield 32, 3) := dq_of dqX5_readName_74 9 rfl
theorem dX5_readName_93 : decode cX5_readName 93 = .ok (.getfield 167, 3) := dq_of dqX5_readName_74 10 rfl
theorem dX5_readName_96 : decode cX5_readName 96 = .ok (.aload_n 0, 1) := dq_of dqX5_readName_74 11 rfl
theorem dX5_readName_97 : decode cX5_readName 97 = .ok (.getfield 32, 3) := dq_of dqX5_readName_74 12 rfl
theorem dX5_readName_100 : decode cX5_readName 100 = .ok (.aload_n 0, 1) := dq_of dqX5_readName_74 13 rfl
theorem dX5_readName_101 : decode cX5_readName 101 = .ok (.getfield 32, 3) := dq_of dqX5_readName_74 14 rfl
theorem dX5_readName_104 : decode cX5_readName 104 = .ok (.getfield 83, 3) := dq_of dqX5_readName_74 15 rfl
theorem dX5_readName_107 : decode cX5_readName 107 = .ok (.iconst 1, 1) := dq_of dqX5_readName_74 16 rfl
theorem dX5_readName_108 : decode cX5_readName 108 = .ok (.isub, 1) := dq_of dqX5_readName_74 17 rfl
theorem dX5_readName_109 : decode cX5_readName 109 = .ok (.iload_n 1, 1) := dq_of dqX5_readName_74 18 rfl
theorem dX5_readName_110 : decode cX5_readName 110 = .ok (.invokevirtual 171, 3) := dq_of dqX5_readName_74 19 rfl
theorem dX5_readName_113 : decode cX5_readName 113 = .ok (.invokevirtual 177, 3) := dq_of dqX5_readName_74 20 rfl
theorem dX5_readName_116 : decode cX5_readName 116 = .ok (.return_, 1) := dq_of dqX5_readName_74 21 rfl
theorem dqX5_putNumber_0 : ([(0, .iload_n 1, 1), (1, .iconst (-1), 1), (2, .if_icmp .eq 26, 3), (5, .aload_n 0, 1), (6, .iload_n 1, 1), (7, .ifCond .ne 7, 3), (10, .iconst 3, 1), (11, .goto 4, 3), (14, .iconst 2, 1), (15, .invokevirtual 164, 3), (18, .aload_n 0, 1), (19, .getfield 32, 3), (22, .bipush 7, 2), (24, .iload_n 1, 1), (25, .invokevirtual 177, 3), (28, .return_, 1)] : List (Nat × Instr × Nat)).all (fun q => decide (decode cX5_putNumber q.1 = .ok (q.2.1, q.2.2))) = true := by decide +kernel
theorem dX5_putNumber_0 : decode cX5_putNumber 0 = .ok (.iload_n 1, 1) := dq_of dqX5_putNumber_0 0 rfl
theorem dX5_putNumber_1 : decode cX5_putNumber 1 = .ok (.iconst (-1), 1) := dq_of dqX5_putNumber_0 1 rfl
theorem dX5_putNumber_2 : decode cX5_putNumber 2 = .ok (.if_icmp .eq 26, 3) := dq_of dqX5_putNumber_0 2 rfl
theorem dX5_putNumber_5 : decode cX5_putNumber 5 = .ok (.aload_n 0, 1) := dq_of dqX5_putNumber_0 3 rfl
theorem dX5_putNumber_6 : decode cX5_putNumber 6 = .ok (.iload_n 1, 1) := dq_of dqX5_putNumber_0 4 rfl
theorem dX5_putNumber_7 : decode cX5_putNumber 7 = .ok (.ifCond .ne 7, 3) := dq_of dqX5_putNumber_0 5 rfl
theorem dX5_putNumber_10 : decode cX5_putNumber 10 = .ok (.iconst 3, 1) := dq_of dqX5_putNumber_0 6 rfl
theorem dX5_putNumber_11 : decode cX5_putNumber 11 = .ok (.goto 4, 3) := dq_of dqX5_putNumber_0 7 rfl
theorem dX5_putNumber_14 : decode cX5_putNumber 14 = .ok (.iconst 2, 1) := dq_of dqX5_putNumber_0 8 rfl
theorem dX5_putNumber_15 : decode cX5_putNumber 15 = .ok (.invokevirtual 164, 3) := dq_of dqX5_putNumber_0 9 rfl
theorem dX5_putNumber_18 : decode cX5_putNumber 18 = .ok (.aload_n 0, 1) := dq_of dqX5_putNumber_0 10 rfl
theorem dX5_putNumber_19 : decode cX5_putNumber 19 = .ok (.getfield 32, 3) := dq_of dqX5_putNumber_0 11 rfl
theorem dX5_putNumber_22 : decode cX5_putNumber 22 = .ok (.bipush 7, 2) := dq_of dqX5_putNumber_0 12 rfl
theorem dX5_putNumber_24 : decode cX5_putNumber 24 = .ok (.iload_n 1, 1) := dq_of dqX5_putNumber_0 13 rfl
theorem dX5_putNumber_25 : decode cX5_putNumber 25 = .ok (.invokevirtual 177, 3) := dq_of dqX5_putNumber_0 14 rfl
theorem dX5_putNumber_28 : decode cX5_putNumber 28 = .ok (.return_, 1) := dq_of dqX5_putNumber_0 15 rfl
theorem dqX5_putRune_0 : ([(0, .iload_n 1, 1), (1, .iconst (-1), 1), (2, .if_icmp .eq 18, 3), (5, .aload_n 0, 1), (6, .iconst 4, 1), (7, .invokevirtual 164, 3), (10, .aload_n 0, 1), (11, .getfield 32, 3), (14, .bipush 10, 2), (16, .iload_n 1, 1), (17, .invokevirtual 177, 3), (20, .return_, 1)] : List (Nat × Instr × Nat)).all (fun q => decide (decode cX5_putRune q.1 = .ok (q.2.1, q.2.2))) = true := by decide +kernel
theorem dX5_putRune_0 : decode cX5_putRune 0 = .ok (.iload_n 1, 1) := dq_of dqX5_putRune_0 0 rfl
theorem dX5_putRune_1 : decode cX5_putRune 1 = .ok (.iconst (-1), 1) := dq_of dqX5_putRune_0 1 rfl
theorem dX5_putRune_2 : decode cX5_putRune 2 = .ok (.if_icmp .eq 18, 3) := dq_of dqX5_putRune_0 2 rfl
theorem dX5_putRune_5 : decode cX5_putRune 5 = .ok (.aload_n 0, 1) := dq_of dqX5_putRune_0 3 rfl
theorem dX5_putRune_6 : decode cX5_putRune 6 = .ok (.iconst 4, 1) := dq_of dqX5_putRune_0 4 rfl
theorem dX5_putRune_7 : decode cX5_putRune 7 = .ok (.invokevirtual 164, 3) := dq_of dqX5_putRune_0 5 rfl
theorem dX5_putRune_10 : decode cX5_putRune 10 = .ok (.aload_n 0, 1) := dq_of dqX5_putRune_0 6 rfl
theorem dX5_putRune_11 : decode cX5_putRune 11 = .ok (.getfield 32, 3) := dq_of dqX5_putRune_0 7 rfl
theorem dX5_putRune_14 : decode cX5_putRune 14 = .ok (.bipush 10, 2) := dq_of dqX5_putRune_0 8 rfl
theorem dX5_putRune_16 : decode cX5_putRune 16 = .ok (.iload_n 1, 1) := dq_of dqX5_putRune_0 9 rfl
theorem dX5_putRune_17 : decode cX5_putRune 17 = .ok (.invokevirtual 177, 3) := dq_of dqX5_putRune_0 10 rfl
theorem dX5_putRune_20 : decode cX5_putRune 20 = .ok (.return_, 1) := dq_of dqX5_putRune_0 11 rfl
theorem dqX5_putString_0 : ([(0, .iload_n 1, 1), (1, .ifCond .eq 8, 3), (4, .aload_n 0, 1), (5, .iconst 5, 1), (6, .invokevirtual 164, 3), (9, .return_, 1)] : List (Nat × Instr × Nat)).all (fun q => decide (decode cX5_putString q.1 = .ok (q.2.1, q.2.2))) = true := by decide +kernel
theorem dX5_putString_0 : decode cX5_putString 0 = .ok (.iload_n 1, 1) := dq_of dqX5_putString_0 0 rfl
theorem dX5_putString_1 : decode cX5_putString 1 = .ok (.ifCond .eq 8, 3) := dq_of dqX5_putString_0 1 rfl
theorem dX5_putString_4 : decode cX5_putString 4 = .ok (.aload_n 0, 1) := dq_of dqX5_putString_0 2 rfl
theorem dX5_putString_5 : decode cX5_putString 5 = .ok (.iconst 5, 1) := dq_of dqX5_putString_0 3 rfl
theorem dX5_putString_6 : decode cX5_putString 6 = .ok (.invokevirtual 164, 3) := dq_of dqX5_putString_0 4 rfl
theorem dX5_putString_9 : decode cX5_putString 9 = .ok (.return_, 1) := dq_of dqX5_putString_0 5 rfl
theorem dqX5_readSign_0 : ([(0, .iload_n 1, 1), (1, .invokestatic 181, 3), (4, .istore_n 2, 1), (5, .iload_n 2, 1), (6, .iconst (-1), 1), (7, .if_icmp .ne 12, 3), (10, .aload_n 0, 1), (11, .getfield 28, 3), (14, .invokevirtual 101, 3), (17, .pop, 1), (18, .return_, 1), (19, .aload_n 0, 1), (20, .getfield 28, 3), (23, .invokevirtual 86, 3), (26, .iload_n 1, 1), (27, .bipush 8, 2), (29, .ishl, 1), (30, .aload_n 0, 1), (31, .getfield 28, 3), (34, .invokevirtual 69, 3), (37, .sipush 255, 3), (40, .iand, 1), (41, .ior, 1), (42, .istore_n 3, 1), (43, .iload_n 3, 1), (44, .bipush 8, 2), (46, .ishl, 1), (47, .aload_n 0, 1), (48, .getfield 28, 3), (51, .invokevirtual 89, 3), (54, .sipush 255, 3), (57, .iand, 1), (58, .ior, 1), (59, .istore 4, 2), (61, .iload 4, 2), (63, .invokestatic 187, 3), (66, .iconst (-1), 1), (67, .if_icmp .eq 26, 3), (70, .iload 4, 2), (72, .invokestatic 187, 3)] : List (Nat × Instr × Nat)).all (fun q => decide (decode cX5_readSign q.1 = .ok (q.2.1, q.2.2))) = true := by decide +kernel
theorem dX5_readSign_0 : decode cX5_readSign 0 = .ok (.iload_n 1, 1) := dq_of dqX5_readSign_0 0 rfl
theorem dX5_readSign_1 : decode cX5_readSign 1 = .ok (.invokestatic 181, 3) := dq_of dqX5_readSign_0 1 rfl
theorem dX5_readSign_4 : decode cX5_readSign 4 = .ok (.istore_n 2, 1) := dq_of dqX5_readSign_0 2 rfl
theorem dX5_readSign_5 : decode cX5_readSign 5 = .ok (.iload_n 2, 1) := dq_of dqX5_readSign_0 3 rfl
theorem dX5_readSign_6 : decode cX5_readSign 6 = .ok (.iconst (-1), 1) := dq_of dqX5_readSign_0 4 rfl
theorem dX5_readSign_7 : decode cX5_readSign 7 = .ok (.if_icmp .ne 12, 3) := dq_of dqX5_readSign_0 5 rfl
theorem dX5_readSign_10 : decode cX5_readSign 10 = .ok (.aload_n 0, 1) := dq_of dqX5_readSign_0 6 rfl
theorem dX5_readSign_11 : decode cX5_readSign 11 = .ok (.getfield 28, 3) := dq_of dqX5_readSign_0 7 rfl
theorem dX5_readSign_14 : decode cX5_readSign 14 = .ok (.invokevirtual 101, 3) := dq_of dqX5_readSign_0 8 rfl
theorem dX5_readSign_17 : decode cX5_readSign 17 = .ok (.pop, 1) := dq_of dqX5_readSign_0 9 rfl
theorem dX5_readSign_18 : decode cX5_readSign 18 = .ok (.return_, 1) := dq_of dqX5_readSign_0 10 rfl
theorem dX5_readSign_19 : decode cX5_readSign 19 = .ok (.aload_n 0, 1) := dq_of dqX5_readSign_0 11 rfl
theorem dX5_readSign_20 : decode cX5_readSign 20 = .ok (.getfield 28, 3) := dq_of dqX5_readSign_0 12 rfl
theorem dX5_readSign_23 : decode cX5_readSign 23 = .ok (.invokevirtual 86, 3) := dq_of dqX5_readSign_0 13 rfl
theorem dX5_readSign_26 : decode cX5_readSign 26 = .ok (.iload_n 1, 1) := dq_of dqX5_readSign_0 14 rfl
theorem dX5_readSign_27 : decode cX5_readSign 27 = .ok (.bipush 8, 2) := dq_of dqX5_readSign_0 15 rfl
theorem dX5_readSign_29 : decode cX5_readSign 29 = .ok (.ishl, 1) := dq_of dqX5_readSign_0 16 rfl
theorem dX5_readSign_30 : decode cX5_readSign 30 = .ok (.aload_n 0, 1) := dq_of dqX5_readSign_0 17 rfl
theorem dX5_readSign_31 : decode cX5_readSign 31 = .ok (.getfield 28, 3) := dq_of dqX5_readSign_0 18 rfl
theorem dX5_readSign_34 : decode cX5_readSign 34 = .ok (.invokevirtual 69, 3) := dq_of dqX5_readSign_0 19 rfl
theorem dX5_readSign_37 : decode cX5_readSign 37 = .ok (.sipush 255, 3) := dq_of dqX5_readSign_0 20 rfl
theorem dX5_readSign_40 : decode cX5_readSign 40 = .ok (.iand, 1) := dq_of dqX5_readSign_0 21 rfl
theorem dX5_readSign_41 : decode cX5_readSign 41 = .ok (.ior, 1) := dq_of dqX5_readSign_0 22 rfl
theorem dX5_readSign_42 : decode cX5_readSign 42 = .ok (.istore_n 3, 1) := dq_of dqX5_readSign_0 23 rfl
theorem dX5_readSign_43 : decode cX5_readSign 43 = .ok (.iload_n 3, 1) := dq_of dqX5_readSign_0 24 rfl
theorem dX5_readSign_44 : decode cX5_readSign 44 = .ok (.bipush 8, 2) := dq_of dqX5_readSign_0 25 rfl
theorem dX5_readSign_46 : decode cX5_readSign 46 = .ok (.ishl, 1) := dq_of dqX5_readSign_0 26 rfl
theorem dX5_readSign_47 : decode cX5_readSign 47 = .ok (.aload_n 0, 1) := dq_of dqX5_readSign_0 27 rfl
theorem dX5_readSign_48 : decode cX5_readSign 48 = .ok (.getfield 28, 3) := dq_of dqX5_readSign_0 28 rfl
theorem dX5_readSign_51 : decode cX5_readSign 51 = .ok (.invokevirtual 89, 3) := dq_of dqX5_readSign_0 29 rfl
theorem dX5_readSign_54 : decode cX5_readSign 54 = .ok (.sipush 255, 3) := dq_of dqX5_readSign_0 30 rfl
theorem dX5_readSign_57 : decode cX5_readSign 57 = .ok (.iand, 1) := dq_of dqX5_readSign_0 31 rfl
theorem dX5_readSign_58 : decode cX5_readSign 58 = .ok (.ior, 1) := dq_of dqX5_readSign_0 32 rfl
theorem dX5_readSign_59 : decode cX5_readSign 59 = .ok (.istore 4, 2) := dq_of dqX5_readSign_0 33 rfl
theorem dX5_readSign_61 : decode cX5_readSign 61 = .ok (.iload 4, 2) := dq_of dqX5_readSign_0 34 rfl
theorem dX5_readSign_63 : decode cX5_readSign 63 = .ok (.invokestatic 187, 3) := dq_of dqX5_readSign_0 35 rfl
theorem dX5_readSign_66 : decode cX5_readSign 66 = .ok (.iconst (-1), 1) := dq_of dqX5_readSign_0 36 rfl
theorem dX5_readSign_67 : decode cX5_readSign 67 = .ok (.if_icmp .eq 26, 3) := dq_of dqX5_readSign_0 37 rfl
theorem dX5_readSign_70 : decode cX5_readSign 70 = .ok (.iload 4, 2) := dq_of dqX5_readSign_0 38 rfl
theorem dX5_readSign_72 : decode cX5_readSign 72 = .ok (.invokestatic 187, 3) := dq_of dqX5_readSign_0 39 rfl
theorem dqX5_readSign_75 : ([(75, .istore_n 2, 1), (76, .aload_n 0, 1), (77, .getfield 28, 3), (80, .invokevirtual 86, 3), (83, .aload_n 0, 1), (84, .getfield 28, 3), (87, .invokevirtual 86, 3), (90, .goto 23, 3), (93, .iload_n 3, 1), (94, .invokestatic 190, 3), (97, .iconst (-1), 1), (98, .if_icmp .eq 15, 3), (101, .iload_n 3, 1), (102, .invokestatic 190, 3), (105, .istore_n 2, 1), (106, .aload_n 0, 1), (107, .getfield 28, 3), (110, .invokevirtual 86, 3), (113, .aload_n 0, 1), (114, .iload_n 2, 1), (115, .invokevirtual 164, 3), (118, .return_, 1)] : List (Nat × Instr × Nat)).all (fun q => decide (decode cX5_readSign q.1 = .ok (q.2.1, q.2.2))) = true := by decide +kernel
theorem dX5_readSign_75 : decode cX5_readSign 75 = .ok (.istore_n 2, 1) := dq_of dqX5_readSign_75 0 rfl
theorem dX5_readSign_76 : decode cX5_readSign 76 = .ok (.aload_n 0, 1) := dq_of dqX5_readSign_75 1 rfl
theorem dX5_readSign_77 : decode cX5_readSign 77 = .ok (.getfield 28, 3) := dq_of dqX5_readSign_75 2 rfl
theorem dX5_readSign_80 : decode cX5_readSign 80 = .ok (.invokevirtual 86, 3) := dq_of dqX5_readSign_75 3 rfl
theorem dX5_readSign_83 : decode cX5_readSign 83 = .ok (.aload_n 0, 1) := dq_of dqX5_readSign_75 4 rfl
theorem dX5_readSign_84 : decode cX5_readSign 84 = .ok (.getfield 28, 3) := dq_of dqX5_readSign_75 5 rfl
theorem dX5_readSign_87 : decode cX5_readSign 87 = .ok (.invokevirtual 86, 3) := dq_of dqX5_readSign_75 6 rfl
theorem dX5_readSign_90 : decode cX5_readSign 90 = .ok (.goto 23, 3) := dq_of dqX5_readSign_75 7 rfl
theorem dX5_readSign_93 : decode cX5_readSign 93 = .ok (.iload_n 3, 1) := dq_of dqX5_readSign_75 8 rfl
theorem dX5_readSign_94 : decode cX5_readSign 94 = .ok (.invokestatic 190, 3) := dq_of dqX5_readSign_75 9 rfl
theorem dX5_readSign_97 : decode cX5_readSign 97 = .ok (.iconst (-1), 1) := dq_of dqX5_readSign_75 10 rfl
theorem dX5_readSign_98 : decode cX5_readSign 98 = .ok (.if_icmp .eq 15, 3) := dq_of dqX5_readSign_75 11 rfl
theorem dX5_readSign_101 : decode cX5_readSign 101 = .ok (.iload_n 3, 1) := dq_of dqX5_readSign_75 12 rfl
theorem dX5_readSign_102 : decode cX5_readSign 102 = .ok (.invokestatic 190, 3) := dq_of dqX5_readSign_75 13 rfl
theorem dX5_readSign_105 : decode cX5_readSign 105 = .ok (.istore_n 2, 1) := dq_of dqX5_readSign_75 14 rfl
theorem dX5_readSign_106 : decode cX5_readSign 106 = .ok (.aload_n 0, 1) := dq_of dqX5_readSign_75 15 rfl
theorem dX5_readSign_107 : decode cX5_readSign 107 = .ok (.getfield 28, 3) := dq_of dqX5_readSign_75 16 rfl
theorem dX5_readSign_110 : decode cX5_readSign 110 = .ok (.invokevirtual 86, 3) := dq_of dqX5_readSign_75 17 rfl
theorem dX5_readSign_113 : decode cX5_readSign 113 = .ok (.aload_n 0, 1) := dq_of dqX5_readSign_75 18 rfl
theorem dX5_readSign_114 : decode cX5_readSign 114 = .ok (.iload_n 2, 1) := dq_of dqX5_readSign_75 19 rfl
theorem dX5_readSign_115 : decode cX5_readSign 115 = .ok (.invokevirtual 164, 3) := dq_of dqX5_readSign_75 20 rfl
theorem dX5_readSign_118 : decode cX5_readSign 118 = .ok (.return_, 1) := dq_of dqX5_readSign_75 21 rfl
theorem dqX5_endLine_0 : ([(0, .aload_n 0, 1), (1, .getfield 24, 3), (4, .ifCond .ne 5, 3), (7, .iconst 1, 1), (8, .ireturn, 1), (9, .aload_n 0, 1), (10, .getfield 32, 3), (13, .invokevirtual 98, 3), (16, .ifCond .eq 16, 3), (19, .aload_n 0, 1), (20, .getfield 28, 3), (23, .aload_n 0, 1), (24, .getfield 9, 3), (27, .invokevirtual 193, 3), (30, .iconst 0, 1), (31, .ireturn, 1), (32, .aload_n 0, 1), (33, .bipush 85, 2), (35, .iconst 0, 1), (36, .invokevirtual 196, 3), (39, .aload_n 0, 1), (40, .getfield 32, 3), (43, .iconst 5, 1), (44, .iconst 1, 1), (45, .invokevirtual 177, 3), (48, .iconst 1, 1), (49, .ireturn, 1)] : List (Nat × Instr × Nat)).all (fun q => decide (decode cX5_endLine q.1 = .ok (q.2.1, q.2.2))) = true := by decide +kernel
theorem dX5_endLine_0 : decode cX5_endLine 0 = .ok (.aload_n 0, 1) := dq_of dqX5_endLine_0 0 rfl
theorem dX5_endLine_1 : decode cX5_endLine 1 = .ok (.getfield 24, 3) := dq_of dqX5_endLine_0 1 rfl
theorem dX5_endLine_4 : decode cX5_endLine 4 = .ok (.ifCond .ne 5, 3) := dq_of dqX5_endLine_0 2 rfl
theorem dX5_endLine_7 : decode cX5_endLine 7 = .ok (.iconst 1, 1) := dq_of dqX5_endLine_0 3 rfl
theorem dX5_endLine_8 : decode cX5_endLine 8 = .ok (.ireturn, 1) := dq_of dqX5_endLine_0 4 rfl
theorem dX5_endLine_9 : decode cX5_endLine 9 = .ok (.aload_n 0, 1) := dq_of dqX5_endLine_0 5 rfl
theorem dX5_endLine_10 : decode cX5_endLine 10 = .ok (.getfield 32, 3) := dq_of dqX5_endLine_0 6 rfl
theorem dX5_endLine_13 : decode cX5_endLine 13 = .ok (.invokevirtual 98, 3) := dq_of dqX5_endLine_0 7 rfl
theorem dX5_endLine_16 : decode cX5_endLine 16 = .ok (.ifCond .eq 16, 3) := dq_of dqX5_endLine_0 8 rfl
theorem dX5_endLine_19 : decode cX5_endLine 19 = .ok (.aload_n 0, 1) := dq_of dqX5_endLine_0 9 rfl
theorem dX5_endLine_20 : decode cX5_endLine 20 = .ok (.getfield 28, 3) := dq_of dqX5_endLine_0 10 rfl
theorem dX5_endLine_23 : decode cX5_endLine 23 = .ok (.aload_n 0, 1) := dq_of dqX5_endLine_0 11 rfl
theorem dX5_endLine_24 : decode cX5_endLine 24 = .ok (.getfield 9, 3) := dq_of dqX5_endLine_0 12 rfl
theorem dX5_endLine_27 : decode cX5_endLine 27 = .ok (.invokevirtual 193, 3) := dq_of dqX5_endLine_0 13 rfl
theorem dX5_endLine_30 : decode cX5_endLine 30 = .ok (.iconst 0, 1) := dq_of dqX5_endLine_0 14 rfl
theorem dX5_endLine_31 : decode cX5_endLine 31 = .ok (.ireturn, 1) := dq_of dqX5_endLine_0 15 rfl
theorem dX5_endLine_32 : decode cX5_endLine 32 = .ok (.aload_n 0, 1) := dq_of dqX5_endLine_0 16 rfl
theorem dX5_endLine_33 : decode cX5_endLine 33 = .ok (.bipush 85, 2) := dq_of dqX5_endLine_0 17 rfl
theorem dX5_endLine_35 : decode cX5_endLine 35 = .ok (.iconst 0, 1) := dq_of dqX5_endLine_0 18 rfl
theorem dX5_endLine_36 : decode cX5_endLine 36 = .ok (.invokevirtual 196, 3) := dq_of dqX5_endLine_0 19 rfl
theorem dX5_endLine_39 : decode cX5_endLine 39 = .ok (.aload_n 0, 1) := dq_of dqX5_endLine_0 20 rfl
theorem dX5_endLine_40 : decode cX5_endLine 40 = .ok (.getfield 32, 3) := dq_of dqX5_endLine_0 21 rfl
theorem dX5_endLine_43 : decode cX5_endLine 43 = .ok (.iconst 5, 1) := dq_of dqX5_endLine_0 22 rfl
theorem dX5_endLine_44 : decode cX5_endLine 44 = .ok (.iconst 1, 1) := dq_of dqX5_endLine_0 23 rfl
theorem dX5_endLine_45 : decode cX5_endLine 45 = .ok (.invokevirtual 177, 3) := dq_of dqX5_endLine_0 24 rfl
theorem dX5_endLine_48 : decode cX5_endLine 48 = .ok (.iconst 1, 1) := dq_of dqX5_endLine_0 25 rfl
theorem dX5_endLine_49 : decode cX5_endLine 49 = .ok (.ireturn, 1) := dq_of dqX5_endLine_0 26 rfl
theorem dqX5_put_0 : ([(0, .aload_n 0, 1), (1, .iload_n 1, 1), (2, .aload_n 0, 1), (3, .getfield 28, 3), (6, .getfield 80, 3), (9, .aload_n 0, 1), (10, .getfield 9, 3), (13, .isub, 1), (14, .invokevirtual 196, 3), (17, .return_, 1)] : List (Nat × Instr × Nat)).all (fun q => decide (decode cX5_put q.1 = .ok (q.2.1, q.2.2))) = true := by decide +kernel
theorem dX5_put_0 : decode cX5_put 0 = .ok (.aload_n 0, 1) := dq_of dqX5_put_0 0 rfl
theorem dX5_put_1 : decode cX5_put 1 = .ok (.iload_n 1, 1) := dq_of dqX5_put_0 1 rfl
theorem dX5_put_2 : decode cX5_put 2 = .ok (.aload_n 0, 1) := dq_of dqX5_put_0 2 rfl
theorem dX5_put_3 : decode cX5_put 3 = .ok (.getfield 28, 3) := dq_of dqX5_put_0 3 rfl
theorem dX5_put_6 : decode cX5_put 6 = .ok (.getfield 80, 3) := dq_of dqX5_put_0 4 rfl
theorem dX5_put_9 : decode cX5_put 9 = .ok (.aload_n 0, 1) := dq_of dqX5_put_0 5 rfl
theorem dX5_put_10 : decode cX5_put 10 = .ok (.getfield 9, 3) := dq_of dqX5_put_0 6 rfl
theorem dX5_put_13 : decode cX5_put 13 = .ok (.isub, 1) := dq_of dqX5_put_0 7 rfl
theorem dX5_put_14 : decode cX5_put 14 = .ok (.invokevirtual 196, 3) := dq_of dqX5_put_0 8 rfl
theorem dX5_put_17 : decode cX5_put 17 = .ok (.return_, 1) := dq_of dqX5_put_0 9 rfl
theorem dqX5_addFromStart_0 : ([(0, .aload_n 0, 1), (1, .getfield 32, 3), (4, .iload_n 1, 1), (5, .invokevirtual 199, 3), (8, .aload_n 0, 1), (9, .getfield 32, 3), (12, .iconst 1, 1), (13, .aload_n 0, 1), (14, .getfield 9, 3), (17, .invokevirtual 177, 3), (20, .aload_n 0, 1), (21, .getfield 32, 3), (24, .iconst 2, 1), (25, .aload_n 0, 1), (26, .getfield 15, 3), (29, .invokevirtual 177, 3), (32, .aload_n 0, 1), (33, .getfield 32, 3), (36, .iconst 3, 1), (37, .aload_n 0, 1), (38, .getfield 18, 3), (41, .invokevirtual 177, 3), (44, .aload_n 0, 1), (45, .getfield 32, 3), (48, .iconst 4, 1), (49, .iload_n 2, 1), (50, .invokevirtual 177, 3), (53, .aload_n 0, 1), (54, .getfield 32, 3), (57, .bipush 9, 2), (59, .aload_n 0, 1), (60, .getfield 21, 3), (63, .invokevirtual 177, 3), (66, .aload_n 0, 1), (67, .getfield 32, 3), (70, .bipush 8, 2), (72, .aload_n 0, 1), (73, .getfield 32, 3), (76, .getfield 38, 3), (79, .getfield 146, 3)] : List (Nat × Instr × Nat)).all (fun q => decide (decode cX5_addFromStart q.1 = .ok (q.2.1, q.2.2))) = true := by decide +kernel
theorem dX5_addFromStart_0 : decode cX5_addFromStart 0 = .ok (.aload_n 0, 1) := dq_of dqX5_addFromStart_0 0 rfl
theorem dX5_addFromStart_1 : decode cX5_addFromStart 1 = .ok (.getfield 32, 3) := dq_of dqX5_addFromStart_0 1 rfl
theorem dX5_addFromStart_4 : decode cX5_addFromStart 4 = .ok (.iload_n 1, 1) := dq_of dqX5_addFromStart_0 2 rfl
theorem dX5_addFromStart_5 : decode cX5_addFromStart 5 = .ok (.invokevirtual 199, 3) := dq_of dqX5_addFromStart_0 3 rfl
theorem dX5_addFromStart_8 : decode cX5_addFromStart 8 = .ok (.aload_n 0, 1) := dq_of dqX5_addFromStart_0 4 rfl
theorem dX5_addFromStart_9 : decode cX5_addFromStart 9 = .ok (.getfield 32, 3) := dq_of dqX5_addFromStart_0 5 rfl
theorem dX5_addFromStart_12 : decode cX5_addFromStart 12 = .ok (.iconst 1, 1) := dq_of dqX5_addFromStart_0 6 rfl
theorem dX5_addFromStart_13 : decode cX5_addFromStart 13 = .ok (.aload_n 0, 1) := dq_of dqX5_addFromStart_0 7 rfl
theorem dX5_addFromStart_14 : decode cX5_addFromStart 14 = .ok (.getfield 9, 3) := dq_of dqX5_addFromStart_0 8 rfl
theorem dX5_addFromStart_17 : decode cX5_addFromStart 17 = .ok (.invokevirtual 177, 3) := dq_of dqX5_addFromStart_0 9 rfl
theorem dX5_addFromStart_20 : decode cX5_addFromStart 20 = .ok (.aload_n 0, 1) := dq_of dqX5_addFromStart_0 10 rfl
theorem dX5_addFromStart_21 : decode cX5_addFromStart 21 = .ok (.getfield 32, 3) := dq_of dqX5_addFromStart_0 11 rfl
theorem dX5_addFromStart_24 : decode cX5_addFromStart 24 = .ok (.iconst 2, 1) := dq_of dqX5_addFromStart_0 12 rfl
theorem dX5_addFromStart_25 : decode cX5_addFromStart 25 = .ok (.aload_n 0, 1) := dq_of dqX5_addFromStart_0 13 rfl
theorem dX5_addFromStart_26 : decode cX5_addFromStart 26 = .ok (.getfield 15, 3) := dq_of dqX5_addFromStart_0 14 rfl
theorem dX5_addFromStart_29 : decode cX5_addFromStart 29 = .ok (.invokevirtual 177, 3) := dq_of dqX5_addFromStart_0 15 rfl
theorem dX5_addFromStart_32 : decode cX5_addFromStart 32 = .ok (.aload_n 0, 1) := dq_of dqX5_addFromStart_0 16 rfl
theorem dX5_addFromStart_33 : decode cX5_addFromStart 33 = .ok (.getfield 32, 3) := dq_of dqX5_addFromStart_0 17 rfl
theorem dX5_addFromStart_36 : decode cX5_addFromStart 36 = .ok (.iconst 3, 1) := dq_of dqX5_addFromStart_0 18 rfl
theorem dX5_addFromStart_37 : decode cX5_addFromStart 37 = .ok (.aload_n 0, 1) := dq_of dqX5_addFromStart_0 19 rfl
theorem dX5_addFromStart_38 : decode cX5_addFromStart 38 = .ok (.getfield 18, 3) := dq_of dqX5_addFromStart_0 20 rfl
theorem dX5_addFromStart_41 : decode cX5_addFromStart 41 = .ok (.invokevirtual 177, 3) := dq_of dqX5_addFromStart_0 21 rfl
theorem dX5_addFromStart_44 : decode cX5_addFromStart 44 = .ok (.aload_n 0, 1) := dq_of dqX5_addFromStart_0 22 rfl
theorem dX5_addFromStart_45 : decode cX5_addFromStart 45 = .ok (.getfield 32, 3) := dq_of dqX5_addFromStart_0 23 rfl
theorem dX5_addFromStart_48 : decode cX5_addFromStart 48 = .ok (.iconst 4, 1) := dq_of dqX5_addFromStart_0 24 rfl
theorem dX5_addFromStart_49 : decode cX5_addFromStart 49 = .ok (.iload_n 2, 1) := dq_of dqX5_addFromStart_0 25 rfl
theorem dX5_addFromStart_50 : decode cX5_addFromStart 50 = .ok (.invokevirtual 177, 3) := dq_of dqX5_addFromStart_0 26 rfl
theorem dX5_addFromStart_53 : decode cX5_addFromStart 53 = .ok (.aload_n 0, 1) := dq_of dqX5_addFromStart_0 27 rfl
theorem dX5_addFromStart_54 : decode cX5_addFromStart 54 = .ok (.getfield 32, 3) := dq_of dqX5_addFromStart_0 28 rfl
theorem dX5_addFromStart_57 : decode cX5_addFromStart 57 = .ok (.bipush 9, 2) := dq_of dqX5_addFromStart_0 29 rfl
theorem dX5_addFromStart_59 : decode cX5_addFromStart 59 = .ok (.aload_n 0, 1) := dq_of dqX5_addFromStart_0 30 rfl
theorem dX5_addFromStart_60 : decode cX5_addFromStart 60 = .ok (.getfield 21, 3) := dq_of dqX5_addFromStart_0 31 rfl
theorem dX5_addFromStart_63 : decode cX5_addFromStart 63 = .ok (.invokevirtual 177, 3) := dq_of dqX5_addFromStart_0 32 rfl
theorem dX5_addFromStart_66 : decode cX5_addFromStart 66 = .ok (.aload_n 0, 1) := dq_of dqX5_addFromStart_0 33 rfl
theorem dX5_addFromStart_67 : decode cX5_addFromStart 67 = .ok (.getfield 32, 3) := dq_of dqX5_addFromStart_0 34 rfl
theorem dX5_addFromStart_70 : decode cX5_addFromStart 70 = .ok (.bipush 8, 2) := dq_of dqX5_addFromStart_0 35 rfl
theorem dX5_addFromStart_72 : decode cX5_addFromStart 72 = .ok (.aload_n 0, 1) := dq_of dqX5_addFromStart_0 36 rfl
theorem dX5_addFromStart_73 : decode cX5_addFromStart 73 = .ok (.getfield 32, 3) := dq_of dqX5_addFromStart_0 37 rfl
theorem dX5_addFromStart_76 : decode cX5_addFromStart 76 = .ok (.getfield 38, 3) := dq_of dqX5_addFromStart_0 38 rfl
theorem dX5_addFromStart_79 : decode cX5_addFromStart 79 = .ok (.getfield 146, 3) := dq_of dqX5_addFromStart_0 39 rfl
theorem dqX5_addFromStart_82 : ([(82, .aload_n 0, 1), (83, .getfield 21, 3), (86, .isub, 1), (87, .invokevirtual 177, 3), (90, .aload_n 0, 1), (91, .iload_n 1, 1), (92, .invokestatic 202, 3), (95, .putfield 24, 3), (98, .return_, 1)] : List (Nat × Instr × Nat)).all (fun q => decide (decode cX5_addFromStart q.1 = .ok (q.2.1, q.2.2))) = true := by decide +kernel
theorem dX5_addFromStart_82 : decode cX5_addFromStart 82 = .ok (.aload_n 0, 1) := dq_of dqX5_addFromStart_82 0 rfl
theorem dX5_addFromStart_83 : decode cX5_addFromStart 83 = .ok (.getfield 21, 3) := dq_of dqX5_addFromStart_82 1 rfl
theorem dX5_addFromStart_86 : decode cX5_addFromStart 86 = .ok (.isub, 1) := dq_of dqX5_addFromStart_82 2 rfl
theorem dX5_addFromStart_87 : decode cX5_addFromStart 87 = .ok (.invokevirtual 177, 3) := dq_of dqX5_addFromStart_82 3 rfl
theorem dX5_addFromStart_90 : decode cX5_addFromStart 90 = .ok (.aload_n 0, 1) := dq_of dqX5_addFromStart_82 4 rfl
theorem dX5_addFromStart_91 : decode cX5_addFromStart 91 = .ok (.iload_n 1, 1) := dq_of dqX5_addFromStart_82 5 rfl
theorem dX5_addFromStart_92 : decode cX5_addFromStart 92 = .ok (.invokestatic 202, 3) := dq_of dqX5_addFromStart_82 6 rfl
theorem dX5_addFromStart_95 : decode cX5_addFromStart 95 = .ok (.putfield 24, 3) := dq_of dqX5_addFromStart_82 7 rfl
theorem dX5_addFromStart_98 : decode cX5_addFromStart 98 = .ok (.return_, 1) := dq_of dqX5_addFromStart_82 8 rfl
theorem dqX5_mayEndLine_0 : ([(0, .iload_n 0, 1), (1, .lookupswitch 125 #[(1, 123), (2, 123), (3, 123), (4, 123), (5, 123), (10, 123), (14, 123), (18, 123), (29, 123), (65, 123), (66, 123), (79, 123), (81, 123), (83, 123)], 123), (124, .iconst 1, 1), (125, .ireturn, 1), (126, .iconst 0, 1), (127, .ireturn, 1)] : List (Nat × Instr × Nat)).all (fun q => decide (decode cX5_mayEndLine q.1 = .ok (q.2.1, q.2.2))) = true := by decide +kernel
theorem dX5_mayEndLine_0 : decode cX5_mayEndLine 0 = .ok (.iload_n 0, 1) := dq_of dqX5_mayEndLine_0 0 rfl
theorem dX5_mayEndLine_1 : decode cX5_mayEndLine 1 = .ok (.lookupswitch 125 #[(1, 123), (2, 123), (3, 123), (4, 123), (5, 123), (10, 123), (14, 123), (18, 123), (29, 123), (65, 123), (66, 123), (79, 123), (81, 123), (83, 123)], 123) := dq_of dqX5_mayEndLine_0 1 rfl
theorem dX5_mayEndLine_124 : decode cX5_mayEndLine 124 = .ok (.iconst 1, 1) := dq_of dqX5_mayEndLine_0 2 rfl
theorem dX5_mayEndLine_125 : decode cX5_mayEndLine 125 = .ok (.ireturn, 1) := dq_of dqX5_mayEndLine_0 3 rfl
theorem dX5_mayEndLine_126 : decode cX5_mayEndLine 126 = .ok (.iconst 0, 1) := dq_of dqX5_mayEndLine_0 4 rfl
theorem dX5_mayEndLine_127 : decode cX5_mayEndLine 127 = .ok (.ireturn, 1) := dq_of dqX5_mayEndLine_0 5 rfl
theorem dqX5_wordKind_0 : ([(0, .aload_n 0, 1), (1, .getfield 32, 3), (4, .getfield 38, 3), (7, .getfield 146, 3), (10, .aload_n 0, 1), (11, .getfield 21, 3), (14, .isub, 1), (15, .istore_n 1, 1), (16, .iconst 0, 1), (17, .istore_n 2, 1), (18, .iload_n 2, 1), (19, .iconst 1, 1), (20, .iadd, 1), (21, .getstatic 205, 3), (24, .arraylength, 1), (25, .if_icmp .ge 44, 3), (28, .getstatic 205, 3), (31, .iload_n 2, 1), (32, .iconst 1, 1), (33, .iadd, 1), (34, .iaload, 1), (35, .getstatic 205, 3), (38, .iload_n 2, 1), (39, .iaload, 1), (40, .isub, 1), (41, .iload_n 1, 1), (42, .if_icmp .ne 21, 3), (45, .aload_n 0, 1), (46, .getstatic 205, 3), (49, .iload_n 2, 1), (50, .iaload, 1), (51, .iload_n 1, 1), (52, .invokevirtual 209, 3), (55, .ifCond .eq 8, 3), (58, .bipush 10, 2), (60, .iload_n 2, 1), (61, .iadd, 1), (62, .ireturn, 1), (63, .iinc 2 1, 3), (66, .goto (-48), 3)] : List (Nat × Instr × Nat)).all (fun q => decide (decode cX5_wordKind q.1 = .ok (q.2.1, q.2.2))) = true := by decide +kernel
theorem dX5_wordKind_0 : decode cX5_wordKind 0 = .ok (.aload_n 0, 1) := dq_of dqX5_wordKind_0 0 rfl
theorem dX5_wordKind_1 : decode cX5_wordKind 1 = .ok (.getfield 32, 3) := dq_of dqX5_wordKind_0 1 rfl
theorem dX5_wordKind_4 : decode cX5_wordKind 4 = .ok (.getfield 38, 3) := dq_of dqX5_wordKind_0 2 rfl
theorem dX5_wordKind_7 : decode cX5_wordKind 7 = .ok (.getfield 146, 3) := dq_of dqX5_wordKind_0 3 rfl
theorem dX5_wordKind_10 : decode cX5_wordKind 10 = .ok (.aload_n 0, 1) := dq_of dqX5_wordKind_0 4 rfl
theorem dX5_wordKind_11 : decode cX5_wordKind 11 = .ok (.getfield 21, 3) := dq_of dqX5_wordKind_0 5 rfl
theorem dX5_wordKind_14 : decode cX5_wordKind 14 = .ok (.isub, 1) := dq_of dqX5_wordKind_0 6 rfl
theorem dX5_wordKind_15 : decode cX5_wordKind 15 = .ok (.istore_n 1, 1) := dq_of dqX5_wordKind_0 7 rfl
theorem dX5_wordKind_16 : decode cX5_wordKind 16 = .ok (.iconst 0, 1) := dq_of dqX5_wordKind_0 8 rfl
theorem dX5_wordKind_17 : decode cX5_wordKind 17 = .ok (.istore_n 2, 1) := dq_of dqX5_wordKind_0 9 rfl
theorem dX5_wordKind_18 : decode cX5_wordKind 18 = .ok (.iload_n 2, 1) := dq_of dqX5_wordKind_0 10 rfl
theorem dX5_wordKind_19 : decode cX5_wordKind 19 = .ok (.iconst 1, 1) := dq_of dqX5_wordKind_0 11 rfl
theorem dX5_wordKind_20 : decode cX5_wordKind 20 = .ok (.iadd, 1) := dq_of dqX5_wordKind_0 12 rfl
theorem dX5_wordKind_21 : decode cX5_wordKind 21 = .ok (.getstatic 205, 3) := dq_of dqX5_wordKind_0 13 rfl
theorem dX5_wordKind_24 : decode cX5_wordKind 24 = .ok (.arraylength, 1) := dq_of dqX5_wordKind_0 14 rfl
theorem dX5_wordKind_25 : decode cX5_wordKind 25 = .ok (.if_icmp .ge 44, 3) := dq_of dqX5_wordKind_0 15 rfl
theorem dX5_wordKind_28 : decode cX5_wordKind 28 = .ok (.getstatic 205, 3) := dq_of dqX5_wordKind_0 16 rfl
theorem dX5_wordKind_31 : decode cX5_wordKind 31 = .ok (.iload_n 2, 1) := dq_of dqX5_wordKind_0 17 rfl
theorem dX5_wordKind_32 : decode cX5_wordKind 32 = .ok (.iconst 1, 1) := dq_of dqX5_wordKind_0 18 rfl
theorem dX5_wordKind_33 : decode cX5_wordKind 33 = .ok (.iadd, 1) := dq_of dqX5_wordKind_0 19 rfl
theorem dX5_wordKind_34 : decode cX5_wordKind 34 = .ok (.iaload, 1) := dq_of dqX5_wordKind_0 20 rfl
theorem dX5_wordKind_35 : decode cX5_wordKind 35 = .ok (.getstatic 205, 3) := dq_of dqX5_wordKind_0 21 rfl
theorem dX5_wordKind_38 : decode cX5_wordKind 38 = .ok (.iload_n 2, 1) := dq_of dqX5_wordKind_0 22 rfl
theorem dX5_wordKind_39 : decode cX5_wordKind 39 = .ok (.iaload, 1) := dq_of dqX5_wordKind_0 23 rfl
theorem dX5_wordKind_40 : decode cX5_wordKind 40 = .ok (.isub, 1) := dq_of dqX5_wordKind_0 24 rfl
theorem dX5_wordKind_41 : decode cX5_wordKind 41 = .ok (.iload_n 1, 1) := dq_of dqX5_wordKind_0 25 rfl
theorem dX5_wordKind_42 : decode cX5_wordKind 42 = .ok (.if_icmp .ne 21, 3) := dq_of dqX5_wordKind_0 26 rfl
theorem dX5_wordKind_45 : decode cX5_wordKind 45 = .ok (.aload_n 0, 1) := dq_of dqX5_wordKind_0 27 rfl
theorem dX5_wordKind_46 : decode cX5_wordKind 46 = .ok (.getstatic 205, 3) := dq_of dqX5_wordKind_0 28 rfl
theorem dX5_wordKind_49 : decode cX5_wordKind 49 = .ok (.iload_n 2, 1) := dq_of dqX5_wordKind_0 29 rfl
theorem dX5_wordKind_50 : decode cX5_wordKind 50 = .ok (.iaload, 1) := dq_of dqX5_wordKind_0 30 rfl
theorem dX5_wordKind_51 : decode cX5_wordKind 51 = .ok (.iload_n 1, 1) := dq_of dqX5_wordKind_0 31 rfl
theorem dX5_wordKind_52 : decode cX5_wordKind 52 = .ok (.invokevirtual 209, 3) := dq_of dqX5_wordKind_0 32 rfl
theorem dX5_wordKind_55 : decode cX5_wordKind 55 = .ok (.ifCond .eq 8, 3) := dq_of dqX5_wordKind_0 33 rfl
theorem dX5_wordKind_58 : decode cX5_wordKind 58 = .ok (.bipush 10, 2) := dq_of dqX5_wordKind_0 34 rfl
theorem dX5_wordKind_60 : decode cX5_wordKind 60 = .ok (.iload_n 2, 1) := dq_of dqX5_wordKind_0 35 rfl
theorem dX5_wordKind_61 : decode cX5_wordKind 61 = .ok (.iadd, 1) := dq_of dqX5_wordKind_0 36 rfl
theorem dX5_wordKind_62 : decode cX5_wordKind 62 = .ok (.ireturn, 1) := dq_of dqX5_wordKind_0 37 rfl
theorem dX5_wordKind_63 : decode cX5_wordKind 63 = .ok (.iinc 2 1, 3) := dq_of dqX5_wordKind_0 38 rfl
theorem dX5_wordKind_66 : decode cX5_wordKind 66 = .ok (.goto (-48), 3) := dq_of dqX5_wordKind_0 39 rfl
theorem dqX5_wordKind_69 : ([(69, .iconst (-1), 1), (70, .ireturn, 1)] : List (Nat × Instr × Nat)).all (fun q => decide (decode cX5_wordKind q.1 = .ok (q.2.1, q.2.2))) = true := by decide +kernel
theorem dX5_wordKind_69 : decode cX5_wordKind 69 = .ok (.iconst (-1), 1) := dq_of dqX5_wordKind_69 0 rfl
theorem dX5_wordKind_70 : decode cX5_wordKind 70 = .ok (.ireturn, 1) := dq_of dqX5_wordKind_69 1 rfl
theorem dqX5_isWordAt_0 : ([(0, .iconst 0, 1), (1, .istore_n 3, 1), (2, .iload_n 3, 1), (3, .iload_n 2, 1), (4, .if_icmp .ge 49, 3), (7, .iload_n 1, 1), (8, .iload_n 3, 1), (9, .iadd, 1), (10, .ldc 213, 2), (12, .invokevirtual 215, 3), (15, .if_icmp .ge 38, 3), (18, .ldc 213, 2), (20, .iload_n 1, 1), (21, .iload_n 3, 1), (22, .iadd, 1), (23, .invokevirtual 220, 3), (26, .aload_n 0, 1), (27, .getfield 32, 3), (30, .getfield 38, 3), (33, .aload_n 0, 1), (34, .getfield 21, 3), (37, .iload_n 3, 1), (38, .iadd, 1), (39, .invokevirtual 224, 3), (42, .if_icmp .eq 5, 3), (45, .iconst 0, 1), (46, .ireturn, 1), (47, .iinc 3 1, 3), (50, .goto (-48), 3), (53, .iconst 1, 1), (54, .ireturn, 1)] : List (Nat × Instr × Nat)).all (fun q => decide (decode cX5_isWordAt q.1 = .ok (q.2.1, q.2.2))) = true := by decide +kernel
theorem dX5_isWordAt_0 : decode cX5_isWordAt 0 = .ok (.iconst 0, 1) := dq_of dqX5_isWordAt_0 0 rfl
theorem dX5_isWordAt_1 : decode cX5_isWordAt 1 = .ok (.istore_n 3, 1) := dq_of dqX5_isWordAt_0 1 rfl
theorem dX5_isWordAt_2 : decode cX5_isWordAt 2 = .ok (.iload_n 3, 1) := dq_of dqX5_isWordAt_0 2 rfl
theorem dX5_isWordAt_3 : decode cX5_isWordAt 3 = .ok (.iload_n 2, 1) := dq_of dqX5_isWordAt_0 3 rfl
theorem dX5_isWordAt_4 : decode cX5_isWordAt 4 = .ok (.if_icmp .ge 49, 3) := dq_of dqX5_isWordAt_0 4 rfl
theorem dX5_isWordAt_7 : decode cX5_isWordAt 7 = .ok (.iload_n 1, 1) := dq_of dqX5_isWordAt_0 5 rfl
theorem dX5_isWordAt_8 : decode cX5_isWordAt 8 = .ok (.iload_n 3, 1) := dq_of dqX5_isWordAt_0 6 rfl
theorem dX5_isWordAt_9 : decode cX5_isWordAt 9 = .ok (.iadd, 1) := dq_of dqX5_isWordAt_0 7 rfl
theorem dX5_isWordAt_10 : decode cX5_isWordAt 10 = .ok (.ldc 213, 2) := dq_of dqX5_isWordAt_0 8 rfl
theorem dX5_isWordAt_12 : decode cX5_isWordAt 12 = .ok (.invokevirtual 215, 3) := dq_of dqX5_isWordAt_0 9 rfl
theorem dX5_isWordAt_15 : decode cX5_isWordAt 15 = .ok (.if_icmp .ge 38, 3) := dq_of dqX5_isWordAt_0 10 rfl
theorem dX5_isWordAt_18 : decode cX5_isWordAt 18 = .ok (.ldc 213, 2) := dq_of dqX5_isWordAt_0 11 rfl
theorem dX5_isWordAt_20 : decode cX5_isWordAt 20 = .ok (.iload_n 1, 1) := dq_of dqX5_isWordAt_0 12 rfl
theorem dX5_isWordAt_21 : decode cX5_isWordAt 21 = .ok (.iload_n 3, 1) := dq_of dqX5_isWordAt_0 13 rfl
theorem dX5_isWordAt_22 : decode cX5_isWordAt 22 = .ok (.iadd, 1) := dq_of dqX5_isWordAt_0 14 rfl
theorem dX5_isWordAt_23 : decode cX5_isWordAt 23 = .ok (.invokevirtual 220, 3) := dq_of dqX5_isWordAt_0 15 rfl
theorem dX5_isWordAt_26 : decode cX5_isWordAt 26 = .ok (.aload_n 0, 1) := dq_of dqX5_isWordAt_0 16 rfl
theorem dX5_isWordAt_27 : decode cX5_isWordAt 27 = .ok (.getfield 32, 3) := dq_of dqX5_isWordAt_0 17 rfl
theorem dX5_isWordAt_30 : decode cX5_isWordAt 30 = .ok (.getfield 38, 3) := dq_of dqX5_isWordAt_0 18 rfl
theorem dX5_isWordAt_33 : decode cX5_isWordAt 33 = .ok (.aload_n 0, 1) := dq_of dqX5_isWordAt_0 19 rfl
theorem dX5_isWordAt_34 : decode cX5_isWordAt 34 = .ok (.getfield 21, 3) := dq_of dqX5_isWordAt_0 20 rfl
theorem dX5_isWordAt_37 : decode cX5_isWordAt 37 = .ok (.iload_n 3, 1) := dq_of dqX5_isWordAt_0 21 rfl
theorem dX5_isWordAt_38 : decode cX5_isWordAt 38 = .ok (.iadd, 1) := dq_of dqX5_isWordAt_0 22 rfl
theorem dX5_isWordAt_39 : decode cX5_isWordAt 39 = .ok (.invokevirtual 224, 3) := dq_of dqX5_isWordAt_0 23 rfl
theorem dX5_isWordAt_42 : decode cX5_isWordAt 42 = .ok (.if_icmp .eq 5, 3) := dq_of dqX5_isWordAt_0 24 rfl
theorem dX5_isWordAt_45 : decode cX5_isWordAt 45 = .ok (.iconst 0, 1) := dq_of dqX5_isWordAt_0 25 rfl
theorem dX5_isWordAt_46 : decode cX5_isWordAt 46 = .ok (.ireturn, 1) := dq_of dqX5_isWordAt_0 26 rfl
theorem dX5_isWordAt_47 : decode cX5_isWordAt 47 = .ok (.iinc 3 1, 3) := dq_of dqX5_isWordAt_0 27 rfl
theorem dX5_isWordAt_50 : decode cX5_isWordAt 50 = .ok (.goto (-48), 3) := dq_of dqX5_isWordAt_0 28 rfl
theorem dX5_isWordAt_53 : decode cX5_isWordAt 53 = .ok (.iconst 1, 1) := dq_of dqX5_isWordAt_0 29 rfl
theorem dX5_isWordAt_54 : decode cX5_isWordAt 54 = .ok (.ireturn, 1) := dq_of dqX5_isWordAt_0 30 rfl
theorem dqX6_kindOfOne_0 : ([(0, .iload_n 0, 1), (1, .tableswitch 460 33 126 #[424, 460, 460, 460, 403, 406, 460, 430, 433, 397, 391, 448, 394, 454, 400, 460, 460, 460, 460, 460, 460, 460, 460, 460, 460, 457, 451, 415, 421, 418, 460, 460, 460, 460, 460, 460, 460, 460, 460, 460, 460, 460, 460, 460, 460, 460, 460, 460, 460, 460, 460, 460, 460, 460, 460, 460, 460, 460, 436, 460, 439, 412, 460, 460, 460, 460, 460, 460, 460, 460, 460, 460, 460, 460, 460, 460, 460, 460, 460, 460, 460, 460, 460, 460, 460, 460, 460, 460, 460, 460, 442, 409, 445, 427], 391), (392, .bipush 40, 2), (394, .ireturn, 1), (395, .bipush 41, 2), (397, .ireturn, 1), (398, .bipush 42, 2), (400, .ireturn, 1), (401, .bipush 43, 2), (403, .ireturn, 1), (404, .bipush 44, 2), (406, .ireturn, 1), (407, .bipush 45, 2), (409, .ireturn, 1), (410, .bipush 46, 2), (412, .ireturn, 1), (413, .bipush 47, 2), (415, .ireturn, 1), (416, .bipush 68, 2), (418, .ireturn, 1), (419, .bipush 69, 2), (421, .ireturn, 1), (422, .bipush 70, 2), (424, .ireturn, 1), (425, .bipush 71, 2), (427, .ireturn, 1), (428, .bipush 72, 2), (430, .ireturn, 1), (431, .bipush 78, 2), (433, .ireturn, 1), (434, .bipush 79, 2), (436, .ireturn, 1), (437, .bipush 80, 2), (439, .ireturn, 1), (440, .bipush 81, 2), (442, .ireturn, 1), (443, .bipush 82, 2), (445, .ireturn, 1), (446, .bipush 83, 2), (448, .ireturn, 1)] : List (Nat × Instr × Nat)).all (fun q => decide (decode cX6_kindOfOne q.1 = .ok (q.2.1, q.2.2))) = true := by decide +kernel
theorem dX6_kindOfOne_0 : decode cX6_kindOfOne 0 = .ok (.iload_n 0, 1) := dq_of dqX6_kindOfOne_0 0 rfl
theorem dX6_kindOfOne_1 : decode cX6_kindOfOne 1 = .ok (.tableswitch 460 33 126 #[424, 460, 460, 460, 403, 406, 460, 430, 433, 397, 391, 448, 394, 454, 400, 460, 460, 460, 460, 460, 460, 460, 460, 460, 460, 457, 451, 415, 421, 418, 460, 460, 460, 460, 460, 460, 460, 460, 460, 460, 460, 460, 460, 460, 460, 460, 460, 460, 460, 460, 460, 460, 460, 460, 460, 460, 460, 460, 436, 460, 439, 412, 460, 460, 460, 460, 460, 460, 460, 460, 460, 460, 460, 460, 460, 460, 460, 460, 460, 460, 460, 460, 460, 460, 460, 460, 460, 460, 460, 460, 442, 409, 445, 427], 391) := dq_of dqX6_kindOfOne_0 1 rfl
theorem dX6_kindOfOne_392 : decode cX6_kindOfOne 392 = .ok (.bipush 40, 2) := dq_of dqX6_kindOfOne_0 2 rfl
theorem dX6_kindOfOne_394 : decode cX6_kindOfOne 394 = .ok (.ireturn, 1) := dq_of dqX6_kindOfOne_0 3 rfl
theorem dX6_kindOfOne_395 : decode cX6_kindOfOne 395 = .ok (.bipush 41, 2) := dq_of dqX6_kindOfOne_0 4 rfl
theorem dX6_kindOfOne_397 : decode cX6_kindOfOne 397 = .ok (.ireturn, 1) := dq_of dqX6_kindOfOne_0 5 rfl
theorem dX6_kindOfOne_398 : decode cX6_kindOfOne 398 = .ok (.bipush 42, 2) := dq_of dqX6_kindOfOne_0 6 rfl
theorem dX6_kindOfOne_400 : decode cX6_kindOfOne 400 = .ok (.ireturn, 1) := dq_of dqX6_kindOfOne_0 7 rfl
theorem dX6_kindOfOne_401 : decode cX6_kindOfOne 401 = .ok (.bipush 43, 2) := dq_of dqX6_kindOfOne_0 8 rfl
theorem dX6_kindOfOne_403 : decode cX6_kindOfOne 403 = .ok (.ireturn, 1) := dq_of dqX6_kindOfOne_0 9 rfl
theorem dX6_kindOfOne_404 : decode cX6_kindOfOne 404 = .ok (.bipush 44, 2) := dq_of dqX6_kindOfOne_0 10 rfl
theorem dX6_kindOfOne_406 : decode cX6_kindOfOne 406 = .ok (.ireturn, 1) := dq_of dqX6_kindOfOne_0 11 rfl
theorem dX6_kindOfOne_407 : decode cX6_kindOfOne 407 = .ok (.bipush 45, 2) := dq_of dqX6_kindOfOne_0 12 rfl
theorem dX6_kindOfOne_409 : decode cX6_kindOfOne 409 = .ok (.ireturn, 1) := dq_of dqX6_kindOfOne_0 13 rfl
theorem dX6_kindOfOne_410 : decode cX6_kindOfOne 410 = .ok (.bipush 46, 2) := dq_of dqX6_kindOfOne_0 14 rfl
theorem dX6_kindOfOne_412 : decode cX6_kindOfOne 412 = .ok (.ireturn, 1) := dq_of dqX6_kindOfOne_0 15 rfl
theorem dX6_kindOfOne_413 : decode cX6_kindOfOne 413 = .ok (.bipush 47, 2) := dq_of dqX6_kindOfOne_0 16 rfl
theorem dX6_kindOfOne_415 : decode cX6_kindOfOne 415 = .ok (.ireturn, 1) := dq_of dqX6_kindOfOne_0 17 rfl
theorem dX6_kindOfOne_416 : decode cX6_kindOfOne 416 = .ok (.bipush 68, 2) := dq_of dqX6_kindOfOne_0 18 rfl
theorem dX6_kindOfOne_418 : decode cX6_kindOfOne 418 = .ok (.ireturn, 1) := dq_of dqX6_kindOfOne_0 19 rfl
theorem dX6_kindOfOne_419 : decode cX6_kindOfOne 419 = .ok (.bipush 69, 2) := dq_of dqX6_kindOfOne_0 20 rfl
theorem dX6_kindOfOne_421 : decode cX6_kindOfOne 421 = .ok (.ireturn, 1) := dq_of dqX6_kindOfOne_0 21 rfl
theorem dX6_kindOfOne_422 : decode cX6_kindOfOne 422 = .ok (.bipush 70, 2) := dq_of dqX6_kindOfOne_0 22 rfl
theorem dX6_kindOfOne_424 : decode cX6_kindOfOne 424 = .ok (.ireturn, 1) := dq_of dqX6_kindOfOne_0 23 rfl
theorem dX6_kindOfOne_425 : decode cX6_kindOfOne 425 = .ok (.bipush 71, 2) := dq_of dqX6_kindOfOne_0 24 rfl
theorem dX6_kindOfOne_427 : decode cX6_kindOfOne 427 = .ok (.ireturn, 1) := dq_of dqX6_kindOfOne_0 25 rfl
theorem dX6_kindOfOne_428 : decode cX6_kindOfOne 428 = .ok (.bipush 72, 2) := dq_of dqX6_kindOfOne_0 26 rfl
theorem dX6_kindOfOne_430 : decode cX6_kindOfOne 430 = .ok (.ireturn, 1) := dq_of dqX6_kindOfOne_0 27 rfl
theorem dX6_kindOfOne_431 : decode cX6_kindOfOne 431 = .ok (.bipush 78, 2) := dq_of dqX6_kindOfOne_0 28 rfl
theorem dX6_kindOfOne_433 : decode cX6_kindOfOne 433 = .ok (.ireturn, 1) := dq_of dqX6_kindOfOne_0 29 rfl
theorem dX6_kindOfOne_434 : decode cX6_kindOfOne 434 = .ok (.bipush 79, 2) := dq_of dqX6_kindOfOne_0 30 rfl
theorem dX6_kindOfOne_436 : decode cX6_kindOfOne 436 = .ok (.ireturn, 1) := dq_of dqX6_kindOfOne_0 31 rfl
theorem dX6_kindOfOne_437 : decode cX6_kindOfOne 437 = .ok (.bipush 80, 2) := dq_of dqX6_kindOfOne_0 32 rfl
theorem dX6_kindOfOne_439 : decode cX6_kindOfOne 439 = .ok (.ireturn, 1) := dq_of dqX6_kindOfOne_0 33 rfl
theorem dX6_kindOfOne_440 : decode cX6_kindOfOne 440 = .ok (.bipush 81, 2) := dq_of dqX6_kindOfOne_0 34 rfl
theorem dX6_kindOfOne_442 : decode cX6_kindOfOne 442 = .ok (.ireturn, 1) := dq_of dqX6_kindOfOne_0 35 rfl
theorem dX6_kindOfOne_443 : decode cX6_kindOfOne 443 = .ok (.bipush 82, 2) := dq_of dqX6_kindOfOne_0 36 rfl
theorem dX6_kindOfOne_445 : decode cX6_kindOfOne 445 = .ok (.ireturn, 1) := dq_of dqX6_kindOfOne_0 37 rfl
theorem dX6_kindOfOne_446 : decode cX6_kindOfOne 446 = .ok (.bipush 83, 2) := dq_of dqX6_kindOfOne_0 38 rfl
theorem dX6_kindOfOne_448 : decode cX6_kindOfOne 448 = .ok (.ireturn, 1) := dq_of dqX6_kindOfOne_0 39 rfl
theorem dqX6_kindOfOne_449 : ([(449, .bipush 84, 2), (451, .ireturn, 1), (452, .bipush 85, 2), (454, .ireturn, 1), (455, .bipush 86, 2), (457, .ireturn, 1), (458, .bipush 87, 2), (460, .ireturn, 1), (461, .iconst (-1), 1), (462, .ireturn, 1)] : List (Nat × Instr × Nat)).all (fun q => decide (decode cX6_kindOfOne q.1 = .ok (q.2.1, q.2.2))) = true := by decide +kernel
theorem dX6_kindOfOne_449 : decode cX6_kindOfOne 449 = .ok (.bipush 84, 2) := dq_of dqX6_kindOfOne_449 0 rfl
theorem dX6_kindOfOne_451 : decode cX6_kindOfOne 451 = .ok (.ireturn, 1) := dq_of dqX6_kindOfOne_449 1 rfl
theorem dX6_kindOfOne_452 : decode cX6_kindOfOne 452 = .ok (.bipush 85, 2) := dq_of dqX6_kindOfOne_449 2 rfl
theorem dX6_kindOfOne_454 : decode cX6_kindOfOne 454 = .ok (.ireturn, 1) := dq_of dqX6_kindOfOne_449 3 rfl
theorem dX6_kindOfOne_455 : decode cX6_kindOfOne 455 = .ok (.bipush 86, 2) := dq_of dqX6_kindOfOne_449 4 rfl
theorem dX6_kindOfOne_457 : decode cX6_kindOfOne 457 = .ok (.ireturn, 1) := dq_of dqX6_kindOfOne_449 5 rfl
theorem dX6_kindOfOne_458 : decode cX6_kindOfOne 458 = .ok (.bipush 87, 2) := dq_of dqX6_kindOfOne_449 6 rfl
theorem dX6_kindOfOne_460 : decode cX6_kindOfOne 460 = .ok (.ireturn, 1) := dq_of dqX6_kindOfOne_449 7 rfl
theorem dX6_kindOfOne_461 : decode cX6_kindOfOne 461 = .ok (.iconst (-1), 1) := dq_of dqX6_kindOfOne_449 8 rfl
theorem dX6_kindOfOne_462 : decode cX6_kindOfOne 462 = .ok (.ireturn, 1) := dq_of dqX6_kindOfOne_449 9 rfl
theorem dqX6_kindOfTwo_0 : ([(0, .iload_n 0, 1), (1, .lookupswitch 242 #[(8509, 230), (9533, 200), (9766, 212), (9789, 203), (9822, 185), (10813, 194), (11051, 221), (11069, 188), (11565, 224), (11581, 191), (12093, 197), (14909, 239), (15405, 218), (15420, 179), (15421, 233), (15677, 227), (15933, 236), (15934, 182), (24125, 209), (31805, 206), (31868, 215)], 179), (180, .bipush 48, 2), (182, .ireturn, 1), (183, .bipush 49, 2), (185, .ireturn, 1), (186, .bipush 50, 2), (188, .ireturn, 1), (189, .bipush 51, 2), (191, .ireturn, 1), (192, .bipush 52, 2), (194, .ireturn, 1), (195, .bipush 53, 2), (197, .ireturn, 1), (198, .bipush 54, 2), (200, .ireturn, 1), (201, .bipush 55, 2), (203, .ireturn, 1), (204, .bipush 56, 2), (206, .ireturn, 1), (207, .bipush 57, 2), (209, .ireturn, 1), (210, .bipush 58, 2), (212, .ireturn, 1), (213, .bipush 62, 2), (215, .ireturn, 1), (216, .bipush 63, 2), (218, .ireturn, 1), (219, .bipush 64, 2), (221, .ireturn, 1), (222, .bipush 65, 2), (224, .ireturn, 1), (225, .bipush 66, 2), (227, .ireturn, 1), (228, .bipush 67, 2), (230, .ireturn, 1), (231, .bipush 73, 2), (233, .ireturn, 1), (234, .bipush 74, 2), (236, .ireturn, 1)] : List (Nat × Instr × Nat)).all (fun q => decide (decode cX6_kindOfTwo q.1 = .ok (q.2.1, q.2.2))) = true := by decide +kernel
theorem dX6_kindOfTwo_0 : decode cX6_kindOfTwo 0 = .ok (.iload_n 0, 1) := dq_of dqX6_kindOfTwo_0 0 rfl
theorem dX6_kindOfTwo_1 : decode cX6_kindOfTwo 1 = .ok (.lookupswitch 242 #[(8509, 230), (9533, 200), (9766, 212), (9789, 203), (9822, 185), (10813, 194), (11051, 221), (11069, 188), (11565, 224), (11581, 191), (12093, 197), (14909, 239), (15405, 218), (15420, 179), (15421, 233), (15677, 227), (15933, 236), (15934, 182), (24125, 209), (31805, 206), (31868, 215)], 179) := dq_of dqX6_kindOfTwo_0 1 rfl
theorem dX6_kindOfTwo_180 : decode cX6_kindOfTwo 180 = .ok (.bipush 48, 2) := dq_of dqX6_kindOfTwo_0 2 rfl
theorem dX6_kindOfTwo_182 : decode cX6_kindOfTwo 182 = .ok (.ireturn, 1) := dq_of dqX6_kindOfTwo_0 3 rfl
theorem dX6_kindOfTwo_183 : decode cX6_kindOfTwo 183 = .ok (.bipush 49, 2) := dq_of dqX6_kindOfTwo_0 4 rfl
theorem dX6_kindOfTwo_185 : decode cX6_kindOfTwo 185 = .ok (.ireturn, 1) := dq_of dqX6_kindOfTwo_0 5 rfl
theorem dX6_kindOfTwo_186 : decode cX6_kindOfTwo 186 = .ok (.bipush 50, 2) := dq_of dqX6_kindOfTwo_0 6 rfl
theorem dX6_kindOfTwo_188 : decode cX6_kindOfTwo 188 = .ok (.ireturn, 1) := dq_of dqX6_kindOfTwo_0 7 rfl
theorem dX6_kindOfTwo_189 : decode cX6_kindOfTwo 189 = .ok (.bipush 51, 2) := dq_of dqX6_kindOfTwo_0 8 rfl
theorem dX6_kindOfTwo_191 : decode cX6_kindOfTwo 191 = .ok (.ireturn, 1) := dq_of dqX6_kindOfTwo_0 9 rfl
theorem dX6_kindOfTwo_192 : decode cX6_kindOfTwo 192 = .ok (.bipush 52, 2) := dq_of dqX6_kindOfTwo_0 10 rfl
theorem dX6_kindOfTwo_194 : decode cX6_kindOfTwo 194 = .ok (.ireturn, 1) := dq_of dqX6_kindOfTwo_0 11 rfl
theorem dX6_kindOfTwo_195 : decode cX6_kindOfTwo 195 = .ok (.bipush 53, 2) := dq_of dqX6_kindOfTwo_0 12 rfl
theorem dX6_kindOfTwo_197 : decode cX6_kindOfTwo 197 = .ok (.ireturn, 1) := dq_of dqX6_kindOfTwo_0 13 rfl
theorem dX6_kindOfTwo_198 : decode cX6_kindOfTwo 198 = .ok (.bipush 54, 2) := dq_of dqX6_kindOfTwo_0 14 rfl
theorem dX6_kindOfTwo_200 : decode cX6_kindOfTwo 200 = .ok (.ireturn, 1) := dq_of dqX6_kindOfTwo_0 15 rfl
theorem dX6_kindOfTwo_201 : decode cX6_kindOfTwo 201 = .ok (.bipush 55, 2) := dq_of dqX6_kindOfTwo_0 16 rfl
theorem dX6_kindOfTwo_203 : decode cX6_kindOfTwo 203 = .ok (.ireturn, 1) := dq_of dqX6_kindOfTwo_0 17 rfl
theorem dX6_kindOfTwo_204 : decode cX6_kindOfTwo 204 = .ok (.bipush 56, 2) := dq_of dqX6_kindOfTwo_0 18 rfl
theorem dX6_kindOfTwo_206 : decode cX6_kindOfTwo 206 = .ok (.ireturn, 1) := dq_of dqX6_kindOfTwo_0 19 rfl
theorem dX6_kindOfTwo_207 : decode cX6_kindOfTwo 207 = .ok (.bipush 57, 2) := dq_of dqX6_kindOfTwo_0 20 rfl
theorem dX6_kindOfTwo_209 : decode cX6_kindOfTwo 209 = .ok (.ireturn, 1) := dq_of dqX6_kindOfTwo_0 21 rfl
theorem dX6_kindOfTwo_210 : decode cX6_kindOfTwo 210 = .ok (.bipush 58, 2) := dq_of dqX6_kindOfTwo_0 22 rfl
theorem dX6_kindOfTwo_212 : decode cX6_kindOfTwo 212 = .ok (.ireturn, 1) := dq_of dqX6_kindOfTwo_0 23 rfl
theorem dX6_kindOfTwo_213 : decode cX6_kindOfTwo 213 = .ok (.bipush 62, 2) := dq_of dqX6_kindOfTwo_0 24 rfl
theorem dX6_kindOfTwo_215 : decode cX6_kindOfTwo 215 = .ok (.ireturn, 1) := dq_of dqX6_kindOfTwo_0 25 rfl
theorem dX6_kindOfTwo_216 : decode cX6_kindOfTwo 216 = .ok (.bipush 63, 2) := dq_of dqX6_kindOfTwo_0 26 rfl
theorem dX6_kindOfTwo_218 : decode cX6_kindOfTwo 218 = .ok (.ireturn, 1) := dq_of dqX6_kindOfTwo_0 27 rfl
theorem dX6_kindOfTwo_219 : decode cX6_kindOfTwo 219 = .ok (.bipush 64, 2) := dq_of dqX6_kindOfTwo_0 28 rfl
theorem dX6_kindOfTwo_221 : decode cX6_kindOfTwo 221 = .ok (.ireturn, 1) := dq_of dqX6_kindOfTwo_0 29 rfl
theorem dX6_kindOfTwo_222 : decode cX6_kindOfTwo 222 = .ok (.bipush 65, 2) := dq_of dqX6_kindOfTwo_0 30 rfl
theorem dX6_kindOfTwo_224 : decode cX6_kindOfTwo 224 = .ok (.ireturn, 1) := dq_of dqX6_kindOfTwo_0 31 rfl
theorem dX6_kindOfTwo_225 : decode cX6_kindOfTwo 225 = .ok (.bipush 66, 2) := dq_of dqX6_kindOfTwo_0 32 rfl
theorem dX6_kindOfTwo_227 : decode cX6_kindOfTwo 227 = .ok (.ireturn, 1) := dq_of dqX6_kindOfTwo_0 33 rfl
theorem dX6_kindOfTwo_228 : decode cX6_kindOfTwo 228 = .ok (.bipush 67, 2) := dq_of dqX6_kindOfTwo_0 34 rfl
theorem dX6_kindOfTwo_230 : decode cX6_kindOfTwo 230 = .ok (.ireturn, 1) := dq_of dqX6_kindOfTwo_0 35 rfl
theorem dX6_kindOfTwo_231 : decode cX6_kindOfTwo 231 = .ok (.bipush 73, 2) := dq_of dqX6_kindOfTwo_0 36 rfl
theorem dX6_kindOfTwo_233 : decode cX6_kindOfTwo 233 = .ok (.ireturn, 1) := dq_of dqX6_kindOfTwo_0 37 rfl
theorem dX6_kindOfTwo_234 : decode cX6_kindOfTwo 234 = .ok (.bipush 74, 2) := dq_of dqX6_kindOfTwo_0 38 rfl
theorem dX6_kindOfTwo_236 : decode cX6_kindOfTwo 236 = .ok (.ireturn, 1) := dq_of dqX6_kindOfTwo_0 39 rfl
theorem dqX6_kindOfTwo_237 : ([(237, .bipush 75, 2), (239, .ireturn, 1), (240, .bipush 76, 2), (242, .ireturn, 1), (243, .iconst (-1), 1), (244, .ireturn, 1)] : List (Nat × Instr × Nat)).all (fun q => decide (decode cX6_kindOfTwo q.1 = .ok (q.2.1, q.2.2))) = true := by decide +kernel
theorem dX6_kindOfTwo_237 : decode cX6_kindOfTwo 237 = .ok (.bipush 75, 2) := dq_of dqX6_kindOfTwo_237 0 rfl
theorem dX6_kindOfTwo_239 : decode cX6_kindOfTwo 239 = .ok (.ireturn, 1) := dq_of dqX6_kindOfTwo_237 1 rfl
theorem dX6_kindOfTwo_240 : decode cX6_kindOfTwo 240 = .ok (.bipush 76, 2) := dq_of dqX6_kindOfTwo_237 2 rfl
theorem dX6_kindOfTwo_242 : decode cX6_kindOfTwo 242 = .ok (.ireturn, 1) := dq_of dqX6_kindOfTwo_237 3 rfl
theorem dX6_kindOfTwo_243 : decode cX6_kindOfTwo 243 = .ok (.iconst (-1), 1) := dq_of dqX6_kindOfTwo_237 4 rfl
theorem dX6_kindOfTwo_244 : decode cX6_kindOfTwo 244 = .ok (.ireturn, 1) := dq_of dqX6_kindOfTwo_237 5 rfl
theorem dqX6_kindOfThree_0 : ([(0, .iload_n 0, 1), (1, .lookupswitch 55 #[(2514493, 49), (3026478, 52), (3947581, 43), (4079165, 46)], 43), (44, .bipush 59, 2), (46, .ireturn, 1), (47, .bipush 60, 2), (49, .ireturn, 1), (50, .bipush 61, 2), (52, .ireturn, 1), (53, .bipush 77, 2), (55, .ireturn, 1), (56, .iconst (-1), 1), (57, .ireturn, 1)] : List (Nat × Instr × Nat)).all (fun q => decide (decode cX6_kindOfThree q.1 = .ok (q.2.1, q.2.2))) = true := by decide +kernel
theorem dX6_kindOfThree_0 : decode cX6_kindOfThree 0 = .ok (.iload_n 0, 1) := dq_of dqX6_kindOfThree_0 0 rfl
theorem dX6_kindOfThree_1 : decode cX6_kindOfThree 1 = .ok (.lookupswitch 55 #[(2514493, 49), (3026478, 52), (3947581, 43), (4079165, 46)], 43) := dq_of dqX6_kindOfThree_0 1 rfl
theorem dX6_kindOfThree_44 : decode cX6_kindOfThree 44 = .ok (.bipush 59, 2) := dq_of dqX6_kindOfThree_0 2 rfl
theorem dX6_kindOfThree_46 : decode cX6_kindOfThree 46 = .ok (.ireturn, 1) := dq_of dqX6_kindOfThree_0 3 rfl
theorem dX6_kindOfThree_47 : decode cX6_kindOfThree 47 = .ok (.bipush 60, 2) := dq_of dqX6_kindOfThree_0 4 rfl
theorem dX6_kindOfThree_49 : decode cX6_kindOfThree 49 = .ok (.ireturn, 1) := dq_of dqX6_kindOfThree_0 5 rfl
theorem dX6_kindOfThree_50 : decode cX6_kindOfThree 50 = .ok (.bipush 61, 2) := dq_of dqX6_kindOfThree_0 6 rfl
theorem dX6_kindOfThree_52 : decode cX6_kindOfThree 52 = .ok (.ireturn, 1) := dq_of dqX6_kindOfThree_0 7 rfl
theorem dX6_kindOfThree_53 : decode cX6_kindOfThree 53 = .ok (.bipush 77, 2) := dq_of dqX6_kindOfThree_0 8 rfl
theorem dX6_kindOfThree_55 : decode cX6_kindOfThree 55 = .ok (.ireturn, 1) := dq_of dqX6_kindOfThree_0 9 rfl
theorem dX6_kindOfThree_56 : decode cX6_kindOfThree 56 = .ok (.iconst (-1), 1) := dq_of dqX6_kindOfThree_0 10 rfl
theorem dX6_kindOfThree_57 : decode cX6_kindOfThree 57 = .ok (.ireturn, 1) := dq_of dqX6_kindOfThree_0 11 rfl
theorem dqX7_init_0 : ([(0, .aload_n 0, 1), (1, .invokespecial 3, 3), (4, .aload_n 0, 1), (5, .sipush 256, 3), (8, .newarray .byte, 2), (10, .putfield 9, 3), (13, .aload_n 0, 1), (14, .iconst 0, 1), (15, .putfield 15, 3), (18, .aload_n 0, 1), (19, .iconst 0, 1), (20, .putfield 19, 3), (23, .aload_n 0, 1), (24, .iconst 1, 1), (25, .putfield 22, 3), (28, .aload_n 0, 1), (29, .iconst 0, 1), (30, .putfield 25, 3), (33, .aload_n 0, 1), (34, .iconst 0, 1), (35, .putfield 28, 3), (38, .return_, 1)] : List (Nat × Instr × Nat)).all (fun q => decide (decode cX7_init q.1 = .ok (q.2.1, q.2.2))) = true := by decide +kernel
theorem dX7_init_0 : decode cX7_init 0 = .ok (.aload_n 0, 1) := dq_of dqX7_init_0 0 rfl
theorem dX7_init_1 : decode cX7_init 1 = .ok (.invokespecial 3, 3) := dq_of dqX7_init_0 1 rfl
theorem dX7_init_4 : decode cX7_init 4 = .ok (.aload_n 0, 1) := dq_of dqX7_init_0 2 rfl
theorem dX7_init_5 : decode cX7_init 5 = .ok (.sipush 256, 3) := dq_of dqX7_init_0 3 rfl
theorem dX7_init_8 : decode cX7_init 8 = .ok (.newarray .byte, 2) := dq_of dqX7_init_0 4 rfl
theorem dX7_init_10 : decode cX7_init 10 = .ok (.putfield 9, 3) := dq_of dqX7_init_0 5 rfl
theorem dX7_init_13 : decode cX7_init 13 = .ok (.aload_n 0, 1) := dq_of dqX7_init_0 6 rfl
theorem dX7_init_14 : decode cX7_init 14 = .ok (.iconst 0, 1) := dq_of dqX7_init_0 7 rfl
theorem dX7_init_15 : decode cX7_init 15 = .ok (.putfield 15, 3) := dq_of dqX7_init_0 8 rfl
theorem dX7_init_18 : decode cX7_init 18 = .ok (.aload_n 0, 1) := dq_of dqX7_init_0 9 rfl
theorem dX7_init_19 : decode cX7_init 19 = .ok (.iconst 0, 1) := dq_of dqX7_init_0 10 rfl
theorem dX7_init_20 : decode cX7_init 20 = .ok (.putfield 19, 3) := dq_of dqX7_init_0 11 rfl
theorem dX7_init_23 : decode cX7_init 23 = .ok (.aload_n 0, 1) := dq_of dqX7_init_0 12 rfl
theorem dX7_init_24 : decode cX7_init 24 = .ok (.iconst 1, 1) := dq_of dqX7_init_0 13 rfl
theorem dX7_init_25 : decode cX7_init 25 = .ok (.putfield 22, 3) := dq_of dqX7_init_0 14 rfl
theorem dX7_init_28 : decode cX7_init 28 = .ok (.aload_n 0, 1) := dq_of dqX7_init_0 15 rfl
theorem dX7_init_29 : decode cX7_init 29 = .ok (.iconst 0, 1) := dq_of dqX7_init_0 16 rfl
theorem dX7_init_30 : decode cX7_init 30 = .ok (.putfield 25, 3) := dq_of dqX7_init_0 17 rfl
theorem dX7_init_33 : decode cX7_init 33 = .ok (.aload_n 0, 1) := dq_of dqX7_init_0 18 rfl
theorem dX7_init_34 : decode cX7_init 34 = .ok (.iconst 0, 1) := dq_of dqX7_init_0 19 rfl
theorem dX7_init_35 : decode cX7_init 35 = .ok (.putfield 28, 3) := dq_of dqX7_init_0 20 rfl
theorem dX7_init_38 : decode cX7_init 38 = .ok (.return_, 1) := dq_of dqX7_init_0 21 rfl
theorem dqX7_makeRoom_0 : ([(0, .aload_n 0, 1), (1, .getfield 15, 3), (4, .iload_n 1, 1), (5, .iadd, 1), (6, .ldc 32, 2), (8, .if_icmp .le 5, 3), (11, .iconst 0, 1), (12, .ireturn, 1), (13, .aload_n 0, 1), (14, .getfield 15, 3), (17, .iload_n 1, 1), (18, .iadd, 1), (19, .aload_n 0, 1), (20, .getfield 9, 3), (23, .arraylength, 1), (24, .if_icmp .le 21, 3), (27, .aload_n 0, 1), (28, .aload_n 0, 1), (29, .getfield 9, 3), (32, .aload_n 0, 1), (33, .getfield 9, 3), (36, .arraylength, 1), (37, .iconst 2, 1), (38, .imul, 1), (39, .invokestatic 33, 3), (42, .putfield 9, 3), (45, .aload_n 0, 1), (46, .getfield 15, 3), (49, .iload_n 1, 1), (50, .iadd, 1), (51, .aload_n 0, 1), (52, .getfield 9, 3), (55, .arraylength, 1), (56, .if_icmp .gt 7, 3), (59, .iconst 1, 1), (60, .goto 4, 3), (63, .iconst 0, 1), (64, .ireturn, 1)] : List (Nat × Instr × Nat)).all (fun q => decide (decode cX7_makeRoom q.1 = .ok (q.2.1, q.2.2))) = true := by decide +kernel
theorem dX7_makeRoom_0 : decode cX7_makeRoom 0 = .ok (.aload_n 0, 1) := dq_of dqX7_makeRoom_0 0 rfl
theorem dX7_makeRoom_1 : decode cX7_makeRoom 1 = .ok (.getfield 15, 3) := dq_of dqX7_makeRoom_0 1 rfl
theorem dX7_makeRoom_4 : decode cX7_makeRoom 4 = .ok (.iload_n 1, 1) := dq_of dqX7_makeRoom_0 2 rfl
theorem dX7_makeRoom_5 : decode cX7_makeRoom 5 = .ok (.iadd, 1) := dq_of dqX7_makeRoom_0 3 rfl
theorem dX7_makeRoom_6 : decode cX7_makeRoom 6 = .ok (.ldc 32, 2) := dq_of dqX7_makeRoom_0 4 rfl
theorem dX7_makeRoom_8 : decode cX7_makeRoom 8 = .ok (.if_icmp .le 5, 3) := dq_of dqX7_makeRoom_0 5 rfl
theorem dX7_makeRoom_11 : decode cX7_makeRoom 11 = .ok (.iconst 0, 1) := dq_of dqX7_makeRoom_0 6 rfl
theorem dX7_makeRoom_12 : decode cX7_makeRoom 12 = .ok (.ireturn, 1) := dq_of dqX7_makeRoom_0 7 rfl
theorem dX7_makeRoom_13 : decode cX7_makeRoom 13 = .ok (.aload_n 0, 1) := dq_of dqX7_makeRoom_0 8 rfl
theorem dX7_makeRoom_14 : decode cX7_makeRoom 14 = .ok (.getfield 15, 3) := dq_of dqX7_makeRoom_0 9 rfl
theorem dX7_makeRoom_17 : decode cX7_makeRoom 17 = .ok (.iload_n 1, 1) := dq_of dqX7_makeRoom_0 10 rfl
theorem dX7_makeRoom_18 : decode cX7_makeRoom 18 = .ok (.iadd, 1) := dq_of dqX7_makeRoom_0 11 rfl
theorem dX7_makeRoom_19 : decode cX7_makeRoom 19 = .ok (.aload_n 0, 1) := dq_of dqX7_makeRoom_0 12 rfl
theorem dX7_makeRoom_20 : decode cX7_makeRoom 20 = .ok (.getfield 9, 3) := dq_of dqX7_makeRoom_0 13 rfl
theorem dX7_makeRoom_23 : decode cX7_makeRoom 23 = .ok (.arraylength, 1) := dq_of dqX7_makeRoom_0 14 rfl
theorem dX7_makeRoom_24 : decode cX7_makeRoom 24 = .ok (.if_icmp .le 21, 3) := dq_of dqX7_makeRoom_0 15 rfl
theorem dX7_makeRoom_27 : decode cX7_makeRoom 27 = .ok (.aload_n 0, 1) := dq_of dqX7_makeRoom_0 16 rfl
theorem dX7_makeRoom_28 : decode cX7_makeRoom 28 = .ok (.aload_n 0, 1) := dq_of dqX7_makeRoom_0 17 rfl
theorem dX7_makeRoom_29 : decode cX7_makeRoom 29 = .ok (.getfield 9, 3) := dq_of dqX7_makeRoom_0 18 rfl
theorem dX7_makeRoom_32 : decode cX7_makeRoom 32 = .ok (.aload_n 0, 1) := dq_of dqX7_makeRoom_0 19 rfl
theorem dX7_makeRoom_33 : decode cX7_makeRoom 33 = .ok (.getfield 9, 3) := dq_of dqX7_makeRoom_0 20 rfl
theorem dX7_makeRoom_36 : decode cX7_makeRoom 36 = .ok (.arraylength, 1) := dq_of dqX7_makeRoom_0 21 rfl
theorem dX7_makeRoom_37 : decode cX7_makeRoom 37 = .ok (.iconst 2, 1) := dq_of dqX7_makeRoom_0 22 rfl
theorem dX7_makeRoom_38 : decode cX7_makeRoom 38 = .ok (.imul, 1) := dq_of dqX7_makeRoom_0 23 rfl
theorem dX7_makeRoom_39 : decode cX7_makeRoom 39 = .ok (.invokestatic 33, 3) := dq_of dqX7_makeRoom_0 24 rfl
theorem dX7_makeRoom_42 : decode cX7_makeRoom 42 = .ok (.putfield 9, 3) := dq_of dqX7_makeRoom_0 25 rfl
theorem dX7_makeRoom_45 : decode cX7_makeRoom 45 = .ok (.aload_n 0, 1) := dq_of dqX7_makeRoom_0 26 rfl
theorem dX7_makeRoom_46 : decode cX7_makeRoom 46 = .ok (.getfield 15, 3) := dq_of dqX7_makeRoom_0 27 rfl
theorem dX7_makeRoom_49 : decode cX7_makeRoom 49 = .ok (.iload_n 1, 1) := dq_of dqX7_makeRoom_0 28 rfl
theorem dX7_makeRoom_50 : decode cX7_makeRoom 50 = .ok (.iadd, 1) := dq_of dqX7_makeRoom_0 29 rfl
theorem dX7_makeRoom_51 : decode cX7_makeRoom 51 = .ok (.aload_n 0, 1) := dq_of dqX7_makeRoom_0 30 rfl
theorem dX7_makeRoom_52 : decode cX7_makeRoom 52 = .ok (.getfield 9, 3) := dq_of dqX7_makeRoom_0 31 rfl
theorem dX7_makeRoom_55 : decode cX7_makeRoom 55 = .ok (.arraylength, 1) := dq_of dqX7_makeRoom_0 32 rfl
theorem dX7_makeRoom_56 : decode cX7_makeRoom 56 = .ok (.if_icmp .gt 7, 3) := dq_of dqX7_makeRoom_0 33 rfl
theorem dX7_makeRoom_59 : decode cX7_makeRoom 59 = .ok (.iconst 1, 1) := dq_of dqX7_makeRoom_0 34 rfl
theorem dX7_makeRoom_60 : decode cX7_makeRoom 60 = .ok (.goto 4, 3) := dq_of dqX7_makeRoom_0 35 rfl
theorem dX7_makeRoom_63 : decode cX7_makeRoom 63 = .ok (.iconst 0, 1) := dq_of dqX7_makeRoom_0 36 rfl
theorem dX7_makeRoom_64 : decode cX7_makeRoom 64 = .ok (.ireturn, 1) := dq_of dqX7_makeRoom_0 37 rfl
theorem dqX7_appendFour_0 : ([(0, .bipush 24, 2), (2, .istore_n 2, 1), (3, .iload_n 2, 1), (4, .ifCond .lt 44, 3), (7, .aload_n 0, 1), (8, .getfield 15, 3), (11, .aload_n 0, 1), (12, .getfield 9, 3), (15, .arraylength, 1), (16, .if_icmp .ge 32, 3), (19, .aload_n 0, 1), (20, .getfield 9, 3), (23, .aload_n 0, 1), (24, .getfield 15, 3), (27, .iload_n 1, 1), (28, .iload_n 2, 1), (29, .iushr, 1), (30, .i2b, 1), (31, .bastore, 1), (32, .aload_n 0, 1), (33, .dup, 1), (34, .getfield 15, 3), (37, .iconst 1, 1), (38, .iadd, 1), (39, .putfield 15, 3), (42, .iinc 2 (-8), 3), (45, .goto (-42), 3), (48, .return_, 1)] : List (Nat × Instr × Nat)).all (fun q => decide (decode cX7_appendFour q.1 = .ok (q.2.1, q.2.2))) = true := by decide +kernel
theorem dX7_appendFour_0 : decode cX7_appendFour 0 = .ok (.bipush 24, 2) := dq_of dqX7_appendFour_0 0 rfl
theorem dX7_appendFour_2 : decode cX7_appendFour 2 = .ok (.istore_n 2, 1) := dq_of dqX7_appendFour_0 1 rfl
theorem dX7_appendFour_3 : decode cX7_appendFour 3 = .ok (.iload_n 2, 1) := dq_of dqX7_appendFour_0 2 rfl
theorem dX7_appendFour_4 : decode cX7_appendFour 4 = .ok (.ifCond .lt 44, 3) := dq_of dqX7_appendFour_0 3 rfl
theorem dX7_appendFour_7 : decode cX7_appendFour 7 = .ok (.aload_n 0, 1) := dq_of dqX7_appendFour_0 4 rfl
theorem dX7_appendFour_8 : decode cX7_appendFour 8 = .ok (.getfield 15, 3) := dq_of dqX7_appendFour_0 5 rfl
theorem dX7_appendFour_11 : decode cX7_appendFour 11 = .ok (.aload_n 0, 1) := dq_of dqX7_appendFour_0 6 rfl
theorem dX7_appendFour_12 : decode cX7_appendFour 12 = .ok (.getfield 9, 3) := dq_of dqX7_appendFour_0 7 rfl
theorem dX7_appendFour_15 : decode cX7_appendFour 15 = .ok (.arraylength, 1) := dq_of dqX7_appendFour_0 8 rfl
theorem dX7_appendFour_16 : decode cX7_appendFour 16 = .ok (.if_icmp .ge 32, 3) := dq_of dqX7_appendFour_0 9 rfl
theorem dX7_appendFour_19 : decode cX7_appendFour 19 = .ok (.aload_n 0, 1) := dq_of dqX7_appendFour_0 10 rfl
theorem dX7_appendFour_20 : decode cX7_appendFour 20 = .ok (.getfield 9, 3) := dq_of dqX7_appendFour_0 11 rfl
theorem dX7_appendFour_23 : decode cX7_appendFour 23 = .ok (.aload_n 0, 1) := dq_of dqX7_appendFour_0 12 rfl
theorem dX7_appendFour_24 : decode cX7_appendFour 24 = .ok (.getfield 15, 3) := dq_of dqX7_appendFour_0 13 rfl
theorem dX7_appendFour_27 : decode cX7_appendFour 27 = .ok (.iload_n 1, 1) := dq_of dqX7_appendFour_0 14 rfl
theorem dX7_appendFour_28 : decode cX7_appendFour 28 = .ok (.iload_n 2, 1) := dq_of dqX7_appendFour_0 15 rfl
theorem dX7_appendFour_29 : decode cX7_appendFour 29 = .ok (.iushr, 1) := dq_of dqX7_appendFour_0 16 rfl
theorem dX7_appendFour_30 : decode cX7_appendFour 30 = .ok (.i2b, 1) := dq_of dqX7_appendFour_0 17 rfl
theorem dX7_appendFour_31 : decode cX7_appendFour 31 = .ok (.bastore, 1) := dq_of dqX7_appendFour_0 18 rfl
theorem dX7_appendFour_32 : decode cX7_appendFour 32 = .ok (.aload_n 0, 1) := dq_of dqX7_appendFour_0 19 rfl
theorem dX7_appendFour_33 : decode cX7_appendFour 33 = .ok (.dup, 1) := dq_of dqX7_appendFour_0 20 rfl
theorem dX7_appendFour_34 : decode cX7_appendFour 34 = .ok (.getfield 15, 3) := dq_of dqX7_appendFour_0 21 rfl
theorem dX7_appendFour_37 : decode cX7_appendFour 37 = .ok (.iconst 1, 1) := dq_of dqX7_appendFour_0 22 rfl
theorem dX7_appendFour_38 : decode cX7_appendFour 38 = .ok (.iadd, 1) := dq_of dqX7_appendFour_0 23 rfl
theorem dX7_appendFour_39 : decode cX7_appendFour 39 = .ok (.putfield 15, 3) := dq_of dqX7_appendFour_0 24 rfl
theorem dX7_appendFour_42 : decode cX7_appendFour 42 = .ok (.iinc 2 (-8), 3) := dq_of dqX7_appendFour_0 25 rfl
theorem dX7_appendFour_45 : decode cX7_appendFour 45 = .ok (.goto (-42), 3) := dq_of dqX7_appendFour_0 26 rfl
theorem dX7_appendFour_48 : decode cX7_appendFour 48 = .ok (.return_, 1) := dq_of dqX7_appendFour_0 27 rfl
theorem dqX7_cutTo_0 : ([(0, .iload_n 1, 1), (1, .ifCond .lt 11, 3), (4, .iload_n 1, 1), (5, .aload_n 0, 1), (6, .getfield 15, 3), (9, .if_icmp .le 5, 3), (12, .iconst 0, 1), (13, .ireturn, 1), (14, .aload_n 0, 1), (15, .iload_n 1, 1), (16, .putfield 15, 3), (19, .iconst 1, 1), (20, .ireturn, 1)] : List (Nat × Instr × Nat)).all (fun q => decide (decode cX7_cutTo q.1 = .ok (q.2.1, q.2.2))) = true := by decide +kernel
theorem dX7_cutTo_0 : decode cX7_cutTo 0 = .ok (.iload_n 1, 1) := dq_of dqX7_cutTo_0 0 rfl
theorem dX7_cutTo_1 : decode cX7_cutTo 1 = .ok (.ifCond .lt 11, 3) := dq_of dqX7_cutTo_0 1 rfl
theorem dX7_cutTo_4 : decode cX7_cutTo 4 = .ok (.iload_n 1, 1) := dq_of dqX7_cutTo_0 2 rfl
theorem dX7_cutTo_5 : decode cX7_cutTo 5 = .ok (.aload_n 0, 1) := dq_of dqX7_cutTo_0 3 rfl
theorem dX7_cutTo_6 : decode cX7_cutTo 6 = .ok (.getfield 15, 3) := dq_of dqX7_cutTo_0 4 rfl
theorem dX7_cutTo_9 : decode cX7_cutTo 9 = .ok (.if_icmp .le 5, 3) := dq_of dqX7_cutTo_0 5 rfl
theorem dX7_cutTo_12 : decode cX7_cutTo 12 = .ok (.iconst 0, 1) := dq_of dqX7_cutTo_0 6 rfl
theorem dX7_cutTo_13 : decode cX7_cutTo 13 = .ok (.ireturn, 1) := dq_of dqX7_cutTo_0 7 rfl
theorem dX7_cutTo_14 : decode cX7_cutTo 14 = .ok (.aload_n 0, 1) := dq_of dqX7_cutTo_0 8 rfl
theorem dX7_cutTo_15 : decode cX7_cutTo 15 = .ok (.iload_n 1, 1) := dq_of dqX7_cutTo_0 9 rfl
theorem dX7_cutTo_16 : decode cX7_cutTo 16 = .ok (.putfield 15, 3) := dq_of dqX7_cutTo_0 10 rfl
theorem dX7_cutTo_19 : decode cX7_cutTo 19 = .ok (.iconst 1, 1) := dq_of dqX7_cutTo_0 11 rfl
theorem dX7_cutTo_20 : decode cX7_cutTo 20 = .ok (.ireturn, 1) := dq_of dqX7_cutTo_0 12 rfl
theorem dqX7_rewind_0 : ([(0, .aload_n 0, 1), (1, .iconst 0, 1), (2, .putfield 19, 3), (5, .aload_n 0, 1), (6, .iconst 1, 1), (7, .putfield 22, 3), (10, .aload_n 0, 1), (11, .iconst 0, 1), (12, .putfield 25, 3), (15, .aload_n 0, 1), (16, .iconst 0, 1), (17, .putfield 28, 3), (20, .return_, 1)] : List (Nat × Instr × Nat)).all (fun q => decide (decode cX7_rewind q.1 = .ok (q.2.1, q.2.2))) = true := by decide +kernel
theorem dX7_rewind_0 : decode cX7_rewind 0 = .ok (.aload_n 0, 1) := dq_of dqX7_rewind_0 0 rfl
theorem dX7_rewind_1 : decode cX7_rewind 1 = .ok (.iconst 0, 1) := dq_of dqX7_rewind_0 1 rfl
theorem dX7_rewind_2 : decode cX7_rewind 2 = .ok (.putfield 19, 3) := dq_of dqX7_rewind_0 2 rfl
theorem dX7_rewind_5 : decode cX7_rewind 5 = .ok (.aload_n 0, 1) := dq_of dqX7_rewind_0 3 rfl
theorem dX7_rewind_6 : decode cX7_rewind 6 = .ok (.iconst 1, 1) := dq_of dqX7_rewind_0 4 rfl
theorem dX7_rewind_7 : decode cX7_rewind 7 = .ok (.putfield 22, 3) := dq_of dqX7_rewind_0 5 rfl
theorem dX7_rewind_10 : decode cX7_rewind 10 = .ok (.aload_n 0, 1) := dq_of dqX7_rewind_0 6 rfl
theorem dX7_rewind_11 : decode cX7_rewind 11 = .ok (.iconst 0, 1) := dq_of dqX7_rewind_0 7 rfl
theorem dX7_rewind_12 : decode cX7_rewind 12 = .ok (.putfield 25, 3) := dq_of dqX7_rewind_0 8 rfl
theorem dX7_rewind_15 : decode cX7_rewind 15 = .ok (.aload_n 0, 1) := dq_of dqX7_rewind_0 9 rfl
theorem dX7_rewind_16 : decode cX7_rewind 16 = .ok (.iconst 0, 1) := dq_of dqX7_rewind_0 10 rfl
theorem dX7_rewind_17 : decode cX7_rewind 17 = .ok (.putfield 28, 3) := dq_of dqX7_rewind_0 11 rfl
theorem dX7_rewind_20 : decode cX7_rewind 20 = .ok (.return_, 1) := dq_of dqX7_rewind_0 12 rfl
theorem dqX7_here_0 : ([(0, .aload_n 0, 1), (1, .getfield 19, 3), (4, .ifCond .lt 42, 3), (7, .aload_n 0, 1), (8, .getfield 19, 3), (11, .aload_n 0, 1), (12, .getfield 15, 3), (15, .if_icmp .ge 31, 3), (18, .aload_n 0, 1), (19, .getfield 19, 3), (22, .aload_n 0, 1), (23, .getfield 9, 3), (26, .arraylength, 1), (27, .if_icmp .ge 19, 3), (30, .aload_n 0, 1), (31, .getfield 9, 3), (34, .aload_n 0, 1), (35, .getfield 19, 3), (38, .baload, 1), (39, .sipush 255, 3), (42, .iand, 1), (43, .goto 4, 3), (46, .iconst (-1), 1), (47, .ireturn, 1)] : List (Nat × Instr × Nat)).all (fun q => decide (decode cX7_here q.1 = .ok (q.2.1, q.2.2))) = true := by decide +kernel
theorem dX7_here_0 : decode cX7_here 0 = .ok (.aload_n 0, 1) := dq_of dqX7_here_0 0 rfl
theorem dX7_here_1 : decode cX7_here 1 = .ok (.getfield 19, 3) := dq_of dqX7_here_0 1 rfl
theorem dX7_here_4 : decode cX7_here 4 = .ok (.ifCond .lt 42, 3) := dq_of dqX7_here_0 2 rfl
theorem dX7_here_7 : decode cX7_here 7 = .ok (.aload_n 0, 1) := dq_of dqX7_here_0 3 rfl
theorem dX7_here_8 : decode cX7_here 8 = .ok (.getfield 19, 3) := dq_of dqX7_here_0 4 rfl
theorem dX7_here_11 : decode cX7_here 11 = .ok (.aload_n 0, 1) := dq_of dqX7_here_0 5 rfl
theorem dX7_here_12 : decode cX7_here 12 = .ok (.getfield 15, 3) := dq_of dqX7_here_0 6 rfl
theorem dX7_here_15 : decode cX7_here 15 = .ok (.if_icmp .ge 31, 3) := dq_of dqX7_here_0 7 rfl
theorem dX7_here_18 : decode cX7_here 18 = .ok (.aload_n 0, 1) := dq_of dqX7_here_0 8 rfl
theorem dX7_here_19 : decode cX7_here 19 = .ok (.getfield 19, 3) := dq_of dqX7_here_0 9 rfl
theorem dX7_here_22 : decode cX7_here 22 = .ok (.aload_n 0, 1) := dq_of dqX7_here_0 10 rfl
theorem dX7_here_23 : decode cX7_here 23 = .ok (.getfield 9, 3) := dq_of dqX7_here_0 11 rfl
theorem dX7_here_26 : decode cX7_here 26 = .ok (.arraylength, 1) := dq_of dqX7_here_0 12 rfl
theorem dX7_here_27 : decode cX7_here 27 = .ok (.if_icmp .ge 19, 3) := dq_of dqX7_here_0 13 rfl
theorem dX7_here_30 : decode cX7_here 30 = .ok (.aload_n 0, 1) := dq_of dqX7_here_0 14 rfl
theorem dX7_here_31 : decode cX7_here 31 = .ok (.getfield 9, 3) := dq_of dqX7_here_0 15 rfl
theorem dX7_here_34 : decode cX7_here 34 = .ok (.aload_n 0, 1) := dq_of dqX7_here_0 16 rfl
theorem dX7_here_35 : decode cX7_here 35 = .ok (.getfield 19, 3) := dq_of dqX7_here_0 17 rfl
theorem dX7_here_38 : decode cX7_here 38 = .ok (.baload, 1) := dq_of dqX7_here_0 18 rfl
theorem dX7_here_39 : decode cX7_here 39 = .ok (.sipush 255, 3) := dq_of dqX7_here_0 19 rfl
theorem dX7_here_42 : decode cX7_here 42 = .ok (.iand, 1) := dq_of dqX7_here_0 20 rfl
theorem dX7_here_43 : decode cX7_here 43 = .ok (.goto 4, 3) := dq_of dqX7_here_0 21 rfl
theorem dX7_here_46 : decode cX7_here 46 = .ok (.iconst (-1), 1) := dq_of dqX7_here_0 22 rfl
theorem dX7_here_47 : decode cX7_here 47 = .ok (.ireturn, 1) := dq_of dqX7_here_0 23 rfl
theorem dqX7_next_0 : ([(0, .aload_n 0, 1), (1, .getfield 19, 3), (4, .iconst 1, 1), (5, .iadd, 1), (6, .istore_n 1, 1), (7, .iload_n 1, 1), (8, .ifCond .lt 33, 3), (11, .iload_n 1, 1), (12, .aload_n 0, 1), (13, .getfield 15, 3), (16, .if_icmp .ge 25, 3), (19, .iload_n 1, 1), (20, .aload_n 0, 1), (21, .getfield 9, 3), (24, .arraylength, 1), (25, .if_icmp .ge 16, 3), (28, .aload_n 0, 1), (29, .getfield 9, 3), (32, .iload_n 1, 1), (33, .baload, 1), (34, .sipush 255, 3), (37, .iand, 1), (38, .goto 4, 3), (41, .iconst (-1), 1), (42, .ireturn, 1)] : List (Nat × Instr × Nat)).all (fun q => decide (decode cX7_next q.1 = .ok (q.2.1, q.2.2))) = true := by decide +kernel
theorem dX7_next_0 : decode cX7_next 0 = .ok (.aload_n 0, 1) := dq_of dqX7_next_0 0 rfl
theorem dX7_next_1 : decode cX7_next 1 = .ok (.getfield 19, 3) := dq_of dqX7_next_0 1 rfl
theorem dX7_next_4 : decode cX7_next 4 = .ok (.iconst 1, 1) := dq_of dqX7_next_0 2 rfl
theorem dX7_next_5 : decode cX7_next 5 = .ok (.iadd, 1) := dq_of dqX7_next_0 3 rfl
theorem dX7_next_6 : decode cX7_next 6 = .ok (.istore_n 1, 1) := dq_of dqX7_next_0 4 rfl
theorem dX7_next_7 : decode cX7_next 7 = .ok (.iload_n 1, 1) := dq_of dqX7_next_0 5 rfl
theorem dX7_next_8 : decode cX7_next 8 = .ok (.ifCond .lt 33, 3) := dq_of dqX7_next_0 6 rfl
theorem dX7_next_11 : decode cX7_next 11 = .ok (.iload_n 1, 1) := dq_of dqX7_next_0 7 rfl
theorem dX7_next_12 : decode cX7_next 12 = .ok (.aload_n 0, 1) := dq_of dqX7_next_0 8 rfl
theorem dX7_next_13 : decode cX7_next 13 = .ok (.getfield 15, 3) := dq_of dqX7_next_0 9 rfl
theorem dX7_next_16 : decode cX7_next 16 = .ok (.if_icmp .ge 25, 3) := dq_of dqX7_next_0 10 rfl
theorem dX7_next_19 : decode cX7_next 19 = .ok (.iload_n 1, 1) := dq_of dqX7_next_0 11 rfl
theorem dX7_next_20 : decode cX7_next 20 = .ok (.aload_n 0, 1) := dq_of dqX7_next_0 12 rfl
theorem dX7_next_21 : decode cX7_next 21 = .ok (.getfield 9, 3) := dq_of dqX7_next_0 13 rfl
theorem dX7_next_24 : decode cX7_next 24 = .ok (.arraylength, 1) := dq_of dqX7_next_0 14 rfl
theorem dX7_next_25 : decode cX7_next 25 = .ok (.if_icmp .ge 16, 3) := dq_of dqX7_next_0 15 rfl
theorem dX7_next_28 : decode cX7_next 28 = .ok (.aload_n 0, 1) := dq_of dqX7_next_0 16 rfl
theorem dX7_next_29 : decode cX7_next 29 = .ok (.getfield 9, 3) := dq_of dqX7_next_0 17 rfl
theorem dX7_next_32 : decode cX7_next 32 = .ok (.iload_n 1, 1) := dq_of dqX7_next_0 18 rfl
theorem dX7_next_33 : decode cX7_next 33 = .ok (.baload, 1) := dq_of dqX7_next_0 19 rfl
theorem dX7_next_34 : decode cX7_next 34 = .ok (.sipush 255, 3) := dq_of dqX7_next_0 20 rfl
theorem dX7_next_37 : decode cX7_next 37 = .ok (.iand, 1) := dq_of dqX7_next_0 21 rfl
theorem dX7_next_38 : decode cX7_next 38 = .ok (.goto 4, 3) := dq_of dqX7_next_0 22 rfl
theorem dX7_next_41 : decode cX7_next 41 = .ok (.iconst (-1), 1) := dq_of dqX7_next_0 23 rfl
theorem dX7_next_42 : decode cX7_next 42 = .ok (.ireturn, 1) := dq_of dqX7_next_0 24 rfl
theorem dqX7_step_0 : ([(0, .aload_n 0, 1), (1, .invokevirtual 39, 3), (4, .bipush 10, 2), (6, .if_icmp .ne 23, 3), (9, .aload_n 0, 1), (10, .dup, 1), (11, .getfield 22, 3), (14, .iconst 1, 1), (15, .iadd, 1), (16, .putfield 22, 3), (19, .aload_n 0, 1), (20, .aload_n 0, 1), (21, .getfield 19, 3), (24, .iconst 1, 1), (25, .iadd, 1), (26, .putfield 25, 3), (29, .aload_n 0, 1), (30, .dup, 1), (31, .getfield 19, 3), (34, .iconst 1, 1), (35, .iadd, 1), (36, .putfield 19, 3), (39, .return_, 1)] : List (Nat × Instr × Nat)).all (fun q => decide (decode cX7_step q.1 = .ok (q.2.1, q.2.2))) = true := by decide +kernel
theorem dX7_step_0 : decode cX7_step 0 = .ok (.aload_n 0, 1) := dq_of dqX7_step_0 0 rfl
theorem dX7_step_1 : decode cX7_step 1 = .ok (.invokevirtual 39, 3) := dq_of dqX7_step_0 1 rfl
theorem dX7_step_4 : decode cX7_step 4 = .ok (.bipush 10, 2) := dq_of dqX7_step_0 2 rfl
theorem dX7_step_6 : decode cX7_step 6 = .ok (.if_icmp .ne 23, 3) := dq_of dqX7_step_0 3 rfl
theorem dX7_step_9 : decode cX7_step 9 = .ok (.aload_n 0, 1) := dq_of dqX7_step_0 4 rfl
theorem dX7_step_10 : decode cX7_step 10 = .ok (.dup, 1) := dq_of dqX7_step_0 5 rfl
theorem dX7_step_11 : decode cX7_step 11 = .ok (.getfield 22, 3) := dq_of dqX7_step_0 6 rfl
theorem dX7_step_14 : decode cX7_step 14 = .ok (.iconst 1, 1) := dq_of dqX7_step_0 7 rfl
theorem dX7_step_15 : decode cX7_step 15 = .ok (.iadd, 1) := dq_of dqX7_step_0 8 rfl
theorem dX7_step_16 : decode cX7_step 16 = .ok (.putfield 22, 3) := dq_of dqX7_step_0 9 rfl
theorem dX7_step_19 : decode cX7_step 19 = .ok (.aload_n 0, 1) := dq_of dqX7_step_0 10 rfl
theorem dX7_step_20 : decode cX7_step 20 = .ok (.aload_n 0, 1) := dq_of dqX7_step_0 11 rfl
theorem dX7_step_21 : decode cX7_step 21 = .ok (.getfield 19, 3) := dq_of dqX7_step_0 12 rfl
theorem dX7_step_24 : decode cX7_step 24 = .ok (.iconst 1, 1) := dq_of dqX7_step_0 13 rfl
theorem dX7_step_25 : decode cX7_step 25 = .ok (.iadd, 1) := dq_of dqX7_step_0 14 rfl
theorem dX7_step_26 : decode cX7_step 26 = .ok (.putfield 25, 3) := dq_of dqX7_step_0 15 rfl
theorem dX7_step_29 : decode cX7_step 29 = .ok (.aload_n 0, 1) := dq_of dqX7_step_0 16 rfl
theorem dX7_step_30 : decode cX7_step 30 = .ok (.dup, 1) := dq_of dqX7_step_0 17 rfl
theorem dX7_step_31 : decode cX7_step 31 = .ok (.getfield 19, 3) := dq_of dqX7_step_0 18 rfl
theorem dX7_step_34 : decode cX7_step 34 = .ok (.iconst 1, 1) := dq_of dqX7_step_0 19 rfl
theorem dX7_step_35 : decode cX7_step 35 = .ok (.iadd, 1) := dq_of dqX7_step_0 20 rfl
theorem dX7_step_36 : decode cX7_step 36 = .ok (.putfield 19, 3) := dq_of dqX7_step_0 21 rfl
theorem dX7_step_39 : decode cX7_step 39 = .ok (.return_, 1) := dq_of dqX7_step_0 22 rfl
theorem dqX7_refuse_0 : ([(0, .aload_n 0, 1), (1, .iconst 1, 1), (2, .putfield 28, 3), (5, .iconst (-1), 1), (6, .ireturn, 1)] : List (Nat × Instr × Nat)).all (fun q => decide (decode cX7_refuse q.1 = .ok (q.2.1, q.2.2))) = true := by decide +kernel
theorem dX7_refuse_0 : decode cX7_refuse 0 = .ok (.aload_n 0, 1) := dq_of dqX7_refuse_0 0 rfl
theorem dX7_refuse_1 : decode cX7_refuse 1 = .ok (.iconst 1, 1) := dq_of dqX7_refuse_0 1 rfl
theorem dX7_refuse_2 : decode cX7_refuse 2 = .ok (.putfield 28, 3) := dq_of dqX7_refuse_0 2 rfl
theorem dX7_refuse_5 : decode cX7_refuse 5 = .ok (.iconst (-1), 1) := dq_of dqX7_refuse_0 3 rfl
theorem dX7_refuse_6 : decode cX7_refuse 6 = .ok (.ireturn, 1) := dq_of dqX7_refuse_0 4 rfl
theorem dqX7_refuseAt_0 : ([(0, .aload_n 0, 1), (1, .iload_n 1, 1), (2, .putfield 19, 3), (5, .aload_n 0, 1), (6, .iconst 1, 1), (7, .putfield 28, 3), (10, .return_, 1)] : List (Nat × Instr × Nat)).all (fun q => decide (decode cX7_refuseAt q.1 = .ok (q.2.1, q.2.2))) = true := by decide +kernel
theorem dX7_refuseAt_0 : decode cX7_refuseAt 0 = .ok (.aload_n 0, 1) := dq_of dqX7_refuseAt_0 0 rfl
theorem dX7_refuseAt_1 : decode cX7_refuseAt 1 = .ok (.iload_n 1, 1) := dq_of dqX7_refuseAt_0 1 rfl
theorem dX7_refuseAt_2 : decode cX7_refuseAt 2 = .ok (.putfield 19, 3) := dq_of dqX7_refuseAt_0 2 rfl
theorem dX7_refuseAt_5 : decode cX7_refuseAt 5 = .ok (.aload_n 0, 1) := dq_of dqX7_refuseAt_0 3 rfl
theorem dX7_refuseAt_6 : decode cX7_refuseAt 6 = .ok (.iconst 1, 1) := dq_of dqX7_refuseAt_0 4 rfl
theorem dX7_refuseAt_7 : decode cX7_refuseAt 7 = .ok (.putfield 28, 3) := dq_of dqX7_refuseAt_0 5 rfl
theorem dX7_refuseAt_10 : decode cX7_refuseAt 10 = .ok (.return_, 1) := dq_of dqX7_refuseAt_0 6 rfl
theorem dqX7_character_0 : ([(0, .aload_n 0, 1), (1, .invokevirtual 39, 3), (4, .istore_n 1, 1), (5, .iload_n 1, 1), (6, .sipush 128, 3), (9, .if_icmp .ge 18, 3), (12, .iload_n 1, 1), (13, .ifCond .gt 8, 3), (16, .aload_n 0, 1), (17, .invokevirtual 43, 3), (20, .ireturn, 1), (21, .aload_n 0, 1), (22, .invokevirtual 46, 3), (25, .iload_n 1, 1), (26, .ireturn, 1), (27, .iload_n 1, 1), (28, .sipush 194, 3), (31, .if_icmp .lt 10, 3), (34, .iload_n 1, 1), (35, .sipush 244, 3), (38, .if_icmp .le 8, 3), (41, .aload_n 0, 1), (42, .invokevirtual 43, 3), (45, .ireturn, 1), (46, .aload_n 0, 1), (47, .invokevirtual 46, 3), (50, .iload_n 1, 1), (51, .sipush 240, 3), (54, .if_icmp .lt 7, 3), (57, .iconst 3, 1), (58, .goto 15, 3), (61, .iload_n 1, 1), (62, .sipush 224, 3), (65, .if_icmp .lt 7, 3), (68, .iconst 2, 1), (69, .goto 4, 3), (72, .iconst 1, 1), (73, .istore_n 2, 1), (74, .iload_n 2, 1), (75, .iconst 3, 1)] : List (Nat × Instr × Nat)).all (fun q => decide (decode cX7_character q.1 = .ok (q.2.1, q.2.2))) = true := by decide +kernel
theorem dX7_character_0 : decode cX7_character 0 = .ok (.aload_n 0, 1) := dq_of dqX7_character_0 0 rfl
theorem dX7_character_1 : decode cX7_character 1 = .ok (.invokevirtual 39, 3) := dq_of dqX7_character_0 1 rfl
theorem dX7_character_4 : decode cX7_character 4 = .ok (.istore_n 1, 1) := dq_of dqX7_character_0 2 rfl
theorem dX7_character_5 : decode cX7_character 5 = .ok (.iload_n 1, 1) := dq_of dqX7_character_0 3 rfl
theorem dX7_character_6 : decode cX7_character 6 = .ok (.sipush 128, 3) := dq_of dqX7_character_0 4 rfl
theorem dX7_character_9 : decode cX7_character 9 = .ok (.if_icmp .ge 18, 3) := dq_of dqX7_character_0 5 rfl
theorem dX7_character_12 : decode cX7_character 12 = .ok (.iload_n 1, 1) := dq_of dqX7_character_0 6 rfl
theorem dX7_character_13 : decode cX7_character 13 = .ok (.ifCond .gt 8, 3) := dq_of dqX7_character_0 7 rfl
theorem dX7_character_16 : decode cX7_character 16 = .ok (.aload_n 0, 1) := dq_of dqX7_character_0 8 rfl
theorem dX7_character_17 : decode cX7_character 17 = .ok (.invokevirtual 43, 3) := dq_of dqX7_character_0 9 rfl
theorem dX7_character_20 : decode cX7_character 20 = .ok (.ireturn, 1) := dq_of dqX7_character_0 10 rfl
theorem dX7_character_21 : decode cX7_character 21 = .ok (.aload_n 0, 1) := dq_of dqX7_character_0 11 rfl
theorem dX7_character_22 : decode cX7_character 22 = .ok (.invokevirtual 46, 3) := dq_of dqX7_character_0 12 rfl
theorem dX7_character_25 : decode cX7_character 25 = .ok (.iload_n 1, 1) := dq_of dqX7_character_0 13 rfl
theorem dX7_character_26 : decode cX7_character 26 = .ok (.ireturn, 1) := dq_of dqX7_character_0 14 rfl
theorem dX7_character_27 : decode cX7_character 27 = .ok (.iload_n 1, 1) := dq_of dqX7_character_0 15 rfl
theorem dX7_character_28 : decode cX7_character 28 = .ok (.sipush 194, 3) := dq_of dqX7_character_0 16 rfl
theorem dX7_character_31 : decode cX7_character 31 = .ok (.if_icmp .lt 10, 3) := dq_of dqX7_character_0 17 rfl
theorem dX7_character_34 : decode cX7_character 34 = .ok (.iload_n 1, 1) := dq_of dqX7_character_0 18 rfl
theorem dX7_character_35 : decode cX7_character 35 = .ok (.sipush 244, 3) := dq_of dqX7_character_0 19 rfl
theorem dX7_character_38 : decode cX7_character 38 = .ok (.if_icmp .le 8, 3) := dq_of dqX7_character_0 20 rfl
theorem dX7_character_41 : decode cX7_character 41 = .ok (.aload_n 0, 1) := dq_of dqX7_character_0 21 rfl
theorem dX7_character_42 : decode cX7_character 42 = .ok (.invokevirtual 43, 3) := dq_of dqX7_character_0 22 rfl
theorem dX7_character_45 : decode cX7_character 45 = .ok (.ireturn, 1) := dq_of dqX7_character_0 23 rfl
theorem dX7_character_46 : decode cX7_character 46 = .ok (.aload_n 0, 1) := dq_of dqX7_character_0 24 rfl
theorem dX7_character_47 : decode cX7_character 47 = .ok (.invokevirtual 46, 3) := dq_of dqX7_character_0 25 rfl
theorem dX7_character_50 : decode cX7_character 50 = .ok (.iload_n 1, 1) := dq_of dqX7_character_0 26 rfl
theorem dX7_character_51 : decode cX7_character 51 = .ok (.sipush 240, 3) := dq_of dqX7_character_0 27 rfl
theorem dX7_character_54 : decode cX7_character 54 = .ok (.if_icmp .lt 7, 3) := dq_of dqX7_character_0 28 rfl
theorem dX7_character_57 : decode cX7_character 57 = .ok (.iconst 3, 1) := dq_of dqX7_character_0 29 rfl
theorem dX7_character_58 : decode cX7_character 58 = .ok (.goto 15, 3) := dq_of dqX7_character_0 30 rfl
theorem dX7_character_61 : decode cX7_character 61 = .ok (.iload_n 1, 1) := dq_of dqX7_character_0 31 rfl
theorem dX7_character_62 : decode cX7_character 62 = .ok (.sipush 224, 3) := dq_of dqX7_character_0 32 rfl
theorem dX7_character_65 : decode cX7_character 65 = .ok (.if_icmp .lt 7, 3) := dq_of dqX7_character_0 33 rfl
theorem dX7_character_68 : decode cX7_character 68 = .ok (.iconst 2, 1) := dq_of dqX7_character_0 34 rfl
theorem dX7_character_69 : decode cX7_character 69 = .ok (.goto 4, 3) := dq_of dqX7_character_0 35 rfl
theorem dX7_character_72 : decode cX7_character 72 = .ok (.iconst 1, 1) := dq_of dqX7_character_0 36 rfl
theorem dX7_character_73 : decode cX7_character 73 = .ok (.istore_n 2, 1) := dq_of dqX7_character_0 37 rfl
theorem dX7_character_74 : decode cX7_character 74 = .ok (.iload_n 2, 1) := dq_of dqX7_character_0 38 rfl
theorem dX7_character_75 : decode cX7_character 75 = .ok (.iconst 3, 1) := dq_of dqX7_character_0 39 rfl
theorem dqX7_character_76 : ([(76, .if_icmp .ne 8, 3), (79, .ldc 32, 2), (81, .goto 17, 3), (84, .iload_n 2, 1), (85, .iconst 2, 1), (86, .if_icmp .ne 9, 3), (89, .sipush 2048, 3), (92, .goto 6, 3), (95, .sipush 128, 3), (98, .istore_n 3, 1), (99, .iload_n 1, 1), (100, .bipush 63, 2), (102, .iload_n 2, 1), (103, .ishr, 1), (104, .iand, 1), (105, .istore 4, 2), (107, .iload_n 2, 1), (108, .ifCond .le 93, 3), (111, .aload_n 0, 1), (112, .invokevirtual 39, 3), (115, .istore 5, 2), (117, .iload 4, 2), (119, .bipush 6, 2), (121, .ishl, 1), (122, .iload 5, 2), (124, .bipush 63, 2), (126, .iand, 1), (127, .ior, 1), (128, .istore 4, 2), (130, .iload 4, 2), (132, .bipush 6, 2), (134, .iload_n 2, 1), (135, .iconst 1, 1), (136, .isub, 1), (137, .imul, 1), (138, .ishl, 1), (139, .istore 6, 2), (141, .iload 6, 2), (143, .iconst 1, 1), (144, .bipush 6, 2)] : List (Nat × Instr × Nat)).all (fun q => decide (decode cX7_character q.1 = .ok (q.2.1, q.2.2))) = true := by decide +kernel
theorem dX7_character_76 : decode cX7_character 76 = .ok (.if_icmp .ne 8, 3) := dq_of dqX7_character_76 0 rfl
theorem dX7_character_79 : decode cX7_character 79 = .ok (.ldc 32, 2) := dq_of dqX7_character_76 1 rfl
theorem dX7_character_81 : decode cX7_character 81 = .ok (.goto 17, 3) := dq_of dqX7_character_76 2 rfl
theorem dX7_character_84 : decode cX7_character 84 = .ok (.iload_n 2, 1) := dq_of dqX7_character_76 3 rfl
theorem dX7_character_85 : decode cX7_character 85 = .ok (.iconst 2, 1) := dq_of dqX7_character_76 4 rfl
theorem dX7_character_86 : decode cX7_character 86 = .ok (.if_icmp .ne 9, 3) := dq_of dqX7_character_76 5 rfl
theorem dX7_character_89 : decode cX7_character 89 = .ok (.sipush 2048, 3) := dq_of dqX7_character_76 6 rfl
theorem dX7_character_92 : decode cX7_character 92 = .ok (.goto 6, 3) := dq_of dqX7_character_76 7 rfl
theorem dX7_character_95 : decode cX7_character 95 = .ok (.sipush 128, 3) := dq_of dqX7_character_76 8 rfl
theorem dX7_character_98 : decode cX7_character 98 = .ok (.istore_n 3, 1) := dq_of dqX7_character_76 9 rfl
theorem dX7_character_99 : decode cX7_character 99 = .ok (.iload_n 1, 1) := dq_of dqX7_character_76 10 rfl
theorem dX7_character_100 : decode cX7_character 100 = .ok (.bipush 63, 2) := dq_of dqX7_character_76 11 rfl
theorem dX7_character_102 : decode cX7_character 102 = .ok (.iload_n 2, 1) := dq_of dqX7_character_76 12 rfl
theorem dX7_character_103 : decode cX7_character 103 = .ok (.ishr, 1) := dq_of dqX7_character_76 13 rfl
theorem dX7_character_104 : decode cX7_character 104 = .ok (.iand, 1) := dq_of dqX7_character_76 14 rfl
theorem dX7_character_105 : decode cX7_character 105 = .ok (.istore 4, 2) := dq_of dqX7_character_76 15 rfl
theorem dX7_character_107 : decode cX7_character 107 = .ok (.iload_n 2, 1) := dq_of dqX7_character_76 16 rfl
theorem dX7_character_108 : decode cX7_character 108 = .ok (.ifCond .le 93, 3) := dq_of dqX7_character_76 17 rfl
theorem dX7_character_111 : decode cX7_character 111 = .ok (.aload_n 0, 1) := dq_of dqX7_character_76 18 rfl
theorem dX7_character_112 : decode cX7_character 112 = .ok (.invokevirtual 39, 3) := dq_of dqX7_character_76 19 rfl
theorem dX7_character_115 : decode cX7_character 115 = .ok (.istore 5, 2) := dq_of dqX7_character_76 20 rfl
theorem dX7_character_117 : decode cX7_character 117 = .ok (.iload 4, 2) := dq_of dqX7_character_76 21 rfl
theorem dX7_character_119 : decode cX7_character 119 = .ok (.bipush 6, 2) := dq_of dqX7_character_76 22 rfl
theorem dX7_character_121 : decode cX7_character 121 = .ok (.ishl, 1) := dq_of dqX7_character_76 23 rfl
theorem dX7_character_122 : decode cX7_character 122 = .ok (.iload 5, 2) := dq_of dqX7_character_76 24 rfl
theorem dX7_character_124 : decode cX7_character 124 = .ok (.bipush 63, 2) := dq_of dqX7_character_76 25 rfl
theorem dX7_character_126 : decode cX7_character 126 = .ok (.iand, 1) := dq_of dqX7_character_76 26 rfl
theorem dX7_character_127 : decode cX7_character 127 = .ok (.ior, 1) := dq_of dqX7_character_76 27 rfl
theorem dX7_character_128 : decode cX7_character 128 = .ok (.istore 4, 2) := dq_of dqX7_character_76 28 rfl
theorem dX7_character_130 : decode cX7_character 130 = .ok (.iload 4, 2) := dq_of dqX7_character_76 29 rfl
theorem dX7_character_132 : decode cX7_character 132 = .ok (.bipush 6, 2) := dq_of dqX7_character_76 30 rfl
theorem dX7_character_134 : decode cX7_character 134 = .ok (.iload_n 2, 1) := dq_of dqX7_character_76 31 rfl
theorem dX7_character_135 : decode cX7_character 135 = .ok (.iconst 1, 1) := dq_of dqX7_character_76 32 rfl
theorem dX7_character_136 : decode cX7_character 136 = .ok (.isub, 1) := dq_of dqX7_character_76 33 rfl
theorem dX7_character_137 : decode cX7_character 137 = .ok (.imul, 1) := dq_of dqX7_character_76 34 rfl
theorem dX7_character_138 : decode cX7_character 138 = .ok (.ishl, 1) := dq_of dqX7_character_76 35 rfl
theorem dX7_character_139 : decode cX7_character 139 = .ok (.istore 6, 2) := dq_of dqX7_character_76 36 rfl
theorem dX7_character_141 : decode cX7_character 141 = .ok (.iload 6, 2) := dq_of dqX7_character_76 37 rfl
theorem dX7_character_143 : decode cX7_character 143 = .ok (.iconst 1, 1) := dq_of dqX7_character_76 38 rfl
theorem dX7_character_144 : decode cX7_character 144 = .ok (.bipush 6, 2) := dq_of dqX7_character_76 39 rfl
theorem dqX7_character_146 : ([(146, .iload_n 2, 1), (147, .iconst 1, 1), (148, .isub, 1), (149, .imul, 1), (150, .ishl, 1), (151, .iadd, 1), (152, .iconst 1, 1), (153, .isub, 1), (154, .istore 7, 2), (156, .iload 5, 2), (158, .sipush 192, 3), (161, .iand, 1), (162, .sipush 128, 3), (165, .if_icmp .ne 21, 3), (168, .iload 7, 2), (170, .iload_n 3, 1), (171, .if_icmp .lt 15, 3), (174, .iload 6, 2), (176, .i2l, 1), (177, .iload 7, 2), (179, .i2l, 1), (180, .invokestatic 49, 3), (183, .ifCond .ne 8, 3), (186, .aload_n 0, 1), (187, .invokevirtual 43, 3), (190, .ireturn, 1), (191, .aload_n 0, 1), (192, .invokevirtual 46, 3), (195, .iinc 2 (-1), 3), (198, .goto (-91), 3), (201, .iload 4, 2), (203, .ireturn, 1)] : List (Nat × Instr × Nat)).all (fun q => decide (decode cX7_character q.1 = .ok (q.2.1, q.2.2))) = true := by decide +kernel
theorem dX7_character_146 : decode cX7_character 146 = .ok (.iload_n 2, 1) := dq_of dqX7_character_146 0 rfl
theorem dX7_character_147 : decode cX7_character 147 = .ok (.iconst 1, 1) := dq_of dqX7_character_146 1 rfl
theorem dX7_character_148 : decode cX7_character 148 = .ok (.isub, 1) := dq_of dqX7_character_146 2 rfl
theorem dX7_character_149 : decode cX7_character 149 = .ok (.imul, 1) := dq_of dqX7_character_146 3 rfl
theorem dX7_character_150 : decode cX7_character 150 = .ok (.ishl, 1) := dq_of dqX7_character_146 4 rfl
theorem dX7_character_151 : decode cX7_character 151 = .ok (.iadd, 1) := dq_of dqX7_character_146 5 rfl
theorem dX7_character_152 : decode cX7_character 152 = .ok (.iconst 1, 1) := dq_of dqX7_character_146 6 rfl
theorem dX7_character_153 : decode cX7_character 153 = .ok (.isub, 1) := dq_of dqX7_character_146 7 rfl
theorem dX7_character_154 : decode cX7_character 154 = .ok (.istore 7, 2) := dq_of dqX7_character_146 8 rfl
theorem dX7_character_156 : decode cX7_character 156 = .ok (.iload 5, 2) := dq_of dqX7_character_146 9 rfl
theorem dX7_character_158 : decode cX7_character 158 = .ok (.sipush 192, 3) := dq_of dqX7_character_146 10 rfl
theorem dX7_character_161 : decode cX7_character 161 = .ok (.iand, 1) := dq_of dqX7_character_146 11 rfl
theorem dX7_character_162 : decode cX7_character 162 = .ok (.sipush 128, 3) := dq_of dqX7_character_146 12 rfl
theorem dX7_character_165 : decode cX7_character 165 = .ok (.if_icmp .ne 21, 3) := dq_of dqX7_character_146 13 rfl
theorem dX7_character_168 : decode cX7_character 168 = .ok (.iload 7, 2) := dq_of dqX7_character_146 14 rfl
theorem dX7_character_170 : decode cX7_character 170 = .ok (.iload_n 3, 1) := dq_of dqX7_character_146 15 rfl
theorem dX7_character_171 : decode cX7_character 171 = .ok (.if_icmp .lt 15, 3) := dq_of dqX7_character_146 16 rfl
theorem dX7_character_174 : decode cX7_character 174 = .ok (.iload 6, 2) := dq_of dqX7_character_146 17 rfl
theorem dX7_character_176 : decode cX7_character 176 = .ok (.i2l, 1) := dq_of dqX7_character_146 18 rfl
theorem dX7_character_177 : decode cX7_character 177 = .ok (.iload 7, 2) := dq_of dqX7_character_146 19 rfl
theorem dX7_character_179 : decode cX7_character 179 = .ok (.i2l, 1) := dq_of dqX7_character_146 20 rfl
theorem dX7_character_180 : decode cX7_character 180 = .ok (.invokestatic 49, 3) := dq_of dqX7_character_146 21 rfl
theorem dX7_character_183 : decode cX7_character 183 = .ok (.ifCond .ne 8, 3) := dq_of dqX7_character_146 22 rfl
theorem dX7_character_186 : decode cX7_character 186 = .ok (.aload_n 0, 1) := dq_of dqX7_character_146 23 rfl
theorem dX7_character_187 : decode cX7_character 187 = .ok (.invokevirtual 43, 3) := dq_of dqX7_character_146 24 rfl
theorem dX7_character_190 : decode cX7_character 190 = .ok (.ireturn, 1) := dq_of dqX7_character_146 25 rfl
theorem dX7_character_191 : decode cX7_character 191 = .ok (.aload_n 0, 1) := dq_of dqX7_character_146 26 rfl
theorem dX7_character_192 : decode cX7_character 192 = .ok (.invokevirtual 46, 3) := dq_of dqX7_character_146 27 rfl
theorem dX7_character_195 : decode cX7_character 195 = .ok (.iinc 2 (-1), 3) := dq_of dqX7_character_146 28 rfl
theorem dX7_character_198 : decode cX7_character 198 = .ok (.goto (-91), 3) := dq_of dqX7_character_146 29 rfl
theorem dX7_character_201 : decode cX7_character 201 = .ok (.iload 4, 2) := dq_of dqX7_character_146 30 rfl
theorem dX7_character_203 : decode cX7_character 203 = .ok (.ireturn, 1) := dq_of dqX7_character_146 31 rfl
theorem dqX8_init_0 : ([(0, .aload_n 0, 1), (1, .invokespecial 3, 3), (4, .aload_n 0, 1), (5, .sipush 704, 3), (8, .newarray .int, 2), (10, .putfield 9, 3), (13, .aload_n 0, 1), (14, .iconst 0, 1), (15, .putfield 15, 3), (18, .aload_n 0, 1), (19, .new 19, 3), (22, .dup, 1), (23, .invokespecial 21, 3), (26, .putfield 22, 3), (29, .aload_n 0, 1), (30, .new 26, 3), (33, .dup, 1), (34, .invokespecial 28, 3), (37, .putfield 29, 3), (40, .return_, 1)] : List (Nat × Instr × Nat)).all (fun q => decide (decode cX8_init q.1 = .ok (q.2.1, q.2.2))) = true := by decide +kernel
theorem dX8_init_0 : decode cX8_init 0 = .ok (.aload_n 0, 1) := dq_of dqX8_init_0 0 rfl
theorem dX8_init_1 : decode cX8_init 1 = .ok (.invokespecial 3, 3) := dq_of dqX8_init_0 1 rfl
theorem dX8_init_4 : decode cX8_init 4 = .ok (.aload_n 0, 1) := dq_of dqX8_init_0 2 rfl
theorem dX8_init_5 : decode cX8_init 5 = .ok (.sipush 704, 3) := dq_of dqX8_init_0 3 rfl
theorem dX8_init_8 : decode cX8_init 8 = .ok (.newarray .int, 2) := dq_of dqX8_init_0 4 rfl
theorem dX8_init_10 : decode cX8_init 10 = .ok (.putfield 9, 3) := dq_of dqX8_init_0 5 rfl
theorem dX8_init_13 : decode cX8_init 13 = .ok (.aload_n 0, 1) := dq_of dqX8_init_0 6 rfl
theorem dX8_init_14 : decode cX8_init 14 = .ok (.iconst 0, 1) := dq_of dqX8_init_0 7 rfl
theorem dX8_init_15 : decode cX8_init 15 = .ok (.putfield 15, 3) := dq_of dqX8_init_0 8 rfl
theorem dX8_init_18 : decode cX8_init 18 = .ok (.aload_n 0, 1) := dq_of dqX8_init_0 9 rfl
theorem dX8_init_19 : decode cX8_init 19 = .ok (.new 19, 3) := dq_of dqX8_init_0 10 rfl
theorem dX8_init_22 : decode cX8_init 22 = .ok (.dup, 1) := dq_of dqX8_init_0 11 rfl
theorem dX8_init_23 : decode cX8_init 23 = .ok (.invokespecial 21, 3) := dq_of dqX8_init_0 12 rfl
theorem dX8_init_26 : decode cX8_init 26 = .ok (.putfield 22, 3) := dq_of dqX8_init_0 13 rfl
theorem dX8_init_29 : decode cX8_init 29 = .ok (.aload_n 0, 1) := dq_of dqX8_init_0 14 rfl
theorem dX8_init_30 : decode cX8_init 30 = .ok (.new 26, 3) := dq_of dqX8_init_0 15 rfl
theorem dX8_init_33 : decode cX8_init 33 = .ok (.dup, 1) := dq_of dqX8_init_0 16 rfl
theorem dX8_init_34 : decode cX8_init 34 = .ok (.invokespecial 28, 3) := dq_of dqX8_init_0 17 rfl
theorem dX8_init_37 : decode cX8_init 37 = .ok (.putfield 29, 3) := dq_of dqX8_init_0 18 rfl
theorem dX8_init_40 : decode cX8_init 40 = .ok (.return_, 1) := dq_of dqX8_init_0 19 rfl
theorem dqX8_clear_0 : ([(0, .aload_n 0, 1), (1, .iconst 0, 1), (2, .putfield 15, 3), (5, .aload_n 0, 1), (6, .getfield 22, 3), (9, .iconst 0, 1), (10, .putfield 33, 3), (13, .aload_n 0, 1), (14, .getfield 29, 3), (17, .invokevirtual 36, 3), (20, .return_, 1)] : List (Nat × Instr × Nat)).all (fun q => decide (decode cX8_clear q.1 = .ok (q.2.1, q.2.2))) = true := by decide +kernel
theorem dX8_clear_0 : decode cX8_clear 0 = .ok (.aload_n 0, 1) := dq_of dqX8_clear_0 0 rfl
theorem dX8_clear_1 : decode cX8_clear 1 = .ok (.iconst 0, 1) := dq_of dqX8_clear_0 1 rfl
theorem dX8_clear_2 : decode cX8_clear 2 = .ok (.putfield 15, 3) := dq_of dqX8_clear_0 2 rfl
theorem dX8_clear_5 : decode cX8_clear 5 = .ok (.aload_n 0, 1) := dq_of dqX8_clear_0 3 rfl
theorem dX8_clear_6 : decode cX8_clear 6 = .ok (.getfield 22, 3) := dq_of dqX8_clear_0 4 rfl
theorem dX8_clear_9 : decode cX8_clear 9 = .ok (.iconst 0, 1) := dq_of dqX8_clear_0 5 rfl
theorem dX8_clear_10 : decode cX8_clear 10 = .ok (.putfield 33, 3) := dq_of dqX8_clear_0 6 rfl
theorem dX8_clear_13 : decode cX8_clear 13 = .ok (.aload_n 0, 1) := dq_of dqX8_clear_0 7 rfl
theorem dX8_clear_14 : decode cX8_clear 14 = .ok (.getfield 29, 3) := dq_of dqX8_clear_0 8 rfl
theorem dX8_clear_17 : decode cX8_clear 17 = .ok (.invokevirtual 36, 3) := dq_of dqX8_clear_0 9 rfl
theorem dX8_clear_20 : decode cX8_clear 20 = .ok (.return_, 1) := dq_of dqX8_clear_0 10 rfl
theorem dqX8_isFull_0 : ([(0, .aload_n 0, 1), (1, .getfield 15, 3), (4, .sipush 16384, 3), (7, .if_icmp .lt 7, 3), (10, .iconst 1, 1), (11, .goto 4, 3), (14, .iconst 0, 1), (15, .ireturn, 1)] : List (Nat × Instr × Nat)).all (fun q => decide (decode cX8_isFull q.1 = .ok (q.2.1, q.2.2))) = true := by decide +kernel
theorem dX8_isFull_0 : decode cX8_isFull 0 = .ok (.aload_n 0, 1) := dq_of dqX8_isFull_0 0 rfl
theorem dX8_isFull_1 : decode cX8_isFull 1 = .ok (.getfield 15, 3) := dq_of dqX8_isFull_0 1 rfl
theorem dX8_isFull_4 : decode cX8_isFull 4 = .ok (.sipush 16384, 3) := dq_of dqX8_isFull_0 2 rfl
theorem dX8_isFull_7 : decode cX8_isFull 7 = .ok (.if_icmp .lt 7, 3) := dq_of dqX8_isFull_0 3 rfl
theorem dX8_isFull_10 : decode cX8_isFull 10 = .ok (.iconst 1, 1) := dq_of dqX8_isFull_0 4 rfl
theorem dX8_isFull_11 : decode cX8_isFull 11 = .ok (.goto 4, 3) := dq_of dqX8_isFull_0 5 rfl
theorem dX8_isFull_14 : decode cX8_isFull 14 = .ok (.iconst 0, 1) := dq_of dqX8_isFull_0 6 rfl
theorem dX8_isFull_15 : decode cX8_isFull 15 = .ok (.ireturn, 1) := dq_of dqX8_isFull_0 7 rfl
theorem dqX8_add_0 : ([(0, .aload_n 0, 1), (1, .getfield 15, 3), (4, .iconst 1, 1), (5, .iadd, 1), (6, .bipush 11, 2), (8, .imul, 1), (9, .aload_n 0, 1), (10, .getfield 9, 3), (13, .arraylength, 1), (14, .if_icmp .le 21, 3), (17, .aload_n 0, 1), (18, .aload_n 0, 1), (19, .getfield 9, 3), (22, .aload_n 0, 1), (23, .getfield 9, 3), (26, .arraylength, 1), (27, .iconst 2, 1), (28, .imul, 1), (29, .invokestatic 39, 3), (32, .putfield 9, 3), (35, .aload_n 0, 1), (36, .dup, 1), (37, .getfield 15, 3), (40, .iconst 1, 1), (41, .iadd, 1), (42, .putfield 15, 3), (45, .iconst 0, 1), (46, .istore_n 2, 1), (47, .iload_n 2, 1), (48, .bipush 11, 2), (50, .if_icmp .ge 15, 3), (53, .aload_n 0, 1), (54, .iload_n 2, 1), (55, .iconst 0, 1), (56, .invokevirtual 45, 3), (59, .iinc 2 1, 3), (62, .goto (-15), 3), (65, .aload_n 0, 1), (66, .iconst 0, 1), (67, .iload_n 1, 1)] : List (Nat × Instr × Nat)).all (fun q => decide (decode cX8_add q.1 = .ok (q.2.1, q.2.2))) = true := by decide +kernel
theorem dX8_add_0 : decode cX8_add 0 = .ok (.aload_n 0, 1) := dq_of dqX8_add_0 0 rfl
theorem dX8_add_1 : decode cX8_add 1 = .ok (.getfield 15, 3) := dq_of dqX8_add_0 1 rfl
theorem dX8_add_4 : decode cX8_add 4 = .ok (.iconst 1, 1) := dq_of dqX8_add_0 2 rfl
theorem dX8_add_5 : decode cX8_add 5 = .ok (.iadd, 1) := dq_of dqX8_add_0 3 rfl
theorem dX8_add_6 : decode cX8_add 6 = .ok (.bipush 11, 2) := dq_of dqX8_add_0 4 rfl
theorem dX8_add_8 : decode cX8_add 8 = .ok (.imul, 1) := dq_of dqX8_add_0 5 rfl
theorem dX8_add_9 : decode cX8_add 9 = .ok (.aload_n 0, 1) := dq_of dqX8_add_0 6 rfl
theorem dX8_add_10 : decode cX8_add 10 = .ok (.getfield 9, 3) := dq_of dqX8_add_0 7 rfl
theorem dX8_add_13 : decode cX8_add 13 = .ok (.arraylength, 1) := dq_of dqX8_add_0 8 rfl
theorem dX8_add_14 : decode cX8_add 14 = .ok (.if_icmp .le 21, 3) := dq_of dqX8_add_0 9 rfl
theorem dX8_add_17 : decode cX8_add 17 = .ok (.aload_n 0, 1) := dq_of dqX8_add_0 10 rfl
theorem dX8_add_18 : decode cX8_add 18 = .ok (.aload_n 0, 1) := dq_of dqX8_add_0 11 rfl
theorem dX8_add_19 : decode cX8_add 19 = .ok (.getfield 9, 3) := dq_of dqX8_add_0 12 rfl
theorem dX8_add_22 : decode cX8_add 22 = .ok (.aload_n 0, 1) := dq_of dqX8_add_0 13 rfl
theorem dX8_add_23 : decode cX8_add 23 = .ok (.getfield 9, 3) := dq_of dqX8_add_0 14 rfl
theorem dX8_add_26 : decode cX8_add 26 = .ok (.arraylength, 1) := dq_of dqX8_add_0 15 rfl
theorem dX8_add_27 : decode cX8_add 27 = .ok (.iconst 2, 1) := dq_of dqX8_add_0 16 rfl
theorem dX8_add_28 : decode cX8_add 28 = .ok (.imul, 1) := dq_of dqX8_add_0 17 rfl
theorem dX8_add_29 : decode cX8_add 29 = .ok (.invokestatic 39, 3) := dq_of dqX8_add_0 18 rfl
theorem dX8_add_32 : decode cX8_add 32 = .ok (.putfield 9, 3) := dq_of dqX8_add_0 19 rfl
theorem dX8_add_35 : decode cX8_add 35 = .ok (.aload_n 0, 1) := dq_of dqX8_add_0 20 rfl
theorem dX8_add_36 : decode cX8_add 36 = .ok (.dup, 1) := dq_of dqX8_add_0 21 rfl
theorem dX8_add_37 : decode cX8_add 37 = .ok (.getfield 15, 3) := dq_of dqX8_add_0 22 rfl
theorem dX8_add_40 : decode cX8_add 40 = .ok (.iconst 1, 1) := dq_of dqX8_add_0 23 rfl
theorem dX8_add_41 : decode cX8_add 41 = .ok (.iadd, 1) := dq_of dqX8_add_0 24 rfl
theorem dX8_add_42 : decode cX8_add 42 = .ok (.putfield 15, 3) := dq_of dqX8_add_0 25 rfl
theorem dX8_add_45 : decode cX8_add 45 = .ok (.iconst 0, 1) := dq_of dqX8_add_0 26 rfl
theorem dX8_add_46 : decode cX8_add 46 = .ok (.istore_n 2, 1) := dq_of dqX8_add_0 27 rfl
theorem dX8_add_47 : decode cX8_add 47 = .ok (.iload_n 2, 1) := dq_of dqX8_add_0 28 rfl
theorem dX8_add_48 : decode cX8_add 48 = .ok (.bipush 11, 2) := dq_of dqX8_add_0 29 rfl
theorem dX8_add_50 : decode cX8_add 50 = .ok (.if_icmp .ge 15, 3) := dq_of dqX8_add_0 30 rfl
theorem dX8_add_53 : decode cX8_add 53 = .ok (.aload_n 0, 1) := dq_of dqX8_add_0 31 rfl
theorem dX8_add_54 : decode cX8_add 54 = .ok (.iload_n 2, 1) := dq_of dqX8_add_0 32 rfl
theorem dX8_add_55 : decode cX8_add 55 = .ok (.iconst 0, 1) := dq_of dqX8_add_0 33 rfl
theorem dX8_add_56 : decode cX8_add 56 = .ok (.invokevirtual 45, 3) := dq_of dqX8_add_0 34 rfl
theorem dX8_add_59 : decode cX8_add 59 = .ok (.iinc 2 1, 3) := dq_of dqX8_add_0 35 rfl
theorem dX8_add_62 : decode cX8_add 62 = .ok (.goto (-15), 3) := dq_of dqX8_add_0 36 rfl
theorem dX8_add_65 : decode cX8_add 65 = .ok (.aload_n 0, 1) := dq_of dqX8_add_0 37 rfl
theorem dX8_add_66 : decode cX8_add 66 = .ok (.iconst 0, 1) := dq_of dqX8_add_0 38 rfl
theorem dX8_add_67 : decode cX8_add 67 = .ok (.iload_n 1, 1) := dq_of dqX8_add_0 39 rfl
theorem dqX8_add_68 : ([(68, .invokevirtual 45, 3), (71, .aload_n 0, 1), (72, .bipush 6, 2), (74, .iconst (-1), 1), (75, .invokevirtual 45, 3), (78, .return_, 1)] : List (Nat × Instr × Nat)).all (fun q => decide (decode cX8_add q.1 = .ok (q.2.1, q.2.2))) = true := by decide +kernel
theorem dX8_add_68 : decode cX8_add 68 = .ok (.invokevirtual 45, 3) := dq_of dqX8_add_68 0 rfl
theorem dX8_add_71 : decode cX8_add 71 = .ok (.aload_n 0, 1) := dq_of dqX8_add_68 1 rfl
theorem dX8_add_72 : decode cX8_add 72 = .ok (.bipush 6, 2) := dq_of dqX8_add_68 2 rfl
theorem dX8_add_74 : decode cX8_add 74 = .ok (.iconst (-1), 1) := dq_of dqX8_add_68 3 rfl
theorem dX8_add_75 : decode cX8_add 75 = .ok (.invokevirtual 45, 3) := dq_of dqX8_add_68 4 rfl
theorem dX8_add_78 : decode cX8_add 78 = .ok (.return_, 1) := dq_of dqX8_add_68 5 rfl
theorem dqX8_tellLast_0 : ([(0, .aload_n 0, 1), (1, .getfield 15, 3), (4, .iconst 1, 1), (5, .isub, 1), (6, .bipush 11, 2), (8, .imul, 1), (9, .iload_n 1, 1), (10, .iadd, 1), (11, .istore_n 3, 1), (12, .iload_n 3, 1), (13, .ifCond .lt 19, 3), (16, .iload_n 3, 1), (17, .aload_n 0, 1), (18, .getfield 9, 3), (21, .arraylength, 1), (22, .if_icmp .ge 10, 3), (25, .aload_n 0, 1), (26, .getfield 9, 3), (29, .iload_n 3, 1), (30, .iload_n 2, 1), (31, .iastore, 1), (32, .return_, 1)] : List (Nat × Instr × Nat)).all (fun q => decide (decode cX8_tellLast q.1 = .ok (q.2.1, q.2.2))) = true := by decide +kernel
theorem dX8_tellLast_0 : decode cX8_tellLast 0 = .ok (.aload_n 0, 1) := dq_of dqX8_tellLast_0 0 rfl
theorem dX8_tellLast_1 : decode cX8_tellLast 1 = .ok (.getfield 15, 3) := dq_of dqX8_tellLast_0 1 rfl
theorem dX8_tellLast_4 : decode cX8_tellLast 4 = .ok (.iconst 1, 1) := dq_of dqX8_tellLast_0 2 rfl
theorem dX8_tellLast_5 : decode cX8_tellLast 5 = .ok (.isub, 1) := dq_of dqX8_tellLast_0 3 rfl
theorem dX8_tellLast_6 : decode cX8_tellLast 6 = .ok (.bipush 11, 2) := dq_of dqX8_tellLast_0 4 rfl
theorem dX8_tellLast_8 : decode cX8_tellLast 8 = .ok (.imul, 1) := dq_of dqX8_tellLast_0 5 rfl
theorem dX8_tellLast_9 : decode cX8_tellLast 9 = .ok (.iload_n 1, 1) := dq_of dqX8_tellLast_0 6 rfl
theorem dX8_tellLast_10 : decode cX8_tellLast 10 = .ok (.iadd, 1) := dq_of dqX8_tellLast_0 7 rfl
theorem dX8_tellLast_11 : decode cX8_tellLast 11 = .ok (.istore_n 3, 1) := dq_of dqX8_tellLast_0 8 rfl
theorem dX8_tellLast_12 : decode cX8_tellLast 12 = .ok (.iload_n 3, 1) := dq_of dqX8_tellLast_0 9 rfl
theorem dX8_tellLast_13 : decode cX8_tellLast 13 = .ok (.ifCond .lt 19, 3) := dq_of dqX8_tellLast_0 10 rfl
theorem dX8_tellLast_16 : decode cX8_tellLast 16 = .ok (.iload_n 3, 1) := dq_of dqX8_tellLast_0 11 rfl
theorem dX8_tellLast_17 : decode cX8_tellLast 17 = .ok (.aload_n 0, 1) := dq_of dqX8_tellLast_0 12 rfl
theorem dX8_tellLast_18 : decode cX8_tellLast 18 = .ok (.getfield 9, 3) := dq_of dqX8_tellLast_0 13 rfl
theorem dX8_tellLast_21 : decode cX8_tellLast 21 = .ok (.arraylength, 1) := dq_of dqX8_tellLast_0 14 rfl
theorem dX8_tellLast_22 : decode cX8_tellLast 22 = .ok (.if_icmp .ge 10, 3) := dq_of dqX8_tellLast_0 15 rfl
theorem dX8_tellLast_25 : decode cX8_tellLast 25 = .ok (.aload_n 0, 1) := dq_of dqX8_tellLast_0 16 rfl
theorem dX8_tellLast_26 : decode cX8_tellLast 26 = .ok (.getfield 9, 3) := dq_of dqX8_tellLast_0 17 rfl
theorem dX8_tellLast_29 : decode cX8_tellLast 29 = .ok (.iload_n 3, 1) := dq_of dqX8_tellLast_0 18 rfl
theorem dX8_tellLast_30 : decode cX8_tellLast 30 = .ok (.iload_n 2, 1) := dq_of dqX8_tellLast_0 19 rfl
theorem dX8_tellLast_31 : decode cX8_tellLast 31 = .ok (.iastore, 1) := dq_of dqX8_tellLast_0 20 rfl
theorem dX8_tellLast_32 : decode cX8_tellLast 32 = .ok (.return_, 1) := dq_of dqX8_tellLast_0 21 rfl
theorem dqX8_has_0 : ([(0, .iload_n 1, 1), (1, .ifCond .lt 15, 3), (4, .iload_n 1, 1), (5, .aload_n 0, 1), (6, .getfield 15, 3), (9, .if_icmp .ge 7, 3), (12, .iconst 1, 1), (13, .goto 4, 3), (16, .iconst 0, 1), (17, .ireturn, 1)] : List (Nat × Instr × Nat)).all (fun q => decide (decode cX8_has q.1 = .ok (q.2.1, q.2.2))) = true := by decide +kernel
theorem dX8_has_0 : decode cX8_has 0 = .ok (.iload_n 1, 1) := dq_of dqX8_has_0 0 rfl
theorem dX8_has_1 : decode cX8_has 1 = .ok (.ifCond .lt 15, 3) := dq_of dqX8_has_0 1 rfl
theorem dX8_has_4 : decode cX8_has 4 = .ok (.iload_n 1, 1) := dq_of dqX8_has_0 2 rfl
theorem dX8_has_5 : decode cX8_has 5 = .ok (.aload_n 0, 1) := dq_of dqX8_has_0 3 rfl
theorem dX8_has_6 : decode cX8_has 6 = .ok (.getfield 15, 3) := dq_of dqX8_has_0 4 rfl
theorem dX8_has_9 : decode cX8_has 9 = .ok (.if_icmp .ge 7, 3) := dq_of dqX8_has_0 5 rfl
theorem dX8_has_12 : decode cX8_has 12 = .ok (.iconst 1, 1) := dq_of dqX8_has_0 6 rfl
theorem dX8_has_13 : decode cX8_has 13 = .ok (.goto 4, 3) := dq_of dqX8_has_0 7 rfl
theorem dX8_has_16 : decode cX8_has 16 = .ok (.iconst 0, 1) := dq_of dqX8_has_0 8 rfl
theorem dX8_has_17 : decode cX8_has 17 = .ok (.ireturn, 1) := dq_of dqX8_has_0 9 rfl
theorem dqX8_fact_0 : ([(0, .aload_n 0, 1), (1, .iload_n 1, 1), (2, .invokevirtual 49, 3), (5, .ifCond .eq 13, 3), (8, .iload_n 2, 1), (9, .ifCond .lt 9, 3), (12, .iload_n 2, 1), (13, .bipush 11, 2), (15, .if_icmp .lt 5, 3), (18, .iconst (-1), 1), (19, .ireturn, 1), (20, .iload_n 1, 1), (21, .bipush 11, 2), (23, .imul, 1), (24, .iload_n 2, 1), (25, .iadd, 1), (26, .istore_n 3, 1), (27, .iload_n 3, 1), (28, .ifCond .lt 21, 3), (31, .iload_n 3, 1), (32, .aload_n 0, 1), (33, .getfield 9, 3), (36, .arraylength, 1), (37, .if_icmp .ge 12, 3), (40, .aload_n 0, 1), (41, .getfield 9, 3), (44, .iload_n 3, 1), (45, .iaload, 1), (46, .goto 4, 3), (49, .iconst (-1), 1), (50, .ireturn, 1)] : List (Nat × Instr × Nat)).all (fun q => decide (decode cX8_fact q.1 = .ok (q.2.1, q.2.2))) = true := by decide +kernel
theorem dX8_fact_0 : decode cX8_fact 0 = .ok (.aload_n 0, 1) := dq_of dqX8_fact_0 0 rfl
theorem dX8_fact_1 : decode cX8_fact 1 = .ok (.iload_n 1, 1) := dq_of dqX8_fact_0 1 rfl
theorem dX8_fact_2 : decode cX8_fact 2 = .ok (.invokevirtual 49, 3) := dq_of dqX8_fact_0 2 rfl
theorem dX8_fact_5 : decode cX8_fact 5 = .ok (.ifCond .eq 13, 3) := dq_of dqX8_fact_0 3 rfl
theorem dX8_fact_8 : decode cX8_fact 8 = .ok (.iload_n 2, 1) := dq_of dqX8_fact_0 4 rfl
theorem dX8_fact_9 : decode cX8_fact 9 = .ok (.ifCond .lt 9, 3) := dq_of dqX8_fact_0 5 rfl
theorem dX8_fact_12 : decode cX8_fact 12 = .ok (.iload_n 2, 1) := dq_of dqX8_fact_0 6 rfl
theorem dX8_fact_13 : decode cX8_fact 13 = .ok (.bipush 11, 2) := dq_of dqX8_fact_0 7 rfl
theorem dX8_fact_15 : decode cX8_fact 15 = .ok (.if_icmp .lt 5, 3) := dq_of dqX8_fact_0 8 rfl
theorem dX8_fact_18 : decode cX8_fact 18 = .ok (.iconst (-1), 1) := dq_of dqX8_fact_0 9 rfl
theorem dX8_fact_19 : decode cX8_fact 19 = .ok (.ireturn, 1) := dq_of dqX8_fact_0 10 rfl
theorem dX8_fact_20 : decode cX8_fact 20 = .ok (.iload_n 1, 1) := dq_of dqX8_fact_0 11 rfl
theorem dX8_fact_21 : decode cX8_fact 21 = .ok (.bipush 11, 2) := dq_of dqX8_fact_0 12 rfl
theorem dX8_fact_23 : decode cX8_fact 23 = .ok (.imul, 1) := dq_of dqX8_fact_0 13 rfl
theorem dX8_fact_24 : decode cX8_fact 24 = .ok (.iload_n 2, 1) := dq_of dqX8_fact_0 14 rfl
theorem dX8_fact_25 : decode cX8_fact 25 = .ok (.iadd, 1) := dq_of dqX8_fact_0 15 rfl
theorem dX8_fact_26 : decode cX8_fact 26 = .ok (.istore_n 3, 1) := dq_of dqX8_fact_0 16 rfl
theorem dX8_fact_27 : decode cX8_fact 27 = .ok (.iload_n 3, 1) := dq_of dqX8_fact_0 17 rfl
theorem dX8_fact_28 : decode cX8_fact 28 = .ok (.ifCond .lt 21, 3) := dq_of dqX8_fact_0 18 rfl
theorem dX8_fact_31 : decode cX8_fact 31 = .ok (.iload_n 3, 1) := dq_of dqX8_fact_0 19 rfl
theorem dX8_fact_32 : decode cX8_fact 32 = .ok (.aload_n 0, 1) := dq_of dqX8_fact_0 20 rfl
theorem dX8_fact_33 : decode cX8_fact 33 = .ok (.getfield 9, 3) := dq_of dqX8_fact_0 21 rfl
theorem dX8_fact_36 : decode cX8_fact 36 = .ok (.arraylength, 1) := dq_of dqX8_fact_0 22 rfl
theorem dX8_fact_37 : decode cX8_fact 37 = .ok (.if_icmp .ge 12, 3) := dq_of dqX8_fact_0 23 rfl
theorem dX8_fact_40 : decode cX8_fact 40 = .ok (.aload_n 0, 1) := dq_of dqX8_fact_0 24 rfl
theorem dX8_fact_41 : decode cX8_fact 41 = .ok (.getfield 9, 3) := dq_of dqX8_fact_0 25 rfl
theorem dX8_fact_44 : decode cX8_fact 44 = .ok (.iload_n 3, 1) := dq_of dqX8_fact_0 26 rfl
theorem dX8_fact_45 : decode cX8_fact 45 = .ok (.iaload, 1) := dq_of dqX8_fact_0 27 rfl
theorem dX8_fact_46 : decode cX8_fact 46 = .ok (.goto 4, 3) := dq_of dqX8_fact_0 28 rfl
theorem dX8_fact_49 : decode cX8_fact 49 = .ok (.iconst (-1), 1) := dq_of dqX8_fact_0 29 rfl
theorem dX8_fact_50 : decode cX8_fact 50 = .ok (.ireturn, 1) := dq_of dqX8_fact_0 30 rfl
theorem dqX8_kindOf_0 : ([(0, .aload_n 0, 1), (1, .iload_n 1, 1), (2, .iconst 0, 1), (3, .invokevirtual 53, 3), (6, .ireturn, 1)] : List (Nat × Instr × Nat)).all (fun q => decide (decode cX8_kindOf q.1 = .ok (q.2.1, q.2.2))) = true := by decide +kernel
theorem dX8_kindOf_0 : decode cX8_kindOf 0 = .ok (.aload_n 0, 1) := dq_of dqX8_kindOf_0 0 rfl
theorem dX8_kindOf_1 : decode cX8_kindOf 1 = .ok (.iload_n 1, 1) := dq_of dqX8_kindOf_0 1 rfl
theorem dX8_kindOf_2 : decode cX8_kindOf 2 = .ok (.iconst 0, 1) := dq_of dqX8_kindOf_0 2 rfl
theorem dX8_kindOf_3 : decode cX8_kindOf 3 = .ok (.invokevirtual 53, 3) := dq_of dqX8_kindOf_0 3 rfl
theorem dX8_kindOf_6 : decode cX8_kindOf 6 = .ok (.ireturn, 1) := dq_of dqX8_kindOf_0 4 rfl
theorem dqX8_byteOfToken_0 : ([(0, .iload_n 2, 1), (1, .ifCond .lt 18, 3), (4, .iload_n 2, 1), (5, .aload_n 0, 1), (6, .iload_n 1, 1), (7, .bipush 8, 2), (9, .invokevirtual 53, 3), (12, .if_icmp .ge 7, 3), (15, .iconst 1, 1), (16, .goto 4, 3), (19, .iconst 0, 1), (20, .istore_n 3, 1), (21, .iload_n 3, 1), (22, .ifCond .eq 22, 3), (25, .aload_n 0, 1), (26, .getfield 22, 3), (29, .aload_n 0, 1), (30, .iload_n 1, 1), (31, .bipush 9, 2), (33, .invokevirtual 53, 3), (36, .iload_n 2, 1), (37, .iadd, 1), (38, .invokevirtual 57, 3), (41, .goto 4, 3), (44, .iconst (-1), 1), (45, .ireturn, 1)] : List (Nat × Instr × Nat)).all (fun q => decide (decode cX8_byteOfToken q.1 = .ok (q.2.1, q.2.2))) = true := by decide +kernel
theorem dX8_byteOfToken_0 : decode cX8_byteOfToken 0 = .ok (.iload_n 2, 1) := dq_of dqX8_byteOfToken_0 0 rfl
theorem dX8_byteOfToken_1 : decode cX8_byteOfToken 1 = .ok (.ifCond .lt 18, 3) := dq_of dqX8_byteOfToken_0 1 rfl
theorem dX8_byteOfToken_4 : decode cX8_byteOfToken 4 = .ok (.iload_n 2, 1) := dq_of dqX8_byteOfToken_0 2 rfl
theorem dX8_byteOfToken_5 : decode cX8_byteOfToken 5 = .ok (.aload_n 0, 1) := dq_of dqX8_byteOfToken_0 3 rfl
theorem dX8_byteOfToken_6 : decode cX8_byteOfToken 6 = .ok (.iload_n 1, 1) := dq_of dqX8_byteOfToken_0 4 rfl
theorem dX8_byteOfToken_7 : decode cX8_byteOfToken 7 = .ok (.bipush 8, 2) := dq_of dqX8_byteOfToken_0 5 rfl
theorem dX8_byteOfToken_9 : decode cX8_byteOfToken 9 = .ok (.invokevirtual 53, 3) := dq_of dqX8_byteOfToken_0 6 rfl
theorem dX8_byteOfToken_12 : decode cX8_byteOfToken 12 = .ok (.if_icmp .ge 7, 3) := dq_of dqX8_byteOfToken_0 7 rfl
theorem dX8_byteOfToken_15 : decode cX8_byteOfToken 15 = .ok (.iconst 1, 1) := dq_of dqX8_byteOfToken_0 8 rfl
theorem dX8_byteOfToken_16 : decode cX8_byteOfToken 16 = .ok (.goto 4, 3) := dq_of dqX8_byteOfToken_0 9 rfl
theorem dX8_byteOfToken_19 : decode cX8_byteOfToken 19 = .ok (.iconst 0, 1) := dq_of dqX8_byteOfToken_0 10 rfl
theorem dX8_byteOfToken_20 : decode cX8_byteOfToken 20 = .ok (.istore_n 3, 1) := dq_of dqX8_byteOfToken_0 11 rfl
theorem dX8_byteOfToken_21 : decode cX8_byteOfToken 21 = .ok (.iload_n 3, 1) := dq_of dqX8_byteOfToken_0 12 rfl
theorem dX8_byteOfToken_22 : decode cX8_byteOfToken 22 = .ok (.ifCond .eq 22, 3) := dq_of dqX8_byteOfToken_0 13 rfl
theorem dX8_byteOfToken_25 : decode cX8_byteOfToken 25 = .ok (.aload_n 0, 1) := dq_of dqX8_byteOfToken_0 14 rfl
theorem dX8_byteOfToken_26 : decode cX8_byteOfToken 26 = .ok (.getfield 22, 3) := dq_of dqX8_byteOfToken_0 15 rfl
theorem dX8_byteOfToken_29 : decode cX8_byteOfToken 29 = .ok (.aload_n 0, 1) := dq_of dqX8_byteOfToken_0 16 rfl
theorem dX8_byteOfToken_30 : decode cX8_byteOfToken 30 = .ok (.iload_n 1, 1) := dq_of dqX8_byteOfToken_0 17 rfl
theorem dX8_byteOfToken_31 : decode cX8_byteOfToken 31 = .ok (.bipush 9, 2) := dq_of dqX8_byteOfToken_0 18 rfl
theorem dX8_byteOfToken_33 : decode cX8_byteOfToken 33 = .ok (.invokevirtual 53, 3) := dq_of dqX8_byteOfToken_0 19 rfl
theorem dX8_byteOfToken_36 : decode cX8_byteOfToken 36 = .ok (.iload_n 2, 1) := dq_of dqX8_byteOfToken_0 20 rfl
theorem dX8_byteOfToken_37 : decode cX8_byteOfToken 37 = .ok (.iadd, 1) := dq_of dqX8_byteOfToken_0 21 rfl
theorem dX8_byteOfToken_38 : decode cX8_byteOfToken 38 = .ok (.invokevirtual 57, 3) := dq_of dqX8_byteOfToken_0 22 rfl
theorem dX8_byteOfToken_41 : decode cX8_byteOfToken 41 = .ok (.goto 4, 3) := dq_of dqX8_byteOfToken_0 23 rfl
theorem dX8_byteOfToken_44 : decode cX8_byteOfToken 44 = .ok (.iconst (-1), 1) := dq_of dqX8_byteOfToken_0 24 rfl
theorem dX8_byteOfToken_45 : decode cX8_byteOfToken 45 = .ok (.ireturn, 1) := dq_of dqX8_byteOfToken_0 25 rfl
theorem dqX9_init_0 : ([(0, .aload_n 0, 1), (1, .invokespecial 1, 3), (4, .aload_n 0, 1), (5, .new 7, 3), (8, .dup, 1), (9, .invokespecial 9, 3), (12, .putfield 10, 3), (15, .aload_n 0, 1), (16, .new 16, 3), (19, .dup, 1), (20, .invokespecial 18, 3), (23, .putfield 19, 3), (26, .aload_n 0, 1), (27, .new 23, 3), (30, .dup, 1), (31, .aload_n 0, 1), (32, .getfield 10, 3), (35, .aload_n 0, 1), (36, .getfield 19, 3), (39, .invokespecial 25, 3), (42, .putfield 28, 3), (45, .aload_n 0, 1), (46, .new 32, 3), (49, .dup, 1), (50, .aload_n 0, 1), (51, .getfield 19, 3), (54, .invokespecial 34, 3), (57, .putfield 37, 3), (60, .return_, 1)] : List (Nat × Instr × Nat)).all (fun q => decide (decode cX9_init q.1 = .ok (q.2.1, q.2.2))) = true := by decide +kernel
theorem dX9_init_0 : decode cX9_init 0 = .ok (.aload_n 0, 1) := dq_of dqX9_init_0 0 rfl
theorem dX9_init_1 : decode cX9_init 1 = .ok (.invokespecial 1, 3) := dq_of dqX9_init_0 1 rfl
theorem dX9_init_4 : decode cX9_init 4 = .ok (.aload_n 0, 1) := dq_of dqX9_init_0 2 rfl
theorem dX9_init_5 : decode cX9_init 5 = .ok (.new 7, 3) := dq_of dqX9_init_0 3 rfl
theorem dX9_init_8 : decode cX9_init 8 = .ok (.dup, 1) := dq_of dqX9_init_0 4 rfl
theorem dX9_init_9 : decode cX9_init 9 = .ok (.invokespecial 9, 3) := dq_of dqX9_init_0 5 rfl
theorem dX9_init_12 : decode cX9_init 12 = .ok (.putfield 10, 3) := dq_of dqX9_init_0 6 rfl
theorem dX9_init_15 : decode cX9_init 15 = .ok (.aload_n 0, 1) := dq_of dqX9_init_0 7 rfl
theorem dX9_init_16 : decode cX9_init 16 = .ok (.new 16, 3) := dq_of dqX9_init_0 8 rfl
theorem dX9_init_19 : decode cX9_init 19 = .ok (.dup, 1) := dq_of dqX9_init_0 9 rfl
theorem dX9_init_20 : decode cX9_init 20 = .ok (.invokespecial 18, 3) := dq_of dqX9_init_0 10 rfl
theorem dX9_init_23 : decode cX9_init 23 = .ok (.putfield 19, 3) := dq_of dqX9_init_0 11 rfl
theorem dX9_init_26 : decode cX9_init 26 = .ok (.aload_n 0, 1) := dq_of dqX9_init_0 12 rfl
theorem dX9_init_27 : decode cX9_init 27 = .ok (.new 23, 3) := dq_of dqX9_init_0 13 rfl
theorem dX9_init_30 : decode cX9_init 30 = .ok (.dup, 1) := dq_of dqX9_init_0 14 rfl
theorem dX9_init_31 : decode cX9_init 31 = .ok (.aload_n 0, 1) := dq_of dqX9_init_0 15 rfl
theorem dX9_init_32 : decode cX9_init 32 = .ok (.getfield 10, 3) := dq_of dqX9_init_0 16 rfl
theorem dX9_init_35 : decode cX9_init 35 = .ok (.aload_n 0, 1) := dq_of dqX9_init_0 17 rfl
theorem dX9_init_36 : decode cX9_init 36 = .ok (.getfield 19, 3) := dq_of dqX9_init_0 18 rfl
theorem dX9_init_39 : decode cX9_init 39 = .ok (.invokespecial 25, 3) := dq_of dqX9_init_0 19 rfl
theorem dX9_init_42 : decode cX9_init 42 = .ok (.putfield 28, 3) := dq_of dqX9_init_0 20 rfl
theorem dX9_init_45 : decode cX9_init 45 = .ok (.aload_n 0, 1) := dq_of dqX9_init_0 21 rfl
theorem dX9_init_46 : decode cX9_init 46 = .ok (.new 32, 3) := dq_of dqX9_init_0 22 rfl
theorem dX9_init_49 : decode cX9_init 49 = .ok (.dup, 1) := dq_of dqX9_init_0 23 rfl
theorem dX9_init_50 : decode cX9_init 50 = .ok (.aload_n 0, 1) := dq_of dqX9_init_0 24 rfl
theorem dX9_init_51 : decode cX9_init 51 = .ok (.getfield 19, 3) := dq_of dqX9_init_0 25 rfl
theorem dX9_init_54 : decode cX9_init 54 = .ok (.invokespecial 34, 3) := dq_of dqX9_init_0 26 rfl
theorem dX9_init_57 : decode cX9_init 57 = .ok (.putfield 37, 3) := dq_of dqX9_init_0 27 rfl
theorem dX9_init_60 : decode cX9_init 60 = .ok (.return_, 1) := dq_of dqX9_init_0 28 rfl
theorem dqX9_feed_0 : ([(0, .aload_n 0, 1), (1, .getfield 10, 3), (4, .bipush 20, 2), (6, .invokevirtual 41, 3), (9, .ifCond .ne 5, 3), (12, .iconst 0, 1), (13, .ireturn, 1), (14, .aload_n 0, 1), (15, .getfield 10, 3), (18, .iload_n 1, 1), (19, .invokevirtual 45, 3), (22, .aload_n 0, 1), (23, .getfield 10, 3), (26, .iload_n 2, 1), (27, .invokevirtual 45, 3), (30, .aload_n 0, 1), (31, .getfield 10, 3), (34, .iload_n 3, 1), (35, .invokevirtual 45, 3), (38, .aload_n 0, 1), (39, .getfield 10, 3), (42, .iload 4, 2), (44, .invokevirtual 45, 3), (47, .aload_n 0, 1), (48, .getfield 10, 3), (51, .iload 5, 2), (53, .invokevirtual 45, 3), (56, .iconst 1, 1), (57, .ireturn, 1)] : List (Nat × Instr × Nat)).all (fun q => decide (decode cX9_feed q.1 = .ok (q.2.1, q.2.2))) = true := by decide +kernel
theorem dX9_feed_0 : decode cX9_feed 0 = .ok (.aload_n 0, 1) := dq_of dqX9_feed_0 0 rfl
theorem dX9_feed_1 : decode cX9_feed 1 = .ok (.getfield 10, 3) := dq_of dqX9_feed_0 1 rfl
theorem dX9_feed_4 : decode cX9_feed 4 = .ok (.bipush 20, 2) := dq_of dqX9_feed_0 2 rfl
theorem dX9_feed_6 : decode cX9_feed 6 = .ok (.invokevirtual 41, 3) := dq_of dqX9_feed_0 3 rfl
theorem dX9_feed_9 : decode cX9_feed 9 = .ok (.ifCond .ne 5, 3) := dq_of dqX9_feed_0 4 rfl
theorem dX9_feed_12 : decode cX9_feed 12 = .ok (.iconst 0, 1) := dq_of dqX9_feed_0 5 rfl
theorem dX9_feed_13 : decode cX9_feed 13 = .ok (.ireturn, 1) := dq_of dqX9_feed_0 6 rfl
theorem dX9_feed_14 : decode cX9_feed 14 = .ok (.aload_n 0, 1) := dq_of dqX9_feed_0 7 rfl
theorem dX9_feed_15 : decode cX9_feed 15 = .ok (.getfield 10, 3) := dq_of dqX9_feed_0 8 rfl
theorem dX9_feed_18 : decode cX9_feed 18 = .ok (.iload_n 1, 1) := dq_of dqX9_feed_0 9 rfl
theorem dX9_feed_19 : decode cX9_feed 19 = .ok (.invokevirtual 45, 3) := dq_of dqX9_feed_0 10 rfl
theorem dX9_feed_22 : decode cX9_feed 22 = .ok (.aload_n 0, 1) := dq_of dqX9_feed_0 11 rfl
theorem dX9_feed_23 : decode cX9_feed 23 = .ok (.getfield 10, 3) := dq_of dqX9_feed_0 12 rfl
theorem dX9_feed_26 : decode cX9_feed 26 = .ok (.iload_n 2, 1) := dq_of dqX9_feed_0 13 rfl
theorem dX9_feed_27 : decode cX9_feed 27 = .ok (.invokevirtual 45, 3) := dq_of dqX9_feed_0 14 rfl
theorem dX9_feed_30 : decode cX9_feed 30 = .ok (.aload_n 0, 1) := dq_of dqX9_feed_0 15 rfl
theorem dX9_feed_31 : decode cX9_feed 31 = .ok (.getfield 10, 3) := dq_of dqX9_feed_0 16 rfl
theorem dX9_feed_34 : decode cX9_feed 34 = .ok (.iload_n 3, 1) := dq_of dqX9_feed_0 17 rfl
theorem dX9_feed_35 : decode cX9_feed 35 = .ok (.invokevirtual 45, 3) := dq_of dqX9_feed_0 18 rfl
theorem dX9_feed_38 : decode cX9_feed 38 = .ok (.aload_n 0, 1) := dq_of dqX9_feed_0 19 rfl
theorem dX9_feed_39 : decode cX9_feed 39 = .ok (.getfield 10, 3) := dq_of dqX9_feed_0 20 rfl
theorem dX9_feed_42 : decode cX9_feed 42 = .ok (.iload 4, 2) := dq_of dqX9_feed_0 21 rfl
theorem dX9_feed_44 : decode cX9_feed 44 = .ok (.invokevirtual 45, 3) := dq_of dqX9_feed_0 22 rfl
theorem dX9_feed_47 : decode cX9_feed 47 = .ok (.aload_n 0, 1) := dq_of dqX9_feed_0 23 rfl
theorem dX9_feed_48 : decode cX9_feed 48 = .ok (.getfield 10, 3) := dq_of dqX9_feed_0 24 rfl
theorem dX9_feed_51 : decode cX9_feed 51 = .ok (.iload 5, 2) := dq_of dqX9_feed_0 25 rfl
theorem dX9_feed_53 : decode cX9_feed 53 = .ok (.invokevirtual 45, 3) := dq_of dqX9_feed_0 26 rfl
theorem dX9_feed_56 : decode cX9_feed 56 = .ok (.iconst 1, 1) := dq_of dqX9_feed_0 27 rfl
theorem dX9_feed_57 : decode cX9_feed 57 = .ok (.ireturn, 1) := dq_of dqX9_feed_0 28 rfl
theorem dqX9_end_0 : ([(0, .aload_n 0, 1), (1, .getfield 10, 3), (4, .iload_n 1, 1), (5, .invokevirtual 49, 3), (8, .ireturn, 1)] : List (Nat × Instr × Nat)).all (fun q => decide (decode cX9_end q.1 = .ok (q.2.1, q.2.2))) = true := by decide +kernel
theorem dX9_end_0 : decode cX9_end 0 = .ok (.aload_n 0, 1) := dq_of dqX9_end_0 0 rfl
theorem dX9_end_1 : decode cX9_end 1 = .ok (.getfield 10, 3) := dq_of dqX9_end_0 1 rfl
theorem dX9_end_4 : decode cX9_end 4 = .ok (.iload_n 1, 1) := dq_of dqX9_end_0 2 rfl
theorem dX9_end_5 : decode cX9_end 5 = .ok (.invokevirtual 49, 3) := dq_of dqX9_end_0 3 rfl
theorem dX9_end_8 : decode cX9_end 8 = .ok (.ireturn, 1) := dq_of dqX9_end_0 4 rfl
theorem dqX9_size_0 : ([(0, .aload_n 0, 1), (1, .getfield 10, 3), (4, .getfield 52, 3), (7, .ireturn, 1)] : List (Nat × Instr × Nat)).all (fun q => decide (decode cX9_size q.1 = .ok (q.2.1, q.2.2))) = true := by decide +kernel
theorem dX9_size_0 : decode cX9_size 0 = .ok (.aload_n 0, 1) := dq_of dqX9_size_0 0 rfl
theorem dX9_size_1 : decode cX9_size 1 = .ok (.getfield 10, 3) := dq_of dqX9_size_0 1 rfl
theorem dX9_size_4 : decode cX9_size 4 = .ok (.getfield 52, 3) := dq_of dqX9_size_0 2 rfl
theorem dX9_size_7 : decode cX9_size 7 = .ok (.ireturn, 1) := dq_of dqX9_size_0 3 rfl
theorem dqX9_scan_0 : ([(0, .aload_n 0, 1), (1, .getfield 28, 3), (4, .invokevirtual 56, 3), (7, .iconst 0, 1), (8, .istore_n 1, 1), (9, .iload_n 1, 1), (10, .ldc 59, 2), (12, .if_icmp .ge 36, 3), (15, .aload_n 0, 1), (16, .getfield 28, 3), (19, .invokevirtual 60, 3), (22, .ifCond .eq 26, 3), (25, .aload_n 0, 1), (26, .getfield 28, 3), (29, .invokevirtual 64, 3), (32, .ifCond .ne 10, 3), (35, .aload_n 0, 1), (36, .getfield 28, 3), (39, .invokevirtual 67, 3), (42, .iinc 1 1, 3), (45, .goto (-36), 3), (48, .aload_n 0, 1), (49, .getfield 28, 3), (52, .invokevirtual 70, 3), (55, .istore_n 1, 1), (56, .aload_n 0, 1), (57, .getfield 10, 3), (60, .iconst 0, 1), (61, .invokevirtual 49, 3), (64, .pop, 1), (65, .iload_n 1, 1), (66, .ireturn, 1)] : List (Nat × Instr × Nat)).all (fun q => decide (decode cX9_scan q.1 = .ok (q.2.1, q.2.2))) = true := by decide +kernel
theorem dX9_scan_0 : decode cX9_scan 0 = .ok (.aload_n 0, 1) := dq_of dqX9_scan_0 0 rfl
theorem dX9_scan_1 : decode cX9_scan 1 = .ok (.getfield 28, 3) := dq_of dqX9_scan_0 1 rfl
theorem dX9_scan_4 : decode cX9_scan 4 = .ok (.invokevirtual 56, 3) := dq_of dqX9_scan_0 2 rfl
theorem dX9_scan_7 : decode cX9_scan 7 = .ok (.iconst 0, 1) := dq_of dqX9_scan_0 3 rfl
theorem dX9_scan_8 : decode cX9_scan 8 = .ok (.istore_n 1, 1) := dq_of dqX9_scan_0 4 rfl
theorem dX9_scan_9 : decode cX9_scan 9 = .ok (.iload_n 1, 1) := dq_of dqX9_scan_0 5 rfl
theorem dX9_scan_10 : decode cX9_scan 10 = .ok (.ldc 59, 2) := dq_of dqX9_scan_0 6 rfl
theorem dX9_scan_12 : decode cX9_scan 12 = .ok (.if_icmp .ge 36, 3) := dq_of dqX9_scan_0 7 rfl
theorem dX9_scan_15 : decode cX9_scan 15 = .ok (.aload_n 0, 1) := dq_of dqX9_scan_0 8 rfl
theorem dX9_scan_16 : decode cX9_scan 16 = .ok (.getfield 28, 3) := dq_of dqX9_scan_0 9 rfl
theorem dX9_scan_19 : decode cX9_scan 19 = .ok (.invokevirtual 60, 3) := dq_of dqX9_scan_0 10 rfl
theorem dX9_scan_22 : decode cX9_scan 22 = .ok (.ifCond .eq 26, 3) := dq_of dqX9_scan_0 11 rfl
theorem dX9_scan_25 : decode cX9_scan 25 = .ok (.aload_n 0, 1) := dq_of dqX9_scan_0 12 rfl
theorem dX9_scan_26 : decode cX9_scan 26 = .ok (.getfield 28, 3) := dq_of dqX9_scan_0 13 rfl
theorem dX9_scan_29 : decode cX9_scan 29 = .ok (.invokevirtual 64, 3) := dq_of dqX9_scan_0 14 rfl
theorem dX9_scan_32 : decode cX9_scan 32 = .ok (.ifCond .ne 10, 3) := dq_of dqX9_scan_0 15 rfl
theorem dX9_scan_35 : decode cX9_scan 35 = .ok (.aload_n 0, 1) := dq_of dqX9_scan_0 16 rfl
theorem dX9_scan_36 : decode cX9_scan 36 = .ok (.getfield 28, 3) := dq_of dqX9_scan_0 17 rfl
theorem dX9_scan_39 : decode cX9_scan 39 = .ok (.invokevirtual 67, 3) := dq_of dqX9_scan_0 18 rfl
theorem dX9_scan_42 : decode cX9_scan 42 = .ok (.iinc 1 1, 3) := dq_of dqX9_scan_0 19 rfl
theorem dX9_scan_45 : decode cX9_scan 45 = .ok (.goto (-36), 3) := dq_of dqX9_scan_0 20 rfl
theorem dX9_scan_48 : decode cX9_scan 48 = .ok (.aload_n 0, 1) := dq_of dqX9_scan_0 21 rfl
theorem dX9_scan_49 : decode cX9_scan 49 = .ok (.getfield 28, 3) := dq_of dqX9_scan_0 22 rfl
theorem dX9_scan_52 : decode cX9_scan 52 = .ok (.invokevirtual 70, 3) := dq_of dqX9_scan_0 23 rfl
theorem dX9_scan_55 : decode cX9_scan 55 = .ok (.istore_n 1, 1) := dq_of dqX9_scan_0 24 rfl
theorem dX9_scan_56 : decode cX9_scan 56 = .ok (.aload_n 0, 1) := dq_of dqX9_scan_0 25 rfl
theorem dX9_scan_57 : decode cX9_scan 57 = .ok (.getfield 10, 3) := dq_of dqX9_scan_0 26 rfl
theorem dX9_scan_60 : decode cX9_scan 60 = .ok (.iconst 0, 1) := dq_of dqX9_scan_0 27 rfl
theorem dX9_scan_61 : decode cX9_scan 61 = .ok (.invokevirtual 49, 3) := dq_of dqX9_scan_0 28 rfl
theorem dX9_scan_64 : decode cX9_scan 64 = .ok (.pop, 1) := dq_of dqX9_scan_0 29 rfl
theorem dX9_scan_65 : decode cX9_scan 65 = .ok (.iload_n 1, 1) := dq_of dqX9_scan_0 30 rfl
theorem dX9_scan_66 : decode cX9_scan 66 = .ok (.ireturn, 1) := dq_of dqX9_scan_0 31 rfl
theorem dqX9_count_0 : ([(0, .aload_n 0, 1), (1, .getfield 19, 3), (4, .getfield 74, 3), (7, .ireturn, 1)] : List (Nat × Instr × Nat)).all (fun q => decide (decode cX9_count q.1 = .ok (q.2.1, q.2.2))) = true := by decide +kernel
theorem dX9_count_0 : decode cX9_count 0 = .ok (.aload_n 0, 1) := dq_of dqX9_count_0 0 rfl
theorem dX9_count_1 : decode cX9_count 1 = .ok (.getfield 19, 3) := dq_of dqX9_count_0 1 rfl
theorem dX9_count_4 : decode cX9_count 4 = .ok (.getfield 74, 3) := dq_of dqX9_count_0 2 rfl
theorem dX9_count_7 : decode cX9_count 7 = .ok (.ireturn, 1) := dq_of dqX9_count_0 3 rfl
theorem dqX9_token_0 : ([(0, .aload_n 0, 1), (1, .getfield 19, 3), (4, .iload_n 1, 1), (5, .invokevirtual 77, 3), (8, .ifCond .eq 13, 3), (11, .iload_n 2, 1), (12, .ifCond .lt 9, 3), (15, .iload_n 2, 1), (16, .bipush 8, 2), (18, .if_icmp .le 13, 3), (21, .new 80, 3), (24, .dup, 1), (25, .ldc 82, 2), (27, .invokespecial 84, 3), (30, .athrow, 1), (31, .aload_n 0, 1), (32, .getfield 19, 3), (35, .iload_n 1, 1), (36, .iload_n 2, 1), (37, .invokevirtual 87, 3), (40, .ireturn, 1)] : List (Nat × Instr × Nat)).all (fun q => decide (decode cX9_token q.1 = .ok (q.2.1, q.2.2))) = true := by decide +kernel
theorem dX9_token_0 : decode cX9_token 0 = .ok (.aload_n 0, 1) := dq_of dqX9_token_0 0 rfl
theorem dX9_token_1 : decode cX9_token 1 = .ok (.getfield 19, 3) := dq_of dqX9_token_0 1 rfl
theorem dX9_token_4 : decode cX9_token 4 = .ok (.iload_n 1, 1) := dq_of dqX9_token_0 2 rfl
theorem dX9_token_5 : decode cX9_token 5 = .ok (.invokevirtual 77, 3) := dq_of dqX9_token_0 3 rfl
theorem dX9_token_8 : decode cX9_token 8 = .ok (.ifCond .eq 13, 3) := dq_of dqX9_token_0 4 rfl
theorem dX9_token_11 : decode cX9_token 11 = .ok (.iload_n 2, 1) := dq_of dqX9_token_0 5 rfl
theorem dX9_token_12 : decode cX9_token 12 = .ok (.ifCond .lt 9, 3) := dq_of dqX9_token_0 6 rfl
theorem dX9_token_15 : decode cX9_token 15 = .ok (.iload_n 2, 1) := dq_of dqX9_token_0 7 rfl
theorem dX9_token_16 : decode cX9_token 16 = .ok (.bipush 8, 2) := dq_of dqX9_token_0 8 rfl
theorem dX9_token_18 : decode cX9_token 18 = .ok (.if_icmp .le 13, 3) := dq_of dqX9_token_0 9 rfl
theorem dX9_token_21 : decode cX9_token 21 = .ok (.new 80, 3) := dq_of dqX9_token_0 10 rfl
theorem dX9_token_24 : decode cX9_token 24 = .ok (.dup, 1) := dq_of dqX9_token_0 11 rfl
theorem dX9_token_25 : decode cX9_token 25 = .ok (.ldc 82, 2) := dq_of dqX9_token_0 12 rfl
theorem dX9_token_27 : decode cX9_token 27 = .ok (.invokespecial 84, 3) := dq_of dqX9_token_0 13 rfl
theorem dX9_token_30 : decode cX9_token 30 = .ok (.athrow, 1) := dq_of dqX9_token_0 14 rfl
theorem dX9_token_31 : decode cX9_token 31 = .ok (.aload_n 0, 1) := dq_of dqX9_token_0 15 rfl
theorem dX9_token_32 : decode cX9_token 32 = .ok (.getfield 19, 3) := dq_of dqX9_token_0 16 rfl
theorem dX9_token_35 : decode cX9_token 35 = .ok (.iload_n 1, 1) := dq_of dqX9_token_0 17 rfl
theorem dX9_token_36 : decode cX9_token 36 = .ok (.iload_n 2, 1) := dq_of dqX9_token_0 18 rfl
theorem dX9_token_37 : decode cX9_token 37 = .ok (.invokevirtual 87, 3) := dq_of dqX9_token_0 19 rfl
theorem dX9_token_40 : decode cX9_token 40 = .ok (.ireturn, 1) := dq_of dqX9_token_0 20 rfl
theorem dqX9_byteOf_0 : ([(0, .aload_n 0, 1), (1, .getfield 19, 3), (4, .iload_n 1, 1), (5, .iload_n 2, 1), (6, .invokevirtual 91, 3), (9, .istore_n 3, 1), (10, .iload_n 3, 1), (11, .iconst (-1), 1), (12, .if_icmp .ne 13, 3), (15, .new 80, 3), (18, .dup, 1), (19, .ldc 94, 2), (21, .invokespecial 84, 3), (24, .athrow, 1), (25, .iload_n 3, 1), (26, .ireturn, 1)] : List (Nat × Instr × Nat)).all (fun q => decide (decode cX9_byteOf q.1 = .ok (q.2.1, q.2.2))) = true := by decide +kernel
theorem dX9_byteOf_0 : decode cX9_byteOf 0 = .ok (.aload_n 0, 1) := dq_of dqX9_byteOf_0 0 rfl
theorem dX9_byteOf_1 : decode cX9_byteOf 1 = .ok (.getfield 19, 3) := dq_of dqX9_byteOf_0 1 rfl
theorem dX9_byteOf_4 : decode cX9_byteOf 4 = .ok (.iload_n 1, 1) := dq_of dqX9_byteOf_0 2 rfl
theorem dX9_byteOf_5 : decode cX9_byteOf 5 = .ok (.iload_n 2, 1) := dq_of dqX9_byteOf_0 3 rfl
theorem dX9_byteOf_6 : decode cX9_byteOf 6 = .ok (.invokevirtual 91, 3) := dq_of dqX9_byteOf_0 4 rfl
theorem dX9_byteOf_9 : decode cX9_byteOf 9 = .ok (.istore_n 3, 1) := dq_of dqX9_byteOf_0 5 rfl
theorem dX9_byteOf_10 : decode cX9_byteOf 10 = .ok (.iload_n 3, 1) := dq_of dqX9_byteOf_0 6 rfl
theorem dX9_byteOf_11 : decode cX9_byteOf 11 = .ok (.iconst (-1), 1) := dq_of dqX9_byteOf_0 7 rfl
theorem dX9_byteOf_12 : decode cX9_byteOf 12 = .ok (.if_icmp .ne 13, 3) := dq_of dqX9_byteOf_0 8 rfl
theorem dX9_byteOf_15 : decode cX9_byteOf 15 = .ok (.new 80, 3) := dq_of dqX9_byteOf_0 9 rfl
theorem dX9_byteOf_18 : decode cX9_byteOf 18 = .ok (.dup, 1) := dq_of dqX9_byteOf_0 10 rfl
theorem dX9_byteOf_19 : decode cX9_byteOf 19 = .ok (.ldc 94, 2) := dq_of dqX9_byteOf_0 11 rfl
theorem dX9_byteOf_21 : decode cX9_byteOf 21 = .ok (.invokespecial 84, 3) := dq_of dqX9_byteOf_0 12 rfl
theorem dX9_byteOf_24 : decode cX9_byteOf 24 = .ok (.athrow, 1) := dq_of dqX9_byteOf_0 13 rfl
theorem dX9_byteOf_25 : decode cX9_byteOf 25 = .ok (.iload_n 3, 1) := dq_of dqX9_byteOf_0 14 rfl
theorem dX9_byteOf_26 : decode cX9_byteOf 26 = .ok (.ireturn, 1) := dq_of dqX9_byteOf_0 15 rfl
theorem dqX9_number_0 : ([(0, .aload_n 0, 1), (1, .getfield 19, 3), (4, .iload_n 1, 1), (5, .invokevirtual 96, 3), (8, .istore_n 2, 1), (9, .iload_n 2, 1), (10, .iconst 4, 1), (11, .if_icmp .ne 15, 3), (14, .aload_n 0, 1), (15, .getfield 19, 3), (18, .iload_n 1, 1), (19, .bipush 10, 2), (21, .invokevirtual 87, 3), (24, .i2l, 1), (25, .lreturn, 1), (26, .iload_n 2, 1), (27, .iconst 2, 1), (28, .if_icmp .eq 13, 3), (31, .new 80, 3), (34, .dup, 1), (35, .ldc 100, 2), (37, .invokespecial 84, 3), (40, .athrow, 1), (41, .aload_n 0, 1), (42, .getfield 37, 3), (45, .iload_n 1, 1), (46, .invokevirtual 102, 3), (49, .lreturn, 1)] : List (Nat × Instr × Nat)).all (fun q => decide (decode cX9_number q.1 = .ok (q.2.1, q.2.2))) = true := by decide +kernel
theorem dX9_number_0 : decode cX9_number 0 = .ok (.aload_n 0, 1) := dq_of dqX9_number_0 0 rfl
theorem dX9_number_1 : decode cX9_number 1 = .ok (.getfield 19, 3) := dq_of dqX9_number_0 1 rfl
theorem dX9_number_4 : decode cX9_number 4 = .ok (.iload_n 1, 1) := dq_of dqX9_number_0 2 rfl
theorem dX9_number_5 : decode cX9_number 5 = .ok (.invokevirtual 96, 3) := dq_of dqX9_number_0 3 rfl
theorem dX9_number_8 : decode cX9_number 8 = .ok (.istore_n 2, 1) := dq_of dqX9_number_0 4 rfl
theorem dX9_number_9 : decode cX9_number 9 = .ok (.iload_n 2, 1) := dq_of dqX9_number_0 5 rfl
theorem dX9_number_10 : decode cX9_number 10 = .ok (.iconst 4, 1) := dq_of dqX9_number_0 6 rfl
theorem dX9_number_11 : decode cX9_number 11 = .ok (.if_icmp .ne 15, 3) := dq_of dqX9_number_0 7 rfl
theorem dX9_number_14 : decode cX9_number 14 = .ok (.aload_n 0, 1) := dq_of dqX9_number_0 8 rfl
theorem dX9_number_15 : decode cX9_number 15 = .ok (.getfield 19, 3) := dq_of dqX9_number_0 9 rfl
theorem dX9_number_18 : decode cX9_number 18 = .ok (.iload_n 1, 1) := dq_of dqX9_number_0 10 rfl
theorem dX9_number_19 : decode cX9_number 19 = .ok (.bipush 10, 2) := dq_of dqX9_number_0 11 rfl
theorem dX9_number_21 : decode cX9_number 21 = .ok (.invokevirtual 87, 3) := dq_of dqX9_number_0 12 rfl
theorem dX9_number_24 : decode cX9_number 24 = .ok (.i2l, 1) := dq_of dqX9_number_0 13 rfl
theorem dX9_number_25 : decode cX9_number 25 = .ok (.lreturn, 1) := dq_of dqX9_number_0 14 rfl
theorem dX9_number_26 : decode cX9_number 26 = .ok (.iload_n 2, 1) := dq_of dqX9_number_0 15 rfl
theorem dX9_number_27 : decode cX9_number 27 = .ok (.iconst 2, 1) := dq_of dqX9_number_0 16 rfl
theorem dX9_number_28 : decode cX9_number 28 = .ok (.if_icmp .eq 13, 3) := dq_of dqX9_number_0 17 rfl
theorem dX9_number_31 : decode cX9_number 31 = .ok (.new 80, 3) := dq_of dqX9_number_0 18 rfl
theorem dX9_number_34 : decode cX9_number 34 = .ok (.dup, 1) := dq_of dqX9_number_0 19 rfl
theorem dX9_number_35 : decode cX9_number 35 = .ok (.ldc 100, 2) := dq_of dqX9_number_0 20 rfl
theorem dX9_number_37 : decode cX9_number 37 = .ok (.invokespecial 84, 3) := dq_of dqX9_number_0 21 rfl
theorem dX9_number_40 : decode cX9_number 40 = .ok (.athrow, 1) := dq_of dqX9_number_0 22 rfl
theorem dX9_number_41 : decode cX9_number 41 = .ok (.aload_n 0, 1) := dq_of dqX9_number_0 23 rfl
theorem dX9_number_42 : decode cX9_number 42 = .ok (.getfield 37, 3) := dq_of dqX9_number_0 24 rfl
theorem dX9_number_45 : decode cX9_number 45 = .ok (.iload_n 1, 1) := dq_of dqX9_number_0 25 rfl
theorem dX9_number_46 : decode cX9_number 46 = .ok (.invokevirtual 102, 3) := dq_of dqX9_number_0 26 rfl
theorem dX9_number_49 : decode cX9_number 49 = .ok (.lreturn, 1) := dq_of dqX9_number_0 27 rfl
theorem dqX9_fits_0 : ([(0, .aload_n 0, 1), (1, .getfield 19, 3), (4, .iload_n 1, 1), (5, .invokevirtual 96, 3), (8, .iconst 2, 1), (9, .if_icmp .ne 14, 3), (12, .iload_n 2, 1), (13, .ifCond .lt 10, 3), (16, .iload_n 2, 1), (17, .sipush 512, 3), (20, .if_icmp .le 13, 3), (23, .new 80, 3), (26, .dup, 1), (27, .ldc 106, 2), (29, .invokespecial 84, 3), (32, .athrow, 1), (33, .aload_n 0, 1), (34, .getfield 37, 3), (37, .iload_n 1, 1), (38, .iload_n 2, 1), (39, .invokevirtual 108, 3), (42, .ireturn, 1)] : List (Nat × Instr × Nat)).all (fun q => decide (decode cX9_fits q.1 = .ok (q.2.1, q.2.2))) = true := by decide +kernel
theorem dX9_fits_0 : decode cX9_fits 0 = .ok (.aload_n 0, 1) := dq_of dqX9_fits_0 0 rfl
theorem dX9_fits_1 : decode cX9_fits 1 = .ok (.getfield 19, 3) := dq_of dqX9_fits_0 1 rfl
theorem dX9_fits_4 : decode cX9_fits 4 = .ok (.iload_n 1, 1) := dq_of dqX9_fits_0 2 rfl
theorem dX9_fits_5 : decode cX9_fits 5 = .ok (.invokevirtual 96, 3) := dq_of dqX9_fits_0 3 rfl
theorem dX9_fits_8 : decode cX9_fits 8 = .ok (.iconst 2, 1) := dq_of dqX9_fits_0 4 rfl
theorem dX9_fits_9 : decode cX9_fits 9 = .ok (.if_icmp .ne 14, 3) := dq_of dqX9_fits_0 5 rfl
theorem dX9_fits_12 : decode cX9_fits 12 = .ok (.iload_n 2, 1) := dq_of dqX9_fits_0 6 rfl
theorem dX9_fits_13 : decode cX9_fits 13 = .ok (.ifCond .lt 10, 3) := dq_of dqX9_fits_0 7 rfl
theorem dX9_fits_16 : decode cX9_fits 16 = .ok (.iload_n 2, 1) := dq_of dqX9_fits_0 8 rfl
theorem dX9_fits_17 : decode cX9_fits 17 = .ok (.sipush 512, 3) := dq_of dqX9_fits_0 9 rfl
theorem dX9_fits_20 : decode cX9_fits 20 = .ok (.if_icmp .le 13, 3) := dq_of dqX9_fits_0 10 rfl
theorem dX9_fits_23 : decode cX9_fits 23 = .ok (.new 80, 3) := dq_of dqX9_fits_0 11 rfl
theorem dX9_fits_26 : decode cX9_fits 26 = .ok (.dup, 1) := dq_of dqX9_fits_0 12 rfl
theorem dX9_fits_27 : decode cX9_fits 27 = .ok (.ldc 106, 2) := dq_of dqX9_fits_0 13 rfl
theorem dX9_fits_29 : decode cX9_fits 29 = .ok (.invokespecial 84, 3) := dq_of dqX9_fits_0 14 rfl
theorem dX9_fits_32 : decode cX9_fits 32 = .ok (.athrow, 1) := dq_of dqX9_fits_0 15 rfl
theorem dX9_fits_33 : decode cX9_fits 33 = .ok (.aload_n 0, 1) := dq_of dqX9_fits_0 16 rfl
theorem dX9_fits_34 : decode cX9_fits 34 = .ok (.getfield 37, 3) := dq_of dqX9_fits_0 17 rfl
theorem dX9_fits_37 : decode cX9_fits 37 = .ok (.iload_n 1, 1) := dq_of dqX9_fits_0 18 rfl
theorem dX9_fits_38 : decode cX9_fits 38 = .ok (.iload_n 2, 1) := dq_of dqX9_fits_0 19 rfl
theorem dX9_fits_39 : decode cX9_fits 39 = .ok (.invokevirtual 108, 3) := dq_of dqX9_fits_0 20 rfl
theorem dX9_fits_42 : decode cX9_fits 42 = .ok (.ireturn, 1) := dq_of dqX9_fits_0 21 rfl
theorem dqX9_names_0 : ([(0, .aload_n 0, 1), (1, .getfield 19, 3), (4, .getfield 112, 3), (7, .getfield 116, 3), (10, .ireturn, 1)] : List (Nat × Instr × Nat)).all (fun q => decide (decode cX9_names q.1 = .ok (q.2.1, q.2.2))) = true := by decide +kernel
theorem dX9_names_0 : decode cX9_names 0 = .ok (.aload_n 0, 1) := dq_of dqX9_names_0 0 rfl
theorem dX9_names_1 : decode cX9_names 1 = .ok (.getfield 19, 3) := dq_of dqX9_names_0 1 rfl
theorem dX9_names_4 : decode cX9_names 4 = .ok (.getfield 112, 3) := dq_of dqX9_names_0 2 rfl
theorem dX9_names_7 : decode cX9_names 7 = .ok (.getfield 116, 3) := dq_of dqX9_names_0 3 rfl
theorem dX9_names_10 : decode cX9_names 10 = .ok (.ireturn, 1) := dq_of dqX9_names_0 4 rfl
theorem dqX9_firstOf_0 : ([(0, .aload_n 0, 1), (1, .getfield 19, 3), (4, .getfield 112, 3), (7, .iload_n 1, 1), (8, .invokevirtual 121, 3), (11, .ireturn, 1)] : List (Nat × Instr × Nat)).all (fun q => decide (decode cX9_firstOf q.1 = .ok (q.2.1, q.2.2))) = true := by decide +kernel
theorem dX9_firstOf_0 : decode cX9_firstOf 0 = .ok (.aload_n 0, 1) := dq_of dqX9_firstOf_0 0 rfl
theorem dX9_firstOf_1 : decode cX9_firstOf 1 = .ok (.getfield 19, 3) := dq_of dqX9_firstOf_0 1 rfl
theorem dX9_firstOf_4 : decode cX9_firstOf 4 = .ok (.getfield 112, 3) := dq_of dqX9_firstOf_0 2 rfl
theorem dX9_firstOf_7 : decode cX9_firstOf 7 = .ok (.iload_n 1, 1) := dq_of dqX9_firstOf_0 3 rfl
theorem dX9_firstOf_8 : decode cX9_firstOf 8 = .ok (.invokevirtual 121, 3) := dq_of dqX9_firstOf_0 4 rfl
theorem dX9_firstOf_11 : decode cX9_firstOf 11 = .ok (.ireturn, 1) := dq_of dqX9_firstOf_0 5 rfl
theorem dqX9_isDigit_0 : ([(0, .iload_n 0, 1), (1, .bipush 48, 2), (3, .if_icmp .lt 13, 3), (6, .iload_n 0, 1), (7, .bipush 57, 2), (9, .if_icmp .gt 7, 3), (12, .iconst 1, 1), (13, .goto 4, 3), (16, .iconst 0, 1), (17, .ireturn, 1)] : List (Nat × Instr × Nat)).all (fun q => decide (decode cX9_isDigit q.1 = .ok (q.2.1, q.2.2))) = true := by decide +kernel
theorem dX9_isDigit_0 : decode cX9_isDigit 0 = .ok (.iload_n 0, 1) := dq_of dqX9_isDigit_0 0 rfl
theorem dX9_isDigit_1 : decode cX9_isDigit 1 = .ok (.bipush 48, 2) := dq_of dqX9_isDigit_0 1 rfl
theorem dX9_isDigit_3 : decode cX9_isDigit 3 = .ok (.if_icmp .lt 13, 3) := dq_of dqX9_isDigit_0 2 rfl
theorem dX9_isDigit_6 : decode cX9_isDigit 6 = .ok (.iload_n 0, 1) := dq_of dqX9_isDigit_0 3 rfl
theorem dX9_isDigit_7 : decode cX9_isDigit 7 = .ok (.bipush 57, 2) := dq_of dqX9_isDigit_0 4 rfl
theorem dX9_isDigit_9 : decode cX9_isDigit 9 = .ok (.if_icmp .gt 7, 3) := dq_of dqX9_isDigit_0 5 rfl
theorem dX9_isDigit_12 : decode cX9_isDigit 12 = .ok (.iconst 1, 1) := dq_of dqX9_isDigit_0 6 rfl
theorem dX9_isDigit_13 : decode cX9_isDigit 13 = .ok (.goto 4, 3) := dq_of dqX9_isDigit_0 7 rfl
theorem dX9_isDigit_16 : decode cX9_isDigit 16 = .ok (.iconst 0, 1) := dq_of dqX9_isDigit_0 8 rfl
theorem dX9_isDigit_17 : decode cX9_isDigit 17 = .ok (.ireturn, 1) := dq_of dqX9_isDigit_0 9 rfl
theorem dqX9_isLetter_0 : ([(0, .iload_n 0, 1), (1, .bipush 97, 2), (3, .if_icmp .lt 9, 3), (6, .iload_n 0, 1), (7, .bipush 122, 2), (9, .if_icmp .le 21, 3), (12, .iload_n 0, 1), (13, .bipush 65, 2), (15, .if_icmp .lt 9, 3), (18, .iload_n 0, 1), (19, .bipush 90, 2), (21, .if_icmp .le 9, 3), (24, .iload_n 0, 1), (25, .bipush 95, 2), (27, .if_icmp .ne 7, 3), (30, .iconst 1, 1), (31, .goto 4, 3), (34, .iconst 0, 1), (35, .ireturn, 1)] : List (Nat × Instr × Nat)).all (fun q => decide (decode cX9_isLetter q.1 = .ok (q.2.1, q.2.2))) = true := by decide +kernel
theorem dX9_isLetter_0 : decode cX9_isLetter 0 = .ok (.iload_n 0, 1) := dq_of dqX9_isLetter_0 0 rfl
theorem dX9_isLetter_1 : decode cX9_isLetter 1 = .ok (.bipush 97, 2) := dq_of dqX9_isLetter_0 1 rfl
theorem dX9_isLetter_3 : decode cX9_isLetter 3 = .ok (.if_icmp .lt 9, 3) := dq_of dqX9_isLetter_0 2 rfl
theorem dX9_isLetter_6 : decode cX9_isLetter 6 = .ok (.iload_n 0, 1) := dq_of dqX9_isLetter_0 3 rfl
theorem dX9_isLetter_7 : decode cX9_isLetter 7 = .ok (.bipush 122, 2) := dq_of dqX9_isLetter_0 4 rfl
theorem dX9_isLetter_9 : decode cX9_isLetter 9 = .ok (.if_icmp .le 21, 3) := dq_of dqX9_isLetter_0 5 rfl
theorem dX9_isLetter_12 : decode cX9_isLetter 12 = .ok (.iload_n 0, 1) := dq_of dqX9_isLetter_0 6 rfl
theorem dX9_isLetter_13 : decode cX9_isLetter 13 = .ok (.bipush 65, 2) := dq_of dqX9_isLetter_0 7 rfl
theorem dX9_isLetter_15 : decode cX9_isLetter 15 = .ok (.if_icmp .lt 9, 3) := dq_of dqX9_isLetter_0 8 rfl
theorem dX9_isLetter_18 : decode cX9_isLetter 18 = .ok (.iload_n 0, 1) := dq_of dqX9_isLetter_0 9 rfl
theorem dX9_isLetter_19 : decode cX9_isLetter 19 = .ok (.bipush 90, 2) := dq_of dqX9_isLetter_0 10 rfl
theorem dX9_isLetter_21 : decode cX9_isLetter 21 = .ok (.if_icmp .le 9, 3) := dq_of dqX9_isLetter_0 11 rfl
theorem dX9_isLetter_24 : decode cX9_isLetter 24 = .ok (.iload_n 0, 1) := dq_of dqX9_isLetter_0 12 rfl
theorem dX9_isLetter_25 : decode cX9_isLetter 25 = .ok (.bipush 95, 2) := dq_of dqX9_isLetter_0 13 rfl
theorem dX9_isLetter_27 : decode cX9_isLetter 27 = .ok (.if_icmp .ne 7, 3) := dq_of dqX9_isLetter_0 14 rfl
theorem dX9_isLetter_30 : decode cX9_isLetter 30 = .ok (.iconst 1, 1) := dq_of dqX9_isLetter_0 15 rfl
theorem dX9_isLetter_31 : decode cX9_isLetter 31 = .ok (.goto 4, 3) := dq_of dqX9_isLetter_0 16 rfl
theorem dX9_isLetter_34 : decode cX9_isLetter 34 = .ok (.iconst 0, 1) := dq_of dqX9_isLetter_0 17 rfl
theorem dX9_isLetter_35 : decode cX9_isLetter 35 = .ok (.ireturn, 1) := dq_of dqX9_isLetter_0 18 rfl
theorem dqX9_isNamePart_0 : ([(0, .iload_n 0, 1), (1, .invokestatic 124, 3), (4, .ifCond .ne 10, 3), (7, .iload_n 0, 1), (8, .invokestatic 127, 3), (11, .ifCond .eq 7, 3), (14, .iconst 1, 1), (15, .goto 4, 3), (18, .iconst 0, 1), (19, .ireturn, 1)] : List (Nat × Instr × Nat)).all (fun q => decide (decode cX9_isNamePart q.1 = .ok (q.2.1, q.2.2))) = true := by decide +kernel
theorem dX9_isNamePart_0 : decode cX9_isNamePart 0 = .ok (.iload_n 0, 1) := dq_of dqX9_isNamePart_0 0 rfl
theorem dX9_isNamePart_1 : decode cX9_isNamePart 1 = .ok (.invokestatic 124, 3) := dq_of dqX9_isNamePart_0 1 rfl
theorem dX9_isNamePart_4 : decode cX9_isNamePart 4 = .ok (.ifCond .ne 10, 3) := dq_of dqX9_isNamePart_0 2 rfl
theorem dX9_isNamePart_7 : decode cX9_isNamePart 7 = .ok (.iload_n 0, 1) := dq_of dqX9_isNamePart_0 3 rfl
theorem dX9_isNamePart_8 : decode cX9_isNamePart 8 = .ok (.invokestatic 127, 3) := dq_of dqX9_isNamePart_0 4 rfl
theorem dX9_isNamePart_11 : decode cX9_isNamePart 11 = .ok (.ifCond .eq 7, 3) := dq_of dqX9_isNamePart_0 5 rfl
theorem dX9_isNamePart_14 : decode cX9_isNamePart 14 = .ok (.iconst 1, 1) := dq_of dqX9_isNamePart_0 6 rfl
theorem dX9_isNamePart_15 : decode cX9_isNamePart 15 = .ok (.goto 4, 3) := dq_of dqX9_isNamePart_0 7 rfl
theorem dX9_isNamePart_18 : decode cX9_isNamePart 18 = .ok (.iconst 0, 1) := dq_of dqX9_isNamePart_0 8 rfl
theorem dX9_isNamePart_19 : decode cX9_isNamePart 19 = .ok (.ireturn, 1) := dq_of dqX9_isNamePart_0 9 rfl
theorem dqX9_digitOf_0 : ([(0, .iconst (-1), 1), (1, .istore_n 2, 1), (2, .iload_n 0, 1), (3, .bipush 48, 2), (5, .if_icmp .lt 17, 3), (8, .iload_n 0, 1), (9, .bipush 57, 2), (11, .if_icmp .gt 11, 3), (14, .iload_n 0, 1), (15, .bipush 48, 2), (17, .isub, 1), (18, .istore_n 2, 1), (19, .goto 46, 3), (22, .iload_n 0, 1), (23, .bipush 97, 2), (25, .if_icmp .lt 20, 3), (28, .iload_n 0, 1), (29, .bipush 102, 2), (31, .if_icmp .gt 14, 3), (34, .iload_n 0, 1), (35, .bipush 97, 2), (37, .isub, 1), (38, .bipush 10, 2), (40, .iadd, 1), (41, .istore_n 2, 1), (42, .goto 23, 3), (45, .iload_n 0, 1), (46, .bipush 65, 2), (48, .if_icmp .lt 17, 3), (51, .iload_n 0, 1), (52, .bipush 70, 2), (54, .if_icmp .gt 11, 3), (57, .iload_n 0, 1), (58, .bipush 65, 2), (60, .isub, 1), (61, .bipush 10, 2), (63, .iadd, 1), (64, .istore_n 2, 1), (65, .iload_n 2, 1), (66, .iload_n 1, 1)] : List (Nat × Instr × Nat)).all (fun q => decide (decode cX9_digitOf q.1 = .ok (q.2.1, q.2.2))) = true := by decide +kernel
theorem dX9_digitOf_0 : decode cX9_digitOf 0 = .ok (.iconst (-1), 1) := dq_of dqX9_digitOf_0 0 rfl
theorem dX9_digitOf_1 : decode cX9_digitOf 1 = .ok (.istore_n 2, 1) := dq_of dqX9_digitOf_0 1 rfl
theorem dX9_digitOf_2 : decode cX9_digitOf 2 = .ok (.iload_n 0, 1) := dq_of dqX9_digitOf_0 2 rfl
theorem dX9_digitOf_3 : decode cX9_digitOf 3 = .ok (.bipush 48, 2) := dq_of dqX9_digitOf_0 3 rfl
theorem dX9_digitOf_5 : decode cX9_digitOf 5 = .ok (.if_icmp .lt 17, 3) := dq_of dqX9_digitOf_0 4 rfl
theorem dX9_digitOf_8 : decode cX9_digitOf 8 = .ok (.iload_n 0, 1) := dq_of dqX9_digitOf_0 5 rfl
theorem dX9_digitOf_9 : decode cX9_digitOf 9 = .ok (.bipush 57, 2) := dq_of dqX9_digitOf_0 6 rfl
theorem dX9_digitOf_11 : decode cX9_digitOf 11 = .ok (.if_icmp .gt 11, 3) := dq_of dqX9_digitOf_0 7 rfl
theorem dX9_digitOf_14 : decode cX9_digitOf 14 = .ok (.iload_n 0, 1) := dq_of dqX9_digitOf_0 8 rfl
theorem dX9_digitOf_15 : decode cX9_digitOf 15 = .ok (.bipush 48, 2) := dq_of dqX9_digitOf_0 9 rfl
theorem dX9_digitOf_17 : decode cX9_digitOf 17 = .ok (.isub, 1) := dq_of dqX9_digitOf_0 10 rfl
theorem dX9_digitOf_18 : decode cX9_digitOf 18 = .ok (.istore_n 2, 1) := dq_of dqX9_digitOf_0 11 rfl
theorem dX9_digitOf_19 : decode cX9_digitOf 19 = .ok (.goto 46, 3) := dq_of dqX9_digitOf_0 12 rfl
theorem dX9_digitOf_22 : decode cX9_digitOf 22 = .ok (.iload_n 0, 1) := dq_of dqX9_digitOf_0 13 rfl
theorem dX9_digitOf_23 : decode cX9_digitOf 23 = .ok (.bipush 97, 2) := dq_of dqX9_digitOf_0 14 rfl
theorem dX9_digitOf_25 : decode cX9_digitOf 25 = .ok (.if_icmp .lt 20, 3) := dq_of dqX9_digitOf_0 15 rfl
theorem dX9_digitOf_28 : decode cX9_digitOf 28 = .ok (.iload_n 0, 1) := dq_of dqX9_digitOf_0 16 rfl
theorem dX9_digitOf_29 : decode cX9_digitOf 29 = .ok (.bipush 102, 2) := dq_of dqX9_digitOf_0 17 rfl
theorem dX9_digitOf_31 : decode cX9_digitOf 31 = .ok (.if_icmp .gt 14, 3) := dq_of dqX9_digitOf_0 18 rfl
theorem dX9_digitOf_34 : decode cX9_digitOf 34 = .ok (.iload_n 0, 1) := dq_of dqX9_digitOf_0 19 rfl
theorem dX9_digitOf_35 : decode cX9_digitOf 35 = .ok (.bipush 97, 2) := dq_of dqX9_digitOf_0 20 rfl
theorem dX9_digitOf_37 : decode cX9_digitOf 37 = .ok (.isub, 1) := dq_of dqX9_digitOf_0 21 rfl
theorem dX9_digitOf_38 : decode cX9_digitOf 38 = .ok (.bipush 10, 2) := dq_of dqX9_digitOf_0 22 rfl
theorem dX9_digitOf_40 : decode cX9_digitOf 40 = .ok (.iadd, 1) := dq_of dqX9_digitOf_0 23 rfl
theorem dX9_digitOf_41 : decode cX9_digitOf 41 = .ok (.istore_n 2, 1) := dq_of dqX9_digitOf_0 24 rfl
theorem dX9_digitOf_42 : decode cX9_digitOf 42 = .ok (.goto 23, 3) := dq_of dqX9_digitOf_0 25 rfl
theorem dX9_digitOf_45 : decode cX9_digitOf 45 = .ok (.iload_n 0, 1) := dq_of dqX9_digitOf_0 26 rfl
theorem dX9_digitOf_46 : decode cX9_digitOf 46 = .ok (.bipush 65, 2) := dq_of dqX9_digitOf_0 27 rfl
theorem dX9_digitOf_48 : decode cX9_digitOf 48 = .ok (.if_icmp .lt 17, 3) := dq_of dqX9_digitOf_0 28 rfl
theorem dX9_digitOf_51 : decode cX9_digitOf 51 = .ok (.iload_n 0, 1) := dq_of dqX9_digitOf_0 29 rfl
theorem dX9_digitOf_52 : decode cX9_digitOf 52 = .ok (.bipush 70, 2) := dq_of dqX9_digitOf_0 30 rfl
theorem dX9_digitOf_54 : decode cX9_digitOf 54 = .ok (.if_icmp .gt 11, 3) := dq_of dqX9_digitOf_0 31 rfl
theorem dX9_digitOf_57 : decode cX9_digitOf 57 = .ok (.iload_n 0, 1) := dq_of dqX9_digitOf_0 32 rfl
theorem dX9_digitOf_58 : decode cX9_digitOf 58 = .ok (.bipush 65, 2) := dq_of dqX9_digitOf_0 33 rfl
theorem dX9_digitOf_60 : decode cX9_digitOf 60 = .ok (.isub, 1) := dq_of dqX9_digitOf_0 34 rfl
theorem dX9_digitOf_61 : decode cX9_digitOf 61 = .ok (.bipush 10, 2) := dq_of dqX9_digitOf_0 35 rfl
theorem dX9_digitOf_63 : decode cX9_digitOf 63 = .ok (.iadd, 1) := dq_of dqX9_digitOf_0 36 rfl
theorem dX9_digitOf_64 : decode cX9_digitOf 64 = .ok (.istore_n 2, 1) := dq_of dqX9_digitOf_0 37 rfl
theorem dX9_digitOf_65 : decode cX9_digitOf 65 = .ok (.iload_n 2, 1) := dq_of dqX9_digitOf_0 38 rfl
theorem dX9_digitOf_66 : decode cX9_digitOf 66 = .ok (.iload_n 1, 1) := dq_of dqX9_digitOf_0 39 rfl
theorem dqX9_digitOf_67 : ([(67, .if_icmp .ge 7, 3), (70, .iload_n 2, 1), (71, .goto 4, 3), (74, .iconst (-1), 1), (75, .ireturn, 1)] : List (Nat × Instr × Nat)).all (fun q => decide (decode cX9_digitOf q.1 = .ok (q.2.1, q.2.2))) = true := by decide +kernel
theorem dX9_digitOf_67 : decode cX9_digitOf 67 = .ok (.if_icmp .ge 7, 3) := dq_of dqX9_digitOf_67 0 rfl
theorem dX9_digitOf_70 : decode cX9_digitOf 70 = .ok (.iload_n 2, 1) := dq_of dqX9_digitOf_67 1 rfl
theorem dX9_digitOf_71 : decode cX9_digitOf 71 = .ok (.goto 4, 3) := dq_of dqX9_digitOf_67 2 rfl
theorem dX9_digitOf_74 : decode cX9_digitOf 74 = .ok (.iconst (-1), 1) := dq_of dqX9_digitOf_67 3 rfl
theorem dX9_digitOf_75 : decode cX9_digitOf 75 = .ok (.ireturn, 1) := dq_of dqX9_digitOf_67 4 rfl
theorem dqX9_holdsCode_0 : ([(0, .lload_n 0, 1), (1, .ldc2_w 130, 3), (4, .lcmp, 1), (5, .ifCond .gt 23, 3), (8, .lload_n 0, 1), (9, .ldc2_w 132, 3), (12, .lcmp, 1), (13, .ifCond .lt 11, 3), (16, .lload_n 2, 1), (17, .ldc2_w 134, 3), (20, .lcmp, 1), (21, .ifCond .le 7, 3), (24, .iconst 1, 1), (25, .goto 4, 3), (28, .iconst 0, 1), (29, .ireturn, 1)] : List (Nat × Instr × Nat)).all (fun q => decide (decode cX9_holdsCode q.1 = .ok (q.2.1, q.2.2))) = true := by decide +kernel
theorem dX9_holdsCode_0 : decode cX9_holdsCode 0 = .ok (.lload_n 0, 1) := dq_of dqX9_holdsCode_0 0 rfl
theorem dX9_holdsCode_1 : decode cX9_holdsCode 1 = .ok (.ldc2_w 130, 3) := dq_of dqX9_holdsCode_0 1 rfl
theorem dX9_holdsCode_4 : decode cX9_holdsCode 4 = .ok (.lcmp, 1) := dq_of dqX9_holdsCode_0 2 rfl
theorem dX9_holdsCode_5 : decode cX9_holdsCode 5 = .ok (.ifCond .gt 23, 3) := dq_of dqX9_holdsCode_0 3 rfl
theorem dX9_holdsCode_8 : decode cX9_holdsCode 8 = .ok (.lload_n 0, 1) := dq_of dqX9_holdsCode_0 4 rfl
theorem dX9_holdsCode_9 : decode cX9_holdsCode 9 = .ok (.ldc2_w 132, 3) := dq_of dqX9_holdsCode_0 5 rfl
theorem dX9_holdsCode_12 : decode cX9_holdsCode 12 = .ok (.lcmp, 1) := dq_of dqX9_holdsCode_0 6 rfl
theorem dX9_holdsCode_13 : decode cX9_holdsCode 13 = .ok (.ifCond .lt 11, 3) := dq_of dqX9_holdsCode_0 7 rfl
theorem dX9_holdsCode_16 : decode cX9_holdsCode 16 = .ok (.lload_n 2, 1) := dq_of dqX9_holdsCode_0 8 rfl
theorem dX9_holdsCode_17 : decode cX9_holdsCode 17 = .ok (.ldc2_w 134, 3) := dq_of dqX9_holdsCode_0 9 rfl
theorem dX9_holdsCode_20 : decode cX9_holdsCode 20 = .ok (.lcmp, 1) := dq_of dqX9_holdsCode_0 10 rfl
theorem dX9_holdsCode_21 : decode cX9_holdsCode 21 = .ok (.ifCond .le 7, 3) := dq_of dqX9_holdsCode_0 11 rfl
theorem dX9_holdsCode_24 : decode cX9_holdsCode 24 = .ok (.iconst 1, 1) := dq_of dqX9_holdsCode_0 12 rfl
theorem dX9_holdsCode_25 : decode cX9_holdsCode 25 = .ok (.goto 4, 3) := dq_of dqX9_holdsCode_0 13 rfl
theorem dX9_holdsCode_28 : decode cX9_holdsCode 28 = .ok (.iconst 0, 1) := dq_of dqX9_holdsCode_0 14 rfl
theorem dX9_holdsCode_29 : decode cX9_holdsCode 29 = .ok (.ireturn, 1) := dq_of dqX9_holdsCode_0 15 rfl
theorem dqJ9_min_7cf53_0 : ([(0, .iload_n 0, 1), (1, .iload_n 1, 1), (2, .if_icmp .gt 7, 3), (5, .iload_n 0, 1), (6, .goto 4, 3), (9, .iload_n 1, 1), (10, .ireturn, 1)] : List (Nat × Instr × Nat)).all (fun q => decide (decode cJ9_min_7cf53 q.1 = .ok (q.2.1, q.2.2))) = true := by decide +kernel
theorem dJ9_min_7cf53_0 : decode cJ9_min_7cf53 0 = .ok (.iload_n 0, 1) := dq_of dqJ9_min_7cf53_0 0 rfl
theorem dJ9_min_7cf53_1 : decode cJ9_min_7cf53 1 = .ok (.iload_n 1, 1) := dq_of dqJ9_min_7cf53_0 1 rfl
theorem dJ9_min_7cf53_2 : decode cJ9_min_7cf53 2 = .ok (.if_icmp .gt 7, 3) := dq_of dqJ9_min_7cf53_0 2 rfl
theorem dJ9_min_7cf53_5 : decode cJ9_min_7cf53 5 = .ok (.iload_n 0, 1) := dq_of dqJ9_min_7cf53_0 3 rfl
theorem dJ9_min_7cf53_6 : decode cJ9_min_7cf53 6 = .ok (.goto 4, 3) := dq_of dqJ9_min_7cf53_0 4 rfl
theorem dJ9_min_7cf53_9 : decode cJ9_min_7cf53 9 = .ok (.iload_n 1, 1) := dq_of dqJ9_min_7cf53_0 5 rfl
theorem dJ9_min_7cf53_10 : decode cJ9_min_7cf53 10 = .ok (.ireturn, 1) := dq_of dqJ9_min_7cf53_0 6 rfl
theorem dqJ0_length_8abf5_0 : ([(0, .aload_n 0, 1), (1, .getfield 9, 3), (4, .arraylength, 1), (5, .aload_n 0, 1), (6, .invokevirtual 335, 3), (9, .ishr, 1), (10, .ireturn, 1)] : List (Nat × Instr × Nat)).all (fun q => decide (decode cJ0_length_8abf5 q.1 = .ok (q.2.1, q.2.2))) = true := by decide +kernel
theorem dJ0_length_8abf5_0 : decode cJ0_length_8abf5 0 = .ok (.aload_n 0, 1) := dq_of dqJ0_length_8abf5_0 0 rfl
theorem dJ0_length_8abf5_1 : decode cJ0_length_8abf5 1 = .ok (.getfield 9, 3) := dq_of dqJ0_length_8abf5_0 1 rfl
theorem dJ0_length_8abf5_4 : decode cJ0_length_8abf5 4 = .ok (.arraylength, 1) := dq_of dqJ0_length_8abf5_0 2 rfl
theorem dJ0_length_8abf5_5 : decode cJ0_length_8abf5 5 = .ok (.aload_n 0, 1) := dq_of dqJ0_length_8abf5_0 3 rfl
theorem dJ0_length_8abf5_6 : decode cJ0_length_8abf5 6 = .ok (.invokevirtual 335, 3) := dq_of dqJ0_length_8abf5_0 4 rfl
theorem dJ0_length_8abf5_9 : decode cJ0_length_8abf5 9 = .ok (.ishr, 1) := dq_of dqJ0_length_8abf5_0 5 rfl
theorem dJ0_length_8abf5_10 : decode cJ0_length_8abf5 10 = .ok (.ireturn, 1) := dq_of dqJ0_length_8abf5_0 6 rfl
theorem dqJ0_charAt_5068e_0 : ([(0, .aload_n 0, 1), (1, .invokevirtual 492, 3), (4, .ifCond .eq 12, 3), (7, .aload_n 0, 1), (8, .getfield 9, 3), (11, .iload_n 1, 1), (12, .invokestatic 495, 3), (15, .ireturn, 1), (16, .aload_n 0, 1), (17, .getfield 9, 3), (20, .iload_n 1, 1), (21, .invokestatic 498, 3), (24, .ireturn, 1)] : List (Nat × Instr × Nat)).all (fun q => decide (decode cJ0_charAt_5068e q.1 = .ok (q.2.1, q.2.2))) = true := by decide +kernel
theorem dJ0_charAt_5068e_0 : decode cJ0_charAt_5068e 0 = .ok (.aload_n 0, 1) := dq_of dqJ0_charAt_5068e_0 0 rfl
theorem dJ0_charAt_5068e_1 : decode cJ0_charAt_5068e 1 = .ok (.invokevirtual 492, 3) := dq_of dqJ0_charAt_5068e_0 1 rfl
theorem dJ0_charAt_5068e_4 : decode cJ0_charAt_5068e 4 = .ok (.ifCond .eq 12, 3) := dq_of dqJ0_charAt_5068e_0 2 rfl
theorem dJ0_charAt_5068e_7 : decode cJ0_charAt_5068e 7 = .ok (.aload_n 0, 1) := dq_of dqJ0_charAt_5068e_0 3 rfl
theorem dJ0_charAt_5068e_8 : decode cJ0_charAt_5068e 8 = .ok (.getfield 9, 3) := dq_of dqJ0_charAt_5068e_0 4 rfl
theorem dJ0_charAt_5068e_11 : decode cJ0_charAt_5068e 11 = .ok (.iload_n 1, 1) := dq_of dqJ0_charAt_5068e_0 5 rfl
theorem dJ0_charAt_5068e_12 : decode cJ0_charAt_5068e 12 = .ok (.invokestatic 495, 3) := dq_of dqJ0_charAt_5068e_0 6 rfl
theorem dJ0_charAt_5068e_15 : decode cJ0_charAt_5068e 15 = .ok (.ireturn, 1) := dq_of dqJ0_charAt_5068e_0 7 rfl
theorem dJ0_charAt_5068e_16 : decode cJ0_charAt_5068e 16 = .ok (.aload_n 0, 1) := dq_of dqJ0_charAt_5068e_0 8 rfl
theorem dJ0_charAt_5068e_17 : decode cJ0_charAt_5068e 17 = .ok (.getfield 9, 3) := dq_of dqJ0_charAt_5068e_0 9 rfl
theorem dJ0_charAt_5068e_20 : decode cJ0_charAt_5068e 20 = .ok (.iload_n 1, 1) := dq_of dqJ0_charAt_5068e_0 10 rfl
theorem dJ0_charAt_5068e_21 : decode cJ0_charAt_5068e 21 = .ok (.invokestatic 498, 3) := dq_of dqJ0_charAt_5068e_0 11 rfl
theorem dJ0_charAt_5068e_24 : decode cJ0_charAt_5068e 24 = .ok (.ireturn, 1) := dq_of dqJ0_charAt_5068e_0 12 rfl
theorem dqJ0_coder_7d493_0 : ([(0, .getstatic 38, 3), (3, .ifCond .eq 10, 3), (6, .aload_n 0, 1), (7, .getfield 15, 3), (10, .goto 4, 3), (13, .iconst 1, 1), (14, .ireturn, 1)] : List (Nat × Instr × Nat)).all (fun q => decide (decode cJ0_coder_7d493 q.1 = .ok (q.2.1, q.2.2))) = true := by decide +kernel
theorem dJ0_coder_7d493_0 : decode cJ0_coder_7d493 0 = .ok (.getstatic 38, 3) := dq_of dqJ0_coder_7d493_0 0 rfl
theorem dJ0_coder_7d493_3 : decode cJ0_coder_7d493 3 = .ok (.ifCond .eq 10, 3) := dq_of dqJ0_coder_7d493_0 1 rfl
theorem dJ0_coder_7d493_6 : decode cJ0_coder_7d493 6 = .ok (.aload_n 0, 1) := dq_of dqJ0_coder_7d493_0 2 rfl
theorem dJ0_coder_7d493_7 : decode cJ0_coder_7d493 7 = .ok (.getfield 15, 3) := dq_of dqJ0_coder_7d493_0 3 rfl
theorem dJ0_coder_7d493_10 : decode cJ0_coder_7d493 10 = .ok (.goto 4, 3) := dq_of dqJ0_coder_7d493_0 4 rfl
theorem dJ0_coder_7d493_13 : decode cJ0_coder_7d493 13 = .ok (.iconst 1, 1) := dq_of dqJ0_coder_7d493_0 5 rfl
theorem dJ0_coder_7d493_14 : decode cJ0_coder_7d493 14 = .ok (.ireturn, 1) := dq_of dqJ0_coder_7d493_0 6 rfl
theorem dqJ0_isLatin1_aae02_0 : ([(0, .getstatic 38, 3), (3, .ifCond .eq 14, 3), (6, .aload_n 0, 1), (7, .getfield 15, 3), (10, .ifCond .ne 7, 3), (13, .iconst 1, 1), (14, .goto 4, 3), (17, .iconst 0, 1), (18, .ireturn, 1)] : List (Nat × Instr × Nat)).all (fun q => decide (decode cJ0_isLatin1_aae02 q.1 = .ok (q.2.1, q.2.2))) = true := by decide +kernel
theorem dJ0_isLatin1_aae02_0 : decode cJ0_isLatin1_aae02 0 = .ok (.getstatic 38, 3) := dq_of dqJ0_isLatin1_aae02_0 0 rfl
theorem dJ0_isLatin1_aae02_3 : decode cJ0_isLatin1_aae02 3 = .ok (.ifCond .eq 14, 3) := dq_of dqJ0_isLatin1_aae02_0 1 rfl
theorem dJ0_isLatin1_aae02_6 : decode cJ0_isLatin1_aae02 6 = .ok (.aload_n 0, 1) := dq_of dqJ0_isLatin1_aae02_0 2 rfl
theorem dJ0_isLatin1_aae02_7 : decode cJ0_isLatin1_aae02 7 = .ok (.getfield 15, 3) := dq_of dqJ0_isLatin1_aae02_0 3 rfl
theorem dJ0_isLatin1_aae02_10 : decode cJ0_isLatin1_aae02 10 = .ok (.ifCond .ne 7, 3) := dq_of dqJ0_isLatin1_aae02_0 4 rfl
theorem dJ0_isLatin1_aae02_13 : decode cJ0_isLatin1_aae02 13 = .ok (.iconst 1, 1) := dq_of dqJ0_isLatin1_aae02_0 5 rfl
theorem dJ0_isLatin1_aae02_14 : decode cJ0_isLatin1_aae02 14 = .ok (.goto 4, 3) := dq_of dqJ0_isLatin1_aae02_0 6 rfl
theorem dJ0_isLatin1_aae02_17 : decode cJ0_isLatin1_aae02 17 = .ok (.iconst 0, 1) := dq_of dqJ0_isLatin1_aae02_0 7 rfl
theorem dJ0_isLatin1_aae02_18 : decode cJ0_isLatin1_aae02 18 = .ok (.ireturn, 1) := dq_of dqJ0_isLatin1_aae02_0 8 rfl
theorem dqJ0_checkIndex_df160_0 : ([(0, .iload_n 0, 1), (1, .iload_n 1, 1), (2, .getstatic 1053, 3), (5, .invokestatic 1059, 3), (8, .pop, 1), (9, .return_, 1)] : List (Nat × Instr × Nat)).all (fun q => decide (decode cJ0_checkIndex_df160 q.1 = .ok (q.2.1, q.2.2))) = true := by decide +kernel
theorem dJ0_checkIndex_df160_0 : decode cJ0_checkIndex_df160 0 = .ok (.iload_n 0, 1) := dq_of dqJ0_checkIndex_df160_0 0 rfl
theorem dJ0_checkIndex_df160_1 : decode cJ0_checkIndex_df160 1 = .ok (.iload_n 1, 1) := dq_of dqJ0_checkIndex_df160_0 1 rfl
theorem dJ0_checkIndex_df160_2 : decode cJ0_checkIndex_df160 2 = .ok (.getstatic 1053, 3) := dq_of dqJ0_checkIndex_df160_0 2 rfl
theorem dJ0_checkIndex_df160_5 : decode cJ0_checkIndex_df160 5 = .ok (.invokestatic 1059, 3) := dq_of dqJ0_checkIndex_df160_0 3 rfl
theorem dJ0_checkIndex_df160_8 : decode cJ0_checkIndex_df160 8 = .ok (.pop, 1) := dq_of dqJ0_checkIndex_df160_0 4 rfl
theorem dJ0_checkIndex_df160_9 : decode cJ0_checkIndex_df160 9 = .ok (.return_, 1) := dq_of dqJ0_checkIndex_df160_0 5 rfl
theorem dqJ1_charAt_3b067_0 : ([(0, .iload_n 1, 1), (1, .aload_n 0, 1), (2, .arraylength, 1), (3, .invokestatic 9, 3), (6, .aload_n 0, 1), (7, .iload_n 1, 1), (8, .baload, 1), (9, .sipush 255, 3), (12, .iand, 1), (13, .i2c, 1), (14, .ireturn, 1)] : List (Nat × Instr × Nat)).all (fun q => decide (decode cJ1_charAt_3b067 q.1 = .ok (q.2.1, q.2.2))) = true := by decide +kernel
theorem dJ1_charAt_3b067_0 : decode cJ1_charAt_3b067 0 = .ok (.iload_n 1, 1) := dq_of dqJ1_charAt_3b067_0 0 rfl
theorem dJ1_charAt_3b067_1 : decode cJ1_charAt_3b067 1 = .ok (.aload_n 0, 1) := dq_of dqJ1_charAt_3b067_0 1 rfl
theorem dJ1_charAt_3b067_2 : decode cJ1_charAt_3b067 2 = .ok (.arraylength, 1) := dq_of dqJ1_charAt_3b067_0 2 rfl
theorem dJ1_charAt_3b067_3 : decode cJ1_charAt_3b067 3 = .ok (.invokestatic 9, 3) := dq_of dqJ1_charAt_3b067_0 3 rfl
theorem dJ1_charAt_3b067_6 : decode cJ1_charAt_3b067 6 = .ok (.aload_n 0, 1) := dq_of dqJ1_charAt_3b067_0 4 rfl
theorem dJ1_charAt_3b067_7 : decode cJ1_charAt_3b067 7 = .ok (.iload_n 1, 1) := dq_of dqJ1_charAt_3b067_0 5 rfl
theorem dJ1_charAt_3b067_8 : decode cJ1_charAt_3b067 8 = .ok (.baload, 1) := dq_of dqJ1_charAt_3b067_0 6 rfl
theorem dJ1_charAt_3b067_9 : decode cJ1_charAt_3b067 9 = .ok (.sipush 255, 3) := dq_of dqJ1_charAt_3b067_0 7 rfl
theorem dJ1_charAt_3b067_12 : decode cJ1_charAt_3b067 12 = .ok (.iand, 1) := dq_of dqJ1_charAt_3b067_0 8 rfl
theorem dJ1_charAt_3b067_13 : decode cJ1_charAt_3b067 13 = .ok (.i2c, 1) := dq_of dqJ1_charAt_3b067_0 9 rfl
theorem dJ1_charAt_3b067_14 : decode cJ1_charAt_3b067 14 = .ok (.ireturn, 1) := dq_of dqJ1_charAt_3b067_0 10 rfl
theorem dqJ2_getChar_3b067_0 : ([(0, .getstatic 44, 3), (3, .ifCond .ne 25, 3), (6, .iload_n 1, 1), (7, .ifCond .lt 11, 3), (10, .iload_n 1, 1), (11, .aload_n 0, 1), (12, .invokestatic 48, 3), (15, .if_icmp .lt 13, 3), (18, .new 52, 3), (21, .dup, 1), (22, .ldc 54, 2), (24, .invokespecial 56, 3), (27, .athrow, 1), (28, .iload_n 1, 1), (29, .iconst 1, 1), (30, .ishl, 1), (31, .istore_n 1, 1), (32, .aload_n 0, 1), (33, .iload_n 1, 1), (34, .iinc 1 1, 3), (37, .baload, 1), (38, .sipush 255, 3), (41, .iand, 1), (42, .getstatic 59, 3), (45, .ishl, 1), (46, .aload_n 0, 1), (47, .iload_n 1, 1), (48, .baload, 1), (49, .sipush 255, 3), (52, .iand, 1), (53, .getstatic 63, 3), (56, .ishl, 1), (57, .ior, 1), (58, .i2c, 1), (59, .ireturn, 1)] : List (Nat × Instr × Nat)).all (fun q => decide (decode cJ2_getChar_3b067 q.1 = .ok (q.2.1, q.2.2))) = true := by decide +kernel
theorem dJ2_getChar_3b067_0 : decode cJ2_getChar_3b067 0 = .ok (.getstatic 44, 3) := dq_of dqJ2_getChar_3b067_0 0 rfl
theorem dJ2_getChar_3b067_3 : decode cJ2_getChar_3b067 3 = .ok (.ifCond .ne 25, 3) := dq_of dqJ2_getChar_3b067_0 1 rfl
theorem dJ2_getChar_3b067_6 : decode cJ2_getChar_3b067 6 = .ok (.iload_n 1, 1) := dq_of dqJ2_getChar_3b067_0 2 rfl
theorem dJ2_getChar_3b067_7 : decode cJ2_getChar_3b067 7 = .ok (.ifCond .lt 11, 3) := dq_of dqJ2_getChar_3b067_0 3 rfl
theorem dJ2_getChar_3b067_10 : decode cJ2_getChar_3b067 10 = .ok (.iload_n 1, 1) := dq_of dqJ2_getChar_3b067_0 4 rfl
theorem dJ2_getChar_3b067_11 : decode cJ2_getChar_3b067 11 = .ok (.aload_n 0, 1) := dq_of dqJ2_getChar_3b067_0 5 rfl
theorem dJ2_getChar_3b067_12 : decode cJ2_getChar_3b067 12 = .ok (.invokestatic 48, 3) := dq_of dqJ2_getChar_3b067_0 6 rfl
theorem dJ2_getChar_3b067_15 : decode cJ2_getChar_3b067 15 = .ok (.if_icmp .lt 13, 3) := dq_of dqJ2_getChar_3b067_0 7 rfl
theorem dJ2_getChar_3b067_18 : decode cJ2_getChar_3b067 18 = .ok (.new 52, 3) := dq_of dqJ2_getChar_3b067_0 8 rfl
theorem dJ2_getChar_3b067_21 : decode cJ2_getChar_3b067 21 = .ok (.dup, 1) := dq_of dqJ2_getChar_3b067_0 9 rfl
theorem dJ2_getChar_3b067_22 : decode cJ2_getChar_3b067 22 = .ok (.ldc 54, 2) := dq_of dqJ2_getChar_3b067_0 10 rfl
theorem dJ2_getChar_3b067_24 : decode cJ2_getChar_3b067 24 = .ok (.invokespecial 56, 3) := dq_of dqJ2_getChar_3b067_0 11 rfl
theorem dJ2_getChar_3b067_27 : decode cJ2_getChar_3b067 27 = .ok (.athrow, 1) := dq_of dqJ2_getChar_3b067_0 12 rfl
theorem dJ2_getChar_3b067_28 : decode cJ2_getChar_3b067 28 = .ok (.iload_n 1, 1) := dq_of dqJ2_getChar_3b067_0 13 rfl
theorem dJ2_getChar_3b067_29 : decode cJ2_getChar_3b067 29 = .ok (.iconst 1, 1) := dq_of dqJ2_getChar_3b067_0 14 rfl
theorem dJ2_getChar_3b067_30 : decode cJ2_getChar_3b067 30 = .ok (.ishl, 1) := dq_of dqJ2_getChar_3b067_0 15 rfl
theorem dJ2_getChar_3b067_31 : decode cJ2_getChar_3b067 31 = .ok (.istore_n 1, 1) := dq_of dqJ2_getChar_3b067_0 16 rfl
theorem dJ2_getChar_3b067_32 : decode cJ2_getChar_3b067 32 = .ok (.aload_n 0, 1) := dq_of dqJ2_getChar_3b067_0 17 rfl
theorem dJ2_getChar_3b067_33 : decode cJ2_getChar_3b067 33 = .ok (.iload_n 1, 1) := dq_of dqJ2_getChar_3b067_0 18 rfl
theorem dJ2_getChar_3b067_34 : decode cJ2_getChar_3b067 34 = .ok (.iinc 1 1, 3) := dq_of dqJ2_getChar_3b067_0 19 rfl
theorem dJ2_getChar_3b067_37 : decode cJ2_getChar_3b067 37 = .ok (.baload, 1) := dq_of dqJ2_getChar_3b067_0 20 rfl
theorem dJ2_getChar_3b067_38 : decode cJ2_getChar_3b067 38 = .ok (.sipush 255, 3) := dq_of dqJ2_getChar_3b067_0 21 rfl
theorem dJ2_getChar_3b067_41 : decode cJ2_getChar_3b067 41 = .ok (.iand, 1) := dq_of dqJ2_getChar_3b067_0 22 rfl
theorem dJ2_getChar_3b067_42 : decode cJ2_getChar_3b067 42 = .ok (.getstatic 59, 3) := dq_of dqJ2_getChar_3b067_0 23 rfl
theorem dJ2_getChar_3b067_45 : decode cJ2_getChar_3b067 45 = .ok (.ishl, 1) := dq_of dqJ2_getChar_3b067_0 24 rfl
theorem dJ2_getChar_3b067_46 : decode cJ2_getChar_3b067 46 = .ok (.aload_n 0, 1) := dq_of dqJ2_getChar_3b067_0 25 rfl
theorem dJ2_getChar_3b067_47 : decode cJ2_getChar_3b067 47 = .ok (.iload_n 1, 1) := dq_of dqJ2_getChar_3b067_0 26 rfl
theorem dJ2_getChar_3b067_48 : decode cJ2_getChar_3b067 48 = .ok (.baload, 1) := dq_of dqJ2_getChar_3b067_0 27 rfl
theorem dJ2_getChar_3b067_49 : decode cJ2_getChar_3b067 49 = .ok (.sipush 255, 3) := dq_of dqJ2_getChar_3b067_0 28 rfl
theorem dJ2_getChar_3b067_52 : decode cJ2_getChar_3b067 52 = .ok (.iand, 1) := dq_of dqJ2_getChar_3b067_0 29 rfl
theorem dJ2_getChar_3b067_53 : decode cJ2_getChar_3b067 53 = .ok (.getstatic 63, 3) := dq_of dqJ2_getChar_3b067_0 30 rfl
theorem dJ2_getChar_3b067_56 : decode cJ2_getChar_3b067 56 = .ok (.ishl, 1) := dq_of dqJ2_getChar_3b067_0 31 rfl
theorem dJ2_getChar_3b067_57 : decode cJ2_getChar_3b067 57 = .ok (.ior, 1) := dq_of dqJ2_getChar_3b067_0 32 rfl
theorem dJ2_getChar_3b067_58 : decode cJ2_getChar_3b067 58 = .ok (.i2c, 1) := dq_of dqJ2_getChar_3b067_0 33 rfl
theorem dJ2_getChar_3b067_59 : decode cJ2_getChar_3b067 59 = .ok (.ireturn, 1) := dq_of dqJ2_getChar_3b067_0 34 rfl
theorem dqJ2_length_9d52b_0 : ([(0, .aload_n 0, 1), (1, .arraylength, 1), (2, .iconst 1, 1), (3, .ishr, 1), (4, .ireturn, 1)] : List (Nat × Instr × Nat)).all (fun q => decide (decode cJ2_length_9d52b q.1 = .ok (q.2.1, q.2.2))) = true := by decide +kernel
theorem dJ2_length_9d52b_0 : decode cJ2_length_9d52b 0 = .ok (.aload_n 0, 1) := dq_of dqJ2_length_9d52b_0 0 rfl
theorem dJ2_length_9d52b_1 : decode cJ2_length_9d52b 1 = .ok (.arraylength, 1) := dq_of dqJ2_length_9d52b_0 1 rfl
theorem dJ2_length_9d52b_2 : decode cJ2_length_9d52b 2 = .ok (.iconst 1, 1) := dq_of dqJ2_length_9d52b_0 2 rfl
theorem dJ2_length_9d52b_3 : decode cJ2_length_9d52b 3 = .ok (.ishr, 1) := dq_of dqJ2_length_9d52b_0 3 rfl
theorem dJ2_length_9d52b_4 : decode cJ2_length_9d52b 4 = .ok (.ireturn, 1) := dq_of dqJ2_length_9d52b_0 4 rfl
theorem dqJ2_charAt_3b067_0 : ([(0, .iload_n 1, 1), (1, .aload_n 0, 1), (2, .invokestatic 67, 3), (5, .aload_n 0, 1), (6, .iload_n 1, 1), (7, .invokestatic 71, 3), (10, .ireturn, 1)] : List (Nat × Instr × Nat)).all (fun q => decide (decode cJ2_charAt_3b067 q.1 = .ok (q.2.1, q.2.2))) = true := by decide +kernel
theorem dJ2_charAt_3b067_0 : decode cJ2_charAt_3b067 0 = .ok (.iload_n 1, 1) := dq_of dqJ2_charAt_3b067_0 0 rfl
theorem dJ2_charAt_3b067_1 : decode cJ2_charAt_3b067 1 = .ok (.aload_n 0, 1) := dq_of dqJ2_charAt_3b067_0 1 rfl
theorem dJ2_charAt_3b067_2 : decode cJ2_charAt_3b067 2 = .ok (.invokestatic 67, 3) := dq_of dqJ2_charAt_3b067_0 2 rfl
theorem dJ2_charAt_3b067_5 : decode cJ2_charAt_3b067 5 = .ok (.aload_n 0, 1) := dq_of dqJ2_charAt_3b067_0 3 rfl
theorem dJ2_charAt_3b067_6 : decode cJ2_charAt_3b067 6 = .ok (.iload_n 1, 1) := dq_of dqJ2_charAt_3b067_0 4 rfl
theorem dJ2_charAt_3b067_7 : decode cJ2_charAt_3b067 7 = .ok (.invokestatic 71, 3) := dq_of dqJ2_charAt_3b067_0 5 rfl
theorem dJ2_charAt_3b067_10 : decode cJ2_charAt_3b067 10 = .ok (.ireturn, 1) := dq_of dqJ2_charAt_3b067_0 6 rfl
theorem dqJ2_checkIndex_2214a_0 : ([(0, .iload_n 0, 1), (1, .aload_n 1, 1), (2, .invokestatic 48, 3), (5, .invokestatic 414, 3), (8, .return_, 1)] : List (Nat × Instr × Nat)).all (fun q => decide (decode cJ2_checkIndex_2214a q.1 = .ok (q.2.1, q.2.2))) = true := by decide +kernel
theorem dJ2_checkIndex_2214a_0 : decode cJ2_checkIndex_2214a 0 = .ok (.iload_n 0, 1) := dq_of dqJ2_checkIndex_2214a_0 0 rfl
theorem dJ2_checkIndex_2214a_1 : decode cJ2_checkIndex_2214a 1 = .ok (.aload_n 1, 1) := dq_of dqJ2_checkIndex_2214a_0 1 rfl
theorem dJ2_checkIndex_2214a_2 : decode cJ2_checkIndex_2214a 2 = .ok (.invokestatic 48, 3) := dq_of dqJ2_checkIndex_2214a_0 2 rfl
theorem dJ2_checkIndex_2214a_5 : decode cJ2_checkIndex_2214a 5 = .ok (.invokestatic 414, 3) := dq_of dqJ2_checkIndex_2214a_0 3 rfl
theorem dJ2_checkIndex_2214a_8 : decode cJ2_checkIndex_2214a 8 = .ok (.return_, 1) := dq_of dqJ2_checkIndex_2214a_0 4 rfl
theorem dqJ7_fill_53178_0 : ([(0, .iconst 0, 1), (1, .istore_n 2, 1), (2, .aload_n 0, 1), (3, .arraylength, 1), (4, .istore_n 3, 1), (5, .iload_n 2, 1), (6, .iload_n 3, 1), (7, .if_icmp .ge 13, 3), (10, .aload_n 0, 1), (11, .iload_n 2, 1), (12, .iload_n 1, 1), (13, .iastore, 1), (14, .iinc 2 1, 3), (17, .goto (-12), 3), (20, .return_, 1)] : List (Nat × Instr × Nat)).all (fun q => decide (decode cJ7_fill_53178 q.1 = .ok (q.2.1, q.2.2))) = true := by decide +kernel
theorem dJ7_fill_53178_0 : decode cJ7_fill_53178 0 = .ok (.iconst 0, 1) := dq_of dqJ7_fill_53178_0 0 rfl
theorem dJ7_fill_53178_1 : decode cJ7_fill_53178 1 = .ok (.istore_n 2, 1) := dq_of dqJ7_fill_53178_0 1 rfl
theorem dJ7_fill_53178_2 : decode cJ7_fill_53178 2 = .ok (.aload_n 0, 1) := dq_of dqJ7_fill_53178_0 2 rfl
theorem dJ7_fill_53178_3 : decode cJ7_fill_53178 3 = .ok (.arraylength, 1) := dq_of dqJ7_fill_53178_0 3 rfl
theorem dJ7_fill_53178_4 : decode cJ7_fill_53178 4 = .ok (.istore_n 3, 1) := dq_of dqJ7_fill_53178_0 4 rfl
theorem dJ7_fill_53178_5 : decode cJ7_fill_53178 5 = .ok (.iload_n 2, 1) := dq_of dqJ7_fill_53178_0 5 rfl
theorem dJ7_fill_53178_6 : decode cJ7_fill_53178 6 = .ok (.iload_n 3, 1) := dq_of dqJ7_fill_53178_0 6 rfl
theorem dJ7_fill_53178_7 : decode cJ7_fill_53178 7 = .ok (.if_icmp .ge 13, 3) := dq_of dqJ7_fill_53178_0 7 rfl
theorem dJ7_fill_53178_10 : decode cJ7_fill_53178 10 = .ok (.aload_n 0, 1) := dq_of dqJ7_fill_53178_0 8 rfl
theorem dJ7_fill_53178_11 : decode cJ7_fill_53178 11 = .ok (.iload_n 2, 1) := dq_of dqJ7_fill_53178_0 9 rfl
theorem dJ7_fill_53178_12 : decode cJ7_fill_53178 12 = .ok (.iload_n 1, 1) := dq_of dqJ7_fill_53178_0 10 rfl
theorem dJ7_fill_53178_13 : decode cJ7_fill_53178 13 = .ok (.iastore, 1) := dq_of dqJ7_fill_53178_0 11 rfl
theorem dJ7_fill_53178_14 : decode cJ7_fill_53178 14 = .ok (.iinc 2 1, 3) := dq_of dqJ7_fill_53178_0 12 rfl
theorem dJ7_fill_53178_17 : decode cJ7_fill_53178 17 = .ok (.goto (-12), 3) := dq_of dqJ7_fill_53178_0 13 rfl
theorem dJ7_fill_53178_20 : decode cJ7_fill_53178 20 = .ok (.return_, 1) := dq_of dqJ7_fill_53178_0 14 rfl
theorem dqJ7_copyOf_9075b_0 : ([(0, .iload_n 1, 1), (1, .aload_n 0, 1), (2, .arraylength, 1), (3, .if_icmp .ne 11, 3), (6, .aload_n 0, 1), (7, .invokevirtual 310, 3), (10, .checkcast 311, 3), (13, .areturn, 1), (14, .iload_n 1, 1), (15, .newarray .byte, 2), (17, .astore_n 2, 1), (18, .aload_n 0, 1), (19, .iconst 0, 1), (20, .aload_n 2, 1), (21, .iconst 0, 1), (22, .aload_n 0, 1), (23, .arraylength, 1), (24, .iload_n 1, 1), (25, .invokestatic 304, 3), (28, .invokestatic 150, 3), (31, .aload_n 2, 1), (32, .areturn, 1)] : List (Nat × Instr × Nat)).all (fun q => decide (decode cJ7_copyOf_9075b q.1 = .ok (q.2.1, q.2.2))) = true := by decide +kernel
theorem dJ7_copyOf_9075b_0 : decode cJ7_copyOf_9075b 0 = .ok (.iload_n 1, 1) := dq_of dqJ7_copyOf_9075b_0 0 rfl
theorem dJ7_copyOf_9075b_1 : decode cJ7_copyOf_9075b 1 = .ok (.aload_n 0, 1) := dq_of dqJ7_copyOf_9075b_0 1 rfl
theorem dJ7_copyOf_9075b_2 : decode cJ7_copyOf_9075b 2 = .ok (.arraylength, 1) := dq_of dqJ7_copyOf_9075b_0 2 rfl
theorem dJ7_copyOf_9075b_3 : decode cJ7_copyOf_9075b 3 = .ok (.if_icmp .ne 11, 3) := dq_of dqJ7_copyOf_9075b_0 3 rfl
theorem dJ7_copyOf_9075b_6 : decode cJ7_copyOf_9075b 6 = .ok (.aload_n 0, 1) := dq_of dqJ7_copyOf_9075b_0 4 rfl
theorem dJ7_copyOf_9075b_7 : decode cJ7_copyOf_9075b 7 = .ok (.invokevirtual 310, 3) := dq_of dqJ7_copyOf_9075b_0 5 rfl
theorem dJ7_copyOf_9075b_10 : decode cJ7_copyOf_9075b 10 = .ok (.checkcast 311, 3) := dq_of dqJ7_copyOf_9075b_0 6 rfl
theorem dJ7_copyOf_9075b_13 : decode cJ7_copyOf_9075b 13 = .ok (.areturn, 1) := dq_of dqJ7_copyOf_9075b_0 7 rfl
theorem dJ7_copyOf_9075b_14 : decode cJ7_copyOf_9075b 14 = .ok (.iload_n 1, 1) := dq_of dqJ7_copyOf_9075b_0 8 rfl
theorem dJ7_copyOf_9075b_15 : decode cJ7_copyOf_9075b 15 = .ok (.newarray .byte, 2) := dq_of dqJ7_copyOf_9075b_0 9 rfl
theorem dJ7_copyOf_9075b_17 : decode cJ7_copyOf_9075b 17 = .ok (.astore_n 2, 1) := dq_of dqJ7_copyOf_9075b_0 10 rfl
theorem dJ7_copyOf_9075b_18 : decode cJ7_copyOf_9075b 18 = .ok (.aload_n 0, 1) := dq_of dqJ7_copyOf_9075b_0 11 rfl
theorem dJ7_copyOf_9075b_19 : decode cJ7_copyOf_9075b 19 = .ok (.iconst 0, 1) := dq_of dqJ7_copyOf_9075b_0 12 rfl
theorem dJ7_copyOf_9075b_20 : decode cJ7_copyOf_9075b 20 = .ok (.aload_n 2, 1) := dq_of dqJ7_copyOf_9075b_0 13 rfl
theorem dJ7_copyOf_9075b_21 : decode cJ7_copyOf_9075b 21 = .ok (.iconst 0, 1) := dq_of dqJ7_copyOf_9075b_0 14 rfl
theorem dJ7_copyOf_9075b_22 : decode cJ7_copyOf_9075b 22 = .ok (.aload_n 0, 1) := dq_of dqJ7_copyOf_9075b_0 15 rfl
theorem dJ7_copyOf_9075b_23 : decode cJ7_copyOf_9075b 23 = .ok (.arraylength, 1) := dq_of dqJ7_copyOf_9075b_0 16 rfl
theorem dJ7_copyOf_9075b_24 : decode cJ7_copyOf_9075b 24 = .ok (.iload_n 1, 1) := dq_of dqJ7_copyOf_9075b_0 17 rfl
theorem dJ7_copyOf_9075b_25 : decode cJ7_copyOf_9075b 25 = .ok (.invokestatic 304, 3) := dq_of dqJ7_copyOf_9075b_0 18 rfl
theorem dJ7_copyOf_9075b_28 : decode cJ7_copyOf_9075b 28 = .ok (.invokestatic 150, 3) := dq_of dqJ7_copyOf_9075b_0 19 rfl
theorem dJ7_copyOf_9075b_31 : decode cJ7_copyOf_9075b 31 = .ok (.aload_n 2, 1) := dq_of dqJ7_copyOf_9075b_0 20 rfl
theorem dJ7_copyOf_9075b_32 : decode cJ7_copyOf_9075b 32 = .ok (.areturn, 1) := dq_of dqJ7_copyOf_9075b_0 21 rfl
theorem dqJ7_copyOf_59c91_0 : ([(0, .iload_n 1, 1), (1, .aload_n 0, 1), (2, .arraylength, 1), (3, .if_icmp .ne 11, 3), (6, .aload_n 0, 1), (7, .invokevirtual 316, 3), (10, .checkcast 317, 3), (13, .areturn, 1), (14, .iload_n 1, 1), (15, .newarray .int, 2), (17, .astore_n 2, 1), (18, .aload_n 0, 1), (19, .iconst 0, 1), (20, .aload_n 2, 1), (21, .iconst 0, 1), (22, .aload_n 0, 1), (23, .arraylength, 1), (24, .iload_n 1, 1), (25, .invokestatic 304, 3), (28, .invokestatic 150, 3), (31, .aload_n 2, 1), (32, .areturn, 1)] : List (Nat × Instr × Nat)).all (fun q => decide (decode cJ7_copyOf_59c91 q.1 = .ok (q.2.1, q.2.2))) = true := by decide +kernel
theorem dJ7_copyOf_59c91_0 : decode cJ7_copyOf_59c91 0 = .ok (.iload_n 1, 1) := dq_of dqJ7_copyOf_59c91_0 0 rfl
theorem dJ7_copyOf_59c91_1 : decode cJ7_copyOf_59c91 1 = .ok (.aload_n 0, 1) := dq_of dqJ7_copyOf_59c91_0 1 rfl
theorem dJ7_copyOf_59c91_2 : decode cJ7_copyOf_59c91 2 = .ok (.arraylength, 1) := dq_of dqJ7_copyOf_59c91_0 2 rfl
theorem dJ7_copyOf_59c91_3 : decode cJ7_copyOf_59c91 3 = .ok (.if_icmp .ne 11, 3) := dq_of dqJ7_copyOf_59c91_0 3 rfl
theorem dJ7_copyOf_59c91_6 : decode cJ7_copyOf_59c91 6 = .ok (.aload_n 0, 1) := dq_of dqJ7_copyOf_59c91_0 4 rfl
theorem dJ7_copyOf_59c91_7 : decode cJ7_copyOf_59c91 7 = .ok (.invokevirtual 316, 3) := dq_of dqJ7_copyOf_59c91_0 5 rfl
theorem dJ7_copyOf_59c91_10 : decode cJ7_copyOf_59c91 10 = .ok (.checkcast 317, 3) := dq_of dqJ7_copyOf_59c91_0 6 rfl
theorem dJ7_copyOf_59c91_13 : decode cJ7_copyOf_59c91 13 = .ok (.areturn, 1) := dq_of dqJ7_copyOf_59c91_0 7 rfl
theorem dJ7_copyOf_59c91_14 : decode cJ7_copyOf_59c91 14 = .ok (.iload_n 1, 1) := dq_of dqJ7_copyOf_59c91_0 8 rfl
theorem dJ7_copyOf_59c91_15 : decode cJ7_copyOf_59c91 15 = .ok (.newarray .int, 2) := dq_of dqJ7_copyOf_59c91_0 9 rfl
theorem dJ7_copyOf_59c91_17 : decode cJ7_copyOf_59c91 17 = .ok (.astore_n 2, 1) := dq_of dqJ7_copyOf_59c91_0 10 rfl
theorem dJ7_copyOf_59c91_18 : decode cJ7_copyOf_59c91 18 = .ok (.aload_n 0, 1) := dq_of dqJ7_copyOf_59c91_0 11 rfl
theorem dJ7_copyOf_59c91_19 : decode cJ7_copyOf_59c91 19 = .ok (.iconst 0, 1) := dq_of dqJ7_copyOf_59c91_0 12 rfl
theorem dJ7_copyOf_59c91_20 : decode cJ7_copyOf_59c91 20 = .ok (.aload_n 2, 1) := dq_of dqJ7_copyOf_59c91_0 13 rfl
theorem dJ7_copyOf_59c91_21 : decode cJ7_copyOf_59c91 21 = .ok (.iconst 0, 1) := dq_of dqJ7_copyOf_59c91_0 14 rfl
theorem dJ7_copyOf_59c91_22 : decode cJ7_copyOf_59c91 22 = .ok (.aload_n 0, 1) := dq_of dqJ7_copyOf_59c91_0 15 rfl
theorem dJ7_copyOf_59c91_23 : decode cJ7_copyOf_59c91 23 = .ok (.arraylength, 1) := dq_of dqJ7_copyOf_59c91_0 16 rfl
theorem dJ7_copyOf_59c91_24 : decode cJ7_copyOf_59c91 24 = .ok (.iload_n 1, 1) := dq_of dqJ7_copyOf_59c91_0 17 rfl
theorem dJ7_copyOf_59c91_25 : decode cJ7_copyOf_59c91 25 = .ok (.invokestatic 304, 3) := dq_of dqJ7_copyOf_59c91_0 18 rfl
theorem dJ7_copyOf_59c91_28 : decode cJ7_copyOf_59c91 28 = .ok (.invokestatic 150, 3) := dq_of dqJ7_copyOf_59c91_0 19 rfl
theorem dJ7_copyOf_59c91_31 : decode cJ7_copyOf_59c91 31 = .ok (.aload_n 2, 1) := dq_of dqJ7_copyOf_59c91_0 20 rfl
theorem dJ7_copyOf_59c91_32 : decode cJ7_copyOf_59c91 32 = .ok (.areturn, 1) := dq_of dqJ7_copyOf_59c91_0 21 rfl
theorem dqJ3_checkIndex_8e157_0 : ([(0, .iload_n 0, 1), (1, .ifCond .lt 8, 3), (4, .iload_n 0, 1), (5, .iload_n 1, 1), (6, .if_icmp .lt 10, 3), (9, .aload_n 2, 1), (10, .iload_n 0, 1), (11, .iload_n 1, 1), (12, .invokestatic 95, 3), (15, .athrow, 1), (16, .iload_n 0, 1), (17, .ireturn, 1)] : List (Nat × Instr × Nat)).all (fun q => decide (decode cJ3_checkIndex_8e157 q.1 = .ok (q.2.1, q.2.2))) = true := by decide +kernel
theorem dJ3_checkIndex_8e157_0 : decode cJ3_checkIndex_8e157 0 = .ok (.iload_n 0, 1) := dq_of dqJ3_checkIndex_8e157_0 0 rfl
theorem dJ3_checkIndex_8e157_1 : decode cJ3_checkIndex_8e157 1 = .ok (.ifCond .lt 8, 3) := dq_of dqJ3_checkIndex_8e157_0 1 rfl
theorem dJ3_checkIndex_8e157_4 : decode cJ3_checkIndex_8e157 4 = .ok (.iload_n 0, 1) := dq_of dqJ3_checkIndex_8e157_0 2 rfl
theorem dJ3_checkIndex_8e157_5 : decode cJ3_checkIndex_8e157 5 = .ok (.iload_n 1, 1) := dq_of dqJ3_checkIndex_8e157_0 3 rfl
theorem dJ3_checkIndex_8e157_6 : decode cJ3_checkIndex_8e157 6 = .ok (.if_icmp .lt 10, 3) := dq_of dqJ3_checkIndex_8e157_0 4 rfl
theorem dJ3_checkIndex_8e157_9 : decode cJ3_checkIndex_8e157 9 = .ok (.aload_n 2, 1) := dq_of dqJ3_checkIndex_8e157_0 5 rfl
theorem dJ3_checkIndex_8e157_10 : decode cJ3_checkIndex_8e157 10 = .ok (.iload_n 0, 1) := dq_of dqJ3_checkIndex_8e157_0 6 rfl
theorem dJ3_checkIndex_8e157_11 : decode cJ3_checkIndex_8e157 11 = .ok (.iload_n 1, 1) := dq_of dqJ3_checkIndex_8e157_0 7 rfl
theorem dJ3_checkIndex_8e157_12 : decode cJ3_checkIndex_8e157 12 = .ok (.invokestatic 95, 3) := dq_of dqJ3_checkIndex_8e157_0 8 rfl
theorem dJ3_checkIndex_8e157_15 : decode cJ3_checkIndex_8e157 15 = .ok (.athrow, 1) := dq_of dqJ3_checkIndex_8e157_0 9 rfl
theorem dJ3_checkIndex_8e157_16 : decode cJ3_checkIndex_8e157 16 = .ok (.iload_n 0, 1) := dq_of dqJ3_checkIndex_8e157_0 10 rfl
theorem dJ3_checkIndex_8e157_17 : decode cJ3_checkIndex_8e157 17 = .ok (.ireturn, 1) := dq_of dqJ3_checkIndex_8e157_0 11 rfl
theorem dqL_token_0 : ([(0, .aload_n 3, 1), (1, .iconst 0, 1), (2, .aload_n 0, 1), (3, .iload_n 1, 1), (4, .iload_n 2, 1), (5, .invokevirtual 7, 3), (8, .i2l, 1), (9, .lastore, 1), (10, .goto 7, 3), (13, .astore 4, 2), (15, .iconst 1, 1), (16, .ireturn, 1), (17, .iconst 0, 1), (18, .ireturn, 1)] : List (Nat × Instr × Nat)).all (fun q => decide (decode cL_token q.1 = .ok (q.2.1, q.2.2))) = true := by decide +kernel
theorem dL_token_0 : decode cL_token 0 = .ok (.aload_n 3, 1) := dq_of dqL_token_0 0 rfl
theorem dL_token_1 : decode cL_token 1 = .ok (.iconst 0, 1) := dq_of dqL_token_0 1 rfl
theorem dL_token_2 : decode cL_token 2 = .ok (.aload_n 0, 1) := dq_of dqL_token_0 2 rfl
theorem dL_token_3 : decode cL_token 3 = .ok (.iload_n 1, 1) := dq_of dqL_token_0 3 rfl
theorem dL_token_4 : decode cL_token 4 = .ok (.iload_n 2, 1) := dq_of dqL_token_0 4 rfl
theorem dL_token_5 : decode cL_token 5 = .ok (.invokevirtual 7, 3) := dq_of dqL_token_0 5 rfl
theorem dL_token_8 : decode cL_token 8 = .ok (.i2l, 1) := dq_of dqL_token_0 6 rfl
theorem dL_token_9 : decode cL_token 9 = .ok (.lastore, 1) := dq_of dqL_token_0 7 rfl
theorem dL_token_10 : decode cL_token 10 = .ok (.goto 7, 3) := dq_of dqL_token_0 8 rfl
theorem dL_token_13 : decode cL_token 13 = .ok (.astore 4, 2) := dq_of dqL_token_0 9 rfl
theorem dL_token_15 : decode cL_token 15 = .ok (.iconst 1, 1) := dq_of dqL_token_0 10 rfl
theorem dL_token_16 : decode cL_token 16 = .ok (.ireturn, 1) := dq_of dqL_token_0 11 rfl
theorem dL_token_17 : decode cL_token 17 = .ok (.iconst 0, 1) := dq_of dqL_token_0 12 rfl
theorem dL_token_18 : decode cL_token 18 = .ok (.ireturn, 1) := dq_of dqL_token_0 13 rfl
theorem dqL_byteOf_0 : ([(0, .aload_n 3, 1), (1, .iconst 0, 1), (2, .aload_n 0, 1), (3, .iload_n 1, 1), (4, .iload_n 2, 1), (5, .invokevirtual 15, 3), (8, .i2l, 1), (9, .lastore, 1), (10, .goto 7, 3), (13, .astore 4, 2), (15, .iconst 1, 1), (16, .ireturn, 1), (17, .iconst 0, 1), (18, .ireturn, 1)] : List (Nat × Instr × Nat)).all (fun q => decide (decode cL_byteOf q.1 = .ok (q.2.1, q.2.2))) = true := by decide +kernel
theorem dL_byteOf_0 : decode cL_byteOf 0 = .ok (.aload_n 3, 1) := dq_of dqL_byteOf_0 0 rfl
theorem dL_byteOf_1 : decode cL_byteOf 1 = .ok (.iconst 0, 1) := dq_of dqL_byteOf_0 1 rfl
theorem dL_byteOf_2 : decode cL_byteOf 2 = .ok (.aload_n 0, 1) := dq_of dqL_byteOf_0 2 rfl
theorem dL_byteOf_3 : decode cL_byteOf 3 = .ok (.iload_n 1, 1) := dq_of dqL_byteOf_0 3 rfl
theorem dL_byteOf_4 : decode cL_byteOf 4 = .ok (.iload_n 2, 1) := dq_of dqL_byteOf_0 4 rfl
theorem dL_byteOf_5 : decode cL_byteOf 5 = .ok (.invokevirtual 15, 3) := dq_of dqL_byteOf_0 5 rfl
theorem dL_byteOf_8 : decode cL_byteOf 8 = .ok (.i2l, 1) := dq_of dqL_byteOf_0 6 rfl
theorem dL_byteOf_9 : decode cL_byteOf 9 = .ok (.lastore, 1) := dq_of dqL_byteOf_0 7 rfl
theorem dL_byteOf_10 : decode cL_byteOf 10 = .ok (.goto 7, 3) := dq_of dqL_byteOf_0 8 rfl
theorem dL_byteOf_13 : decode cL_byteOf 13 = .ok (.astore 4, 2) := dq_of dqL_byteOf_0 9 rfl
theorem dL_byteOf_15 : decode cL_byteOf 15 = .ok (.iconst 1, 1) := dq_of dqL_byteOf_0 10 rfl
theorem dL_byteOf_16 : decode cL_byteOf 16 = .ok (.ireturn, 1) := dq_of dqL_byteOf_0 11 rfl
theorem dL_byteOf_17 : decode cL_byteOf 17 = .ok (.iconst 0, 1) := dq_of dqL_byteOf_0 12 rfl
theorem dL_byteOf_18 : decode cL_byteOf 18 = .ok (.ireturn, 1) := dq_of dqL_byteOf_0 13 rfl
theorem dqL_number_0 : ([(0, .aload_n 2, 1), (1, .iconst 0, 1), (2, .aload_n 0, 1), (3, .iload_n 1, 1), (4, .invokevirtual 18, 3), (7, .lastore, 1), (8, .goto 6, 3), (11, .astore_n 3, 1), (12, .iconst 1, 1), (13, .ireturn, 1), (14, .iconst 0, 1), (15, .ireturn, 1)] : List (Nat × Instr × Nat)).all (fun q => decide (decode cL_number q.1 = .ok (q.2.1, q.2.2))) = true := by decide +kernel
theorem dL_number_0 : decode cL_number 0 = .ok (.aload_n 2, 1) := dq_of dqL_number_0 0 rfl
theorem dL_number_1 : decode cL_number 1 = .ok (.iconst 0, 1) := dq_of dqL_number_0 1 rfl
theorem dL_number_2 : decode cL_number 2 = .ok (.aload_n 0, 1) := dq_of dqL_number_0 2 rfl
theorem dL_number_3 : decode cL_number 3 = .ok (.iload_n 1, 1) := dq_of dqL_number_0 3 rfl
theorem dL_number_4 : decode cL_number 4 = .ok (.invokevirtual 18, 3) := dq_of dqL_number_0 4 rfl
theorem dL_number_7 : decode cL_number 7 = .ok (.lastore, 1) := dq_of dqL_number_0 5 rfl
theorem dL_number_8 : decode cL_number 8 = .ok (.goto 6, 3) := dq_of dqL_number_0 6 rfl
theorem dL_number_11 : decode cL_number 11 = .ok (.astore_n 3, 1) := dq_of dqL_number_0 7 rfl
theorem dL_number_12 : decode cL_number 12 = .ok (.iconst 1, 1) := dq_of dqL_number_0 8 rfl
theorem dL_number_13 : decode cL_number 13 = .ok (.ireturn, 1) := dq_of dqL_number_0 9 rfl
theorem dL_number_14 : decode cL_number 14 = .ok (.iconst 0, 1) := dq_of dqL_number_0 10 rfl
theorem dL_number_15 : decode cL_number 15 = .ok (.ireturn, 1) := dq_of dqL_number_0 11 rfl
theorem dqL_fits_0 : ([(0, .aload_n 3, 1), (1, .iconst 0, 1), (2, .aload_n 0, 1), (3, .iload_n 1, 1), (4, .iload_n 2, 1), (5, .invokevirtual 22, 3), (8, .ifCond .eq 7, 3), (11, .lconst 1, 1), (12, .goto 4, 3), (15, .lconst 0, 1), (16, .lastore, 1), (17, .goto 7, 3), (20, .astore 4, 2), (22, .iconst 1, 1), (23, .ireturn, 1), (24, .iconst 0, 1), (25, .ireturn, 1)] : List (Nat × Instr × Nat)).all (fun q => decide (decode cL_fits q.1 = .ok (q.2.1, q.2.2))) = true := by decide +kernel
theorem dL_fits_0 : decode cL_fits 0 = .ok (.aload_n 3, 1) := dq_of dqL_fits_0 0 rfl
theorem dL_fits_1 : decode cL_fits 1 = .ok (.iconst 0, 1) := dq_of dqL_fits_0 1 rfl
theorem dL_fits_2 : decode cL_fits 2 = .ok (.aload_n 0, 1) := dq_of dqL_fits_0 2 rfl
theorem dL_fits_3 : decode cL_fits 3 = .ok (.iload_n 1, 1) := dq_of dqL_fits_0 3 rfl
theorem dL_fits_4 : decode cL_fits 4 = .ok (.iload_n 2, 1) := dq_of dqL_fits_0 4 rfl
theorem dL_fits_5 : decode cL_fits 5 = .ok (.invokevirtual 22, 3) := dq_of dqL_fits_0 5 rfl
theorem dL_fits_8 : decode cL_fits 8 = .ok (.ifCond .eq 7, 3) := dq_of dqL_fits_0 6 rfl
theorem dL_fits_11 : decode cL_fits 11 = .ok (.lconst 1, 1) := dq_of dqL_fits_0 7 rfl
theorem dL_fits_12 : decode cL_fits 12 = .ok (.goto 4, 3) := dq_of dqL_fits_0 8 rfl
theorem dL_fits_15 : decode cL_fits 15 = .ok (.lconst 0, 1) := dq_of dqL_fits_0 9 rfl
theorem dL_fits_16 : decode cL_fits 16 = .ok (.lastore, 1) := dq_of dqL_fits_0 10 rfl
theorem dL_fits_17 : decode cL_fits 17 = .ok (.goto 7, 3) := dq_of dqL_fits_0 11 rfl
theorem dL_fits_20 : decode cL_fits 20 = .ok (.astore 4, 2) := dq_of dqL_fits_0 12 rfl
theorem dL_fits_22 : decode cL_fits 22 = .ok (.iconst 1, 1) := dq_of dqL_fits_0 13 rfl
theorem dL_fits_23 : decode cL_fits 23 = .ok (.ireturn, 1) := dq_of dqL_fits_0 14 rfl
theorem dL_fits_24 : decode cL_fits 24 = .ok (.iconst 0, 1) := dq_of dqL_fits_0 15 rfl
theorem dL_fits_25 : decode cL_fits 25 = .ok (.ireturn, 1) := dq_of dqL_fits_0 16 rfl
theorem dqL_law_0 : ([(0, .new 8, 3), (3, .dup, 1), (4, .invokespecial 26, 3), (7, .astore_n 1, 1), (8, .new 27, 3), (11, .dup, 1), (12, .invokespecial 29, 3), (15, .astore_n 2, 1), (16, .iconst 1, 1), (17, .newarray .long, 2), (19, .astore_n 3, 1), (20, .iconst 0, 1), (21, .istore 4, 2), (23, .iload 4, 2), (25, .aload_n 0, 1), (26, .arraylength, 1), (27, .bipush 6, 2), (29, .isub, 1), (30, .if_icmp .gt 517, 3), (33, .aload_n 0, 1), (34, .iload 4, 2), (36, .iaload, 1), (37, .bipush 15, 2), (39, .iand, 1), (40, .tableswitch 501 0 10 #[60, 133, 158, 171, 184, 197, 265, 333, 388, 463, 476], 60), (100, .aload_n 1, 1), (101, .aload_n 0, 1), (102, .iload 4, 2), (104, .iconst 1, 1), (105, .iadd, 1), (106, .iaload, 1), (107, .aload_n 0, 1), (108, .iload 4, 2), (110, .iconst 2, 1), (111, .iadd, 1), (112, .iaload, 1), (113, .aload_n 0, 1), (114, .iload 4, 2), (116, .iconst 3, 1), (117, .iadd, 1)] : List (Nat × Instr × Nat)).all (fun q => decide (decode cL_law q.1 = .ok (q.2.1, q.2.2))) = true := by decide +kernel
theorem dL_law_0 : decode cL_law 0 = .ok (.new 8, 3) := dq_of dqL_law_0 0 rfl
theorem dL_law_3 : decode cL_law 3 = .ok (.dup, 1) := dq_of dqL_law_0 1 rfl
theorem dL_law_4 : decode cL_law 4 = .ok (.invokespecial 26, 3) := dq_of dqL_law_0 2 rfl
theorem dL_law_7 : decode cL_law 7 = .ok (.astore_n 1, 1) := dq_of dqL_law_0 3 rfl
theorem dL_law_8 : decode cL_law 8 = .ok (.new 27, 3) := dq_of dqL_law_0 4 rfl
theorem dL_law_11 : decode cL_law 11 = .ok (.dup, 1) := dq_of dqL_law_0 5 rfl
theorem dL_law_12 : decode cL_law 12 = .ok (.invokespecial 29, 3) := dq_of dqL_law_0 6 rfl
theorem dL_law_15 : decode cL_law 15 = .ok (.astore_n 2, 1) := dq_of dqL_law_0 7 rfl
theorem dL_law_16 : decode cL_law 16 = .ok (.iconst 1, 1) := dq_of dqL_law_0 8 rfl
theorem dL_law_17 : decode cL_law 17 = .ok (.newarray .long, 2) := dq_of dqL_law_0 9 rfl
theorem dL_law_19 : decode cL_law 19 = .ok (.astore_n 3, 1) := dq_of dqL_law_0 10 rfl
theorem dL_law_20 : decode cL_law 20 = .ok (.iconst 0, 1) := dq_of dqL_law_0 11 rfl
theorem dL_law_21 : decode cL_law 21 = .ok (.istore 4, 2) := dq_of dqL_law_0 12 rfl
theorem dL_law_23 : decode cL_law 23 = .ok (.iload 4, 2) := dq_of dqL_law_0 13 rfl
theorem dL_law_25 : decode cL_law 25 = .ok (.aload_n 0, 1) := dq_of dqL_law_0 14 rfl
theorem dL_law_26 : decode cL_law 26 = .ok (.arraylength, 1) := dq_of dqL_law_0 15 rfl
theorem dL_law_27 : decode cL_law 27 = .ok (.bipush 6, 2) := dq_of dqL_law_0 16 rfl
theorem dL_law_29 : decode cL_law 29 = .ok (.isub, 1) := dq_of dqL_law_0 17 rfl
theorem dL_law_30 : decode cL_law 30 = .ok (.if_icmp .gt 517, 3) := dq_of dqL_law_0 18 rfl
theorem dL_law_33 : decode cL_law 33 = .ok (.aload_n 0, 1) := dq_of dqL_law_0 19 rfl
theorem dL_law_34 : decode cL_law 34 = .ok (.iload 4, 2) := dq_of dqL_law_0 20 rfl
theorem dL_law_36 : decode cL_law 36 = .ok (.iaload, 1) := dq_of dqL_law_0 21 rfl
theorem dL_law_37 : decode cL_law 37 = .ok (.bipush 15, 2) := dq_of dqL_law_0 22 rfl
theorem dL_law_39 : decode cL_law 39 = .ok (.iand, 1) := dq_of dqL_law_0 23 rfl
theorem dL_law_40 : decode cL_law 40 = .ok (.tableswitch 501 0 10 #[60, 133, 158, 171, 184, 197, 265, 333, 388, 463, 476], 60) := dq_of dqL_law_0 24 rfl
theorem dL_law_100 : decode cL_law 100 = .ok (.aload_n 1, 1) := dq_of dqL_law_0 25 rfl
theorem dL_law_101 : decode cL_law 101 = .ok (.aload_n 0, 1) := dq_of dqL_law_0 26 rfl
theorem dL_law_102 : decode cL_law 102 = .ok (.iload 4, 2) := dq_of dqL_law_0 27 rfl
theorem dL_law_104 : decode cL_law 104 = .ok (.iconst 1, 1) := dq_of dqL_law_0 28 rfl
theorem dL_law_105 : decode cL_law 105 = .ok (.iadd, 1) := dq_of dqL_law_0 29 rfl
theorem dL_law_106 : decode cL_law 106 = .ok (.iaload, 1) := dq_of dqL_law_0 30 rfl
theorem dL_law_107 : decode cL_law 107 = .ok (.aload_n 0, 1) := dq_of dqL_law_0 31 rfl
theorem dL_law_108 : decode cL_law 108 = .ok (.iload 4, 2) := dq_of dqL_law_0 32 rfl
theorem dL_law_110 : decode cL_law 110 = .ok (.iconst 2, 1) := dq_of dqL_law_0 33 rfl
theorem dL_law_111 : decode cL_law 111 = .ok (.iadd, 1) := dq_of dqL_law_0 34 rfl
theorem dL_law_112 : decode cL_law 112 = .ok (.iaload, 1) := dq_of dqL_law_0 35 rfl
theorem dL_law_113 : decode cL_law 113 = .ok (.aload_n 0, 1) := dq_of dqL_law_0 36 rfl
theorem dL_law_114 : decode cL_law 114 = .ok (.iload 4, 2) := dq_of dqL_law_0 37 rfl
theorem dL_law_116 : decode cL_law 116 = .ok (.iconst 3, 1) := dq_of dqL_law_0 38 rfl
theorem dL_law_117 : decode cL_law 117 = .ok (.iadd, 1) := dq_of dqL_law_0 39 rfl
theorem dqL_law_118 : ([(118, .iaload, 1), (119, .aload_n 0, 1), (120, .iload 4, 2), (122, .iconst 4, 1), (123, .iadd, 1), (124, .iaload, 1), (125, .aload_n 0, 1), (126, .iload 4, 2), (128, .iconst 5, 1), (129, .iadd, 1), (130, .iaload, 1), (131, .invokevirtual 30, 3), (134, .aload_n 2, 1), (135, .aload_n 0, 1), (136, .iload 4, 2), (138, .iconst 1, 1), (139, .iadd, 1), (140, .iaload, 1), (141, .aload_n 0, 1), (142, .iload 4, 2), (144, .iconst 2, 1), (145, .iadd, 1), (146, .iaload, 1), (147, .aload_n 0, 1), (148, .iload 4, 2), (150, .iconst 3, 1), (151, .iadd, 1), (152, .iaload, 1), (153, .aload_n 0, 1), (154, .iload 4, 2), (156, .iconst 4, 1), (157, .iadd, 1), (158, .iaload, 1), (159, .aload_n 0, 1), (160, .iload 4, 2), (162, .iconst 5, 1), (163, .iadd, 1), (164, .iaload, 1), (165, .invokevirtual 34, 3), (168, .if_icmp .eq 373, 3)] : List (Nat × Instr × Nat)).all (fun q => decide (decode cL_law q.1 = .ok (q.2.1, q.2.2))) = true := by decide +kernel
theorem dL_law_118 : decode cL_law 118 = .ok (.iaload, 1) := dq_of dqL_law_118 0 rfl
theorem dL_law_119 : decode cL_law 119 = .ok (.aload_n 0, 1) := dq_of dqL_law_118 1 rfl
theorem dL_law_120 : decode cL_law 120 = .ok (.iload 4, 2) := dq_of dqL_law_118 2 rfl
theorem dL_law_122 : decode cL_law 122 = .ok (.iconst 4, 1) := dq_of dqL_law_118 3 rfl
theorem dL_law_123 : decode cL_law 123 = .ok (.iadd, 1) := dq_of dqL_law_118 4 rfl
theorem dL_law_124 : decode cL_law 124 = .ok (.iaload, 1) := dq_of dqL_law_118 5 rfl
theorem dL_law_125 : decode cL_law 125 = .ok (.aload_n 0, 1) := dq_of dqL_law_118 6 rfl
theorem dL_law_126 : decode cL_law 126 = .ok (.iload 4, 2) := dq_of dqL_law_118 7 rfl
theorem dL_law_128 : decode cL_law 128 = .ok (.iconst 5, 1) := dq_of dqL_law_118 8 rfl
theorem dL_law_129 : decode cL_law 129 = .ok (.iadd, 1) := dq_of dqL_law_118 9 rfl
theorem dL_law_130 : decode cL_law 130 = .ok (.iaload, 1) := dq_of dqL_law_118 10 rfl
theorem dL_law_131 : decode cL_law 131 = .ok (.invokevirtual 30, 3) := dq_of dqL_law_118 11 rfl
theorem dL_law_134 : decode cL_law 134 = .ok (.aload_n 2, 1) := dq_of dqL_law_118 12 rfl
theorem dL_law_135 : decode cL_law 135 = .ok (.aload_n 0, 1) := dq_of dqL_law_118 13 rfl
theorem dL_law_136 : decode cL_law 136 = .ok (.iload 4, 2) := dq_of dqL_law_118 14 rfl
theorem dL_law_138 : decode cL_law 138 = .ok (.iconst 1, 1) := dq_of dqL_law_118 15 rfl
theorem dL_law_139 : decode cL_law 139 = .ok (.iadd, 1) := dq_of dqL_law_118 16 rfl
theorem dL_law_140 : decode cL_law 140 = .ok (.iaload, 1) := dq_of dqL_law_118 17 rfl
theorem dL_law_141 : decode cL_law 141 = .ok (.aload_n 0, 1) := dq_of dqL_law_118 18 rfl
theorem dL_law_142 : decode cL_law 142 = .ok (.iload 4, 2) := dq_of dqL_law_118 19 rfl
theorem dL_law_144 : decode cL_law 144 = .ok (.iconst 2, 1) := dq_of dqL_law_118 20 rfl
theorem dL_law_145 : decode cL_law 145 = .ok (.iadd, 1) := dq_of dqL_law_118 21 rfl
theorem dL_law_146 : decode cL_law 146 = .ok (.iaload, 1) := dq_of dqL_law_118 22 rfl
theorem dL_law_147 : decode cL_law 147 = .ok (.aload_n 0, 1) := dq_of dqL_law_118 23 rfl
theorem dL_law_148 : decode cL_law 148 = .ok (.iload 4, 2) := dq_of dqL_law_118 24 rfl
theorem dL_law_150 : decode cL_law 150 = .ok (.iconst 3, 1) := dq_of dqL_law_118 25 rfl
theorem dL_law_151 : decode cL_law 151 = .ok (.iadd, 1) := dq_of dqL_law_118 26 rfl
theorem dL_law_152 : decode cL_law 152 = .ok (.iaload, 1) := dq_of dqL_law_118 27 rfl
theorem dL_law_153 : decode cL_law 153 = .ok (.aload_n 0, 1) := dq_of dqL_law_118 28 rfl
theorem dL_law_154 : decode cL_law 154 = .ok (.iload 4, 2) := dq_of dqL_law_118 29 rfl
theorem dL_law_156 : decode cL_law 156 = .ok (.iconst 4, 1) := dq_of dqL_law_118 30 rfl
theorem dL_law_157 : decode cL_law 157 = .ok (.iadd, 1) := dq_of dqL_law_118 31 rfl
theorem dL_law_158 : decode cL_law 158 = .ok (.iaload, 1) := dq_of dqL_law_118 32 rfl
theorem dL_law_159 : decode cL_law 159 = .ok (.aload_n 0, 1) := dq_of dqL_law_118 33 rfl
theorem dL_law_160 : decode cL_law 160 = .ok (.iload 4, 2) := dq_of dqL_law_118 34 rfl
theorem dL_law_162 : decode cL_law 162 = .ok (.iconst 5, 1) := dq_of dqL_law_118 35 rfl
theorem dL_law_163 : decode cL_law 163 = .ok (.iadd, 1) := dq_of dqL_law_118 36 rfl
theorem dL_law_164 : decode cL_law 164 = .ok (.iaload, 1) := dq_of dqL_law_118 37 rfl
theorem dL_law_165 : decode cL_law 165 = .ok (.invokevirtual 34, 3) := dq_of dqL_law_118 38 rfl
theorem dL_law_168 : decode cL_law 168 = .ok (.if_icmp .eq 373, 3) := dq_of dqL_law_118 39 rfl
theorem dqL_law_171 : ([(171, .iconst 0, 1), (172, .ireturn, 1), (173, .aload_n 1, 1), (174, .aload_n 0, 1), (175, .iload 4, 2), (177, .iconst 1, 1), (178, .iadd, 1), (179, .iaload, 1), (180, .invokevirtual 35, 3), (183, .aload_n 2, 1), (184, .aload_n 0, 1), (185, .iload 4, 2), (187, .iconst 1, 1), (188, .iadd, 1), (189, .iaload, 1), (190, .invokevirtual 39, 3), (193, .if_icmp .eq 348, 3), (196, .iconst 0, 1), (197, .ireturn, 1), (198, .aload_n 1, 1), (199, .invokevirtual 40, 3), (202, .aload_n 2, 1), (203, .invokevirtual 44, 3), (206, .if_icmp .eq 335, 3), (209, .iconst 0, 1), (210, .ireturn, 1), (211, .aload_n 1, 1), (212, .invokevirtual 45, 3), (215, .aload_n 2, 1), (216, .invokevirtual 48, 3), (219, .if_icmp .eq 322, 3), (222, .iconst 0, 1), (223, .ireturn, 1), (224, .aload_n 1, 1), (225, .invokevirtual 49, 3), (228, .aload_n 2, 1), (229, .invokevirtual 52, 3), (232, .if_icmp .eq 309, 3), (235, .iconst 0, 1), (236, .ireturn, 1)] : List (Nat × Instr × Nat)).all (fun q => decide (decode cL_law q.1 = .ok (q.2.1, q.2.2))) = true := by decide +kernel
theorem dL_law_171 : decode cL_law 171 = .ok (.iconst 0, 1) := dq_of dqL_law_171 0 rfl
theorem dL_law_172 : decode cL_law 172 = .ok (.ireturn, 1) := dq_of dqL_law_171 1 rfl
theorem dL_law_173 : decode cL_law 173 = .ok (.aload_n 1, 1) := dq_of dqL_law_171 2 rfl
theorem dL_law_174 : decode cL_law 174 = .ok (.aload_n 0, 1) := dq_of dqL_law_171 3 rfl
theorem dL_law_175 : decode cL_law 175 = .ok (.iload 4, 2) := dq_of dqL_law_171 4 rfl
theorem dL_law_177 : decode cL_law 177 = .ok (.iconst 1, 1) := dq_of dqL_law_171 5 rfl
theorem dL_law_178 : decode cL_law 178 = .ok (.iadd, 1) := dq_of dqL_law_171 6 rfl
theorem dL_law_179 : decode cL_law 179 = .ok (.iaload, 1) := dq_of dqL_law_171 7 rfl
theorem dL_law_180 : decode cL_law 180 = .ok (.invokevirtual 35, 3) := dq_of dqL_law_171 8 rfl
theorem dL_law_183 : decode cL_law 183 = .ok (.aload_n 2, 1) := dq_of dqL_law_171 9 rfl
theorem dL_law_184 : decode cL_law 184 = .ok (.aload_n 0, 1) := dq_of dqL_law_171 10 rfl
theorem dL_law_185 : decode cL_law 185 = .ok (.iload 4, 2) := dq_of dqL_law_171 11 rfl
theorem dL_law_187 : decode cL_law 187 = .ok (.iconst 1, 1) := dq_of dqL_law_171 12 rfl
theorem dL_law_188 : decode cL_law 188 = .ok (.iadd, 1) := dq_of dqL_law_171 13 rfl
theorem dL_law_189 : decode cL_law 189 = .ok (.iaload, 1) := dq_of dqL_law_171 14 rfl
theorem dL_law_190 : decode cL_law 190 = .ok (.invokevirtual 39, 3) := dq_of dqL_law_171 15 rfl
theorem dL_law_193 : decode cL_law 193 = .ok (.if_icmp .eq 348, 3) := dq_of dqL_law_171 16 rfl
theorem dL_law_196 : decode cL_law 196 = .ok (.iconst 0, 1) := dq_of dqL_law_171 17 rfl
theorem dL_law_197 : decode cL_law 197 = .ok (.ireturn, 1) := dq_of dqL_law_171 18 rfl
theorem dL_law_198 : decode cL_law 198 = .ok (.aload_n 1, 1) := dq_of dqL_law_171 19 rfl
theorem dL_law_199 : decode cL_law 199 = .ok (.invokevirtual 40, 3) := dq_of dqL_law_171 20 rfl
theorem dL_law_202 : decode cL_law 202 = .ok (.aload_n 2, 1) := dq_of dqL_law_171 21 rfl
theorem dL_law_203 : decode cL_law 203 = .ok (.invokevirtual 44, 3) := dq_of dqL_law_171 22 rfl
theorem dL_law_206 : decode cL_law 206 = .ok (.if_icmp .eq 335, 3) := dq_of dqL_law_171 23 rfl
theorem dL_law_209 : decode cL_law 209 = .ok (.iconst 0, 1) := dq_of dqL_law_171 24 rfl
theorem dL_law_210 : decode cL_law 210 = .ok (.ireturn, 1) := dq_of dqL_law_171 25 rfl
theorem dL_law_211 : decode cL_law 211 = .ok (.aload_n 1, 1) := dq_of dqL_law_171 26 rfl
theorem dL_law_212 : decode cL_law 212 = .ok (.invokevirtual 45, 3) := dq_of dqL_law_171 27 rfl
theorem dL_law_215 : decode cL_law 215 = .ok (.aload_n 2, 1) := dq_of dqL_law_171 28 rfl
theorem dL_law_216 : decode cL_law 216 = .ok (.invokevirtual 48, 3) := dq_of dqL_law_171 29 rfl
theorem dL_law_219 : decode cL_law 219 = .ok (.if_icmp .eq 322, 3) := dq_of dqL_law_171 30 rfl
theorem dL_law_222 : decode cL_law 222 = .ok (.iconst 0, 1) := dq_of dqL_law_171 31 rfl
theorem dL_law_223 : decode cL_law 223 = .ok (.ireturn, 1) := dq_of dqL_law_171 32 rfl
theorem dL_law_224 : decode cL_law 224 = .ok (.aload_n 1, 1) := dq_of dqL_law_171 33 rfl
theorem dL_law_225 : decode cL_law 225 = .ok (.invokevirtual 49, 3) := dq_of dqL_law_171 34 rfl
theorem dL_law_228 : decode cL_law 228 = .ok (.aload_n 2, 1) := dq_of dqL_law_171 35 rfl
theorem dL_law_229 : decode cL_law 229 = .ok (.invokevirtual 52, 3) := dq_of dqL_law_171 36 rfl
theorem dL_law_232 : decode cL_law 232 = .ok (.if_icmp .eq 309, 3) := dq_of dqL_law_171 37 rfl
theorem dL_law_235 : decode cL_law 235 = .ok (.iconst 0, 1) := dq_of dqL_law_171 38 rfl
theorem dL_law_236 : decode cL_law 236 = .ok (.ireturn, 1) := dq_of dqL_law_171 39 rfl
theorem dqL_law_237 : ([(237, .aload_n 1, 1), (238, .aload_n 0, 1), (239, .iload 4, 2), (241, .iconst 1, 1), (242, .iadd, 1), (243, .iaload, 1), (244, .aload_n 0, 1), (245, .iload 4, 2), (247, .iconst 2, 1), (248, .iadd, 1), (249, .iaload, 1), (250, .aload_n 3, 1), (251, .invokestatic 53, 3), (254, .istore 5, 2), (256, .aload_n 2, 1), (257, .aload_n 0, 1), (258, .iload 4, 2), (260, .iconst 1, 1), (261, .iadd, 1), (262, .iaload, 1), (263, .aload_n 0, 1), (264, .iload 4, 2), (266, .iconst 2, 1), (267, .iadd, 1), (268, .iaload, 1), (269, .invokevirtual 58, 3), (272, .istore 6, 2), (274, .aload_n 2, 1), (275, .invokevirtual 59, 3), (278, .iload 5, 2), (280, .if_icmp .eq 5, 3), (283, .iconst 0, 1), (284, .ireturn, 1), (285, .iload 5, 2), (287, .ifCond .ne 15, 3), (290, .aload_n 3, 1), (291, .iconst 0, 1), (292, .laload, 1), (293, .iload 6, 2), (295, .i2l, 1)] : List (Nat × Instr × Nat)).all (fun q => decide (decode cL_law q.1 = .ok (q.2.1, q.2.2))) = true := by decide +kernel
theorem dL_law_237 : decode cL_law 237 = .ok (.aload_n 1, 1) := dq_of dqL_law_237 0 rfl
theorem dL_law_238 : decode cL_law 238 = .ok (.aload_n 0, 1) := dq_of dqL_law_237 1 rfl
theorem dL_law_239 : decode cL_law 239 = .ok (.iload 4, 2) := dq_of dqL_law_237 2 rfl
theorem dL_law_241 : decode cL_law 241 = .ok (.iconst 1, 1) := dq_of dqL_law_237 3 rfl
theorem dL_law_242 : decode cL_law 242 = .ok (.iadd, 1) := dq_of dqL_law_237 4 rfl
theorem dL_law_243 : decode cL_law 243 = .ok (.iaload, 1) := dq_of dqL_law_237 5 rfl
theorem dL_law_244 : decode cL_law 244 = .ok (.aload_n 0, 1) := dq_of dqL_law_237 6 rfl
theorem dL_law_245 : decode cL_law 245 = .ok (.iload 4, 2) := dq_of dqL_law_237 7 rfl
theorem dL_law_247 : decode cL_law 247 = .ok (.iconst 2, 1) := dq_of dqL_law_237 8 rfl
theorem dL_law_248 : decode cL_law 248 = .ok (.iadd, 1) := dq_of dqL_law_237 9 rfl
theorem dL_law_249 : decode cL_law 249 = .ok (.iaload, 1) := dq_of dqL_law_237 10 rfl
theorem dL_law_250 : decode cL_law 250 = .ok (.aload_n 3, 1) := dq_of dqL_law_237 11 rfl
theorem dL_law_251 : decode cL_law 251 = .ok (.invokestatic 53, 3) := dq_of dqL_law_237 12 rfl
theorem dL_law_254 : decode cL_law 254 = .ok (.istore 5, 2) := dq_of dqL_law_237 13 rfl
theorem dL_law_256 : decode cL_law 256 = .ok (.aload_n 2, 1) := dq_of dqL_law_237 14 rfl
theorem dL_law_257 : decode cL_law 257 = .ok (.aload_n 0, 1) := dq_of dqL_law_237 15 rfl
theorem dL_law_258 : decode cL_law 258 = .ok (.iload 4, 2) := dq_of dqL_law_237 16 rfl
theorem dL_law_260 : decode cL_law 260 = .ok (.iconst 1, 1) := dq_of dqL_law_237 17 rfl
theorem dL_law_261 : decode cL_law 261 = .ok (.iadd, 1) := dq_of dqL_law_237 18 rfl
theorem dL_law_262 : decode cL_law 262 = .ok (.iaload, 1) := dq_of dqL_law_237 19 rfl
theorem dL_law_263 : decode cL_law 263 = .ok (.aload_n 0, 1) := dq_of dqL_law_237 20 rfl
theorem dL_law_264 : decode cL_law 264 = .ok (.iload 4, 2) := dq_of dqL_law_237 21 rfl
theorem dL_law_266 : decode cL_law 266 = .ok (.iconst 2, 1) := dq_of dqL_law_237 22 rfl
theorem dL_law_267 : decode cL_law 267 = .ok (.iadd, 1) := dq_of dqL_law_237 23 rfl
theorem dL_law_268 : decode cL_law 268 = .ok (.iaload, 1) := dq_of dqL_law_237 24 rfl
theorem dL_law_269 : decode cL_law 269 = .ok (.invokevirtual 58, 3) := dq_of dqL_law_237 25 rfl
theorem dL_law_272 : decode cL_law 272 = .ok (.istore 6, 2) := dq_of dqL_law_237 26 rfl
theorem dL_law_274 : decode cL_law 274 = .ok (.aload_n 2, 1) := dq_of dqL_law_237 27 rfl
theorem dL_law_275 : decode cL_law 275 = .ok (.invokevirtual 59, 3) := dq_of dqL_law_237 28 rfl
theorem dL_law_278 : decode cL_law 278 = .ok (.iload 5, 2) := dq_of dqL_law_237 29 rfl
theorem dL_law_280 : decode cL_law 280 = .ok (.if_icmp .eq 5, 3) := dq_of dqL_law_237 30 rfl
theorem dL_law_283 : decode cL_law 283 = .ok (.iconst 0, 1) := dq_of dqL_law_237 31 rfl
theorem dL_law_284 : decode cL_law 284 = .ok (.ireturn, 1) := dq_of dqL_law_237 32 rfl
theorem dL_law_285 : decode cL_law 285 = .ok (.iload 5, 2) := dq_of dqL_law_237 33 rfl
theorem dL_law_287 : decode cL_law 287 = .ok (.ifCond .ne 15, 3) := dq_of dqL_law_237 34 rfl
theorem dL_law_290 : decode cL_law 290 = .ok (.aload_n 3, 1) := dq_of dqL_law_237 35 rfl
theorem dL_law_291 : decode cL_law 291 = .ok (.iconst 0, 1) := dq_of dqL_law_237 36 rfl
theorem dL_law_292 : decode cL_law 292 = .ok (.laload, 1) := dq_of dqL_law_237 37 rfl
theorem dL_law_293 : decode cL_law 293 = .ok (.iload 6, 2) := dq_of dqL_law_237 38 rfl
theorem dL_law_295 : decode cL_law 295 = .ok (.i2l, 1) := dq_of dqL_law_237 39 rfl
theorem dqL_law_296 : ([(296, .lcmp, 1), (297, .ifCond .eq 5, 3), (300, .iconst 0, 1), (301, .ireturn, 1), (302, .goto 239, 3), (305, .aload_n 1, 1), (306, .aload_n 0, 1), (307, .iload 4, 2), (309, .iconst 1, 1), (310, .iadd, 1), (311, .iaload, 1), (312, .aload_n 0, 1), (313, .iload 4, 2), (315, .iconst 2, 1), (316, .iadd, 1), (317, .iaload, 1), (318, .aload_n 3, 1), (319, .invokestatic 62, 3), (322, .istore 5, 2), (324, .aload_n 2, 1), (325, .aload_n 0, 1), (326, .iload 4, 2), (328, .iconst 1, 1), (329, .iadd, 1), (330, .iaload, 1), (331, .aload_n 0, 1), (332, .iload 4, 2), (334, .iconst 2, 1), (335, .iadd, 1), (336, .iaload, 1), (337, .invokevirtual 64, 3), (340, .istore 6, 2), (342, .aload_n 2, 1), (343, .invokevirtual 59, 3), (346, .iload 5, 2), (348, .if_icmp .eq 5, 3), (351, .iconst 0, 1), (352, .ireturn, 1), (353, .iload 5, 2), (355, .ifCond .ne 15, 3)] : List (Nat × Instr × Nat)).all (fun q => decide (decode cL_law q.1 = .ok (q.2.1, q.2.2))) = true := by decide +kernel
theorem dL_law_296 : decode cL_law 296 = .ok (.lcmp, 1) := dq_of dqL_law_296 0 rfl
theorem dL_law_297 : decode cL_law 297 = .ok (.ifCond .eq 5, 3) := dq_of dqL_law_296 1 rfl
theorem dL_law_300 : decode cL_law 300 = .ok (.iconst 0, 1) := dq_of dqL_law_296 2 rfl
theorem dL_law_301 : decode cL_law 301 = .ok (.ireturn, 1) := dq_of dqL_law_296 3 rfl
theorem dL_law_302 : decode cL_law 302 = .ok (.goto 239, 3) := dq_of dqL_law_296 4 rfl
theorem dL_law_305 : decode cL_law 305 = .ok (.aload_n 1, 1) := dq_of dqL_law_296 5 rfl
theorem dL_law_306 : decode cL_law 306 = .ok (.aload_n 0, 1) := dq_of dqL_law_296 6 rfl
theorem dL_law_307 : decode cL_law 307 = .ok (.iload 4, 2) := dq_of dqL_law_296 7 rfl
theorem dL_law_309 : decode cL_law 309 = .ok (.iconst 1, 1) := dq_of dqL_law_296 8 rfl
theorem dL_law_310 : decode cL_law 310 = .ok (.iadd, 1) := dq_of dqL_law_296 9 rfl
theorem dL_law_311 : decode cL_law 311 = .ok (.iaload, 1) := dq_of dqL_law_296 10 rfl
theorem dL_law_312 : decode cL_law 312 = .ok (.aload_n 0, 1) := dq_of dqL_law_296 11 rfl
theorem dL_law_313 : decode cL_law 313 = .ok (.iload 4, 2) := dq_of dqL_law_296 12 rfl
theorem dL_law_315 : decode cL_law 315 = .ok (.iconst 2, 1) := dq_of dqL_law_296 13 rfl
theorem dL_law_316 : decode cL_law 316 = .ok (.iadd, 1) := dq_of dqL_law_296 14 rfl
theorem dL_law_317 : decode cL_law 317 = .ok (.iaload, 1) := dq_of dqL_law_296 15 rfl
theorem dL_law_318 : decode cL_law 318 = .ok (.aload_n 3, 1) := dq_of dqL_law_296 16 rfl
theorem dL_law_319 : decode cL_law 319 = .ok (.invokestatic 62, 3) := dq_of dqL_law_296 17 rfl
theorem dL_law_322 : decode cL_law 322 = .ok (.istore 5, 2) := dq_of dqL_law_296 18 rfl
theorem dL_law_324 : decode cL_law 324 = .ok (.aload_n 2, 1) := dq_of dqL_law_296 19 rfl
theorem dL_law_325 : decode cL_law 325 = .ok (.aload_n 0, 1) := dq_of dqL_law_296 20 rfl
theorem dL_law_326 : decode cL_law 326 = .ok (.iload 4, 2) := dq_of dqL_law_296 21 rfl
theorem dL_law_328 : decode cL_law 328 = .ok (.iconst 1, 1) := dq_of dqL_law_296 22 rfl
theorem dL_law_329 : decode cL_law 329 = .ok (.iadd, 1) := dq_of dqL_law_296 23 rfl
theorem dL_law_330 : decode cL_law 330 = .ok (.iaload, 1) := dq_of dqL_law_296 24 rfl
theorem dL_law_331 : decode cL_law 331 = .ok (.aload_n 0, 1) := dq_of dqL_law_296 25 rfl
theorem dL_law_332 : decode cL_law 332 = .ok (.iload 4, 2) := dq_of dqL_law_296 26 rfl
theorem dL_law_334 : decode cL_law 334 = .ok (.iconst 2, 1) := dq_of dqL_law_296 27 rfl
theorem dL_law_335 : decode cL_law 335 = .ok (.iadd, 1) := dq_of dqL_law_296 28 rfl
theorem dL_law_336 : decode cL_law 336 = .ok (.iaload, 1) := dq_of dqL_law_296 29 rfl
theorem dL_law_337 : decode cL_law 337 = .ok (.invokevirtual 64, 3) := dq_of dqL_law_296 30 rfl
theorem dL_law_340 : decode cL_law 340 = .ok (.istore 6, 2) := dq_of dqL_law_296 31 rfl
theorem dL_law_342 : decode cL_law 342 = .ok (.aload_n 2, 1) := dq_of dqL_law_296 32 rfl
theorem dL_law_343 : decode cL_law 343 = .ok (.invokevirtual 59, 3) := dq_of dqL_law_296 33 rfl
theorem dL_law_346 : decode cL_law 346 = .ok (.iload 5, 2) := dq_of dqL_law_296 34 rfl
theorem dL_law_348 : decode cL_law 348 = .ok (.if_icmp .eq 5, 3) := dq_of dqL_law_296 35 rfl
theorem dL_law_351 : decode cL_law 351 = .ok (.iconst 0, 1) := dq_of dqL_law_296 36 rfl
theorem dL_law_352 : decode cL_law 352 = .ok (.ireturn, 1) := dq_of dqL_law_296 37 rfl
theorem dL_law_353 : decode cL_law 353 = .ok (.iload 5, 2) := dq_of dqL_law_296 38 rfl
theorem dL_law_355 : decode cL_law 355 = .ok (.ifCond .ne 15, 3) := dq_of dqL_law_296 39 rfl
theorem dqL_law_358 : ([(358, .aload_n 3, 1), (359, .iconst 0, 1), (360, .laload, 1), (361, .iload 6, 2), (363, .i2l, 1), (364, .lcmp, 1), (365, .ifCond .eq 5, 3), (368, .iconst 0, 1), (369, .ireturn, 1), (370, .goto 171, 3), (373, .aload_n 1, 1), (374, .aload_n 0, 1), (375, .iload 4, 2), (377, .iconst 1, 1), (378, .iadd, 1), (379, .iaload, 1), (380, .aload_n 3, 1), (381, .invokestatic 65, 3), (384, .istore 5, 2), (386, .aload_n 2, 1), (387, .aload_n 0, 1), (388, .iload 4, 2), (390, .iconst 1, 1), (391, .iadd, 1), (392, .iaload, 1), (393, .invokevirtual 68, 3), (396, .lstore 6, 2), (398, .aload_n 2, 1), (399, .invokevirtual 59, 3), (402, .iload 5, 2), (404, .if_icmp .eq 5, 3), (407, .iconst 0, 1), (408, .ireturn, 1), (409, .iload 5, 2), (411, .ifCond .ne 14, 3), (414, .aload_n 3, 1), (415, .iconst 0, 1), (416, .laload, 1), (417, .lload 6, 2), (419, .lcmp, 1)] : List (Nat × Instr × Nat)).all (fun q => decide (decode cL_law q.1 = .ok (q.2.1, q.2.2))) = true := by decide +kernel
theorem dL_law_358 : decode cL_law 358 = .ok (.aload_n 3, 1) := dq_of dqL_law_358 0 rfl
theorem dL_law_359 : decode cL_law 359 = .ok (.iconst 0, 1) := dq_of dqL_law_358 1 rfl
theorem dL_law_360 : decode cL_law 360 = .ok (.laload, 1) := dq_of dqL_law_358 2 rfl
theorem dL_law_361 : decode cL_law 361 = .ok (.iload 6, 2) := dq_of dqL_law_358 3 rfl
theorem dL_law_363 : decode cL_law 363 = .ok (.i2l, 1) := dq_of dqL_law_358 4 rfl
theorem dL_law_364 : decode cL_law 364 = .ok (.lcmp, 1) := dq_of dqL_law_358 5 rfl
theorem dL_law_365 : decode cL_law 365 = .ok (.ifCond .eq 5, 3) := dq_of dqL_law_358 6 rfl
theorem dL_law_368 : decode cL_law 368 = .ok (.iconst 0, 1) := dq_of dqL_law_358 7 rfl
theorem dL_law_369 : decode cL_law 369 = .ok (.ireturn, 1) := dq_of dqL_law_358 8 rfl
theorem dL_law_370 : decode cL_law 370 = .ok (.goto 171, 3) := dq_of dqL_law_358 9 rfl
theorem dL_law_373 : decode cL_law 373 = .ok (.aload_n 1, 1) := dq_of dqL_law_358 10 rfl
theorem dL_law_374 : decode cL_law 374 = .ok (.aload_n 0, 1) := dq_of dqL_law_358 11 rfl
theorem dL_law_375 : decode cL_law 375 = .ok (.iload 4, 2) := dq_of dqL_law_358 12 rfl
theorem dL_law_377 : decode cL_law 377 = .ok (.iconst 1, 1) := dq_of dqL_law_358 13 rfl
theorem dL_law_378 : decode cL_law 378 = .ok (.iadd, 1) := dq_of dqL_law_358 14 rfl
theorem dL_law_379 : decode cL_law 379 = .ok (.iaload, 1) := dq_of dqL_law_358 15 rfl
theorem dL_law_380 : decode cL_law 380 = .ok (.aload_n 3, 1) := dq_of dqL_law_358 16 rfl
theorem dL_law_381 : decode cL_law 381 = .ok (.invokestatic 65, 3) := dq_of dqL_law_358 17 rfl
theorem dL_law_384 : decode cL_law 384 = .ok (.istore 5, 2) := dq_of dqL_law_358 18 rfl
theorem dL_law_386 : decode cL_law 386 = .ok (.aload_n 2, 1) := dq_of dqL_law_358 19 rfl
theorem dL_law_387 : decode cL_law 387 = .ok (.aload_n 0, 1) := dq_of dqL_law_358 20 rfl
theorem dL_law_388 : decode cL_law 388 = .ok (.iload 4, 2) := dq_of dqL_law_358 21 rfl
theorem dL_law_390 : decode cL_law 390 = .ok (.iconst 1, 1) := dq_of dqL_law_358 22 rfl
theorem dL_law_391 : decode cL_law 391 = .ok (.iadd, 1) := dq_of dqL_law_358 23 rfl
theorem dL_law_392 : decode cL_law 392 = .ok (.iaload, 1) := dq_of dqL_law_358 24 rfl
theorem dL_law_393 : decode cL_law 393 = .ok (.invokevirtual 68, 3) := dq_of dqL_law_358 25 rfl
theorem dL_law_396 : decode cL_law 396 = .ok (.lstore 6, 2) := dq_of dqL_law_358 26 rfl
theorem dL_law_398 : decode cL_law 398 = .ok (.aload_n 2, 1) := dq_of dqL_law_358 27 rfl
theorem dL_law_399 : decode cL_law 399 = .ok (.invokevirtual 59, 3) := dq_of dqL_law_358 28 rfl
theorem dL_law_402 : decode cL_law 402 = .ok (.iload 5, 2) := dq_of dqL_law_358 29 rfl
theorem dL_law_404 : decode cL_law 404 = .ok (.if_icmp .eq 5, 3) := dq_of dqL_law_358 30 rfl
theorem dL_law_407 : decode cL_law 407 = .ok (.iconst 0, 1) := dq_of dqL_law_358 31 rfl
theorem dL_law_408 : decode cL_law 408 = .ok (.ireturn, 1) := dq_of dqL_law_358 32 rfl
theorem dL_law_409 : decode cL_law 409 = .ok (.iload 5, 2) := dq_of dqL_law_358 33 rfl
theorem dL_law_411 : decode cL_law 411 = .ok (.ifCond .ne 14, 3) := dq_of dqL_law_358 34 rfl
theorem dL_law_414 : decode cL_law 414 = .ok (.aload_n 3, 1) := dq_of dqL_law_358 35 rfl
theorem dL_law_415 : decode cL_law 415 = .ok (.iconst 0, 1) := dq_of dqL_law_358 36 rfl
theorem dL_law_416 : decode cL_law 416 = .ok (.laload, 1) := dq_of dqL_law_358 37 rfl
theorem dL_law_417 : decode cL_law 417 = .ok (.lload 6, 2) := dq_of dqL_law_358 38 rfl
theorem dL_law_419 : decode cL_law 419 = .ok (.lcmp, 1) := dq_of dqL_law_358 39 rfl
theorem dqL_law_420 : ([(420, .ifCond .eq 5, 3), (423, .iconst 0, 1), (424, .ireturn, 1), (425, .goto 116, 3), (428, .aload_n 1, 1), (429, .aload_n 0, 1), (430, .iload 4, 2), (432, .iconst 1, 1), (433, .iadd, 1), (434, .iaload, 1), (435, .aload_n 0, 1), (436, .iload 4, 2), (438, .iconst 2, 1), (439, .iadd, 1), (440, .iaload, 1), (441, .aload_n 3, 1), (442, .invokestatic 69, 3), (445, .istore 5, 2), (447, .aload_n 2, 1), (448, .aload_n 0, 1), (449, .iload 4, 2), (451, .iconst 1, 1), (452, .iadd, 1), (453, .iaload, 1), (454, .aload_n 0, 1), (455, .iload 4, 2), (457, .iconst 2, 1), (458, .iadd, 1), (459, .iaload, 1), (460, .invokevirtual 71, 3), (463, .istore 6, 2), (465, .aload_n 2, 1), (466, .invokevirtual 59, 3), (469, .iload 5, 2), (471, .if_icmp .eq 5, 3), (474, .iconst 0, 1), (475, .ireturn, 1), (476, .iload 5, 2), (478, .ifCond .ne 22, 3), (481, .aload_n 3, 1)] : List (Nat × Instr × Nat)).all (fun q => decide (decode cL_law q.1 = .ok (q.2.1, q.2.2))) = true := by decide +kernel
theorem dL_law_420 : decode cL_law 420 = .ok (.ifCond .eq 5, 3) := dq_of dqL_law_420 0 rfl
theorem dL_law_423 : decode cL_law 423 = .ok (.iconst 0, 1) := dq_of dqL_law_420 1 rfl
theorem dL_law_424 : decode cL_law 424 = .ok (.ireturn, 1) := dq_of dqL_law_420 2 rfl
theorem dL_law_425 : decode cL_law 425 = .ok (.goto 116, 3) := dq_of dqL_law_420 3 rfl
theorem dL_law_428 : decode cL_law 428 = .ok (.aload_n 1, 1) := dq_of dqL_law_420 4 rfl
theorem dL_law_429 : decode cL_law 429 = .ok (.aload_n 0, 1) := dq_of dqL_law_420 5 rfl
theorem dL_law_430 : decode cL_law 430 = .ok (.iload 4, 2) := dq_of dqL_law_420 6 rfl
theorem dL_law_432 : decode cL_law 432 = .ok (.iconst 1, 1) := dq_of dqL_law_420 7 rfl
theorem dL_law_433 : decode cL_law 433 = .ok (.iadd, 1) := dq_of dqL_law_420 8 rfl
theorem dL_law_434 : decode cL_law 434 = .ok (.iaload, 1) := dq_of dqL_law_420 9 rfl
theorem dL_law_435 : decode cL_law 435 = .ok (.aload_n 0, 1) := dq_of dqL_law_420 10 rfl
theorem dL_law_436 : decode cL_law 436 = .ok (.iload 4, 2) := dq_of dqL_law_420 11 rfl
theorem dL_law_438 : decode cL_law 438 = .ok (.iconst 2, 1) := dq_of dqL_law_420 12 rfl
theorem dL_law_439 : decode cL_law 439 = .ok (.iadd, 1) := dq_of dqL_law_420 13 rfl
theorem dL_law_440 : decode cL_law 440 = .ok (.iaload, 1) := dq_of dqL_law_420 14 rfl
theorem dL_law_441 : decode cL_law 441 = .ok (.aload_n 3, 1) := dq_of dqL_law_420 15 rfl
theorem dL_law_442 : decode cL_law 442 = .ok (.invokestatic 69, 3) := dq_of dqL_law_420 16 rfl
theorem dL_law_445 : decode cL_law 445 = .ok (.istore 5, 2) := dq_of dqL_law_420 17 rfl
theorem dL_law_447 : decode cL_law 447 = .ok (.aload_n 2, 1) := dq_of dqL_law_420 18 rfl
theorem dL_law_448 : decode cL_law 448 = .ok (.aload_n 0, 1) := dq_of dqL_law_420 19 rfl
theorem dL_law_449 : decode cL_law 449 = .ok (.iload 4, 2) := dq_of dqL_law_420 20 rfl
theorem dL_law_451 : decode cL_law 451 = .ok (.iconst 1, 1) := dq_of dqL_law_420 21 rfl
theorem dL_law_452 : decode cL_law 452 = .ok (.iadd, 1) := dq_of dqL_law_420 22 rfl
theorem dL_law_453 : decode cL_law 453 = .ok (.iaload, 1) := dq_of dqL_law_420 23 rfl
theorem dL_law_454 : decode cL_law 454 = .ok (.aload_n 0, 1) := dq_of dqL_law_420 24 rfl
theorem dL_law_455 : decode cL_law 455 = .ok (.iload 4, 2) := dq_of dqL_law_420 25 rfl
theorem dL_law_457 : decode cL_law 457 = .ok (.iconst 2, 1) := dq_of dqL_law_420 26 rfl
theorem dL_law_458 : decode cL_law 458 = .ok (.iadd, 1) := dq_of dqL_law_420 27 rfl
theorem dL_law_459 : decode cL_law 459 = .ok (.iaload, 1) := dq_of dqL_law_420 28 rfl
theorem dL_law_460 : decode cL_law 460 = .ok (.invokevirtual 71, 3) := dq_of dqL_law_420 29 rfl
theorem dL_law_463 : decode cL_law 463 = .ok (.istore 6, 2) := dq_of dqL_law_420 30 rfl
theorem dL_law_465 : decode cL_law 465 = .ok (.aload_n 2, 1) := dq_of dqL_law_420 31 rfl
theorem dL_law_466 : decode cL_law 466 = .ok (.invokevirtual 59, 3) := dq_of dqL_law_420 32 rfl
theorem dL_law_469 : decode cL_law 469 = .ok (.iload 5, 2) := dq_of dqL_law_420 33 rfl
theorem dL_law_471 : decode cL_law 471 = .ok (.if_icmp .eq 5, 3) := dq_of dqL_law_420 34 rfl
theorem dL_law_474 : decode cL_law 474 = .ok (.iconst 0, 1) := dq_of dqL_law_420 35 rfl
theorem dL_law_475 : decode cL_law 475 = .ok (.ireturn, 1) := dq_of dqL_law_420 36 rfl
theorem dL_law_476 : decode cL_law 476 = .ok (.iload 5, 2) := dq_of dqL_law_420 37 rfl
theorem dL_law_478 : decode cL_law 478 = .ok (.ifCond .ne 22, 3) := dq_of dqL_law_420 38 rfl
theorem dL_law_481 : decode cL_law 481 = .ok (.aload_n 3, 1) := dq_of dqL_law_420 39 rfl
theorem dqL_law_482 : ([(482, .iconst 0, 1), (483, .laload, 1), (484, .iload 6, 2), (486, .ifCond .eq 7, 3), (489, .lconst 1, 1), (490, .goto 4, 3), (493, .lconst 0, 1), (494, .lcmp, 1), (495, .ifCond .eq 5, 3), (498, .iconst 0, 1), (499, .ireturn, 1), (500, .goto 41, 3), (503, .aload_n 1, 1), (504, .invokevirtual 72, 3), (507, .aload_n 2, 1), (508, .invokevirtual 75, 3), (511, .if_icmp .eq 30, 3), (514, .iconst 0, 1), (515, .ireturn, 1), (516, .aload_n 1, 1), (517, .aload_n 0, 1), (518, .iload 4, 2), (520, .iconst 1, 1), (521, .iadd, 1), (522, .iaload, 1), (523, .invokevirtual 76, 3), (526, .aload_n 2, 1), (527, .aload_n 0, 1), (528, .iload 4, 2), (530, .iconst 1, 1), (531, .iadd, 1), (532, .iaload, 1), (533, .invokevirtual 80, 3), (536, .if_icmp .eq 5, 3), (539, .iconst 0, 1), (540, .ireturn, 1), (541, .iinc 4 6, 3), (544, .goto (-521), 3), (547, .iconst 1, 1), (548, .ireturn, 1)] : List (Nat × Instr × Nat)).all (fun q => decide (decode cL_law q.1 = .ok (q.2.1, q.2.2))) = true := by decide +kernel
theorem dL_law_482 : decode cL_law 482 = .ok (.iconst 0, 1) := dq_of dqL_law_482 0 rfl
theorem dL_law_483 : decode cL_law 483 = .ok (.laload, 1) := dq_of dqL_law_482 1 rfl
theorem dL_law_484 : decode cL_law 484 = .ok (.iload 6, 2) := dq_of dqL_law_482 2 rfl
theorem dL_law_486 : decode cL_law 486 = .ok (.ifCond .eq 7, 3) := dq_of dqL_law_482 3 rfl
theorem dL_law_489 : decode cL_law 489 = .ok (.lconst 1, 1) := dq_of dqL_law_482 4 rfl
theorem dL_law_490 : decode cL_law 490 = .ok (.goto 4, 3) := dq_of dqL_law_482 5 rfl
theorem dL_law_493 : decode cL_law 493 = .ok (.lconst 0, 1) := dq_of dqL_law_482 6 rfl
theorem dL_law_494 : decode cL_law 494 = .ok (.lcmp, 1) := dq_of dqL_law_482 7 rfl
theorem dL_law_495 : decode cL_law 495 = .ok (.ifCond .eq 5, 3) := dq_of dqL_law_482 8 rfl
theorem dL_law_498 : decode cL_law 498 = .ok (.iconst 0, 1) := dq_of dqL_law_482 9 rfl
theorem dL_law_499 : decode cL_law 499 = .ok (.ireturn, 1) := dq_of dqL_law_482 10 rfl
theorem dL_law_500 : decode cL_law 500 = .ok (.goto 41, 3) := dq_of dqL_law_482 11 rfl
theorem dL_law_503 : decode cL_law 503 = .ok (.aload_n 1, 1) := dq_of dqL_law_482 12 rfl
theorem dL_law_504 : decode cL_law 504 = .ok (.invokevirtual 72, 3) := dq_of dqL_law_482 13 rfl
theorem dL_law_507 : decode cL_law 507 = .ok (.aload_n 2, 1) := dq_of dqL_law_482 14 rfl
theorem dL_law_508 : decode cL_law 508 = .ok (.invokevirtual 75, 3) := dq_of dqL_law_482 15 rfl
theorem dL_law_511 : decode cL_law 511 = .ok (.if_icmp .eq 30, 3) := dq_of dqL_law_482 16 rfl
theorem dL_law_514 : decode cL_law 514 = .ok (.iconst 0, 1) := dq_of dqL_law_482 17 rfl
theorem dL_law_515 : decode cL_law 515 = .ok (.ireturn, 1) := dq_of dqL_law_482 18 rfl
theorem dL_law_516 : decode cL_law 516 = .ok (.aload_n 1, 1) := dq_of dqL_law_482 19 rfl
theorem dL_law_517 : decode cL_law 517 = .ok (.aload_n 0, 1) := dq_of dqL_law_482 20 rfl
theorem dL_law_518 : decode cL_law 518 = .ok (.iload 4, 2) := dq_of dqL_law_482 21 rfl
theorem dL_law_520 : decode cL_law 520 = .ok (.iconst 1, 1) := dq_of dqL_law_482 22 rfl
theorem dL_law_521 : decode cL_law 521 = .ok (.iadd, 1) := dq_of dqL_law_482 23 rfl
theorem dL_law_522 : decode cL_law 522 = .ok (.iaload, 1) := dq_of dqL_law_482 24 rfl
theorem dL_law_523 : decode cL_law 523 = .ok (.invokevirtual 76, 3) := dq_of dqL_law_482 25 rfl
theorem dL_law_526 : decode cL_law 526 = .ok (.aload_n 2, 1) := dq_of dqL_law_482 26 rfl
theorem dL_law_527 : decode cL_law 527 = .ok (.aload_n 0, 1) := dq_of dqL_law_482 27 rfl
theorem dL_law_528 : decode cL_law 528 = .ok (.iload 4, 2) := dq_of dqL_law_482 28 rfl
theorem dL_law_530 : decode cL_law 530 = .ok (.iconst 1, 1) := dq_of dqL_law_482 29 rfl
theorem dL_law_531 : decode cL_law 531 = .ok (.iadd, 1) := dq_of dqL_law_482 30 rfl
theorem dL_law_532 : decode cL_law 532 = .ok (.iaload, 1) := dq_of dqL_law_482 31 rfl
theorem dL_law_533 : decode cL_law 533 = .ok (.invokevirtual 80, 3) := dq_of dqL_law_482 32 rfl
theorem dL_law_536 : decode cL_law 536 = .ok (.if_icmp .eq 5, 3) := dq_of dqL_law_482 33 rfl
theorem dL_law_539 : decode cL_law 539 = .ok (.iconst 0, 1) := dq_of dqL_law_482 34 rfl
theorem dL_law_540 : decode cL_law 540 = .ok (.ireturn, 1) := dq_of dqL_law_482 35 rfl
theorem dL_law_541 : decode cL_law 541 = .ok (.iinc 4 6, 3) := dq_of dqL_law_482 36 rfl
theorem dL_law_544 : decode cL_law 544 = .ok (.goto (-521), 3) := dq_of dqL_law_482 37 rfl
theorem dL_law_547 : decode cL_law 547 = .ok (.iconst 1, 1) := dq_of dqL_law_482 38 rfl
theorem dL_law_548 : decode cL_law 548 = .ok (.ireturn, 1) := dq_of dqL_law_482 39 rfl
