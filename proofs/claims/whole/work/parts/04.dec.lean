theorem dq_of {c : ByteArray} {L : List (Nat × Instr × Nat)} (h : L.all (fun q => decide (decode c q.1 = .ok (q.2.1, q.2.2))) = true) (k : Nat) {pc n : Nat} {i : Instr} (e : L[k]? = some (pc, i, n)) : decode c pc = .ok (i, n) := by
  have h1 := List.all_eq_true.mp h _ (List.mem_of_getElem? e)
  exact of_decide_eq_true h1
theorem dqX7_init_0 : ([(0, .aload_n 0, 1), (1, .invokespecial 3, 3), (4, .aload_n 0, 1), (5, .sipush 256, 3), (8, .newarray .byte, 2), (10, .putfield 9, 3), (13, .aload_n 0, 1), (14, .iconst 0, 1), (15, .putfield 15, 3), (18, .aload_n 0, 1), (19, .iconst 0, 1), (20, .putfield 19, 3), (23, .aload_n 0, 1), (24, .iconst 1, 1), (25, .putfield 22, 3), (28, .aload_n 0, 1), (29, .iconst 0, 1), (30, .putfield 25, 3), (33, .aload_n 0, 1), (34, .iconst 0, 1), (35, .putfield 28, 3), (38, .return_, 1)] : List (Nat × Instr × Nat)).all (fun q => decide (decode cX7_init q.1 = .ok (q.2.1, q.2.2))) = true := by decide +kernel
theorem dX7_init_0 : decode cX7_init 0 = .ok (.aload_n 0, 1) := dq_of dqX7_init_0 0 rfl
theorem dX7_init_1 : decode cX7_init 1 = .ok (.invokespecial 3, 3) := dq_of dqX7_init_0 1 rfl
theorem dX7_init_4 : decode cX7_init 4 = .ok (.aload_n 0, 1) := dq_of dqX7_init_0 2 rfl
theorem dX7_init_5 : decode cX7_init 5 = .ok (.sipush 256, 3) := dq_of dqX7_init_0 3 rfl
theorem dX7_init_8 : decode cX7_init 8 = .ok (.newarray .byte, 2) := dq_of dqX7_init_0 4 rfl
theorem dX7_init_10 : decode cX7_init 10 = .ok (.putfield 9, 3) := dq_of dqX7_init_0 5 rfl
theorem dX7_init_13 : decode cX7_init 13 = .ok (.aload_n 0, 1) := dq_of dqX7_init_0 6 rfl
theorem dX7_init_14 : decode cX7_init 14 = .ok (.iconst 0, 1) := dq_of dqX7_init_0 7 rfl
theorem dX7_init_15 : decode cX7_init 15 = .ok (.putfield 15, 3) := dq_of dqX7_init_0 8 rfl
theorem dX7_init_18 : decode cX7_init 18 = .ok (.aload_n 0, 1) := dq_of dqX7_init_0 9 rfl
theorem dX7_init_19 : decode cX7_init 19 = .ok (.iconst 0, 1) := dq_of dqX7_init_0 10 rfl
theorem dX7_init_20 : decode cX7_init 20 = .ok (.putfield 19, 3) := dq_of dqX7_init_0 11 rfl
theorem dX7_init_23 : decode cX7_init 23 = .ok (.aload_n 0, 1) := dq_of dqX7_init_0 12 rfl
theorem dX7_init_24 : decode cX7_init 24 = .ok (.iconst 1, 1) := dq_of dqX7_init_0 13 rfl
theorem dX7_init_25 : decode cX7_init 25 = .ok (.putfield 22, 3) := dq_of dqX7_init_0 14 rfl
theorem dX7_init_28 : decode cX7_init 28 = .ok (.aload_n 0, 1) := dq_of dqX7_init_0 15 rfl
theorem dX7_init_29 : decode cX7_init 29 = .ok (.iconst 0, 1) := dq_of dqX7_init_0 16 rfl
theorem dX7_init_30 : decode cX7_init 30 = .ok (.putfield 25, 3) := dq_of dqX7_init_0 17 rfl
theorem dX7_init_33 : decode cX7_init 33 = .ok (.aload_n 0, 1) := dq_of dqX7_init_0 18 rfl
theorem dX7_init_34 : decode cX7_init 34 = .ok (.iconst 0, 1) := dq_of dqX7_init_0 19 rfl
theorem dX7_init_35 : decode cX7_init 35 = .ok (.putfield 28, 3) := dq_of dqX7_init_0 20 rfl
theorem dX7_init_38 : decode cX7_init 38 = .ok (.return_, 1) := dq_of dqX7_init_0 21 rfl
theorem dqX7_makeRoom_0 : ([(0, .aload_n 0, 1), (1, .getfield 15, 3), (4, .iload_n 1, 1), (5, .iadd, 1), (6, .ldc 32, 2), (8, .if_icmp .le 5, 3), (11, .iconst 0, 1), (12, .ireturn, 1), (13, .aload_n 0, 1), (14, .getfield 15, 3), (17, .iload_n 1, 1), (18, .iadd, 1), (19, .aload_n 0, 1), (20, .getfield 9, 3), (23, .arraylength, 1), (24, .if_icmp .le 21, 3), (27, .aload_n 0, 1), (28, .aload_n 0, 1), (29, .getfield 9, 3), (32, .aload_n 0, 1), (33, .getfield 9, 3), (36, .arraylength, 1), (37, .iconst 2, 1), (38, .imul, 1), (39, .invokestatic 33, 3), (42, .putfield 9, 3), (45, .aload_n 0, 1), (46, .getfield 15, 3), (49, .iload_n 1, 1), (50, .iadd, 1), (51, .aload_n 0, 1), (52, .getfield 9, 3), (55, .arraylength, 1), (56, .if_icmp .gt 7, 3), (59, .iconst 1, 1), (60, .goto 4, 3), (63, .iconst 0, 1), (64, .ireturn, 1)] : List (Nat × Instr × Nat)).all (fun q => decide (decode cX7_makeRoom q.1 = .ok (q.2.1, q.2.2))) = true := by decide +kernel
theorem dX7_makeRoom_0 : decode cX7_makeRoom 0 = .ok (.aload_n 0, 1) := dq_of dqX7_makeRoom_0 0 rfl
theorem dX7_makeRoom_1 : decode cX7_makeRoom 1 = .ok (.getfield 15, 3) := dq_of dqX7_makeRoom_0 1 rfl
theorem dX7_makeRoom_4 : decode cX7_makeRoom 4 = .ok (.iload_n 1, 1) := dq_of dqX7_makeRoom_0 2 rfl
theorem dX7_makeRoom_5 : decode cX7_makeRoom 5 = .ok (.iadd, 1) := dq_of dqX7_makeRoom_0 3 rfl
theorem dX7_makeRoom_6 : decode cX7_makeRoom 6 = .ok (.ldc 32, 2) := dq_of dqX7_makeRoom_0 4 rfl
theorem dX7_makeRoom_8 : decode cX7_makeRoom 8 = .ok (.if_icmp .le 5, 3) := dq_of dqX7_makeRoom_0 5 rfl
theorem dX7_makeRoom_11 : decode cX7_makeRoom 11 = .ok (.iconst 0, 1) := dq_of dqX7_makeRoom_0 6 rfl
theorem dX7_makeRoom_12 : decode cX7_makeRoom 12 = .ok (.ireturn, 1) := dq_of dqX7_makeRoom_0 7 rfl
theorem dX7_makeRoom_13 : decode cX7_makeRoom 13 = .ok (.aload_n 0, 1) := dq_of dqX7_makeRoom_0 8 rfl
theorem dX7_makeRoom_14 : decode cX7_makeRoom 14 = .ok (.getfield 15, 3) := dq_of dqX7_makeRoom_0 9 rfl
theorem dX7_makeRoom_17 : decode cX7_makeRoom 17 = .ok (.iload_n 1, 1) := dq_of dqX7_makeRoom_0 10 rfl
theorem dX7_makeRoom_18 : decode cX7_makeRoom 18 = .ok (.iadd, 1) := dq_of dqX7_makeRoom_0 11 rfl
theorem dX7_makeRoom_19 : decode cX7_makeRoom 19 = .ok (.aload_n 0, 1) := dq_of dqX7_makeRoom_0 12 rfl
theorem dX7_makeRoom_20 : decode cX7_makeRoom 20 = .ok (.getfield 9, 3) := dq_of dqX7_makeRoom_0 13 rfl
theorem dX7_makeRoom_23 : decode cX7_makeRoom 23 = .ok (.arraylength, 1) := dq_of dqX7_makeRoom_0 14 rfl
theorem dX7_makeRoom_24 : decode cX7_makeRoom 24 = .ok (.if_icmp .le 21, 3) := dq_of dqX7_makeRoom_0 15 rfl
theorem dX7_makeRoom_27 : decode cX7_makeRoom 27 = .ok (.aload_n 0, 1) := dq_of dqX7_makeRoom_0 16 rfl
theorem dX7_makeRoom_28 : decode cX7_makeRoom 28 = .ok (.aload_n 0, 1) := dq_of dqX7_makeRoom_0 17 rfl
theorem dX7_makeRoom_29 : decode cX7_makeRoom 29 = .ok (.getfield 9, 3) := dq_of dqX7_makeRoom_0 18 rfl
theorem dX7_makeRoom_32 : decode cX7_makeRoom 32 = .ok (.aload_n 0, 1) := dq_of dqX7_makeRoom_0 19 rfl
theorem dX7_makeRoom_33 : decode cX7_makeRoom 33 = .ok (.getfield 9, 3) := dq_of dqX7_makeRoom_0 20 rfl
theorem dX7_makeRoom_36 : decode cX7_makeRoom 36 = .ok (.arraylength, 1) := dq_of dqX7_makeRoom_0 21 rfl
theorem dX7_makeRoom_37 : decode cX7_makeRoom 37 = .ok (.iconst 2, 1) := dq_of dqX7_makeRoom_0 22 rfl
theorem dX7_makeRoom_38 : decode cX7_makeRoom 38 = .ok (.imul, 1) := dq_of dqX7_makeRoom_0 23 rfl
theorem dX7_makeRoom_39 : decode cX7_makeRoom 39 = .ok (.invokestatic 33, 3) := dq_of dqX7_makeRoom_0 24 rfl
theorem dX7_makeRoom_42 : decode cX7_makeRoom 42 = .ok (.putfield 9, 3) := dq_of dqX7_makeRoom_0 25 rfl
theorem dX7_makeRoom_45 : decode cX7_makeRoom 45 = .ok (.aload_n 0, 1) := dq_of dqX7_makeRoom_0 26 rfl
theorem dX7_makeRoom_46 : decode cX7_makeRoom 46 = .ok (.getfield 15, 3) := dq_of dqX7_makeRoom_0 27 rfl
theorem dX7_makeRoom_49 : decode cX7_makeRoom 49 = .ok (.iload_n 1, 1) := dq_of dqX7_makeRoom_0 28 rfl
theorem dX7_makeRoom_50 : decode cX7_makeRoom 50 = .ok (.iadd, 1) := dq_of dqX7_makeRoom_0 29 rfl
theorem dX7_makeRoom_51 : decode cX7_makeRoom 51 = .ok (.aload_n 0, 1) := dq_of dqX7_makeRoom_0 30 rfl
theorem dX7_makeRoom_52 : decode cX7_makeRoom 52 = .ok (.getfield 9, 3) := dq_of dqX7_makeRoom_0 31 rfl
theorem dX7_makeRoom_55 : decode cX7_makeRoom 55 = .ok (.arraylength, 1) := dq_of dqX7_makeRoom_0 32 rfl
theorem dX7_makeRoom_56 : decode cX7_makeRoom 56 = .ok (.if_icmp .gt 7, 3) := dq_of dqX7_makeRoom_0 33 rfl
theorem dX7_makeRoom_59 : decode cX7_makeRoom 59 = .ok (.iconst 1, 1) := dq_of dqX7_makeRoom_0 34 rfl
theorem dX7_makeRoom_60 : decode cX7_makeRoom 60 = .ok (.goto 4, 3) := dq_of dqX7_makeRoom_0 35 rfl
theorem dX7_makeRoom_63 : decode cX7_makeRoom 63 = .ok (.iconst 0, 1) := dq_of dqX7_makeRoom_0 36 rfl
theorem dX7_makeRoom_64 : decode cX7_makeRoom 64 = .ok (.ireturn, 1) := dq_of dqX7_makeRoom_0 37 rfl
theorem dqX7_appendFour_0 : ([(0, .bipush 24, 2), (2, .istore_n 2, 1), (3, .iload_n 2, 1), (4, .ifCond .lt 44, 3), (7, .aload_n 0, 1), (8, .getfield 15, 3), (11, .aload_n 0, 1), (12, .getfield 9, 3), (15, .arraylength, 1), (16, .if_icmp .ge 32, 3), (19, .aload_n 0, 1), (20, .getfield 9, 3), (23, .aload_n 0, 1), (24, .getfield 15, 3), (27, .iload_n 1, 1), (28, .iload_n 2, 1), (29, .iushr, 1), (30, .i2b, 1), (31, .bastore, 1), (32, .aload_n 0, 1), (33, .dup, 1), (34, .getfield 15, 3), (37, .iconst 1, 1), (38, .iadd, 1), (39, .putfield 15, 3), (42, .iinc 2 (-8), 3), (45, .goto (-42), 3), (48, .return_, 1)] : List (Nat × Instr × Nat)).all (fun q => decide (decode cX7_appendFour q.1 = .ok (q.2.1, q.2.2))) = true := by decide +kernel
theorem dX7_appendFour_0 : decode cX7_appendFour 0 = .ok (.bipush 24, 2) := dq_of dqX7_appendFour_0 0 rfl
theorem dX7_appendFour_2 : decode cX7_appendFour 2 = .ok (.istore_n 2, 1) := dq_of dqX7_appendFour_0 1 rfl
theorem dX7_appendFour_3 : decode cX7_appendFour 3 = .ok (.iload_n 2, 1) := dq_of dqX7_appendFour_0 2 rfl
theorem dX7_appendFour_4 : decode cX7_appendFour 4 = .ok (.ifCond .lt 44, 3) := dq_of dqX7_appendFour_0 3 rfl
theorem dX7_appendFour_7 : decode cX7_appendFour 7 = .ok (.aload_n 0, 1) := dq_of dqX7_appendFour_0 4 rfl
theorem dX7_appendFour_8 : decode cX7_appendFour 8 = .ok (.getfield 15, 3) := dq_of dqX7_appendFour_0 5 rfl
theorem dX7_appendFour_11 : decode cX7_appendFour 11 = .ok (.aload_n 0, 1) := dq_of dqX7_appendFour_0 6 rfl
theorem dX7_appendFour_12 : decode cX7_appendFour 12 = .ok (.getfield 9, 3) := dq_of dqX7_appendFour_0 7 rfl
theorem dX7_appendFour_15 : decode cX7_appendFour 15 = .ok (.arraylength, 1) := dq_of dqX7_appendFour_0 8 rfl
theorem dX7_appendFour_16 : decode cX7_appendFour 16 = .ok (.if_icmp .ge 32, 3) := dq_of dqX7_appendFour_0 9 rfl
theorem dX7_appendFour_19 : decode cX7_appendFour 19 = .ok (.aload_n 0, 1) := dq_of dqX7_appendFour_0 10 rfl
theorem dX7_appendFour_20 : decode cX7_appendFour 20 = .ok (.getfield 9, 3) := dq_of dqX7_appendFour_0 11 rfl
theorem dX7_appendFour_23 : decode cX7_appendFour 23 = .ok (.aload_n 0, 1) := dq_of dqX7_appendFour_0 12 rfl
theorem dX7_appendFour_24 : decode cX7_appendFour 24 = .ok (.getfield 15, 3) := dq_of dqX7_appendFour_0 13 rfl
theorem dX7_appendFour_27 : decode cX7_appendFour 27 = .ok (.iload_n 1, 1) := dq_of dqX7_appendFour_0 14 rfl
theorem dX7_appendFour_28 : decode cX7_appendFour 28 = .ok (.iload_n 2, 1) := dq_of dqX7_appendFour_0 15 rfl
theorem dX7_appendFour_29 : decode cX7_appendFour 29 = .ok (.iushr, 1) := dq_of dqX7_appendFour_0 16 rfl
theorem dX7_appendFour_30 : decode cX7_appendFour 30 = .ok (.i2b, 1) := dq_of dqX7_appendFour_0 17 rfl
theorem dX7_appendFour_31 : decode cX7_appendFour 31 = .ok (.bastore, 1) := dq_of dqX7_appendFour_0 18 rfl
theorem dX7_appendFour_32 : decode cX7_appendFour 32 = .ok (.aload_n 0, 1) := dq_of dqX7_appendFour_0 19 rfl
theorem dX7_appendFour_33 : decode cX7_appendFour 33 = .ok (.dup, 1) := dq_of dqX7_appendFour_0 20 rfl
theorem dX7_appendFour_34 : decode cX7_appendFour 34 = .ok (.getfield 15, 3) := dq_of dqX7_appendFour_0 21 rfl
theorem dX7_appendFour_37 : decode cX7_appendFour 37 = .ok (.iconst 1, 1) := dq_of dqX7_appendFour_0 22 rfl
theorem dX7_appendFour_38 : decode cX7_appendFour 38 = .ok (.iadd, 1) := dq_of dqX7_appendFour_0 23 rfl
theorem dX7_appendFour_39 : decode cX7_appendFour 39 = .ok (.putfield 15, 3) := dq_of dqX7_appendFour_0 24 rfl
theorem dX7_appendFour_42 : decode cX7_appendFour 42 = .ok (.iinc 2 (-8), 3) := dq_of dqX7_appendFour_0 25 rfl
theorem dX7_appendFour_45 : decode cX7_appendFour 45 = .ok (.goto (-42), 3) := dq_of dqX7_appendFour_0 26 rfl
theorem dX7_appendFour_48 : decode cX7_appendFour 48 = .ok (.return_, 1) := dq_of dqX7_appendFour_0 27 rfl
theorem dqX7_cutTo_0 : ([(0, .iload_n 1, 1), (1, .ifCond .lt 11, 3), (4, .iload_n 1, 1), (5, .aload_n 0, 1), (6, .getfield 15, 3), (9, .if_icmp .le 5, 3), (12, .iconst 0, 1), (13, .ireturn, 1), (14, .aload_n 0, 1), (15, .iload_n 1, 1), (16, .putfield 15, 3), (19, .iconst 1, 1), (20, .ireturn, 1)] : List (Nat × Instr × Nat)).all (fun q => decide (decode cX7_cutTo q.1 = .ok (q.2.1, q.2.2))) = true := by decide +kernel
theorem dX7_cutTo_0 : decode cX7_cutTo 0 = .ok (.iload_n 1, 1) := dq_of dqX7_cutTo_0 0 rfl
theorem dX7_cutTo_1 : decode cX7_cutTo 1 = .ok (.ifCond .lt 11, 3) := dq_of dqX7_cutTo_0 1 rfl
theorem dX7_cutTo_4 : decode cX7_cutTo 4 = .ok (.iload_n 1, 1) := dq_of dqX7_cutTo_0 2 rfl
theorem dX7_cutTo_5 : decode cX7_cutTo 5 = .ok (.aload_n 0, 1) := dq_of dqX7_cutTo_0 3 rfl
theorem dX7_cutTo_6 : decode cX7_cutTo 6 = .ok (.getfield 15, 3) := dq_of dqX7_cutTo_0 4 rfl
theorem dX7_cutTo_9 : decode cX7_cutTo 9 = .ok (.if_icmp .le 5, 3) := dq_of dqX7_cutTo_0 5 rfl
theorem dX7_cutTo_12 : decode cX7_cutTo 12 = .ok (.iconst 0, 1) := dq_of dqX7_cutTo_0 6 rfl
theorem dX7_cutTo_13 : decode cX7_cutTo 13 = .ok (.ireturn, 1) := dq_of dqX7_cutTo_0 7 rfl
theorem dX7_cutTo_14 : decode cX7_cutTo 14 = .ok (.aload_n 0, 1) := dq_of dqX7_cutTo_0 8 rfl
theorem dX7_cutTo_15 : decode cX7_cutTo 15 = .ok (.iload_n 1, 1) := dq_of dqX7_cutTo_0 9 rfl
theorem dX7_cutTo_16 : decode cX7_cutTo 16 = .ok (.putfield 15, 3) := dq_of dqX7_cutTo_0 10 rfl
theorem dX7_cutTo_19 : decode cX7_cutTo 19 = .ok (.iconst 1, 1) := dq_of dqX7_cutTo_0 11 rfl
theorem dX7_cutTo_20 : decode cX7_cutTo 20 = .ok (.ireturn, 1) := dq_of dqX7_cutTo_0 12 rfl
theorem dqX7_rewind_0 : ([(0, .aload_n 0, 1), (1, .iconst 0, 1), (2, .putfield 19, 3), (5, .aload_n 0, 1), (6, .iconst 1, 1), (7, .putfield 22, 3), (10, .aload_n 0, 1), (11, .iconst 0, 1), (12, .putfield 25, 3), (15, .aload_n 0, 1), (16, .iconst 0, 1), (17, .putfield 28, 3), (20, .return_, 1)] : List (Nat × Instr × Nat)).all (fun q => decide (decode cX7_rewind q.1 = .ok (q.2.1, q.2.2))) = true := by decide +kernel
theorem dX7_rewind_0 : decode cX7_rewind 0 = .ok (.aload_n 0, 1) := dq_of dqX7_rewind_0 0 rfl
theorem dX7_rewind_1 : decode cX7_rewind 1 = .ok (.iconst 0, 1) := dq_of dqX7_rewind_0 1 rfl
theorem dX7_rewind_2 : decode cX7_rewind 2 = .ok (.putfield 19, 3) := dq_of dqX7_rewind_0 2 rfl
theorem dX7_rewind_5 : decode cX7_rewind 5 = .ok (.aload_n 0, 1) := dq_of dqX7_rewind_0 3 rfl
theorem dX7_rewind_6 : decode cX7_rewind 6 = .ok (.iconst 1, 1) := dq_of dqX7_rewind_0 4 rfl
theorem dX7_rewind_7 : decode cX7_rewind 7 = .ok (.putfield 22, 3) := dq_of dqX7_rewind_0 5 rfl
theorem dX7_rewind_10 : decode cX7_rewind 10 = .ok (.aload_n 0, 1) := dq_of dqX7_rewind_0 6 rfl
theorem dX7_rewind_11 : decode cX7_rewind 11 = .ok (.iconst 0, 1) := dq_of dqX7_rewind_0 7 rfl
theorem dX7_rewind_12 : decode cX7_rewind 12 = .ok (.putfield 25, 3) := dq_of dqX7_rewind_0 8 rfl
theorem dX7_rewind_15 : decode cX7_rewind 15 = .ok (.aload_n 0, 1) := dq_of dqX7_rewind_0 9 rfl
theorem dX7_rewind_16 : decode cX7_rewind 16 = .ok (.iconst 0, 1) := dq_of dqX7_rewind_0 10 rfl
theorem dX7_rewind_17 : decode cX7_rewind 17 = .ok (.putfield 28, 3) := dq_of dqX7_rewind_0 11 rfl
theorem dX7_rewind_20 : decode cX7_rewind 20 = .ok (.return_, 1) := dq_of dqX7_rewind_0 12 rfl
theorem dqX7_here_0 : ([(0, .aload_n 0, 1), (1, .getfield 19, 3), (4, .ifCond .lt 30, 3), (7, .aload_n 0, 1), (8, .getfield 19, 3), (11, .aload_n 0, 1), (12, .getfield 15, 3), (15, .if_icmp .ge 19, 3), (18, .aload_n 0, 1), (19, .getfield 9, 3), (22, .aload_n 0, 1), (23, .getfield 19, 3), (26, .baload, 1), (27, .sipush 255, 3), (30, .iand, 1), (31, .goto 4, 3), (34, .iconst (-1), 1), (35, .ireturn, 1)] : List (Nat × Instr × Nat)).all (fun q => decide (decode cX7_here q.1 = .ok (q.2.1, q.2.2))) = true := by decide +kernel
theorem dX7_here_0 : decode cX7_here 0 = .ok (.aload_n 0, 1) := dq_of dqX7_here_0 0 rfl
theorem dX7_here_1 : decode cX7_here 1 = .ok (.getfield 19, 3) := dq_of dqX7_here_0 1 rfl
theorem dX7_here_4 : decode cX7_here 4 = .ok (.ifCond .lt 30, 3) := dq_of dqX7_here_0 2 rfl
theorem dX7_here_7 : decode cX7_here 7 = .ok (.aload_n 0, 1) := dq_of dqX7_here_0 3 rfl
theorem dX7_here_8 : decode cX7_here 8 = .ok (.getfield 19, 3) := dq_of dqX7_here_0 4 rfl
theorem dX7_here_11 : decode cX7_here 11 = .ok (.aload_n 0, 1) := dq_of dqX7_here_0 5 rfl
theorem dX7_here_12 : decode cX7_here 12 = .ok (.getfield 15, 3) := dq_of dqX7_here_0 6 rfl
theorem dX7_here_15 : decode cX7_here 15 = .ok (.if_icmp .ge 19, 3) := dq_of dqX7_here_0 7 rfl
theorem dX7_here_18 : decode cX7_here 18 = .ok (.aload_n 0, 1) := dq_of dqX7_here_0 8 rfl
theorem dX7_here_19 : decode cX7_here 19 = .ok (.getfield 9, 3) := dq_of dqX7_here_0 9 rfl
theorem dX7_here_22 : decode cX7_here 22 = .ok (.aload_n 0, 1) := dq_of dqX7_here_0 10 rfl
theorem dX7_here_23 : decode cX7_here 23 = .ok (.getfield 19, 3) := dq_of dqX7_here_0 11 rfl
theorem dX7_here_26 : decode cX7_here 26 = .ok (.baload, 1) := dq_of dqX7_here_0 12 rfl
theorem dX7_here_27 : decode cX7_here 27 = .ok (.sipush 255, 3) := dq_of dqX7_here_0 13 rfl
theorem dX7_here_30 : decode cX7_here 30 = .ok (.iand, 1) := dq_of dqX7_here_0 14 rfl
theorem dX7_here_31 : decode cX7_here 31 = .ok (.goto 4, 3) := dq_of dqX7_here_0 15 rfl
theorem dX7_here_34 : decode cX7_here 34 = .ok (.iconst (-1), 1) := dq_of dqX7_here_0 16 rfl
theorem dX7_here_35 : decode cX7_here 35 = .ok (.ireturn, 1) := dq_of dqX7_here_0 17 rfl
theorem dqX7_next_0 : ([(0, .aload_n 0, 1), (1, .getfield 19, 3), (4, .ifCond .lt 34, 3), (7, .aload_n 0, 1), (8, .getfield 19, 3), (11, .aload_n 0, 1), (12, .getfield 15, 3), (15, .iconst 1, 1), (16, .isub, 1), (17, .if_icmp .ge 21, 3), (20, .aload_n 0, 1), (21, .getfield 9, 3), (24, .aload_n 0, 1), (25, .getfield 19, 3), (28, .iconst 1, 1), (29, .iadd, 1), (30, .baload, 1), (31, .sipush 255, 3), (34, .iand, 1), (35, .goto 4, 3), (38, .iconst (-1), 1), (39, .ireturn, 1)] : List (Nat × Instr × Nat)).all (fun q => decide (decode cX7_next q.1 = .ok (q.2.1, q.2.2))) = true := by decide +kernel
theorem dX7_next_0 : decode cX7_next 0 = .ok (.aload_n 0, 1) := dq_of dqX7_next_0 0 rfl
theorem dX7_next_1 : decode cX7_next 1 = .ok (.getfield 19, 3) := dq_of dqX7_next_0 1 rfl
theorem dX7_next_4 : decode cX7_next 4 = .ok (.ifCond .lt 34, 3) := dq_of dqX7_next_0 2 rfl
theorem dX7_next_7 : decode cX7_next 7 = .ok (.aload_n 0, 1) := dq_of dqX7_next_0 3 rfl
theorem dX7_next_8 : decode cX7_next 8 = .ok (.getfield 19, 3) := dq_of dqX7_next_0 4 rfl
theorem dX7_next_11 : decode cX7_next 11 = .ok (.aload_n 0, 1) := dq_of dqX7_next_0 5 rfl
theorem dX7_next_12 : decode cX7_next 12 = .ok (.getfield 15, 3) := dq_of dqX7_next_0 6 rfl
theorem dX7_next_15 : decode cX7_next 15 = .ok (.iconst 1, 1) := dq_of dqX7_next_0 7 rfl
theorem dX7_next_16 : decode cX7_next 16 = .ok (.isub, 1) := dq_of dqX7_next_0 8 rfl
theorem dX7_next_17 : decode cX7_next 17 = .ok (.if_icmp .ge 21, 3) := dq_of dqX7_next_0 9 rfl
theorem dX7_next_20 : decode cX7_next 20 = .ok (.aload_n 0, 1) := dq_of dqX7_next_0 10 rfl
theorem dX7_next_21 : decode cX7_next 21 = .ok (.getfield 9, 3) := dq_of dqX7_next_0 11 rfl
theorem dX7_next_24 : decode cX7_next 24 = .ok (.aload_n 0, 1) := dq_of dqX7_next_0 12 rfl
theorem dX7_next_25 : decode cX7_next 25 = .ok (.getfield 19, 3) := dq_of dqX7_next_0 13 rfl
theorem dX7_next_28 : decode cX7_next 28 = .ok (.iconst 1, 1) := dq_of dqX7_next_0 14 rfl
theorem dX7_next_29 : decode cX7_next 29 = .ok (.iadd, 1) := dq_of dqX7_next_0 15 rfl
theorem dX7_next_30 : decode cX7_next 30 = .ok (.baload, 1) := dq_of dqX7_next_0 16 rfl
theorem dX7_next_31 : decode cX7_next 31 = .ok (.sipush 255, 3) := dq_of dqX7_next_0 17 rfl
theorem dX7_next_34 : decode cX7_next 34 = .ok (.iand, 1) := dq_of dqX7_next_0 18 rfl
theorem dX7_next_35 : decode cX7_next 35 = .ok (.goto 4, 3) := dq_of dqX7_next_0 19 rfl
theorem dX7_next_38 : decode cX7_next 38 = .ok (.iconst (-1), 1) := dq_of dqX7_next_0 20 rfl
theorem dX7_next_39 : decode cX7_next 39 = .ok (.ireturn, 1) := dq_of dqX7_next_0 21 rfl
theorem dqX7_step_0 : ([(0, .aload_n 0, 1), (1, .getfield 19, 3), (4, .ifCond .lt 48, 3), (7, .aload_n 0, 1), (8, .getfield 19, 3), (11, .aload_n 0, 1), (12, .getfield 15, 3), (15, .if_icmp .ge 37, 3), (18, .aload_n 0, 1), (19, .getfield 9, 3), (22, .aload_n 0, 1), (23, .getfield 19, 3), (26, .baload, 1), (27, .bipush 10, 2), (29, .if_icmp .ne 23, 3), (32, .aload_n 0, 1), (33, .dup, 1), (34, .getfield 22, 3), (37, .iconst 1, 1), (38, .iadd, 1), (39, .putfield 22, 3), (42, .aload_n 0, 1), (43, .aload_n 0, 1), (44, .getfield 19, 3), (47, .iconst 1, 1), (48, .iadd, 1), (49, .putfield 25, 3), (52, .aload_n 0, 1), (53, .dup, 1), (54, .getfield 19, 3), (57, .iconst 1, 1), (58, .iadd, 1), (59, .putfield 19, 3), (62, .return_, 1)] : List (Nat × Instr × Nat)).all (fun q => decide (decode cX7_step q.1 = .ok (q.2.1, q.2.2))) = true := by decide +kernel
theorem dX7_step_0 : decode cX7_step 0 = .ok (.aload_n 0, 1) := dq_of dqX7_step_0 0 rfl
theorem dX7_step_1 : decode cX7_step 1 = .ok (.getfield 19, 3) := dq_of dqX7_step_0 1 rfl
theorem dX7_step_4 : decode cX7_step 4 = .ok (.ifCond .lt 48, 3) := dq_of dqX7_step_0 2 rfl
theorem dX7_step_7 : decode cX7_step 7 = .ok (.aload_n 0, 1) := dq_of dqX7_step_0 3 rfl
theorem dX7_step_8 : decode cX7_step 8 = .ok (.getfield 19, 3) := dq_of dqX7_step_0 4 rfl
theorem dX7_step_11 : decode cX7_step 11 = .ok (.aload_n 0, 1) := dq_of dqX7_step_0 5 rfl
theorem dX7_step_12 : decode cX7_step 12 = .ok (.getfield 15, 3) := dq_of dqX7_step_0 6 rfl
theorem dX7_step_15 : decode cX7_step 15 = .ok (.if_icmp .ge 37, 3) := dq_of dqX7_step_0 7 rfl
theorem dX7_step_18 : decode cX7_step 18 = .ok (.aload_n 0, 1) := dq_of dqX7_step_0 8 rfl
theorem dX7_step_19 : decode cX7_step 19 = .ok (.getfield 9, 3) := dq_of dqX7_step_0 9 rfl
theorem dX7_step_22 : decode cX7_step 22 = .ok (.aload_n 0, 1) := dq_of dqX7_step_0 10 rfl
theorem dX7_step_23 : decode cX7_step 23 = .ok (.getfield 19, 3) := dq_of dqX7_step_0 11 rfl
theorem dX7_step_26 : decode cX7_step 26 = .ok (.baload, 1) := dq_of dqX7_step_0 12 rfl
theorem dX7_step_27 : decode cX7_step 27 = .ok (.bipush 10, 2) := dq_of dqX7_step_0 13 rfl
theorem dX7_step_29 : decode cX7_step 29 = .ok (.if_icmp .ne 23, 3) := dq_of dqX7_step_0 14 rfl
theorem dX7_step_32 : decode cX7_step 32 = .ok (.aload_n 0, 1) := dq_of dqX7_step_0 15 rfl
theorem dX7_step_33 : decode cX7_step 33 = .ok (.dup, 1) := dq_of dqX7_step_0 16 rfl
theorem dX7_step_34 : decode cX7_step 34 = .ok (.getfield 22, 3) := dq_of dqX7_step_0 17 rfl
theorem dX7_step_37 : decode cX7_step 37 = .ok (.iconst 1, 1) := dq_of dqX7_step_0 18 rfl
theorem dX7_step_38 : decode cX7_step 38 = .ok (.iadd, 1) := dq_of dqX7_step_0 19 rfl
theorem dX7_step_39 : decode cX7_step 39 = .ok (.putfield 22, 3) := dq_of dqX7_step_0 20 rfl
theorem dX7_step_42 : decode cX7_step 42 = .ok (.aload_n 0, 1) := dq_of dqX7_step_0 21 rfl
theorem dX7_step_43 : decode cX7_step 43 = .ok (.aload_n 0, 1) := dq_of dqX7_step_0 22 rfl
theorem dX7_step_44 : decode cX7_step 44 = .ok (.getfield 19, 3) := dq_of dqX7_step_0 23 rfl
theorem dX7_step_47 : decode cX7_step 47 = .ok (.iconst 1, 1) := dq_of dqX7_step_0 24 rfl
theorem dX7_step_48 : decode cX7_step 48 = .ok (.iadd, 1) := dq_of dqX7_step_0 25 rfl
theorem dX7_step_49 : decode cX7_step 49 = .ok (.putfield 25, 3) := dq_of dqX7_step_0 26 rfl
theorem dX7_step_52 : decode cX7_step 52 = .ok (.aload_n 0, 1) := dq_of dqX7_step_0 27 rfl
theorem dX7_step_53 : decode cX7_step 53 = .ok (.dup, 1) := dq_of dqX7_step_0 28 rfl
theorem dX7_step_54 : decode cX7_step 54 = .ok (.getfield 19, 3) := dq_of dqX7_step_0 29 rfl
theorem dX7_step_57 : decode cX7_step 57 = .ok (.iconst 1, 1) := dq_of dqX7_step_0 30 rfl
theorem dX7_step_58 : decode cX7_step 58 = .ok (.iadd, 1) := dq_of dqX7_step_0 31 rfl
theorem dX7_step_59 : decode cX7_step 59 = .ok (.putfield 19, 3) := dq_of dqX7_step_0 32 rfl
theorem dX7_step_62 : decode cX7_step 62 = .ok (.return_, 1) := dq_of dqX7_step_0 33 rfl
theorem dqX7_refuse_0 : ([(0, .aload_n 0, 1), (1, .iconst 1, 1), (2, .putfield 28, 3), (5, .iconst (-1), 1), (6, .ireturn, 1)] : List (Nat × Instr × Nat)).all (fun q => decide (decode cX7_refuse q.1 = .ok (q.2.1, q.2.2))) = true := by decide +kernel
theorem dX7_refuse_0 : decode cX7_refuse 0 = .ok (.aload_n 0, 1) := dq_of dqX7_refuse_0 0 rfl
theorem dX7_refuse_1 : decode cX7_refuse 1 = .ok (.iconst 1, 1) := dq_of dqX7_refuse_0 1 rfl
theorem dX7_refuse_2 : decode cX7_refuse 2 = .ok (.putfield 28, 3) := dq_of dqX7_refuse_0 2 rfl
theorem dX7_refuse_5 : decode cX7_refuse 5 = .ok (.iconst (-1), 1) := dq_of dqX7_refuse_0 3 rfl
theorem dX7_refuse_6 : decode cX7_refuse 6 = .ok (.ireturn, 1) := dq_of dqX7_refuse_0 4 rfl
theorem dqX7_refuseAt_0 : ([(0, .aload_n 0, 1), (1, .iload_n 1, 1), (2, .putfield 19, 3), (5, .aload_n 0, 1), (6, .iconst 1, 1), (7, .putfield 28, 3), (10, .return_, 1)] : List (Nat × Instr × Nat)).all (fun q => decide (decode cX7_refuseAt q.1 = .ok (q.2.1, q.2.2))) = true := by decide +kernel
theorem dX7_refuseAt_0 : decode cX7_refuseAt 0 = .ok (.aload_n 0, 1) := dq_of dqX7_refuseAt_0 0 rfl
theorem dX7_refuseAt_1 : decode cX7_refuseAt 1 = .ok (.iload_n 1, 1) := dq_of dqX7_refuseAt_0 1 rfl
theorem dX7_refuseAt_2 : decode cX7_refuseAt 2 = .ok (.putfield 19, 3) := dq_of dqX7_refuseAt_0 2 rfl
theorem dX7_refuseAt_5 : decode cX7_refuseAt 5 = .ok (.aload_n 0, 1) := dq_of dqX7_refuseAt_0 3 rfl
theorem dX7_refuseAt_6 : decode cX7_refuseAt 6 = .ok (.iconst 1, 1) := dq_of dqX7_refuseAt_0 4 rfl
theorem dX7_refuseAt_7 : decode cX7_refuseAt 7 = .ok (.putfield 28, 3) := dq_of dqX7_refuseAt_0 5 rfl
theorem dX7_refuseAt_10 : decode cX7_refuseAt 10 = .ok (.return_, 1) := dq_of dqX7_refuseAt_0 6 rfl
theorem dqX7_character_0 : ([(0, .aload_n 0, 1), (1, .invokevirtual 39, 3), (4, .istore_n 1, 1), (5, .iload_n 1, 1), (6, .sipush 128, 3), (9, .if_icmp .ge 18, 3), (12, .iload_n 1, 1), (13, .ifCond .gt 8, 3), (16, .aload_n 0, 1), (17, .invokevirtual 43, 3), (20, .ireturn, 1), (21, .aload_n 0, 1), (22, .invokevirtual 46, 3), (25, .iload_n 1, 1), (26, .ireturn, 1), (27, .iload_n 1, 1), (28, .sipush 194, 3), (31, .if_icmp .lt 10, 3), (34, .iload_n 1, 1), (35, .sipush 244, 3), (38, .if_icmp .le 8, 3), (41, .aload_n 0, 1), (42, .invokevirtual 43, 3), (45, .ireturn, 1), (46, .aload_n 0, 1), (47, .invokevirtual 46, 3), (50, .iload_n 1, 1), (51, .sipush 240, 3), (54, .if_icmp .lt 7, 3), (57, .iconst 3, 1), (58, .goto 15, 3), (61, .iload_n 1, 1), (62, .sipush 224, 3), (65, .if_icmp .lt 7, 3), (68, .iconst 2, 1), (69, .goto 4, 3), (72, .iconst 1, 1), (73, .istore_n 2, 1), (74, .iload_n 2, 1), (75, .iconst 3, 1)] : List (Nat × Instr × Nat)).all (fun q => decide (decode cX7_character q.1 = .ok (q.2.1, q.2.2))) = true := by decide +kernel
theorem dX7_character_0 : decode cX7_character 0 = .ok (.aload_n 0, 1) := dq_of dqX7_character_0 0 rfl
theorem dX7_character_1 : decode cX7_character 1 = .ok (.invokevirtual 39, 3) := dq_of dqX7_character_0 1 rfl
theorem dX7_character_4 : decode cX7_character 4 = .ok (.istore_n 1, 1) := dq_of dqX7_character_0 2 rfl
theorem dX7_character_5 : decode cX7_character 5 = .ok (.iload_n 1, 1) := dq_of dqX7_character_0 3 rfl
theorem dX7_character_6 : decode cX7_character 6 = .ok (.sipush 128, 3) := dq_of dqX7_character_0 4 rfl
theorem dX7_character_9 : decode cX7_character 9 = .ok (.if_icmp .ge 18, 3) := dq_of dqX7_character_0 5 rfl
theorem dX7_character_12 : decode cX7_character 12 = .ok (.iload_n 1, 1) := dq_of dqX7_character_0 6 rfl
theorem dX7_character_13 : decode cX7_character 13 = .ok (.ifCond .gt 8, 3) := dq_of dqX7_character_0 7 rfl
theorem dX7_character_16 : decode cX7_character 16 = .ok (.aload_n 0, 1) := dq_of dqX7_character_0 8 rfl
theorem dX7_character_17 : decode cX7_character 17 = .ok (.invokevirtual 43, 3) := dq_of dqX7_character_0 9 rfl
theorem dX7_character_20 : decode cX7_character 20 = .ok (.ireturn, 1) := dq_of dqX7_character_0 10 rfl
theorem dX7_character_21 : decode cX7_character 21 = .ok (.aload_n 0, 1) := dq_of dqX7_character_0 11 rfl
theorem dX7_character_22 : decode cX7_character 22 = .ok (.invokevirtual 46, 3) := dq_of dqX7_character_0 12 rfl
theorem dX7_character_25 : decode cX7_character 25 = .ok (.iload_n 1, 1) := dq_of dqX7_character_0 13 rfl
theorem dX7_character_26 : decode cX7_character 26 = .ok (.ireturn, 1) := dq_of dqX7_character_0 14 rfl
theorem dX7_character_27 : decode cX7_character 27 = .ok (.iload_n 1, 1) := dq_of dqX7_character_0 15 rfl
theorem dX7_character_28 : decode cX7_character 28 = .ok (.sipush 194, 3) := dq_of dqX7_character_0 16 rfl
theorem dX7_character_31 : decode cX7_character 31 = .ok (.if_icmp .lt 10, 3) := dq_of dqX7_character_0 17 rfl
theorem dX7_character_34 : decode cX7_character 34 = .ok (.iload_n 1, 1) := dq_of dqX7_character_0 18 rfl
theorem dX7_character_35 : decode cX7_character 35 = .ok (.sipush 244, 3) := dq_of dqX7_character_0 19 rfl
theorem dX7_character_38 : decode cX7_character 38 = .ok (.if_icmp .le 8, 3) := dq_of dqX7_character_0 20 rfl
theorem dX7_character_41 : decode cX7_character 41 = .ok (.aload_n 0, 1) := dq_of dqX7_character_0 21 rfl
theorem dX7_character_42 : decode cX7_character 42 = .ok (.invokevirtual 43, 3) := dq_of dqX7_character_0 22 rfl
theorem dX7_character_45 : decode cX7_character 45 = .ok (.ireturn, 1) := dq_of dqX7_character_0 23 rfl
theorem dX7_character_46 : decode cX7_character 46 = .ok (.aload_n 0, 1) := dq_of dqX7_character_0 24 rfl
theorem dX7_character_47 : decode cX7_character 47 = .ok (.invokevirtual 46, 3) := dq_of dqX7_character_0 25 rfl
theorem dX7_character_50 : decode cX7_character 50 = .ok (.iload_n 1, 1) := dq_of dqX7_character_0 26 rfl
theorem dX7_character_51 : decode cX7_character 51 = .ok (.sipush 240, 3) := dq_of dqX7_character_0 27 rfl
theorem dX7_character_54 : decode cX7_character 54 = .ok (.if_icmp .lt 7, 3) := dq_of dqX7_character_0 28 rfl
theorem dX7_character_57 : decode cX7_character 57 = .ok (.iconst 3, 1) := dq_of dqX7_character_0 29 rfl
theorem dX7_character_58 : decode cX7_character 58 = .ok (.goto 15, 3) := dq_of dqX7_character_0 30 rfl
theorem dX7_character_61 : decode cX7_character 61 = .ok (.iload_n 1, 1) := dq_of dqX7_character_0 31 rfl
theorem dX7_character_62 : decode cX7_character 62 = .ok (.sipush 224, 3) := dq_of dqX7_character_0 32 rfl
theorem dX7_character_65 : decode cX7_character 65 = .ok (.if_icmp .lt 7, 3) := dq_of dqX7_character_0 33 rfl
theorem dX7_character_68 : decode cX7_character 68 = .ok (.iconst 2, 1) := dq_of dqX7_character_0 34 rfl
theorem dX7_character_69 : decode cX7_character 69 = .ok (.goto 4, 3) := dq_of dqX7_character_0 35 rfl
theorem dX7_character_72 : decode cX7_character 72 = .ok (.iconst 1, 1) := dq_of dqX7_character_0 36 rfl
theorem dX7_character_73 : decode cX7_character 73 = .ok (.istore_n 2, 1) := dq_of dqX7_character_0 37 rfl
theorem dX7_character_74 : decode cX7_character 74 = .ok (.iload_n 2, 1) := dq_of dqX7_character_0 38 rfl
theorem dX7_character_75 : decode cX7_character 75 = .ok (.iconst 3, 1) := dq_of dqX7_character_0 39 rfl
theorem dqX7_character_76 : ([(76, .if_icmp .ne 8, 3), (79, .ldc 32, 2), (81, .goto 17, 3), (84, .iload_n 2, 1), (85, .iconst 2, 1), (86, .if_icmp .ne 9, 3), (89, .sipush 2048, 3), (92, .goto 6, 3), (95, .sipush 128, 3), (98, .istore_n 3, 1), (99, .iload_n 1, 1), (100, .bipush 63, 2), (102, .iload_n 2, 1), (103, .ishr, 1), (104, .iand, 1), (105, .istore 4, 2), (107, .iload_n 2, 1), (108, .ifCond .le 93, 3), (111, .aload_n 0, 1), (112, .invokevirtual 39, 3), (115, .istore 5, 2), (117, .iload 4, 2), (119, .bipush 6, 2), (121, .ishl, 1), (122, .iload 5, 2), (124, .bipush 63, 2), (126, .iand, 1), (127, .ior, 1), (128, .istore 4, 2), (130, .iload 4, 2), (132, .bipush 6, 2), (134, .iload_n 2, 1), (135, .iconst 1, 1), (136, .isub, 1), (137, .imul, 1), (138, .ishl, 1), (139, .istore 6, 2), (141, .iload 6, 2), (143, .iconst 1, 1), (144, .bipush 6, 2)] : List (Nat × Instr × Nat)).all (fun q => decide (decode cX7_character q.1 = .ok (q.2.1, q.2.2))) = true := by decide +kernel
theorem dX7_character_76 : decode cX7_character 76 = .ok (.if_icmp .ne 8, 3) := dq_of dqX7_character_76 0 rfl
theorem dX7_character_79 : decode cX7_character 79 = .ok (.ldc 32, 2) := dq_of dqX7_character_76 1 rfl
theorem dX7_character_81 : decode cX7_character 81 = .ok (.goto 17, 3) := dq_of dqX7_character_76 2 rfl
theorem dX7_character_84 : decode cX7_character 84 = .ok (.iload_n 2, 1) := dq_of dqX7_character_76 3 rfl
theorem dX7_character_85 : decode cX7_character 85 = .ok (.iconst 2, 1) := dq_of dqX7_character_76 4 rfl
theorem dX7_character_86 : decode cX7_character 86 = .ok (.if_icmp .ne 9, 3) := dq_of dqX7_character_76 5 rfl
theorem dX7_character_89 : decode cX7_character 89 = .ok (.sipush 2048, 3) := dq_of dqX7_character_76 6 rfl
theorem dX7_character_92 : decode cX7_character 92 = .ok (.goto 6, 3) := dq_of dqX7_character_76 7 rfl
theorem dX7_character_95 : decode cX7_character 95 = .ok (.sipush 128, 3) := dq_of dqX7_character_76 8 rfl
theorem dX7_character_98 : decode cX7_character 98 = .ok (.istore_n 3, 1) := dq_of dqX7_character_76 9 rfl
theorem dX7_character_99 : decode cX7_character 99 = .ok (.iload_n 1, 1) := dq_of dqX7_character_76 10 rfl
theorem dX7_character_100 : decode cX7_character 100 = .ok (.bipush 63, 2) := dq_of dqX7_character_76 11 rfl
theorem dX7_character_102 : decode cX7_character 102 = .ok (.iload_n 2, 1) := dq_of dqX7_character_76 12 rfl
theorem dX7_character_103 : decode cX7_character 103 = .ok (.ishr, 1) := dq_of dqX7_character_76 13 rfl
theorem dX7_character_104 : decode cX7_character 104 = .ok (.iand, 1) := dq_of dqX7_character_76 14 rfl
theorem dX7_character_105 : decode cX7_character 105 = .ok (.istore 4, 2) := dq_of dqX7_character_76 15 rfl
theorem dX7_character_107 : decode cX7_character 107 = .ok (.iload_n 2, 1) := dq_of dqX7_character_76 16 rfl
theorem dX7_character_108 : decode cX7_character 108 = .ok (.ifCond .le 93, 3) := dq_of dqX7_character_76 17 rfl
theorem dX7_character_111 : decode cX7_character 111 = .ok (.aload_n 0, 1) := dq_of dqX7_character_76 18 rfl
theorem dX7_character_112 : decode cX7_character 112 = .ok (.invokevirtual 39, 3) := dq_of dqX7_character_76 19 rfl
theorem dX7_character_115 : decode cX7_character 115 = .ok (.istore 5, 2) := dq_of dqX7_character_76 20 rfl
theorem dX7_character_117 : decode cX7_character 117 = .ok (.iload 4, 2) := dq_of dqX7_character_76 21 rfl
theorem dX7_character_119 : decode cX7_character 119 = .ok (.bipush 6, 2) := dq_of dqX7_character_76 22 rfl
theorem dX7_character_121 : decode cX7_character 121 = .ok (.ishl, 1) := dq_of dqX7_character_76 23 rfl
theorem dX7_character_122 : decode cX7_character 122 = .ok (.iload 5, 2) := dq_of dqX7_character_76 24 rfl
theorem dX7_character_124 : decode cX7_character 124 = .ok (.bipush 63, 2) := dq_of dqX7_character_76 25 rfl
theorem dX7_character_126 : decode cX7_character 126 = .ok (.iand, 1) := dq_of dqX7_character_76 26 rfl
theorem dX7_character_127 : decode cX7_character 127 = .ok (.ior, 1) := dq_of dqX7_character_76 27 rfl
theorem dX7_character_128 : decode cX7_character 128 = .ok (.istore 4, 2) := dq_of dqX7_character_76 28 rfl
theorem dX7_character_130 : decode cX7_character 130 = .ok (.iload 4, 2) := dq_of dqX7_character_76 29 rfl
theorem dX7_character_132 : decode cX7_character 132 = .ok (.bipush 6, 2) := dq_of dqX7_character_76 30 rfl
theorem dX7_character_134 : decode cX7_character 134 = .ok (.iload_n 2, 1) := dq_of dqX7_character_76 31 rfl
theorem dX7_character_135 : decode cX7_character 135 = .ok (.iconst 1, 1) := dq_of dqX7_character_76 32 rfl
theorem dX7_character_136 : decode cX7_character 136 = .ok (.isub, 1) := dq_of dqX7_character_76 33 rfl
theorem dX7_character_137 : decode cX7_character 137 = .ok (.imul, 1) := dq_of dqX7_character_76 34 rfl
theorem dX7_character_138 : decode cX7_character 138 = .ok (.ishl, 1) := dq_of dqX7_character_76 35 rfl
theorem dX7_character_139 : decode cX7_character 139 = .ok (.istore 6, 2) := dq_of dqX7_character_76 36 rfl
theorem dX7_character_141 : decode cX7_character 141 = .ok (.iload 6, 2) := dq_of dqX7_character_76 37 rfl
theorem dX7_character_143 : decode cX7_character 143 = .ok (.iconst 1, 1) := dq_of dqX7_character_76 38 rfl
theorem dX7_character_144 : decode cX7_character 144 = .ok (.bipush 6, 2) := dq_of dqX7_character_76 39 rfl
theorem dqX7_character_146 : ([(146, .iload_n 2, 1), (147, .iconst 1, 1), (148, .isub, 1), (149, .imul, 1), (150, .ishl, 1), (151, .iadd, 1), (152, .iconst 1, 1), (153, .isub, 1), (154, .istore 7, 2), (156, .iload 5, 2), (158, .sipush 192, 3), (161, .iand, 1), (162, .sipush 128, 3), (165, .if_icmp .ne 21, 3), (168, .iload 7, 2), (170, .iload_n 3, 1), (171, .if_icmp .lt 15, 3), (174, .iload 6, 2), (176, .i2l, 1), (177, .iload 7, 2), (179, .i2l, 1), (180, .invokestatic 49, 3), (183, .ifCond .ne 8, 3), (186, .aload_n 0, 1), (187, .invokevirtual 43, 3), (190, .ireturn, 1), (191, .aload_n 0, 1), (192, .invokevirtual 46, 3), (195, .iinc 2 (-1), 3), (198, .goto (-91), 3), (201, .iload 4, 2), (203, .ireturn, 1)] : List (Nat × Instr × Nat)).all (fun q => decide (decode cX7_character q.1 = .ok (q.2.1, q.2.2))) = true := by decide +kernel
theorem dX7_character_146 : decode cX7_character 146 = .ok (.iload_n 2, 1) := dq_of dqX7_character_146 0 rfl
theorem dX7_character_147 : decode cX7_character 147 = .ok (.iconst 1, 1) := dq_of dqX7_character_146 1 rfl
theorem dX7_character_148 : decode cX7_character 148 = .ok (.isub, 1) := dq_of dqX7_character_146 2 rfl
theorem dX7_character_149 : decode cX7_character 149 = .ok (.imul, 1) := dq_of dqX7_character_146 3 rfl
theorem dX7_character_150 : decode cX7_character 150 = .ok (.ishl, 1) := dq_of dqX7_character_146 4 rfl
theorem dX7_character_151 : decode cX7_character 151 = .ok (.iadd, 1) := dq_of dqX7_character_146 5 rfl
theorem dX7_character_152 : decode cX7_character 152 = .ok (.iconst 1, 1) := dq_of dqX7_character_146 6 rfl
theorem dX7_character_153 : decode cX7_character 153 = .ok (.isub, 1) := dq_of dqX7_character_146 7 rfl
theorem dX7_character_154 : decode cX7_character 154 = .ok (.istore 7, 2) := dq_of dqX7_character_146 8 rfl
theorem dX7_character_156 : decode cX7_character 156 = .ok (.iload 5, 2) := dq_of dqX7_character_146 9 rfl
theorem dX7_character_158 : decode cX7_character 158 = .ok (.sipush 192, 3) := dq_of dqX7_character_146 10 rfl
theorem dX7_character_161 : decode cX7_character 161 = .ok (.iand, 1) := dq_of dqX7_character_146 11 rfl
theorem dX7_character_162 : decode cX7_character 162 = .ok (.sipush 128, 3) := dq_of dqX7_character_146 12 rfl
theorem dX7_character_165 : decode cX7_character 165 = .ok (.if_icmp .ne 21, 3) := dq_of dqX7_character_146 13 rfl
theorem dX7_character_168 : decode cX7_character 168 = .ok (.iload 7, 2) := dq_of dqX7_character_146 14 rfl
theorem dX7_character_170 : decode cX7_character 170 = .ok (.iload_n 3, 1) := dq_of dqX7_character_146 15 rfl
theorem dX7_character_171 : decode cX7_character 171 = .ok (.if_icmp .lt 15, 3) := dq_of dqX7_character_146 16 rfl
theorem dX7_character_174 : decode cX7_character 174 = .ok (.iload 6, 2) := dq_of dqX7_character_146 17 rfl
theorem dX7_character_176 : decode cX7_character 176 = .ok (.i2l, 1) := dq_of dqX7_character_146 18 rfl
theorem dX7_character_177 : decode cX7_character 177 = .ok (.iload 7, 2) := dq_of dqX7_character_146 19 rfl
theorem dX7_character_179 : decode cX7_character 179 = .ok (.i2l, 1) := dq_of dqX7_character_146 20 rfl
theorem dX7_character_180 : decode cX7_character 180 = .ok (.invokestatic 49, 3) := dq_of dqX7_character_146 21 rfl
theorem dX7_character_183 : decode cX7_character 183 = .ok (.ifCond .ne 8, 3) := dq_of dqX7_character_146 22 rfl
theorem dX7_character_186 : decode cX7_character 186 = .ok (.aload_n 0, 1) := dq_of dqX7_character_146 23 rfl
theorem dX7_character_187 : decode cX7_character 187 = .ok (.invokevirtual 43, 3) := dq_of dqX7_character_146 24 rfl
theorem dX7_character_190 : decode cX7_character 190 = .ok (.ireturn, 1) := dq_of dqX7_character_146 25 rfl
theorem dX7_character_191 : decode cX7_character 191 = .ok (.aload_n 0, 1) := dq_of dqX7_character_146 26 rfl
theorem dX7_character_192 : decode cX7_character 192 = .ok (.invokevirtual 46, 3) := dq_of dqX7_character_146 27 rfl
theorem dX7_character_195 : decode cX7_character 195 = .ok (.iinc 2 (-1), 3) := dq_of dqX7_character_146 28 rfl
theorem dX7_character_198 : decode cX7_character 198 = .ok (.goto (-91), 3) := dq_of dqX7_character_146 29 rfl
theorem dX7_character_201 : decode cX7_character 201 = .ok (.iload 4, 2) := dq_of dqX7_character_146 30 rfl
theorem dX7_character_203 : decode cX7_character 203 = .ok (.ireturn, 1) := dq_of dqX7_character_146 31 rfl
