theorem dX0_init_0 : decode cX0_init 0 = .ok (.aload_n 0, 1) := by decide +kernel
theorem dX0_init_1 : decode cX0_init 1 = .ok (.aload_n 1, 1) := by decide +kernel
theorem dX0_init_2 : decode cX0_init 2 = .ok (.iload_n 2, 1) := by decide +kernel
theorem dX0_init_3 : decode cX0_init 3 = .ok (.iload_n 3, 1) := by decide +kernel
theorem dX0_init_4 : decode cX0_init 4 = .ok (.iload 4, 2) := by decide +kernel
theorem dX0_init_6 : decode cX0_init 6 = .ok (.iload 5, 2) := by decide +kernel
theorem dX0_init_8 : decode cX0_init 8 = .ok (.iload 6, 2) := by decide +kernel
theorem dX0_init_10 : decode cX0_init 10 = .ok (.invokespecial 3, 3) := by decide +kernel
theorem dX0_init_13 : decode cX0_init 13 = .ok (.return_, 1) := by decide +kernel
theorem dX0_kind_0 : decode cX0_kind 0 = .ok (.iconst 4, 1) := by decide +kernel
theorem dX0_kind_1 : decode cX0_kind 1 = .ok (.ireturn, 1) := by decide +kernel
theorem dX0_length_0 : decode cX0_length 0 = .ok (.aload_n 0, 1) := by decide +kernel
theorem dX0_length_1 : decode cX0_length 1 = .ok (.getfield 9, 3) := by decide +kernel
theorem dX0_length_4 : decode cX0_length 4 = .ok (.aload_n 0, 1) := by decide +kernel
theorem dX0_length_5 : decode cX0_length 5 = .ok (.getfield 9, 3) := by decide +kernel
theorem dX0_length_8 : decode cX0_length 8 = .ok (.iconst 2, 1) := by decide +kernel
theorem dX0_length_9 : decode cX0_length 9 = .ok (.idiv, 1) := by decide +kernel
theorem dX0_length_10 : decode cX0_length 10 = .ok (.iadd, 1) := by decide +kernel
theorem dX0_length_11 : decode cX0_length 11 = .ok (.iconst 1, 1) := by decide +kernel
theorem dX0_length_12 : decode cX0_length 12 = .ok (.iadd, 1) := by decide +kernel
theorem dX0_length_13 : decode cX0_length 13 = .ok (.ireturn, 1) := by decide +kernel
theorem dX0_mayBe_0 : decode cX0_mayBe 0 = .ok (.bipush 15, 2) := by decide +kernel
theorem dX0_mayBe_2 : decode cX0_mayBe 2 = .ok (.ireturn, 1) := by decide +kernel
theorem dX0_tells_0 : decode cX0_tells 0 = .ok (.aload_n 0, 1) := by decide +kernel
theorem dX0_tells_1 : decode cX0_tells 1 = .ok (.getfield 15, 3) := by decide +kernel
theorem dX0_tells_4 : decode cX0_tells 4 = .ok (.bipush 41, 2) := by decide +kernel
theorem dX0_tells_6 : decode cX0_tells 6 = .ok (.invokevirtual 19, 3) := by decide +kernel
theorem dX0_tells_9 : decode cX0_tells 9 = .ok (.aload_n 0, 1) := by decide +kernel
theorem dX0_tells_10 : decode cX0_tells 10 = .ok (.iload_n 1, 1) := by decide +kernel
theorem dX0_tells_11 : decode cX0_tells 11 = .ok (.iconst 1, 1) := by decide +kernel
theorem dX0_tells_12 : decode cX0_tells 12 = .ok (.isub, 1) := by decide +kernel
theorem dX0_tells_13 : decode cX0_tells 13 = .ok (.invokespecial 25, 3) := by decide +kernel
theorem dX0_tells_16 : decode cX0_tells 16 = .ok (.aload_n 0, 1) := by decide +kernel
theorem dX0_tells_17 : decode cX0_tells 17 = .ok (.iconst 2, 1) := by decide +kernel
theorem dX0_tells_18 : decode cX0_tells 18 = .ok (.invokevirtual 29, 3) := by decide +kernel
theorem dX0_tells_21 : decode cX0_tells 21 = .ok (.iadd, 1) := by decide +kernel
theorem dX0_tells_22 : decode cX0_tells 22 = .ok (.ireturn, 1) := by decide +kernel
theorem dX1_init_0 : decode cX1_init 0 = .ok (.aload_n 0, 1) := by decide +kernel
theorem dX1_init_1 : decode cX1_init 1 = .ok (.aload_n 1, 1) := by decide +kernel
theorem dX1_init_2 : decode cX1_init 2 = .ok (.iload_n 2, 1) := by decide +kernel
theorem dX1_init_3 : decode cX1_init 3 = .ok (.iload_n 3, 1) := by decide +kernel
theorem dX1_init_4 : decode cX1_init 4 = .ok (.iload 4, 2) := by decide +kernel
theorem dX1_init_6 : decode cX1_init 6 = .ok (.iload 5, 2) := by decide +kernel
theorem dX1_init_8 : decode cX1_init 8 = .ok (.iload 6, 2) := by decide +kernel
theorem dX1_init_10 : decode cX1_init 10 = .ok (.invokespecial 3, 3) := by decide +kernel
theorem dX1_init_13 : decode cX1_init 13 = .ok (.return_, 1) := by decide +kernel
theorem dX1_kind_0 : decode cX1_kind 0 = .ok (.iconst 2, 1) := by decide +kernel
theorem dX1_kind_1 : decode cX1_kind 1 = .ok (.ireturn, 1) := by decide +kernel
theorem dX1_mayBe_0 : decode cX1_mayBe 0 = .ok (.bipush 9, 2) := by decide +kernel
theorem dX1_mayBe_2 : decode cX1_mayBe 2 = .ok (.ireturn, 1) := by decide +kernel
theorem dX1_reads_0 : decode cX1_reads 0 = .ok (.aload_n 0, 1) := by decide +kernel
theorem dX1_reads_1 : decode cX1_reads 1 = .ok (.getfield 9, 3) := by decide +kernel
theorem dX1_reads_4 : decode cX1_reads 4 = .ok (.bipush 21, 2) := by decide +kernel
theorem dX1_reads_6 : decode cX1_reads 6 = .ok (.invokevirtual 15, 3) := by decide +kernel
theorem dX1_reads_9 : decode cX1_reads 9 = .ok (.aload_n 0, 1) := by decide +kernel
theorem dX1_reads_10 : decode cX1_reads 10 = .ok (.iload_n 1, 1) := by decide +kernel
theorem dX1_reads_11 : decode cX1_reads 11 = .ok (.invokespecial 21, 3) := by decide +kernel
theorem dX1_reads_14 : decode cX1_reads 14 = .ok (.ineg, 1) := by decide +kernel
theorem dX1_reads_15 : decode cX1_reads 15 = .ok (.ireturn, 1) := by decide +kernel
theorem dX2_init_0 : decode cX2_init 0 = .ok (.aload_n 0, 1) := by decide +kernel
theorem dX2_init_1 : decode cX2_init 1 = .ok (.aload_n 1, 1) := by decide +kernel
theorem dX2_init_2 : decode cX2_init 2 = .ok (.iload_n 2, 1) := by decide +kernel
theorem dX2_init_3 : decode cX2_init 3 = .ok (.iload_n 3, 1) := by decide +kernel
theorem dX2_init_4 : decode cX2_init 4 = .ok (.iload 4, 2) := by decide +kernel
theorem dX2_init_6 : decode cX2_init 6 = .ok (.iload 5, 2) := by decide +kernel
theorem dX2_init_8 : decode cX2_init 8 = .ok (.iload 6, 2) := by decide +kernel
theorem dX2_init_10 : decode cX2_init 10 = .ok (.invokespecial 3, 3) := by decide +kernel
theorem dX2_init_13 : decode cX2_init 13 = .ok (.return_, 1) := by decide +kernel
theorem dX2_kind_0 : decode cX2_kind 0 = .ok (.iconst 5, 1) := by decide +kernel
theorem dX2_kind_1 : decode cX2_kind 1 = .ok (.ireturn, 1) := by decide +kernel
theorem dX2_mayBe_0 : decode cX2_mayBe 0 = .ok (.iconst 1, 1) := by decide +kernel
theorem dX2_mayBe_1 : decode cX2_mayBe 1 = .ok (.ireturn, 1) := by decide +kernel
theorem dX2_lies_0 : decode cX2_lies 0 = .ok (.aload_n 0, 1) := by decide +kernel
theorem dX2_lies_1 : decode cX2_lies 1 = .ok (.getfield 9, 3) := by decide +kernel
theorem dX2_lies_4 : decode cX2_lies 4 = .ok (.bipush 51, 2) := by decide +kernel
theorem dX2_lies_6 : decode cX2_lies 6 = .ok (.invokevirtual 15, 3) := by decide +kernel
theorem dX2_lies_9 : decode cX2_lies 9 = .ok (.aload_n 0, 1) := by decide +kernel
theorem dX2_lies_10 : decode cX2_lies 10 = .ok (.iload_n 1, 1) := by decide +kernel
theorem dX2_lies_11 : decode cX2_lies 11 = .ok (.invokespecial 21, 3) := by decide +kernel
theorem dX2_lies_14 : decode cX2_lies 14 = .ok (.aload_n 0, 1) := by decide +kernel
theorem dX2_lies_15 : decode cX2_lies 15 = .ok (.getfield 25, 3) := by decide +kernel
theorem dX2_lies_18 : decode cX2_lies 18 = .ok (.ixor, 1) := by decide +kernel
theorem dX2_lies_19 : decode cX2_lies 19 = .ok (.ireturn, 1) := by decide +kernel
theorem dX3_init_0 : decode cX3_init 0 = .ok (.aload_n 0, 1) := by decide +kernel
theorem dX3_init_1 : decode cX3_init 1 = .ok (.aload_n 1, 1) := by decide +kernel
theorem dX3_init_2 : decode cX3_init 2 = .ok (.iload_n 2, 1) := by decide +kernel
theorem dX3_init_3 : decode cX3_init 3 = .ok (.iload_n 3, 1) := by decide +kernel
theorem dX3_init_4 : decode cX3_init 4 = .ok (.iload 4, 2) := by decide +kernel
theorem dX3_init_6 : decode cX3_init 6 = .ok (.iload 5, 2) := by decide +kernel
theorem dX3_init_8 : decode cX3_init 8 = .ok (.iload 6, 2) := by decide +kernel
theorem dX3_init_10 : decode cX3_init 10 = .ok (.invokespecial 3, 3) := by decide +kernel
theorem dX3_init_13 : decode cX3_init 13 = .ok (.return_, 1) := by decide +kernel
theorem dX3_kind_0 : decode cX3_kind 0 = .ok (.iconst 1, 1) := by decide +kernel
theorem dX3_kind_1 : decode cX3_kind 1 = .ok (.ireturn, 1) := by decide +kernel
theorem dX3_length_0 : decode cX3_length 0 = .ok (.aload_n 0, 1) := by decide +kernel
theorem dX3_length_1 : decode cX3_length 1 = .ok (.getfield 9, 3) := by decide +kernel
theorem dX3_length_4 : decode cX3_length 4 = .ok (.aload_n 0, 1) := by decide +kernel
theorem dX3_length_5 : decode cX3_length 5 = .ok (.getfield 9, 3) := by decide +kernel
theorem dX3_length_8 : decode cX3_length 8 = .ok (.iconst 2, 1) := by decide +kernel
theorem dX3_length_9 : decode cX3_length 9 = .ok (.idiv, 1) := by decide +kernel
theorem dX3_length_10 : decode cX3_length 10 = .ok (.iadd, 1) := by decide +kernel
theorem dX3_length_11 : decode cX3_length 11 = .ok (.ireturn, 1) := by decide +kernel
theorem dX3_mayBe_0 : decode cX3_mayBe 0 = .ok (.iconst 3, 1) := by decide +kernel
theorem dX3_mayBe_1 : decode cX3_mayBe 1 = .ok (.ireturn, 1) := by decide +kernel
theorem dX3_lies_0 : decode cX3_lies 0 = .ok (.aload_n 0, 1) := by decide +kernel
theorem dX3_lies_1 : decode cX3_lies 1 = .ok (.getfield 15, 3) := by decide +kernel
theorem dX3_lies_4 : decode cX3_lies 4 = .ok (.bipush 11, 2) := by decide +kernel
theorem dX3_lies_6 : decode cX3_lies 6 = .ok (.invokevirtual 19, 3) := by decide +kernel
theorem dX3_lies_9 : decode cX3_lies 9 = .ok (.aload_n 0, 1) := by decide +kernel
theorem dX3_lies_10 : decode cX3_lies 10 = .ok (.iload_n 1, 1) := by decide +kernel
theorem dX3_lies_11 : decode cX3_lies 11 = .ok (.iconst 3, 1) := by decide +kernel
theorem dX3_lies_12 : decode cX3_lies 12 = .ok (.imul, 1) := by decide +kernel
theorem dX3_lies_13 : decode cX3_lies 13 = .ok (.invokespecial 25, 3) := by decide +kernel
theorem dX3_lies_16 : decode cX3_lies 16 = .ok (.ireturn, 1) := by decide +kernel
theorem dX4_init_0 : decode cX4_init 0 = .ok (.aload_n 0, 1) := by decide +kernel
theorem dX4_init_1 : decode cX4_init 1 = .ok (.invokespecial 3, 3) := by decide +kernel
theorem dX4_init_4 : decode cX4_init 4 = .ok (.aload_n 0, 1) := by decide +kernel
theorem dX4_init_5 : decode cX4_init 5 = .ok (.aload_n 1, 1) := by decide +kernel
theorem dX4_init_6 : decode cX4_init 6 = .ok (.putfield 9, 3) := by decide +kernel
theorem dX4_init_9 : decode cX4_init 9 = .ok (.aload_n 0, 1) := by decide +kernel
theorem dX4_init_10 : decode cX4_init 10 = .ok (.iload_n 2, 1) := by decide +kernel
theorem dX4_init_11 : decode cX4_init 11 = .ok (.putfield 15, 3) := by decide +kernel
theorem dX4_init_14 : decode cX4_init 14 = .ok (.aload_n 0, 1) := by decide +kernel
theorem dX4_init_15 : decode cX4_init 15 = .ok (.iload_n 3, 1) := by decide +kernel
theorem dX4_init_16 : decode cX4_init 16 = .ok (.putfield 19, 3) := by decide +kernel
theorem dX4_init_19 : decode cX4_init 19 = .ok (.aload_n 0, 1) := by decide +kernel
theorem dX4_init_20 : decode cX4_init 20 = .ok (.iload 4, 2) := by decide +kernel
theorem dX4_init_22 : decode cX4_init 22 = .ok (.putfield 22, 3) := by decide +kernel
theorem dX4_init_25 : decode cX4_init 25 = .ok (.aload_n 0, 1) := by decide +kernel
theorem dX4_init_26 : decode cX4_init 26 = .ok (.iload 5, 2) := by decide +kernel
theorem dX4_init_28 : decode cX4_init 28 = .ok (.putfield 25, 3) := by decide +kernel
theorem dX4_init_31 : decode cX4_init 31 = .ok (.aload_n 0, 1) := by decide +kernel
theorem dX4_init_32 : decode cX4_init 32 = .ok (.iload 6, 2) := by decide +kernel
theorem dX4_init_34 : decode cX4_init 34 = .ok (.putfield 28, 3) := by decide +kernel
theorem dX4_init_37 : decode cX4_init 37 = .ok (.return_, 1) := by decide +kernel
theorem dX4_kind_0 : decode cX4_kind 0 = .ok (.iconst 0, 1) := by decide +kernel
theorem dX4_kind_1 : decode cX4_kind 1 = .ok (.ireturn, 1) := by decide +kernel
theorem dX4_length_0 : decode cX4_length 0 = .ok (.aload_n 0, 1) := by decide +kernel
theorem dX4_length_1 : decode cX4_length 1 = .ok (.getfield 22, 3) := by decide +kernel
theorem dX4_length_4 : decode cX4_length 4 = .ok (.ireturn, 1) := by decide +kernel
theorem dX4_mayBe_0 : decode cX4_mayBe 0 = .ok (.bipush 15, 2) := by decide +kernel
theorem dX4_mayBe_2 : decode cX4_mayBe 2 = .ok (.ireturn, 1) := by decide +kernel
theorem dX4_lies_0 : decode cX4_lies 0 = .ok (.aload_n 0, 1) := by decide +kernel
theorem dX4_lies_1 : decode cX4_lies 1 = .ok (.getfield 9, 3) := by decide +kernel
theorem dX4_lies_4 : decode cX4_lies 4 = .ok (.iconst 1, 1) := by decide +kernel
theorem dX4_lies_5 : decode cX4_lies 5 = .ok (.invokevirtual 31, 3) := by decide +kernel
theorem dX4_lies_8 : decode cX4_lies 8 = .ok (.iload_n 1, 1) := by decide +kernel
theorem dX4_lies_9 : decode cX4_lies 9 = .ok (.aload_n 0, 1) := by decide +kernel
theorem dX4_lies_10 : decode cX4_lies 10 = .ok (.getfield 15, 3) := by decide +kernel
theorem dX4_lies_13 : decode cX4_lies 13 = .ok (.iadd, 1) := by decide +kernel
theorem dX4_lies_14 : decode cX4_lies 14 = .ok (.ireturn, 1) := by decide +kernel
theorem dX4_reads_0 : decode cX4_reads 0 = .ok (.aload_n 0, 1) := by decide +kernel
theorem dX4_reads_1 : decode cX4_reads 1 = .ok (.getfield 9, 3) := by decide +kernel
theorem dX4_reads_4 : decode cX4_reads 4 = .ok (.iconst 2, 1) := by decide +kernel
theorem dX4_reads_5 : decode cX4_reads 5 = .ok (.invokevirtual 31, 3) := by decide +kernel
theorem dX4_reads_8 : decode cX4_reads 8 = .ok (.aload_n 0, 1) := by decide +kernel
theorem dX4_reads_9 : decode cX4_reads 9 = .ok (.iload_n 1, 1) := by decide +kernel
theorem dX4_reads_10 : decode cX4_reads 10 = .ok (.invokevirtual 37, 3) := by decide +kernel
theorem dX4_reads_13 : decode cX4_reads 13 = .ok (.aload_n 0, 1) := by decide +kernel
theorem dX4_reads_14 : decode cX4_reads 14 = .ok (.getfield 19, 3) := by decide +kernel
theorem dX4_reads_17 : decode cX4_reads 17 = .ok (.isub, 1) := by decide +kernel
theorem dX4_reads_18 : decode cX4_reads 18 = .ok (.ireturn, 1) := by decide +kernel
theorem dX4_tells_0 : decode cX4_tells 0 = .ok (.aload_n 0, 1) := by decide +kernel
theorem dX4_tells_1 : decode cX4_tells 1 = .ok (.getfield 9, 3) := by decide +kernel
theorem dX4_tells_4 : decode cX4_tells 4 = .ok (.iconst 3, 1) := by decide +kernel
theorem dX4_tells_5 : decode cX4_tells 5 = .ok (.invokevirtual 31, 3) := by decide +kernel
theorem dX4_tells_8 : decode cX4_tells 8 = .ok (.aload_n 0, 1) := by decide +kernel
theorem dX4_tells_9 : decode cX4_tells 9 = .ok (.iload_n 1, 1) := by decide +kernel
theorem dX4_tells_10 : decode cX4_tells 10 = .ok (.invokevirtual 41, 3) := by decide +kernel
theorem dX4_tells_13 : decode cX4_tells 13 = .ok (.iconst 2, 1) := by decide +kernel
theorem dX4_tells_14 : decode cX4_tells 14 = .ok (.imul, 1) := by decide +kernel
theorem dX4_tells_15 : decode cX4_tells 15 = .ok (.ireturn, 1) := by decide +kernel
theorem dX4_lineAt_0 : decode cX4_lineAt 0 = .ok (.iload_n 1, 1) := by decide +kernel
theorem dX4_lineAt_1 : decode cX4_lineAt 1 = .ok (.iconst 2, 1) := by decide +kernel
theorem dX4_lineAt_2 : decode cX4_lineAt 2 = .ok (.if_icmp .ne 10, 3) := by decide +kernel
theorem dX4_lineAt_5 : decode cX4_lineAt 5 = .ok (.aload_n 0, 1) := by decide +kernel
theorem dX4_lineAt_6 : decode cX4_lineAt 6 = .ok (.getfield 28, 3) := by decide +kernel
theorem dX4_lineAt_9 : decode cX4_lineAt 9 = .ok (.iconst 1, 1) := by decide +kernel
theorem dX4_lineAt_10 : decode cX4_lineAt 10 = .ok (.isub, 1) := by decide +kernel
theorem dX4_lineAt_11 : decode cX4_lineAt 11 = .ok (.ireturn, 1) := by decide +kernel
theorem dX4_lineAt_12 : decode cX4_lineAt 12 = .ok (.iload_n 1, 1) := by decide +kernel
theorem dX4_lineAt_13 : decode cX4_lineAt 13 = .ok (.iconst 3, 1) := by decide +kernel
theorem dX4_lineAt_14 : decode cX4_lineAt 14 = .ok (.if_icmp .ne 12, 3) := by decide +kernel
theorem dX4_lineAt_17 : decode cX4_lineAt 17 = .ok (.aload_n 0, 1) := by decide +kernel
theorem dX4_lineAt_18 : decode cX4_lineAt 18 = .ok (.getfield 28, 3) := by decide +kernel
theorem dX4_lineAt_21 : decode cX4_lineAt 21 = .ok (.iconst 1, 1) := by decide +kernel
theorem dX4_lineAt_22 : decode cX4_lineAt 22 = .ok (.iadd, 1) := by decide +kernel
theorem dX4_lineAt_23 : decode cX4_lineAt 23 = .ok (.goto 7, 3) := by decide +kernel
theorem dX4_lineAt_26 : decode cX4_lineAt 26 = .ok (.aload_n 0, 1) := by decide +kernel
theorem dX4_lineAt_27 : decode cX4_lineAt 27 = .ok (.getfield 28, 3) := by decide +kernel
theorem dX4_lineAt_30 : decode cX4_lineAt 30 = .ok (.ireturn, 1) := by decide +kernel
theorem dX4_startAt_0 : decode cX4_startAt 0 = .ok (.iload_n 1, 1) := by decide +kernel
theorem dX4_startAt_1 : decode cX4_startAt 1 = .ok (.ifCond .ne 10, 3) := by decide +kernel
theorem dX4_startAt_4 : decode cX4_startAt 4 = .ok (.aload_n 0, 1) := by decide +kernel
theorem dX4_startAt_5 : decode cX4_startAt 5 = .ok (.getfield 25, 3) := by decide +kernel
theorem dX4_startAt_8 : decode cX4_startAt 8 = .ok (.iconst 1, 1) := by decide +kernel
theorem dX4_startAt_9 : decode cX4_startAt 9 = .ok (.iadd, 1) := by decide +kernel
theorem dX4_startAt_10 : decode cX4_startAt 10 = .ok (.ireturn, 1) := by decide +kernel
theorem dX4_startAt_11 : decode cX4_startAt 11 = .ok (.iload_n 1, 1) := by decide +kernel
theorem dX4_startAt_12 : decode cX4_startAt 12 = .ok (.iconst 1, 1) := by decide +kernel
theorem dX4_startAt_13 : decode cX4_startAt 13 = .ok (.if_icmp .ne 12, 3) := by decide +kernel
theorem dX4_startAt_16 : decode cX4_startAt 16 = .ok (.aload_n 0, 1) := by decide +kernel
theorem dX4_startAt_17 : decode cX4_startAt 17 = .ok (.getfield 25, 3) := by decide +kernel
theorem dX4_startAt_20 : decode cX4_startAt 20 = .ok (.iload_n 2, 1) := by decide +kernel
theorem dX4_startAt_21 : decode cX4_startAt 21 = .ok (.isub, 1) := by decide +kernel
theorem dX4_startAt_22 : decode cX4_startAt 22 = .ok (.goto 7, 3) := by decide +kernel
theorem dX4_startAt_25 : decode cX4_startAt 25 = .ok (.aload_n 0, 1) := by decide +kernel
theorem dX4_startAt_26 : decode cX4_startAt 26 = .ok (.getfield 25, 3) := by decide +kernel
theorem dX4_startAt_29 : decode cX4_startAt 29 = .ok (.ireturn, 1) := by decide +kernel
theorem dX4_cells_0 : decode cX4_cells 0 = .ok (.aload_n 0, 1) := by decide +kernel
theorem dX4_cells_1 : decode cX4_cells 1 = .ok (.iload_n 2, 1) := by decide +kernel
theorem dX4_cells_2 : decode cX4_cells 2 = .ok (.invokevirtual 44, 3) := by decide +kernel
theorem dX4_cells_5 : decode cX4_cells 5 = .ok (.istore_n 3, 1) := by decide +kernel
theorem dX4_cells_6 : decode cX4_cells 6 = .ok (.lconst 1, 1) := by decide +kernel
theorem dX4_cells_7 : decode cX4_cells 7 = .ok (.iload_n 3, 1) := by decide +kernel
theorem dX4_cells_8 : decode cX4_cells 8 = .ok (.lshl, 1) := by decide +kernel
theorem dX4_cells_9 : decode cX4_cells 9 = .ok (.lconst 1, 1) := by decide +kernel
theorem dX4_cells_10 : decode cX4_cells 10 = .ok (.lsub, 1) := by decide +kernel
theorem dX4_cells_11 : decode cX4_cells 11 = .ok (.aload_n 0, 1) := by decide +kernel
theorem dX4_cells_12 : decode cX4_cells 12 = .ok (.iload_n 1, 1) := by decide +kernel
theorem dX4_cells_13 : decode cX4_cells 13 = .ok (.iload_n 3, 1) := by decide +kernel
theorem dX4_cells_14 : decode cX4_cells 14 = .ok (.invokevirtual 47, 3) := by decide +kernel
theorem dX4_cells_17 : decode cX4_cells 17 = .ok (.bipush (-14), 2) := by decide +kernel
theorem dX4_cells_19 : decode cX4_cells 19 = .ok (.isub, 1) := by decide +kernel
theorem dX4_cells_20 : decode cX4_cells 20 = .ok (.lshl, 1) := by decide +kernel
theorem dX4_cells_21 : decode cX4_cells 21 = .ok (.lreturn, 1) := by decide +kernel
theorem dX4_covers_0 : decode cX4_covers 0 = .ok (.aload_n 0, 1) := by decide +kernel
theorem dX4_covers_1 : decode cX4_covers 1 = .ok (.iload_n 1, 1) := by decide +kernel
theorem dX4_covers_2 : decode cX4_covers 2 = .ok (.invokevirtual 51, 3) := by decide +kernel
theorem dX4_covers_5 : decode cX4_covers 5 = .ok (.iload 4, 2) := by decide +kernel
theorem dX4_covers_7 : decode cX4_covers 7 = .ok (.if_icmp .ne 25, 3) := by decide +kernel
theorem dX4_covers_10 : decode cX4_covers 10 = .ok (.aload_n 0, 1) := by decide +kernel
theorem dX4_covers_11 : decode cX4_covers 11 = .ok (.iload_n 1, 1) := by decide +kernel
theorem dX4_covers_12 : decode cX4_covers 12 = .ok (.iload_n 2, 1) := by decide +kernel
theorem dX4_covers_13 : decode cX4_covers 13 = .ok (.invokevirtual 54, 3) := by decide +kernel
theorem dX4_covers_16 : decode cX4_covers 16 = .ok (.iload_n 3, 1) := by decide +kernel
theorem dX4_covers_17 : decode cX4_covers 17 = .ok (.bipush (-14), 2) := by decide +kernel
theorem dX4_covers_19 : decode cX4_covers 19 = .ok (.isub, 1) := by decide +kernel
theorem dX4_covers_20 : decode cX4_covers 20 = .ok (.lshr, 1) := by decide +kernel
theorem dX4_covers_21 : decode cX4_covers 21 = .ok (.lconst 1, 1) := by decide +kernel
theorem dX4_covers_22 : decode cX4_covers 22 = .ok (.land, 1) := by decide +kernel
theorem dX4_covers_23 : decode cX4_covers 23 = .ok (.lconst 0, 1) := by decide +kernel
theorem dX4_covers_24 : decode cX4_covers 24 = .ok (.lcmp, 1) := by decide +kernel
theorem dX4_covers_25 : decode cX4_covers 25 = .ok (.ifCond .eq 7, 3) := by decide +kernel
theorem dX4_covers_28 : decode cX4_covers 28 = .ok (.iconst 1, 1) := by decide +kernel
theorem dX4_covers_29 : decode cX4_covers 29 = .ok (.goto 4, 3) := by decide +kernel
theorem dX4_covers_32 : decode cX4_covers 32 = .ok (.iconst 0, 1) := by decide +kernel
theorem dX4_covers_33 : decode cX4_covers 33 = .ok (.ireturn, 1) := by decide +kernel
theorem dX5_init_0 : decode cX5_init 0 = .ok (.aload_n 0, 1) := by decide +kernel
theorem dX5_init_1 : decode cX5_init 1 = .ok (.invokespecial 3, 3) := by decide +kernel
theorem dX5_init_4 : decode cX5_init 4 = .ok (.aload_n 0, 1) := by decide +kernel
theorem dX5_init_5 : decode cX5_init 5 = .ok (.new 9, 3) := by decide +kernel
theorem dX5_init_8 : decode cX5_init 8 = .ok (.dup, 1) := by decide +kernel
theorem dX5_init_9 : decode cX5_init 9 = .ok (.bipush 100, 2) := by decide +kernel
theorem dX5_init_11 : decode cX5_init 11 = .ok (.invokespecial 11, 3) := by decide +kernel
theorem dX5_init_14 : decode cX5_init 14 = .ok (.putfield 14, 3) := by decide +kernel
theorem dX5_init_17 : decode cX5_init 17 = .ok (.aload_n 0, 1) := by decide +kernel
theorem dX5_init_18 : decode cX5_init 18 = .ok (.aload_n 1, 1) := by decide +kernel
theorem dX5_init_19 : decode cX5_init 19 = .ok (.putfield 20, 3) := by decide +kernel
theorem dX5_init_22 : decode cX5_init 22 = .ok (.return_, 1) := by decide +kernel
theorem dX5_read_0 : decode cX5_read 0 = .ok (.aload_n 0, 1) := by decide +kernel
theorem dX5_read_1 : decode cX5_read 1 = .ok (.iconst 0, 1) := by decide +kernel
theorem dX5_read_2 : decode cX5_read 2 = .ok (.putfield 23, 3) := by decide +kernel
theorem dX5_read_5 : decode cX5_read 5 = .ok (.aload_n 0, 1) := by decide +kernel
theorem dX5_read_6 : decode cX5_read 6 = .ok (.bipush 24, 2) := by decide +kernel
theorem dX5_read_8 : decode cX5_read 8 = .ok (.putfield 27, 3) := by decide +kernel
theorem dX5_read_11 : decode cX5_read 11 = .ok (.aload_n 0, 1) := by decide +kernel
theorem dX5_read_12 : decode cX5_read 12 = .ok (.bipush 99, 2) := by decide +kernel
theorem dX5_read_14 : decode cX5_read 14 = .ok (.putfield 30, 3) := by decide +kernel
theorem dX5_read_17 : decode cX5_read 17 = .ok (.aload_n 0, 1) := by decide +kernel
theorem dX5_read_18 : decode cX5_read 18 = .ok (.getfield 14, 3) := by decide +kernel
theorem dX5_read_21 : decode cX5_read 21 = .ok (.invokevirtual 33, 3) := by decide +kernel
theorem dX5_read_24 : decode cX5_read 24 = .ok (.iconst 1, 1) := by decide +kernel
theorem dX5_read_25 : decode cX5_read 25 = .ok (.istore_n 1, 1) := by decide +kernel
theorem dX5_read_26 : decode cX5_read 26 = .ok (.iload_n 1, 1) := by decide +kernel
theorem dX5_read_27 : decode cX5_read 27 = .ok (.bipush 10, 2) := by decide +kernel
theorem dX5_read_29 : decode cX5_read 29 = .ok (.if_icmp .gt 51, 3) := by decide +kernel
theorem dX5_read_32 : decode cX5_read 32 = .ok (.aload_n 0, 1) := by decide +kernel
theorem dX5_read_33 : decode cX5_read 33 = .ok (.invokevirtual 36, 3) := by decide +kernel
theorem dX5_read_36 : decode cX5_read 36 = .ok (.ifCond .ne 5, 3) := by decide +kernel
theorem dX5_read_39 : decode cX5_read 39 = .ok (.iconst 0, 1) := by decide +kernel
theorem dX5_read_40 : decode cX5_read 40 = .ok (.ireturn, 1) := by decide +kernel
theorem dX5_read_41 : decode cX5_read 41 = .ok (.aload_n 0, 1) := by decide +kernel
theorem dX5_read_42 : decode cX5_read 42 = .ok (.getfield 23, 3) := by decide +kernel
theorem dX5_read_45 : decode cX5_read 45 = .ok (.aload_n 0, 1) := by decide +kernel
theorem dX5_read_46 : decode cX5_read 46 = .ok (.getfield 20, 3) := by decide +kernel
theorem dX5_read_49 : decode cX5_read 49 = .ok (.invokevirtual 40, 3) := by decide +kernel
theorem dX5_read_52 : decode cX5_read 52 = .ok (.if_icmp .lt 5, 3) := by decide +kernel
theorem dX5_read_55 : decode cX5_read 55 = .ok (.iconst 1, 1) := by decide +kernel
theorem dX5_read_56 : decode cX5_read 56 = .ok (.ireturn, 1) := by decide +kernel
theorem dX5_read_57 : decode cX5_read 57 = .ok (.iload_n 1, 1) := by decide +kernel
theorem dX5_read_58 : decode cX5_read 58 = .ok (.bipush 10, 2) := by decide +kernel
theorem dX5_read_60 : decode cX5_read 60 = .ok (.if_icmp .eq 12, 3) := by decide +kernel
theorem dX5_read_63 : decode cX5_read 63 = .ok (.aload_n 0, 1) := by decide +kernel
theorem dX5_read_64 : decode cX5_read 64 = .ok (.bipush 59, 2) := by decide +kernel
theorem dX5_read_66 : decode cX5_read 66 = .ok (.invokevirtual 44, 3) := by decide +kernel
theorem dX5_read_69 : decode cX5_read 69 = .ok (.ifCond .ne 5, 3) := by decide +kernel
theorem dX5_read_72 : decode cX5_read 72 = .ok (.iconst 0, 1) := by decide +kernel
theorem dX5_read_73 : decode cX5_read 73 = .ok (.ireturn, 1) := by decide +kernel
theorem dX5_read_74 : decode cX5_read 74 = .ok (.iinc 1 1, 3) := by decide +kernel
theorem dX5_read_77 : decode cX5_read 77 = .ok (.goto (-51), 3) := by decide +kernel
theorem dX5_read_80 : decode cX5_read 80 = .ok (.iconst 0, 1) := by decide +kernel
theorem dX5_read_81 : decode cX5_read 81 = .ok (.ireturn, 1) := by decide +kernel
theorem dX5_readsClause_0 : decode cX5_readsClause 0 = .ok (.aload_n 0, 1) := by decide +kernel
theorem dX5_readsClause_1 : decode cX5_readsClause 1 = .ok (.invokevirtual 48, 3) := by decide +kernel
theorem dX5_readsClause_4 : decode cX5_readsClause 4 = .ok (.istore_n 1, 1) := by decide +kernel
theorem dX5_readsClause_5 : decode cX5_readsClause 5 = .ok (.iload_n 1, 1) := by decide +kernel
theorem dX5_readsClause_6 : decode cX5_readsClause 6 = .ok (.bipush 119, 2) := by decide +kernel
theorem dX5_readsClause_8 : decode cX5_readsClause 8 = .ok (.if_icmp .eq 9, 3) := by decide +kernel
theorem dX5_readsClause_11 : decode cX5_readsClause 11 = .ok (.iload_n 1, 1) := by decide +kernel
theorem dX5_readsClause_12 : decode cX5_readsClause 12 = .ok (.bipush 114, 2) := by decide +kernel
theorem dX5_readsClause_14 : decode cX5_readsClause 14 = .ok (.if_icmp .ne 19, 3) := by decide +kernel
theorem dX5_readsClause_17 : decode cX5_readsClause 17 = .ok (.aload_n 0, 1) := by decide +kernel
theorem dX5_readsClause_18 : decode cX5_readsClause 18 = .ok (.iload_n 1, 1) := by decide +kernel
theorem dX5_readsClause_19 : decode cX5_readsClause 19 = .ok (.bipush 119, 2) := by decide +kernel
theorem dX5_readsClause_21 : decode cX5_readsClause 21 = .ok (.if_icmp .ne 7, 3) := by decide +kernel
theorem dX5_readsClause_24 : decode cX5_readsClause 24 = .ok (.iconst 1, 1) := by decide +kernel
theorem dX5_readsClause_25 : decode cX5_readsClause 25 = .ok (.goto 4, 3) := by decide +kernel
theorem dX5_readsClause_28 : decode cX5_readsClause 28 = .ok (.iconst 0, 1) := by decide +kernel
theorem dX5_readsClause_29 : decode cX5_readsClause 29 = .ok (.invokevirtual 51, 3) := by decide +kernel
theorem dX5_readsClause_32 : decode cX5_readsClause 32 = .ok (.ireturn, 1) := by decide +kernel
theorem dX5_readsClause_33 : decode cX5_readsClause 33 = .ok (.iload_n 1, 1) := by decide +kernel
theorem dX5_readsClause_34 : decode cX5_readsClause 34 = .ok (.bipush 108, 2) := by decide +kernel
theorem dX5_readsClause_36 : decode cX5_readsClause 36 = .ok (.if_icmp .ne 7, 3) := by decide +kernel
theorem dX5_readsClause_39 : decode cX5_readsClause 39 = .ok (.iconst 1, 1) := by decide +kernel
theorem dX5_readsClause_40 : decode cX5_readsClause 40 = .ok (.goto 4, 3) := by decide +kernel
theorem dX5_readsClause_43 : decode cX5_readsClause 43 = .ok (.iconst 0, 1) := by decide +kernel
theorem dX5_readsClause_44 : decode cX5_readsClause 44 = .ok (.istore_n 2, 1) := by decide +kernel
theorem dX5_readsClause_45 : decode cX5_readsClause 45 = .ok (.aload_n 0, 1) := by decide +kernel
theorem dX5_readsClause_46 : decode cX5_readsClause 46 = .ok (.iload_n 2, 1) := by decide +kernel
theorem dX5_readsClause_47 : decode cX5_readsClause 47 = .ok (.ifCond .eq 8, 3) := by decide +kernel
theorem dX5_readsClause_50 : decode cX5_readsClause 50 = .ok (.ldc 55, 2) := by decide +kernel
theorem dX5_readsClause_52 : decode cX5_readsClause 52 = .ok (.goto 5, 3) := by decide +kernel
theorem dX5_readsClause_55 : decode cX5_readsClause 55 = .ok (.ldc 57, 2) := by decide +kernel
theorem dX5_readsClause_57 : decode cX5_readsClause 57 = .ok (.invokevirtual 59, 3) := by decide +kernel
theorem dX5_readsClause_60 : decode cX5_readsClause 60 = .ok (.ifCond .eq 10, 3) := by decide +kernel
theorem dX5_readsClause_63 : decode cX5_readsClause 63 = .ok (.aload_n 0, 1) := by decide +kernel
theorem dX5_readsClause_64 : decode cX5_readsClause 64 = .ok (.invokevirtual 63, 3) := by decide +kernel
theorem dX5_readsClause_67 : decode cX5_readsClause 67 = .ok (.ifCond .ne 5, 3) := by decide +kernel
theorem dX5_readsClause_70 : decode cX5_readsClause 70 = .ok (.iconst 0, 1) := by decide +kernel
theorem dX5_readsClause_71 : decode cX5_readsClause 71 = .ok (.ireturn, 1) := by decide +kernel
theorem dX5_readsClause_72 : decode cX5_readsClause 72 = .ok (.iload_n 2, 1) := by decide +kernel
theorem dX5_readsClause_73 : decode cX5_readsClause 73 = .ok (.ifCond .eq 9, 3) := by decide +kernel
theorem dX5_readsClause_76 : decode cX5_readsClause 76 = .ok (.sipush 10000, 3) := by decide +kernel
theorem dX5_readsClause_79 : decode cX5_readsClause 79 = .ok (.goto 6, 3) := by decide +kernel
theorem dX5_readsClause_82 : decode cX5_readsClause 82 = .ok (.sipush 20000, 3) := by decide +kernel
theorem dX5_readsClause_85 : decode cX5_readsClause 85 = .ok (.aload_n 0, 1) := by decide +kernel
theorem dX5_readsClause_86 : decode cX5_readsClause 86 = .ok (.getfield 66, 3) := by decide +kernel
theorem dX5_readsClause_89 : decode cX5_readsClause 89 = .ok (.iadd, 1) := by decide +kernel
theorem dX5_readsClause_90 : decode cX5_readsClause 90 = .ok (.istore_n 3, 1) := by decide +kernel
theorem dX5_readsClause_91 : decode cX5_readsClause 91 = .ok (.aload_n 0, 1) := by decide +kernel
theorem dX5_readsClause_92 : decode cX5_readsClause 92 = .ok (.bipush 32, 2) := by decide +kernel
theorem dX5_readsClause_94 : decode cX5_readsClause 94 = .ok (.invokevirtual 44, 3) := by decide +kernel
theorem dX5_readsClause_97 : decode cX5_readsClause 97 = .ok (.ifCond .eq 11, 3) := by decide +kernel
theorem dX5_readsClause_100 : decode cX5_readsClause 100 = .ok (.aload_n 0, 1) := by decide +kernel
theorem dX5_readsClause_101 : decode cX5_readsClause 101 = .ok (.iconst 0, 1) := by decide +kernel
theorem dX5_readsClause_102 : decode cX5_readsClause 102 = .ok (.invokevirtual 69, 3) := by decide +kernel
theorem dX5_readsClause_105 : decode cX5_readsClause 105 = .ok (.ifCond .ne 5, 3) := by decide +kernel
theorem dX5_readsClause_108 : decode cX5_readsClause 108 = .ok (.iconst 0, 1) := by decide +kernel
theorem dX5_readsClause_109 : decode cX5_readsClause 109 = .ok (.ireturn, 1) := by decide +kernel
theorem dX5_readsClause_110 : decode cX5_readsClause 110 = .ok (.aload_n 0, 1) := by decide +kernel
theorem dX5_readsClause_111 : decode cX5_readsClause 111 = .ok (.getfield 14, 3) := by decide +kernel
theorem dX5_readsClause_114 : decode cX5_readsClause 114 = .ok (.iload_n 3, 1) := by decide +kernel
theorem dX5_readsClause_115 : decode cX5_readsClause 115 = .ok (.invokevirtual 72, 3) := by decide +kernel
theorem dX5_readsClause_118 : decode cX5_readsClause 118 = .ok (.iconst 1, 1) := by decide +kernel
theorem dX5_readsClause_119 : decode cX5_readsClause 119 = .ok (.ireturn, 1) := by decide +kernel
theorem dX5_readsMeasure_0 : decode cX5_readsMeasure 0 = .ok (.aload_n 0, 1) := by decide +kernel
theorem dX5_readsMeasure_1 : decode cX5_readsMeasure 1 = .ok (.iload_n 1, 1) := by decide +kernel
theorem dX5_readsMeasure_2 : decode cX5_readsMeasure 2 = .ok (.ifCond .eq 8, 3) := by decide +kernel
theorem dX5_readsMeasure_5 : decode cX5_readsMeasure 5 = .ok (.ldc 75, 2) := by decide +kernel
theorem dX5_readsMeasure_7 : decode cX5_readsMeasure 7 = .ok (.goto 5, 3) := by decide +kernel
theorem dX5_readsMeasure_10 : decode cX5_readsMeasure 10 = .ok (.ldc 77, 2) := by decide +kernel
theorem dX5_readsMeasure_12 : decode cX5_readsMeasure 12 = .ok (.invokevirtual 59, 3) := by decide +kernel
theorem dX5_readsMeasure_15 : decode cX5_readsMeasure 15 = .ok (.ifCond .eq 10, 3) := by decide +kernel
theorem dX5_readsMeasure_18 : decode cX5_readsMeasure 18 = .ok (.aload_n 0, 1) := by decide +kernel
theorem dX5_readsMeasure_19 : decode cX5_readsMeasure 19 = .ok (.invokevirtual 63, 3) := by decide +kernel
theorem dX5_readsMeasure_22 : decode cX5_readsMeasure 22 = .ok (.ifCond .ne 5, 3) := by decide +kernel
theorem dX5_readsMeasure_25 : decode cX5_readsMeasure 25 = .ok (.iconst 0, 1) := by decide +kernel
theorem dX5_readsMeasure_26 : decode cX5_readsMeasure 26 = .ok (.ireturn, 1) := by decide +kernel
theorem dX5_readsMeasure_27 : decode cX5_readsMeasure 27 = .ok (.iload_n 1, 1) := by decide +kernel
theorem dX5_readsMeasure_28 : decode cX5_readsMeasure 28 = .ok (.ifCond .eq 24, 3) := by decide +kernel
theorem dX5_readsMeasure_31 : decode cX5_readsMeasure 31 = .ok (.aload_n 0, 1) := by decide +kernel
theorem dX5_readsMeasure_32 : decode cX5_readsMeasure 32 = .ok (.bipush 10, 2) := by decide +kernel
theorem dX5_readsMeasure_34 : decode cX5_readsMeasure 34 = .ok (.bipush 30, 2) := by decide +kernel
theorem dX5_readsMeasure_36 : decode cX5_readsMeasure 36 = .ok (.aload_n 0, 1) := by decide +kernel
theorem dX5_readsMeasure_37 : decode cX5_readsMeasure 37 = .ok (.getfield 66, 3) := by decide +kernel
theorem dX5_readsMeasure_40 : decode cX5_readsMeasure 40 = .ok (.invokestatic 79, 3) := by decide +kernel
theorem dX5_readsMeasure_43 : decode cX5_readsMeasure 43 = .ok (.invokestatic 85, 3) := by decide +kernel
theorem dX5_readsMeasure_46 : decode cX5_readsMeasure 46 = .ok (.putfield 27, 3) := by decide +kernel
theorem dX5_readsMeasure_49 : decode cX5_readsMeasure 49 = .ok (.goto 11, 3) := by decide +kernel
theorem dX5_readsMeasure_52 : decode cX5_readsMeasure 52 = .ok (.aload_n 0, 1) := by decide +kernel
theorem dX5_readsMeasure_53 : decode cX5_readsMeasure 53 = .ok (.aload_n 0, 1) := by decide +kernel
theorem dX5_readsMeasure_54 : decode cX5_readsMeasure 54 = .ok (.getfield 66, 3) := by decide +kernel
theorem dX5_readsMeasure_57 : decode cX5_readsMeasure 57 = .ok (.putfield 30, 3) := by decide +kernel
theorem dX5_readsMeasure_60 : decode cX5_readsMeasure 60 = .ok (.iconst 1, 1) := by decide +kernel
theorem dX5_readsMeasure_61 : decode cX5_readsMeasure 61 = .ok (.ireturn, 1) := by decide +kernel
theorem dX5_readsEither_0 : decode cX5_readsEither 0 = .ok (.aload_n 0, 1) := by decide +kernel
theorem dX5_readsEither_1 : decode cX5_readsEither 1 = .ok (.iload_n 1, 1) := by decide +kernel
theorem dX5_readsEither_2 : decode cX5_readsEither 2 = .ok (.invokevirtual 88, 3) := by decide +kernel
theorem dX5_readsEither_5 : decode cX5_readsEither 5 = .ok (.ifCond .ne 5, 3) := by decide +kernel
theorem dX5_readsEither_8 : decode cX5_readsEither 8 = .ok (.iconst 0, 1) := by decide +kernel
theorem dX5_readsEither_9 : decode cX5_readsEither 9 = .ok (.ireturn, 1) := by decide +kernel
theorem dX5_readsEither_10 : decode cX5_readsEither 10 = .ok (.iconst 0, 1) := by decide +kernel
theorem dX5_readsEither_11 : decode cX5_readsEither 11 = .ok (.istore_n 2, 1) := by decide +kernel
theorem dX5_readsEither_12 : decode cX5_readsEither 12 = .ok (.iload_n 2, 1) := by decide +kernel
theorem dX5_readsEither_13 : decode cX5_readsEither 13 = .ok (.bipush 100, 2) := by decide +kernel
theorem dX5_readsEither_15 : decode cX5_readsEither 15 = .ok (.if_icmp .ge 36, 3) := by decide +kernel
theorem dX5_readsEither_18 : decode cX5_readsEither 18 = .ok (.aload_n 0, 1) := by decide +kernel
theorem dX5_readsEither_19 : decode cX5_readsEither 19 = .ok (.bipush 124, 2) := by decide +kernel
theorem dX5_readsEither_21 : decode cX5_readsEither 21 = .ok (.invokevirtual 44, 3) := by decide +kernel
theorem dX5_readsEither_24 : decode cX5_readsEither 24 = .ok (.ifCond .eq 27, 3) := by decide +kernel
theorem dX5_readsEither_27 : decode cX5_readsEither 27 = .ok (.aload_n 0, 1) := by decide +kernel
theorem dX5_readsEither_28 : decode cX5_readsEither 28 = .ok (.iload_n 1, 1) := by decide +kernel
theorem dX5_readsEither_29 : decode cX5_readsEither 29 = .ok (.invokevirtual 88, 3) := by decide +kernel
theorem dX5_readsEither_32 : decode cX5_readsEither 32 = .ok (.ifCond .ne 5, 3) := by decide +kernel
theorem dX5_readsEither_35 : decode cX5_readsEither 35 = .ok (.iconst 0, 1) := by decide +kernel
theorem dX5_readsEither_36 : decode cX5_readsEither 36 = .ok (.ireturn, 1) := by decide +kernel
theorem dX5_readsEither_37 : decode cX5_readsEither 37 = .ok (.aload_n 0, 1) := by decide +kernel
theorem dX5_readsEither_38 : decode cX5_readsEither 38 = .ok (.getfield 14, 3) := by decide +kernel
theorem dX5_readsEither_41 : decode cX5_readsEither 41 = .ok (.iconst 3, 1) := by decide +kernel
theorem dX5_readsEither_42 : decode cX5_readsEither 42 = .ok (.invokevirtual 72, 3) := by decide +kernel
theorem dX5_readsEither_45 : decode cX5_readsEither 45 = .ok (.iinc 2 1, 3) := by decide +kernel
theorem dX5_readsEither_48 : decode cX5_readsEither 48 = .ok (.goto (-36), 3) := by decide +kernel
theorem dX5_readsEither_51 : decode cX5_readsEither 51 = .ok (.iconst 1, 1) := by decide +kernel
theorem dX5_readsEither_52 : decode cX5_readsEither 52 = .ok (.ireturn, 1) := by decide +kernel
theorem dX5_readsBoth_0 : decode cX5_readsBoth 0 = .ok (.aload_n 0, 1) := by decide +kernel
theorem dX5_readsBoth_1 : decode cX5_readsBoth 1 = .ok (.iload_n 1, 1) := by decide +kernel
theorem dX5_readsBoth_2 : decode cX5_readsBoth 2 = .ok (.invokevirtual 91, 3) := by decide +kernel
theorem dX5_readsBoth_5 : decode cX5_readsBoth 5 = .ok (.ifCond .ne 5, 3) := by decide +kernel
theorem dX5_readsBoth_8 : decode cX5_readsBoth 8 = .ok (.iconst 0, 1) := by decide +kernel
theorem dX5_readsBoth_9 : decode cX5_readsBoth 9 = .ok (.ireturn, 1) := by decide +kernel
theorem dX5_readsBoth_10 : decode cX5_readsBoth 10 = .ok (.iconst 0, 1) := by decide +kernel
theorem dX5_readsBoth_11 : decode cX5_readsBoth 11 = .ok (.istore_n 2, 1) := by decide +kernel
theorem dX5_readsBoth_12 : decode cX5_readsBoth 12 = .ok (.iload_n 2, 1) := by decide +kernel
theorem dX5_readsBoth_13 : decode cX5_readsBoth 13 = .ok (.bipush 100, 2) := by decide +kernel
theorem dX5_readsBoth_15 : decode cX5_readsBoth 15 = .ok (.if_icmp .ge 36, 3) := by decide +kernel
theorem dX5_readsBoth_18 : decode cX5_readsBoth 18 = .ok (.aload_n 0, 1) := by decide +kernel
theorem dX5_readsBoth_19 : decode cX5_readsBoth 19 = .ok (.bipush 38, 2) := by decide +kernel
theorem dX5_readsBoth_21 : decode cX5_readsBoth 21 = .ok (.invokevirtual 44, 3) := by decide +kernel
theorem dX5_readsBoth_24 : decode cX5_readsBoth 24 = .ok (.ifCond .eq 27, 3) := by decide +kernel
theorem dX5_readsBoth_27 : decode cX5_readsBoth 27 = .ok (.aload_n 0, 1) := by decide +kernel
theorem dX5_readsBoth_28 : decode cX5_readsBoth 28 = .ok (.iload_n 1, 1) := by decide +kernel
theorem dX5_readsBoth_29 : decode cX5_readsBoth 29 = .ok (.invokevirtual 91, 3) := by decide +kernel
theorem dX5_readsBoth_32 : decode cX5_readsBoth 32 = .ok (.ifCond .ne 5, 3) := by decide +kernel
theorem dX5_readsBoth_35 : decode cX5_readsBoth 35 = .ok (.iconst 0, 1) := by decide +kernel
theorem dX5_readsBoth_36 : decode cX5_readsBoth 36 = .ok (.ireturn, 1) := by decide +kernel
theorem dX5_readsBoth_37 : decode cX5_readsBoth 37 = .ok (.aload_n 0, 1) := by decide +kernel
theorem dX5_readsBoth_38 : decode cX5_readsBoth 38 = .ok (.getfield 14, 3) := by decide +kernel
theorem dX5_readsBoth_41 : decode cX5_readsBoth 41 = .ok (.iconst 2, 1) := by decide +kernel
theorem dX5_readsBoth_42 : decode cX5_readsBoth 42 = .ok (.invokevirtual 72, 3) := by decide +kernel
theorem dX5_readsBoth_45 : decode cX5_readsBoth 45 = .ok (.iinc 2 1, 3) := by decide +kernel
theorem dX5_readsBoth_48 : decode cX5_readsBoth 48 = .ok (.goto (-36), 3) := by decide +kernel
theorem dX5_readsBoth_51 : decode cX5_readsBoth 51 = .ok (.iconst 1, 1) := by decide +kernel
theorem dX5_readsBoth_52 : decode cX5_readsBoth 52 = .ok (.ireturn, 1) := by decide +kernel
theorem dX5_readsOne_0 : decode cX5_readsOne 0 = .ok (.aload_n 0, 1) := by decide +kernel
theorem dX5_readsOne_1 : decode cX5_readsOne 1 = .ok (.invokevirtual 48, 3) := by decide +kernel
theorem dX5_readsOne_4 : decode cX5_readsOne 4 = .ok (.istore_n 2, 1) := by decide +kernel
theorem dX5_readsOne_5 : decode cX5_readsOne 5 = .ok (.iload_n 2, 1) := by decide +kernel
theorem dX5_readsOne_6 : decode cX5_readsOne 6 = .ok (.bipush 33, 2) := by decide +kernel
theorem dX5_readsOne_8 : decode cX5_readsOne 8 = .ok (.if_icmp .eq 14, 3) := by decide +kernel
theorem dX5_readsOne_11 : decode cX5_readsOne 11 = .ok (.iload_n 2, 1) := by decide +kernel
theorem dX5_readsOne_12 : decode cX5_readsOne 12 = .ok (.bipush 40, 2) := by decide +kernel
theorem dX5_readsOne_14 : decode cX5_readsOne 14 = .ok (.if_icmp .eq 8, 3) := by decide +kernel
theorem dX5_readsOne_17 : decode cX5_readsOne 17 = .ok (.aload_n 0, 1) := by decide +kernel
theorem dX5_readsOne_18 : decode cX5_readsOne 18 = .ok (.invokevirtual 94, 3) := by decide +kernel
theorem dX5_readsOne_21 : decode cX5_readsOne 21 = .ok (.ireturn, 1) := by decide +kernel
theorem dX5_readsOne_22 : decode cX5_readsOne 22 = .ok (.iload_n 1, 1) := by decide +kernel
theorem dX5_readsOne_23 : decode cX5_readsOne 23 = .ok (.iconst 5, 1) := by decide +kernel
theorem dX5_readsOne_24 : decode cX5_readsOne 24 = .ok (.if_icmp .lt 5, 3) := by decide +kernel
theorem dX5_readsOne_27 : decode cX5_readsOne 27 = .ok (.iconst 0, 1) := by decide +kernel
theorem dX5_readsOne_28 : decode cX5_readsOne 28 = .ok (.ireturn, 1) := by decide +kernel
theorem dX5_readsOne_29 : decode cX5_readsOne 29 = .ok (.aload_n 0, 1) := by decide +kernel
theorem dX5_readsOne_30 : decode cX5_readsOne 30 = .ok (.dup, 1) := by decide +kernel
theorem dX5_readsOne_31 : decode cX5_readsOne 31 = .ok (.getfield 23, 3) := by decide +kernel
theorem dX5_readsOne_34 : decode cX5_readsOne 34 = .ok (.iconst 1, 1) := by decide +kernel
theorem dX5_readsOne_35 : decode cX5_readsOne 35 = .ok (.iadd, 1) := by decide +kernel
theorem dX5_readsOne_36 : decode cX5_readsOne 36 = .ok (.putfield 23, 3) := by decide +kernel
theorem dX5_readsOne_39 : decode cX5_readsOne 39 = .ok (.iload_n 2, 1) := by decide +kernel
theorem dX5_readsOne_40 : decode cX5_readsOne 40 = .ok (.bipush 40, 2) := by decide +kernel
theorem dX5_readsOne_42 : decode cX5_readsOne 42 = .ok (.if_icmp .ne 30, 3) := by decide +kernel
theorem dX5_readsOne_45 : decode cX5_readsOne 45 = .ok (.aload_n 0, 1) := by decide +kernel
theorem dX5_readsOne_46 : decode cX5_readsOne 46 = .ok (.iload_n 1, 1) := by decide +kernel
theorem dX5_readsOne_47 : decode cX5_readsOne 47 = .ok (.iconst 1, 1) := by decide +kernel
theorem dX5_readsOne_48 : decode cX5_readsOne 48 = .ok (.iadd, 1) := by decide +kernel
theorem dX5_readsOne_49 : decode cX5_readsOne 49 = .ok (.invokevirtual 69, 3) := by decide +kernel
theorem dX5_readsOne_52 : decode cX5_readsOne 52 = .ok (.ifCond .eq 16, 3) := by decide +kernel
theorem dX5_readsOne_55 : decode cX5_readsOne 55 = .ok (.aload_n 0, 1) := by decide +kernel
theorem dX5_readsOne_56 : decode cX5_readsOne 56 = .ok (.bipush 41, 2) := by decide +kernel
theorem dX5_readsOne_58 : decode cX5_readsOne 58 = .ok (.invokevirtual 44, 3) := by decide +kernel
theorem dX5_readsOne_61 : decode cX5_readsOne 61 = .ok (.ifCond .eq 7, 3) := by decide +kernel
theorem dX5_readsOne_64 : decode cX5_readsOne 64 = .ok (.iconst 1, 1) := by decide +kernel
theorem dX5_readsOne_65 : decode cX5_readsOne 65 = .ok (.goto 14, 3) := by decide +kernel
theorem dX5_readsOne_68 : decode cX5_readsOne 68 = .ok (.iconst 0, 1) := by decide +kernel
theorem dX5_readsOne_69 : decode cX5_readsOne 69 = .ok (.goto 10, 3) := by decide +kernel
theorem dX5_readsOne_72 : decode cX5_readsOne 72 = .ok (.aload_n 0, 1) := by decide +kernel
theorem dX5_readsOne_73 : decode cX5_readsOne 73 = .ok (.iload_n 1, 1) := by decide +kernel
theorem dX5_readsOne_74 : decode cX5_readsOne 74 = .ok (.iconst 1, 1) := by decide +kernel
theorem dX5_readsOne_75 : decode cX5_readsOne 75 = .ok (.iadd, 1) := by decide +kernel
theorem dX5_readsOne_76 : decode cX5_readsOne 76 = .ok (.invokevirtual 97, 3) := by decide +kernel
theorem dX5_readsOne_79 : decode cX5_readsOne 79 = .ok (.ireturn, 1) := by decide +kernel
theorem dX5_readsOpposite_0 : decode cX5_readsOpposite 0 = .ok (.aload_n 0, 1) := by decide +kernel
theorem dX5_readsOpposite_1 : decode cX5_readsOpposite 1 = .ok (.iload_n 1, 1) := by decide +kernel
theorem dX5_readsOpposite_2 : decode cX5_readsOpposite 2 = .ok (.invokevirtual 91, 3) := by decide +kernel
theorem dX5_readsOpposite_5 : decode cX5_readsOpposite 5 = .ok (.ifCond .ne 5, 3) := by decide +kernel
theorem dX5_readsOpposite_8 : decode cX5_readsOpposite 8 = .ok (.iconst 0, 1) := by decide +kernel
theorem dX5_readsOpposite_9 : decode cX5_readsOpposite 9 = .ok (.ireturn, 1) := by decide +kernel
theorem dX5_readsOpposite_10 : decode cX5_readsOpposite 10 = .ok (.aload_n 0, 1) := by decide +kernel
theorem dX5_readsOpposite_11 : decode cX5_readsOpposite 11 = .ok (.getfield 14, 3) := by decide +kernel
theorem dX5_readsOpposite_14 : decode cX5_readsOpposite 14 = .ok (.iconst 1, 1) := by decide +kernel
theorem dX5_readsOpposite_15 : decode cX5_readsOpposite 15 = .ok (.invokevirtual 72, 3) := by decide +kernel
theorem dX5_readsOpposite_18 : decode cX5_readsOpposite 18 = .ok (.iconst 1, 1) := by decide +kernel
theorem dX5_readsOpposite_19 : decode cX5_readsOpposite 19 = .ok (.ireturn, 1) := by decide +kernel
theorem dX5_readsTest_0 : decode cX5_readsTest 0 = .ok (.aload_n 0, 1) := by decide +kernel
theorem dX5_readsTest_1 : decode cX5_readsTest 1 = .ok (.ldc 100, 2) := by decide +kernel
theorem dX5_readsTest_3 : decode cX5_readsTest 3 = .ok (.invokevirtual 102, 3) := by decide +kernel
theorem dX5_readsTest_6 : decode cX5_readsTest 6 = .ok (.istore_n 1, 1) := by decide +kernel
theorem dX5_readsTest_7 : decode cX5_readsTest 7 = .ok (.iload_n 1, 1) := by decide +kernel
theorem dX5_readsTest_8 : decode cX5_readsTest 8 = .ok (.ifCond .ge 5, 3) := by decide +kernel
theorem dX5_readsTest_11 : decode cX5_readsTest 11 = .ok (.iconst 0, 1) := by decide +kernel
theorem dX5_readsTest_12 : decode cX5_readsTest 12 = .ok (.ireturn, 1) := by decide +kernel
theorem dX5_readsTest_13 : decode cX5_readsTest 13 = .ok (.aload_n 0, 1) := by decide +kernel
theorem dX5_readsTest_14 : decode cX5_readsTest 14 = .ok (.ldc 106, 2) := by decide +kernel
theorem dX5_readsTest_16 : decode cX5_readsTest 16 = .ok (.invokevirtual 102, 3) := by decide +kernel
theorem dX5_readsTest_19 : decode cX5_readsTest 19 = .ok (.istore_n 2, 1) := by decide +kernel
theorem dX5_readsTest_20 : decode cX5_readsTest 20 = .ok (.iload_n 2, 1) := by decide +kernel
theorem dX5_readsTest_21 : decode cX5_readsTest 21 = .ok (.ifCond .lt 10, 3) := by decide +kernel
theorem dX5_readsTest_24 : decode cX5_readsTest 24 = .ok (.aload_n 0, 1) := by decide +kernel
theorem dX5_readsTest_25 : decode cX5_readsTest 25 = .ok (.invokevirtual 63, 3) := by decide +kernel
theorem dX5_readsTest_28 : decode cX5_readsTest 28 = .ok (.ifCond .ne 5, 3) := by decide +kernel
theorem dX5_readsTest_31 : decode cX5_readsTest 31 = .ok (.iconst 0, 1) := by decide +kernel
theorem dX5_readsTest_32 : decode cX5_readsTest 32 = .ok (.ireturn, 1) := by decide +kernel
theorem dX5_readsTest_33 : decode cX5_readsTest 33 = .ok (.aload_n 0, 1) := by decide +kernel
theorem dX5_readsTest_34 : decode cX5_readsTest 34 = .ok (.getfield 14, 3) := by decide +kernel
theorem dX5_readsTest_37 : decode cX5_readsTest 37 = .ok (.sipush 1000, 3) := by decide +kernel
theorem dX5_readsTest_40 : decode cX5_readsTest 40 = .ok (.iload_n 1, 1) := by decide +kernel
theorem dX5_readsTest_41 : decode cX5_readsTest 41 = .ok (.iconst 3, 1) := by decide +kernel
theorem dX5_readsTest_42 : decode cX5_readsTest 42 = .ok (.imul, 1) := by decide +kernel
theorem dX5_readsTest_43 : decode cX5_readsTest 43 = .ok (.iload_n 2, 1) := by decide +kernel
theorem dX5_readsTest_44 : decode cX5_readsTest 44 = .ok (.iadd, 1) := by decide +kernel
theorem dX5_readsTest_45 : decode cX5_readsTest 45 = .ok (.bipush 100, 2) := by decide +kernel
theorem dX5_readsTest_47 : decode cX5_readsTest 47 = .ok (.imul, 1) := by decide +kernel
theorem dX5_readsTest_48 : decode cX5_readsTest 48 = .ok (.iadd, 1) := by decide +kernel
theorem dX5_readsTest_49 : decode cX5_readsTest 49 = .ok (.aload_n 0, 1) := by decide +kernel
theorem dX5_readsTest_50 : decode cX5_readsTest 50 = .ok (.getfield 66, 3) := by decide +kernel
theorem dX5_readsTest_53 : decode cX5_readsTest 53 = .ok (.iadd, 1) := by decide +kernel
theorem dX5_readsTest_54 : decode cX5_readsTest 54 = .ok (.invokevirtual 72, 3) := by decide +kernel
theorem dX5_readsTest_57 : decode cX5_readsTest 57 = .ok (.iconst 1, 1) := by decide +kernel
theorem dX5_readsTest_58 : decode cX5_readsTest 58 = .ok (.ireturn, 1) := by decide +kernel
theorem dX5_takesNumber_0 : decode cX5_takesNumber 0 = .ok (.aload_n 0, 1) := by decide +kernel
theorem dX5_takesNumber_1 : decode cX5_takesNumber 1 = .ok (.invokevirtual 48, 3) := by decide +kernel
theorem dX5_takesNumber_4 : decode cX5_takesNumber 4 = .ok (.istore_n 1, 1) := by decide +kernel
theorem dX5_takesNumber_5 : decode cX5_takesNumber 5 = .ok (.iload_n 1, 1) := by decide +kernel
theorem dX5_takesNumber_6 : decode cX5_takesNumber 6 = .ok (.bipush 48, 2) := by decide +kernel
theorem dX5_takesNumber_8 : decode cX5_takesNumber 8 = .ok (.if_icmp .lt 9, 3) := by decide +kernel
theorem dX5_takesNumber_11 : decode cX5_takesNumber 11 = .ok (.iload_n 1, 1) := by decide +kernel
theorem dX5_takesNumber_12 : decode cX5_takesNumber 12 = .ok (.bipush 57, 2) := by decide +kernel
theorem dX5_takesNumber_14 : decode cX5_takesNumber 14 = .ok (.if_icmp .le 5, 3) := by decide +kernel
theorem dX5_takesNumber_17 : decode cX5_takesNumber 17 = .ok (.iconst 0, 1) := by decide +kernel
theorem dX5_takesNumber_18 : decode cX5_takesNumber 18 = .ok (.ireturn, 1) := by decide +kernel
theorem dX5_takesNumber_19 : decode cX5_takesNumber 19 = .ok (.aload_n 0, 1) := by decide +kernel
theorem dX5_takesNumber_20 : decode cX5_takesNumber 20 = .ok (.dup, 1) := by decide +kernel
theorem dX5_takesNumber_21 : decode cX5_takesNumber 21 = .ok (.getfield 23, 3) := by decide +kernel
theorem dX5_takesNumber_24 : decode cX5_takesNumber 24 = .ok (.iconst 1, 1) := by decide +kernel
theorem dX5_takesNumber_25 : decode cX5_takesNumber 25 = .ok (.iadd, 1) := by decide +kernel
theorem dX5_takesNumber_26 : decode cX5_takesNumber 26 = .ok (.putfield 23, 3) := by decide +kernel
theorem dX5_takesNumber_29 : decode cX5_takesNumber 29 = .ok (.aload_n 0, 1) := by decide +kernel
theorem dX5_takesNumber_30 : decode cX5_takesNumber 30 = .ok (.iload_n 1, 1) := by decide +kernel
theorem dX5_takesNumber_31 : decode cX5_takesNumber 31 = .ok (.bipush 48, 2) := by decide +kernel
theorem dX5_takesNumber_33 : decode cX5_takesNumber 33 = .ok (.isub, 1) := by decide +kernel
theorem dX5_takesNumber_34 : decode cX5_takesNumber 34 = .ok (.putfield 66, 3) := by decide +kernel
theorem dX5_takesNumber_37 : decode cX5_takesNumber 37 = .ok (.aload_n 0, 1) := by decide +kernel
theorem dX5_takesNumber_38 : decode cX5_takesNumber 38 = .ok (.invokevirtual 48, 3) := by decide +kernel
theorem dX5_takesNumber_41 : decode cX5_takesNumber 41 = .ok (.istore_n 1, 1) := by decide +kernel
theorem dX5_takesNumber_42 : decode cX5_takesNumber 42 = .ok (.aload_n 0, 1) := by decide +kernel
theorem dX5_takesNumber_43 : decode cX5_takesNumber 43 = .ok (.getfield 66, 3) := by decide +kernel
theorem dX5_takesNumber_46 : decode cX5_takesNumber 46 = .ok (.ifCond .le 41, 3) := by decide +kernel
theorem dX5_takesNumber_49 : decode cX5_takesNumber 49 = .ok (.iload_n 1, 1) := by decide +kernel
theorem dX5_takesNumber_50 : decode cX5_takesNumber 50 = .ok (.bipush 48, 2) := by decide +kernel
theorem dX5_takesNumber_52 : decode cX5_takesNumber 52 = .ok (.if_icmp .lt 35, 3) := by decide +kernel
theorem dX5_takesNumber_55 : decode cX5_takesNumber 55 = .ok (.iload_n 1, 1) := by decide +kernel
theorem dX5_takesNumber_56 : decode cX5_takesNumber 56 = .ok (.bipush 57, 2) := by decide +kernel
theorem dX5_takesNumber_58 : decode cX5_takesNumber 58 = .ok (.if_icmp .gt 29, 3) := by decide +kernel
theorem dX5_takesNumber_61 : decode cX5_takesNumber 61 = .ok (.aload_n 0, 1) := by decide +kernel
theorem dX5_takesNumber_62 : decode cX5_takesNumber 62 = .ok (.dup, 1) := by decide +kernel
theorem dX5_takesNumber_63 : decode cX5_takesNumber 63 = .ok (.getfield 23, 3) := by decide +kernel
theorem dX5_takesNumber_66 : decode cX5_takesNumber 66 = .ok (.iconst 1, 1) := by decide +kernel
theorem dX5_takesNumber_67 : decode cX5_takesNumber 67 = .ok (.iadd, 1) := by decide +kernel
theorem dX5_takesNumber_68 : decode cX5_takesNumber 68 = .ok (.putfield 23, 3) := by decide +kernel
theorem dX5_takesNumber_71 : decode cX5_takesNumber 71 = .ok (.aload_n 0, 1) := by decide +kernel
theorem dX5_takesNumber_72 : decode cX5_takesNumber 72 = .ok (.aload_n 0, 1) := by decide +kernel
theorem dX5_takesNumber_73 : decode cX5_takesNumber 73 = .ok (.getfield 66, 3) := by decide +kernel
theorem dX5_takesNumber_76 : decode cX5_takesNumber 76 = .ok (.bipush 10, 2) := by decide +kernel
theorem dX5_takesNumber_78 : decode cX5_takesNumber 78 = .ok (.imul, 1) := by decide +kernel
theorem dX5_takesNumber_79 : decode cX5_takesNumber 79 = .ok (.iload_n 1, 1) := by decide +kernel
theorem dX5_takesNumber_80 : decode cX5_takesNumber 80 = .ok (.iadd, 1) := by decide +kernel
theorem dX5_takesNumber_81 : decode cX5_takesNumber 81 = .ok (.bipush 48, 2) := by decide +kernel
theorem dX5_takesNumber_83 : decode cX5_takesNumber 83 = .ok (.isub, 1) := by decide +kernel
theorem dX5_takesNumber_84 : decode cX5_takesNumber 84 = .ok (.putfield 66, 3) := by decide +kernel
theorem dX5_takesNumber_87 : decode cX5_takesNumber 87 = .ok (.iconst 1, 1) := by decide +kernel
theorem dX5_takesNumber_88 : decode cX5_takesNumber 88 = .ok (.ireturn, 1) := by decide +kernel
theorem dX5_takesWord_0 : decode cX5_takesWord 0 = .ok (.iconst 0, 1) := by decide +kernel
theorem dX5_takesWord_1 : decode cX5_takesWord 1 = .ok (.istore_n 2, 1) := by decide +kernel
theorem dX5_takesWord_2 : decode cX5_takesWord 2 = .ok (.iload_n 2, 1) := by decide +kernel
theorem dX5_takesWord_3 : decode cX5_takesWord 3 = .ok (.aload_n 1, 1) := by decide +kernel
theorem dX5_takesWord_4 : decode cX5_takesWord 4 = .ok (.invokevirtual 108, 3) := by decide +kernel
theorem dX5_takesWord_7 : decode cX5_takesWord 7 = .ok (.if_icmp .ge 23, 3) := by decide +kernel
theorem dX5_takesWord_10 : decode cX5_takesWord 10 = .ok (.aload_n 0, 1) := by decide +kernel
theorem dX5_takesWord_11 : decode cX5_takesWord 11 = .ok (.aload_n 1, 1) := by decide +kernel
theorem dX5_takesWord_12 : decode cX5_takesWord 12 = .ok (.iload_n 2, 1) := by decide +kernel
theorem dX5_takesWord_13 : decode cX5_takesWord 13 = .ok (.invokevirtual 113, 3) := by decide +kernel
theorem dX5_takesWord_16 : decode cX5_takesWord 16 = .ok (.invokevirtual 44, 3) := by decide +kernel
theorem dX5_takesWord_19 : decode cX5_takesWord 19 = .ok (.ifCond .ne 5, 3) := by decide +kernel
theorem dX5_takesWord_22 : decode cX5_takesWord 22 = .ok (.iconst 0, 1) := by decide +kernel
theorem dX5_takesWord_23 : decode cX5_takesWord 23 = .ok (.ireturn, 1) := by decide +kernel
theorem dX5_takesWord_24 : decode cX5_takesWord 24 = .ok (.iinc 2 1, 3) := by decide +kernel
theorem dX5_takesWord_27 : decode cX5_takesWord 27 = .ok (.goto (-25), 3) := by decide +kernel
theorem dX5_takesWord_30 : decode cX5_takesWord 30 = .ok (.iconst 1, 1) := by decide +kernel
theorem dX5_takesWord_31 : decode cX5_takesWord 31 = .ok (.ireturn, 1) := by decide +kernel
theorem dX5_takesOneOf_0 : decode cX5_takesOneOf 0 = .ok (.aload_n 0, 1) := by decide +kernel
theorem dX5_takesOneOf_1 : decode cX5_takesOneOf 1 = .ok (.invokevirtual 48, 3) := by decide +kernel
theorem dX5_takesOneOf_4 : decode cX5_takesOneOf 4 = .ok (.istore_n 2, 1) := by decide +kernel
theorem dX5_takesOneOf_5 : decode cX5_takesOneOf 5 = .ok (.iconst 0, 1) := by decide +kernel
theorem dX5_takesOneOf_6 : decode cX5_takesOneOf 6 = .ok (.istore_n 3, 1) := by decide +kernel
theorem dX5_takesOneOf_7 : decode cX5_takesOneOf 7 = .ok (.iload_n 3, 1) := by decide +kernel
theorem dX5_takesOneOf_8 : decode cX5_takesOneOf 8 = .ok (.aload_n 1, 1) := by decide +kernel
theorem dX5_takesOneOf_9 : decode cX5_takesOneOf 9 = .ok (.invokevirtual 108, 3) := by decide +kernel
theorem dX5_takesOneOf_12 : decode cX5_takesOneOf 12 = .ok (.if_icmp .ge 30, 3) := by decide +kernel
theorem dX5_takesOneOf_15 : decode cX5_takesOneOf 15 = .ok (.aload_n 1, 1) := by decide +kernel
theorem dX5_takesOneOf_16 : decode cX5_takesOneOf 16 = .ok (.iload_n 3, 1) := by decide +kernel
theorem dX5_takesOneOf_17 : decode cX5_takesOneOf 17 = .ok (.invokevirtual 113, 3) := by decide +kernel
theorem dX5_takesOneOf_20 : decode cX5_takesOneOf 20 = .ok (.iload_n 2, 1) := by decide +kernel
theorem dX5_takesOneOf_21 : decode cX5_takesOneOf 21 = .ok (.if_icmp .ne 15, 3) := by decide +kernel
theorem dX5_takesOneOf_24 : decode cX5_takesOneOf 24 = .ok (.aload_n 0, 1) := by decide +kernel
theorem dX5_takesOneOf_25 : decode cX5_takesOneOf 25 = .ok (.dup, 1) := by decide +kernel
theorem dX5_takesOneOf_26 : decode cX5_takesOneOf 26 = .ok (.getfield 23, 3) := by decide +kernel
theorem dX5_takesOneOf_29 : decode cX5_takesOneOf 29 = .ok (.iconst 1, 1) := by decide +kernel
theorem dX5_takesOneOf_30 : decode cX5_takesOneOf 30 = .ok (.iadd, 1) := by decide +kernel
theorem dX5_takesOneOf_31 : decode cX5_takesOneOf 31 = .ok (.putfield 23, 3) := by decide +kernel
theorem dX5_takesOneOf_34 : decode cX5_takesOneOf 34 = .ok (.iload_n 3, 1) := by decide +kernel
theorem dX5_takesOneOf_35 : decode cX5_takesOneOf 35 = .ok (.ireturn, 1) := by decide +kernel
theorem dX5_takesOneOf_36 : decode cX5_takesOneOf 36 = .ok (.iinc 3 1, 3) := by decide +kernel
theorem dX5_takesOneOf_39 : decode cX5_takesOneOf 39 = .ok (.goto (-32), 3) := by decide +kernel
theorem dX5_takesOneOf_42 : decode cX5_takesOneOf 42 = .ok (.iconst (-1), 1) := by decide +kernel
theorem dX5_takesOneOf_43 : decode cX5_takesOneOf 43 = .ok (.ireturn, 1) := by decide +kernel
theorem dX5_takes_0 : decode cX5_takes 0 = .ok (.aload_n 0, 1) := by decide +kernel
theorem dX5_takes_1 : decode cX5_takes 1 = .ok (.invokevirtual 48, 3) := by decide +kernel
theorem dX5_takes_4 : decode cX5_takes 4 = .ok (.iload_n 1, 1) := by decide +kernel
theorem dX5_takes_5 : decode cX5_takes 5 = .ok (.if_icmp .eq 5, 3) := by decide +kernel
theorem dX5_takes_8 : decode cX5_takes 8 = .ok (.iconst 0, 1) := by decide +kernel
theorem dX5_takes_9 : decode cX5_takes 9 = .ok (.ireturn, 1) := by decide +kernel
theorem dX5_takes_10 : decode cX5_takes 10 = .ok (.aload_n 0, 1) := by decide +kernel
theorem dX5_takes_11 : decode cX5_takes 11 = .ok (.dup, 1) := by decide +kernel
theorem dX5_takes_12 : decode cX5_takes 12 = .ok (.getfield 23, 3) := by decide +kernel
theorem dX5_takes_15 : decode cX5_takes 15 = .ok (.iconst 1, 1) := by decide +kernel
theorem dX5_takes_16 : decode cX5_takes 16 = .ok (.iadd, 1) := by decide +kernel
theorem dX5_takes_17 : decode cX5_takes 17 = .ok (.putfield 23, 3) := by decide +kernel
theorem dX5_takes_20 : decode cX5_takes 20 = .ok (.iconst 1, 1) := by decide +kernel
theorem dX5_takes_21 : decode cX5_takes 21 = .ok (.ireturn, 1) := by decide +kernel
theorem dX5_next_0 : decode cX5_next 0 = .ok (.aload_n 0, 1) := by decide +kernel
theorem dX5_next_1 : decode cX5_next 1 = .ok (.getfield 23, 3) := by decide +kernel
theorem dX5_next_4 : decode cX5_next 4 = .ok (.aload_n 0, 1) := by decide +kernel
theorem dX5_next_5 : decode cX5_next 5 = .ok (.getfield 20, 3) := by decide +kernel
theorem dX5_next_8 : decode cX5_next 8 = .ok (.invokevirtual 40, 3) := by decide +kernel
theorem dX5_next_11 : decode cX5_next 11 = .ok (.if_icmp .ge 17, 3) := by decide +kernel
theorem dX5_next_14 : decode cX5_next 14 = .ok (.aload_n 0, 1) := by decide +kernel
theorem dX5_next_15 : decode cX5_next 15 = .ok (.getfield 20, 3) := by decide +kernel
theorem dX5_next_18 : decode cX5_next 18 = .ok (.aload_n 0, 1) := by decide +kernel
theorem dX5_next_19 : decode cX5_next 19 = .ok (.getfield 23, 3) := by decide +kernel
theorem dX5_next_22 : decode cX5_next 22 = .ok (.invokevirtual 117, 3) := by decide +kernel
theorem dX5_next_25 : decode cX5_next 25 = .ok (.goto 4, 3) := by decide +kernel
theorem dX5_next_28 : decode cX5_next 28 = .ok (.iconst (-1), 1) := by decide +kernel
theorem dX5_next_29 : decode cX5_next 29 = .ok (.ireturn, 1) := by decide +kernel
theorem dX6_init_0 : decode cX6_init 0 = .ok (.aload_n 0, 1) := by decide +kernel
theorem dX6_init_1 : decode cX6_init 1 = .ok (.invokespecial 1, 3) := by decide +kernel
theorem dX6_init_4 : decode cX6_init 4 = .ok (.aload_n 0, 1) := by decide +kernel
theorem dX6_init_5 : decode cX6_init 5 = .ok (.iload_n 1, 1) := by decide +kernel
theorem dX6_init_6 : decode cX6_init 6 = .ok (.iconst 0, 1) := by decide +kernel
theorem dX6_init_7 : decode cX6_init 7 = .ok (.invokestatic 7, 3) := by decide +kernel
theorem dX6_init_10 : decode cX6_init 10 = .ok (.newarray .int, 2) := by decide +kernel
theorem dX6_init_12 : decode cX6_init 12 = .ok (.putfield 13, 3) := by decide +kernel
theorem dX6_init_15 : decode cX6_init 15 = .ok (.return_, 1) := by decide +kernel
theorem dX6_size_0 : decode cX6_size 0 = .ok (.aload_n 0, 1) := by decide +kernel
theorem dX6_size_1 : decode cX6_size 1 = .ok (.getfield 19, 3) := by decide +kernel
theorem dX6_size_4 : decode cX6_size 4 = .ok (.ireturn, 1) := by decide +kernel
theorem dX6_get_0 : decode cX6_get 0 = .ok (.iload_n 1, 1) := by decide +kernel
theorem dX6_get_1 : decode cX6_get 1 = .ok (.ifCond .lt 21, 3) := by decide +kernel
theorem dX6_get_4 : decode cX6_get 4 = .ok (.iload_n 1, 1) := by decide +kernel
theorem dX6_get_5 : decode cX6_get 5 = .ok (.aload_n 0, 1) := by decide +kernel
theorem dX6_get_6 : decode cX6_get 6 = .ok (.getfield 13, 3) := by decide +kernel
theorem dX6_get_9 : decode cX6_get 9 = .ok (.arraylength, 1) := by decide +kernel
theorem dX6_get_10 : decode cX6_get 10 = .ok (.if_icmp .ge 12, 3) := by decide +kernel
theorem dX6_get_13 : decode cX6_get 13 = .ok (.aload_n 0, 1) := by decide +kernel
theorem dX6_get_14 : decode cX6_get 14 = .ok (.getfield 13, 3) := by decide +kernel
theorem dX6_get_17 : decode cX6_get 17 = .ok (.iload_n 1, 1) := by decide +kernel
theorem dX6_get_18 : decode cX6_get 18 = .ok (.iaload, 1) := by decide +kernel
theorem dX6_get_19 : decode cX6_get 19 = .ok (.goto 4, 3) := by decide +kernel
theorem dX6_get_22 : decode cX6_get 22 = .ok (.iconst 0, 1) := by decide +kernel
theorem dX6_get_23 : decode cX6_get 23 = .ok (.ireturn, 1) := by decide +kernel
theorem dX6_set_0 : decode cX6_set 0 = .ok (.iload_n 1, 1) := by decide +kernel
theorem dX6_set_1 : decode cX6_set 1 = .ok (.ifCond .lt 19, 3) := by decide +kernel
theorem dX6_set_4 : decode cX6_set 4 = .ok (.iload_n 1, 1) := by decide +kernel
theorem dX6_set_5 : decode cX6_set 5 = .ok (.aload_n 0, 1) := by decide +kernel
theorem dX6_set_6 : decode cX6_set 6 = .ok (.getfield 13, 3) := by decide +kernel
theorem dX6_set_9 : decode cX6_set 9 = .ok (.arraylength, 1) := by decide +kernel
theorem dX6_set_10 : decode cX6_set 10 = .ok (.if_icmp .ge 10, 3) := by decide +kernel
theorem dX6_set_13 : decode cX6_set 13 = .ok (.aload_n 0, 1) := by decide +kernel
theorem dX6_set_14 : decode cX6_set 14 = .ok (.getfield 13, 3) := by decide +kernel
theorem dX6_set_17 : decode cX6_set 17 = .ok (.iload_n 1, 1) := by decide +kernel
theorem dX6_set_18 : decode cX6_set 18 = .ok (.iload_n 2, 1) := by decide +kernel
theorem dX6_set_19 : decode cX6_set 19 = .ok (.iastore, 1) := by decide +kernel
theorem dX6_set_20 : decode cX6_set 20 = .ok (.return_, 1) := by decide +kernel
theorem dX6_add_0 : decode cX6_add 0 = .ok (.aload_n 0, 1) := by decide +kernel
theorem dX6_add_1 : decode cX6_add 1 = .ok (.getfield 19, 3) := by decide +kernel
theorem dX6_add_4 : decode cX6_add 4 = .ok (.ifCond .lt 25, 3) := by decide +kernel
theorem dX6_add_7 : decode cX6_add 7 = .ok (.aload_n 0, 1) := by decide +kernel
theorem dX6_add_8 : decode cX6_add 8 = .ok (.getfield 19, 3) := by decide +kernel
theorem dX6_add_11 : decode cX6_add 11 = .ok (.aload_n 0, 1) := by decide +kernel
theorem dX6_add_12 : decode cX6_add 12 = .ok (.getfield 13, 3) := by decide +kernel
theorem dX6_add_15 : decode cX6_add 15 = .ok (.arraylength, 1) := by decide +kernel
theorem dX6_add_16 : decode cX6_add 16 = .ok (.if_icmp .ge 13, 3) := by decide +kernel
theorem dX6_add_19 : decode cX6_add 19 = .ok (.aload_n 0, 1) := by decide +kernel
theorem dX6_add_20 : decode cX6_add 20 = .ok (.getfield 13, 3) := by decide +kernel
theorem dX6_add_23 : decode cX6_add 23 = .ok (.aload_n 0, 1) := by decide +kernel
theorem dX6_add_24 : decode cX6_add 24 = .ok (.getfield 19, 3) := by decide +kernel
theorem dX6_add_27 : decode cX6_add 27 = .ok (.iload_n 1, 1) := by decide +kernel
theorem dX6_add_28 : decode cX6_add 28 = .ok (.iastore, 1) := by decide +kernel
theorem dX6_add_29 : decode cX6_add 29 = .ok (.aload_n 0, 1) := by decide +kernel
theorem dX6_add_30 : decode cX6_add 30 = .ok (.dup, 1) := by decide +kernel
theorem dX6_add_31 : decode cX6_add 31 = .ok (.getfield 19, 3) := by decide +kernel
theorem dX6_add_34 : decode cX6_add 34 = .ok (.iconst 1, 1) := by decide +kernel
theorem dX6_add_35 : decode cX6_add 35 = .ok (.iadd, 1) := by decide +kernel
theorem dX6_add_36 : decode cX6_add 36 = .ok (.putfield 19, 3) := by decide +kernel
theorem dX6_add_39 : decode cX6_add 39 = .ok (.return_, 1) := by decide +kernel
theorem dX6_clear_0 : decode cX6_clear 0 = .ok (.aload_n 0, 1) := by decide +kernel
theorem dX6_clear_1 : decode cX6_clear 1 = .ok (.iconst 0, 1) := by decide +kernel
theorem dX6_clear_2 : decode cX6_clear 2 = .ok (.putfield 19, 3) := by decide +kernel
theorem dX6_clear_5 : decode cX6_clear 5 = .ok (.return_, 1) := by decide +kernel
theorem dX6_become_0 : decode cX6_become 0 = .ok (.iconst 0, 1) := by decide +kernel
theorem dX6_become_1 : decode cX6_become 1 = .ok (.istore_n 2, 1) := by decide +kernel
theorem dX6_become_2 : decode cX6_become 2 = .ok (.iload_n 2, 1) := by decide +kernel
theorem dX6_become_3 : decode cX6_become 3 = .ok (.aload_n 0, 1) := by decide +kernel
theorem dX6_become_4 : decode cX6_become 4 = .ok (.getfield 13, 3) := by decide +kernel
theorem dX6_become_7 : decode cX6_become 7 = .ok (.arraylength, 1) := by decide +kernel
theorem dX6_become_8 : decode cX6_become 8 = .ok (.if_icmp .ge 20, 3) := by decide +kernel
theorem dX6_become_11 : decode cX6_become 11 = .ok (.aload_n 0, 1) := by decide +kernel
theorem dX6_become_12 : decode cX6_become 12 = .ok (.getfield 13, 3) := by decide +kernel
theorem dX6_become_15 : decode cX6_become 15 = .ok (.iload_n 2, 1) := by decide +kernel
theorem dX6_become_16 : decode cX6_become 16 = .ok (.aload_n 1, 1) := by decide +kernel
theorem dX6_become_17 : decode cX6_become 17 = .ok (.iload_n 2, 1) := by decide +kernel
theorem dX6_become_18 : decode cX6_become 18 = .ok (.invokevirtual 23, 3) := by decide +kernel
theorem dX6_become_21 : decode cX6_become 21 = .ok (.iastore, 1) := by decide +kernel
theorem dX6_become_22 : decode cX6_become 22 = .ok (.iinc 2 1, 3) := by decide +kernel
theorem dX6_become_25 : decode cX6_become 25 = .ok (.goto (-23), 3) := by decide +kernel
theorem dX6_become_28 : decode cX6_become 28 = .ok (.aload_n 0, 1) := by decide +kernel
theorem dX6_become_29 : decode cX6_become 29 = .ok (.aload_n 1, 1) := by decide +kernel
theorem dX6_become_30 : decode cX6_become 30 = .ok (.getfield 19, 3) := by decide +kernel
theorem dX6_become_33 : decode cX6_become 33 = .ok (.putfield 19, 3) := by decide +kernel
theorem dX6_become_36 : decode cX6_become 36 = .ok (.return_, 1) := by decide +kernel
theorem dX7_init_0 : decode cX7_init 0 = .ok (.aload_n 0, 1) := by decide +kernel
theorem dX7_init_1 : decode cX7_init 1 = .ok (.invokespecial 3, 3) := by decide +kernel
theorem dX7_init_4 : decode cX7_init 4 = .ok (.aload_n 0, 1) := by decide +kernel
theorem dX7_init_5 : decode cX7_init 5 = .ok (.new 9, 3) := by decide +kernel
theorem dX7_init_8 : decode cX7_init 8 = .ok (.dup, 1) := by decide +kernel
theorem dX7_init_9 : decode cX7_init 9 = .ok (.bipush 7, 2) := by decide +kernel
theorem dX7_init_11 : decode cX7_init 11 = .ok (.invokespecial 11, 3) := by decide +kernel
theorem dX7_init_14 : decode cX7_init 14 = .ok (.putfield 14, 3) := by decide +kernel
theorem dX7_init_17 : decode cX7_init 17 = .ok (.aload_n 0, 1) := by decide +kernel
theorem dX7_init_18 : decode cX7_init 18 = .ok (.new 9, 3) := by decide +kernel
theorem dX7_init_21 : decode cX7_init 21 = .ok (.dup, 1) := by decide +kernel
theorem dX7_init_22 : decode cX7_init 22 = .ok (.bipush 28, 2) := by decide +kernel
theorem dX7_init_24 : decode cX7_init 24 = .ok (.invokespecial 11, 3) := by decide +kernel
theorem dX7_init_27 : decode cX7_init 27 = .ok (.putfield 20, 3) := by decide +kernel
theorem dX7_init_30 : decode cX7_init 30 = .ok (.aload_n 0, 1) := by decide +kernel
theorem dX7_init_31 : decode cX7_init 31 = .ok (.new 9, 3) := by decide +kernel
theorem dX7_init_34 : decode cX7_init 34 = .ok (.dup, 1) := by decide +kernel
theorem dX7_init_35 : decode cX7_init 35 = .ok (.bipush 28, 2) := by decide +kernel
theorem dX7_init_37 : decode cX7_init 37 = .ok (.invokespecial 11, 3) := by decide +kernel
theorem dX7_init_40 : decode cX7_init 40 = .ok (.putfield 23, 3) := by decide +kernel
theorem dX7_init_43 : decode cX7_init 43 = .ok (.aload_n 0, 1) := by decide +kernel
theorem dX7_init_44 : decode cX7_init 44 = .ok (.new 9, 3) := by decide +kernel
theorem dX7_init_47 : decode cX7_init 47 = .ok (.dup, 1) := by decide +kernel
theorem dX7_init_48 : decode cX7_init 48 = .ok (.bipush 7, 2) := by decide +kernel
theorem dX7_init_50 : decode cX7_init 50 = .ok (.invokespecial 11, 3) := by decide +kernel
theorem dX7_init_53 : decode cX7_init 53 = .ok (.putfield 26, 3) := by decide +kernel
theorem dX7_init_56 : decode cX7_init 56 = .ok (.aload_n 0, 1) := by decide +kernel
theorem dX7_init_57 : decode cX7_init 57 = .ok (.new 9, 3) := by decide +kernel
theorem dX7_init_60 : decode cX7_init 60 = .ok (.dup, 1) := by decide +kernel
theorem dX7_init_61 : decode cX7_init 61 = .ok (.bipush 7, 2) := by decide +kernel
theorem dX7_init_63 : decode cX7_init 63 = .ok (.invokespecial 11, 3) := by decide +kernel
theorem dX7_init_66 : decode cX7_init 66 = .ok (.putfield 29, 3) := by decide +kernel
theorem dX7_init_69 : decode cX7_init 69 = .ok (.aload_n 0, 1) := by decide +kernel
theorem dX7_init_70 : decode cX7_init 70 = .ok (.new 9, 3) := by decide +kernel
theorem dX7_init_73 : decode cX7_init 73 = .ok (.dup, 1) := by decide +kernel
theorem dX7_init_74 : decode cX7_init 74 = .ok (.bipush 7, 2) := by decide +kernel
theorem dX7_init_76 : decode cX7_init 76 = .ok (.invokespecial 11, 3) := by decide +kernel
theorem dX7_init_79 : decode cX7_init 79 = .ok (.putfield 32, 3) := by decide +kernel
theorem dX7_init_82 : decode cX7_init 82 = .ok (.aload_n 0, 1) := by decide +kernel
theorem dX7_init_83 : decode cX7_init 83 = .ok (.aload_n 1, 1) := by decide +kernel
theorem dX7_init_84 : decode cX7_init 84 = .ok (.putfield 35, 3) := by decide +kernel
theorem dX7_init_87 : decode cX7_init 87 = .ok (.return_, 1) := by decide +kernel
theorem dX7_found_0 : decode cX7_found 0 = .ok (.aload_n 0, 1) := by decide +kernel
theorem dX7_found_1 : decode cX7_found 1 = .ok (.getfield 32, 3) := by decide +kernel
theorem dX7_found_4 : decode cX7_found 4 = .ok (.iload_n 1, 1) := by decide +kernel
theorem dX7_found_5 : decode cX7_found 5 = .ok (.invokevirtual 39, 3) := by decide +kernel
theorem dX7_found_8 : decode cX7_found 8 = .ok (.ireturn, 1) := by decide +kernel
theorem dX7_howMany_0 : decode cX7_howMany 0 = .ok (.aload_n 0, 1) := by decide +kernel
theorem dX7_howMany_1 : decode cX7_howMany 1 = .ok (.getfield 43, 3) := by decide +kernel
theorem dX7_howMany_4 : decode cX7_howMany 4 = .ok (.ifCond .le 24, 3) := by decide +kernel
theorem dX7_howMany_7 : decode cX7_howMany 7 = .ok (.aload_n 0, 1) := by decide +kernel
theorem dX7_howMany_8 : decode cX7_howMany 8 = .ok (.getfield 47, 3) := by decide +kernel
theorem dX7_howMany_11 : decode cX7_howMany 11 = .ok (.aload_n 0, 1) := by decide +kernel
theorem dX7_howMany_12 : decode cX7_howMany 12 = .ok (.getfield 43, 3) := by decide +kernel
theorem dX7_howMany_15 : decode cX7_howMany 15 = .ok (.iconst 2, 1) := by decide +kernel
theorem dX7_howMany_16 : decode cX7_howMany 16 = .ok (.idiv, 1) := by decide +kernel
theorem dX7_howMany_17 : decode cX7_howMany 17 = .ok (.iadd, 1) := by decide +kernel
theorem dX7_howMany_18 : decode cX7_howMany 18 = .ok (.aload_n 0, 1) := by decide +kernel
theorem dX7_howMany_19 : decode cX7_howMany 19 = .ok (.getfield 43, 3) := by decide +kernel
theorem dX7_howMany_22 : decode cX7_howMany 22 = .ok (.invokestatic 50, 3) := by decide +kernel
theorem dX7_howMany_25 : decode cX7_howMany 25 = .ok (.goto 4, 3) := by decide +kernel
theorem dX7_howMany_28 : decode cX7_howMany 28 = .ok (.iconst 0, 1) := by decide +kernel
theorem dX7_howMany_29 : decode cX7_howMany 29 = .ok (.ireturn, 1) := by decide +kernel
theorem dX7_score_0 : decode cX7_score 0 = .ok (.aload_n 0, 1) := by decide +kernel
theorem dX7_score_1 : decode cX7_score 1 = .ok (.getfield 47, 3) := by decide +kernel
theorem dX7_score_4 : decode cX7_score 4 = .ok (.aload_n 0, 1) := by decide +kernel
theorem dX7_score_5 : decode cX7_score 5 = .ok (.invokevirtual 56, 3) := by decide +kernel
theorem dX7_score_8 : decode cX7_score 8 = .ok (.aload_n 0, 1) := by decide +kernel
theorem dX7_score_9 : decode cX7_score 9 = .ok (.getfield 43, 3) := by decide +kernel
theorem dX7_score_12 : decode cX7_score 12 = .ok (.imul, 1) := by decide +kernel
theorem dX7_score_13 : decode cX7_score 13 = .ok (.isub, 1) := by decide +kernel
theorem dX7_score_14 : decode cX7_score 14 = .ok (.ireturn, 1) := by decide +kernel
theorem dX7_bestWay_0 : decode cX7_bestWay 0 = .ok (.aload_n 0, 1) := by decide +kernel
theorem dX7_bestWay_1 : decode cX7_bestWay 1 = .ok (.aload_n 0, 1) := by decide +kernel
theorem dX7_bestWay_2 : decode cX7_bestWay 2 = .ok (.getfield 35, 3) := by decide +kernel
theorem dX7_bestWay_5 : decode cX7_bestWay 5 = .ok (.getfield 60, 3) := by decide +kernel
theorem dX7_bestWay_8 : decode cX7_bestWay 8 = .ok (.invokevirtual 65, 3) := by decide +kernel
theorem dX7_bestWay_11 : decode cX7_bestWay 11 = .ok (.aload_n 0, 1) := by decide +kernel
theorem dX7_bestWay_12 : decode cX7_bestWay 12 = .ok (.iload_n 1, 1) := by decide +kernel
theorem dX7_bestWay_13 : decode cX7_bestWay 13 = .ok (.invokevirtual 68, 3) := by decide +kernel
theorem dX7_bestWay_16 : decode cX7_bestWay 16 = .ok (.iconst 0, 1) := by decide +kernel
theorem dX7_bestWay_17 : decode cX7_bestWay 17 = .ok (.istore_n 2, 1) := by decide +kernel
theorem dX7_bestWay_18 : decode cX7_bestWay 18 = .ok (.iload_n 2, 1) := by decide +kernel
theorem dX7_bestWay_19 : decode cX7_bestWay 19 = .ok (.aload_n 0, 1) := by decide +kernel
theorem dX7_bestWay_20 : decode cX7_bestWay 20 = .ok (.getfield 71, 3) := by decide +kernel
theorem dX7_bestWay_23 : decode cX7_bestWay 23 = .ok (.if_icmp .ge 28, 3) := by decide +kernel
theorem dX7_bestWay_26 : decode cX7_bestWay 26 = .ok (.aload_n 0, 1) := by decide +kernel
theorem dX7_bestWay_27 : decode cX7_bestWay 27 = .ok (.getfield 14, 3) := by decide +kernel
theorem dX7_bestWay_30 : decode cX7_bestWay 30 = .ok (.iload_n 2, 1) := by decide +kernel
theorem dX7_bestWay_31 : decode cX7_bestWay 31 = .ok (.aload_n 0, 1) := by decide +kernel
theorem dX7_bestWay_32 : decode cX7_bestWay 32 = .ok (.getfield 14, 3) := by decide +kernel
theorem dX7_bestWay_35 : decode cX7_bestWay 35 = .ok (.iload_n 2, 1) := by decide +kernel
theorem dX7_bestWay_36 : decode cX7_bestWay 36 = .ok (.invokevirtual 39, 3) := by decide +kernel
theorem dX7_bestWay_39 : decode cX7_bestWay 39 = .ok (.bipush 16, 2) := by decide +kernel
theorem dX7_bestWay_41 : decode cX7_bestWay 41 = .ok (.ior, 1) := by decide +kernel
theorem dX7_bestWay_42 : decode cX7_bestWay 42 = .ok (.invokevirtual 74, 3) := by decide +kernel
theorem dX7_bestWay_45 : decode cX7_bestWay 45 = .ok (.iinc 2 1, 3) := by decide +kernel
theorem dX7_bestWay_48 : decode cX7_bestWay 48 = .ok (.goto (-30), 3) := by decide +kernel
theorem dX7_bestWay_51 : decode cX7_bestWay 51 = .ok (.aload_n 0, 1) := by decide +kernel
theorem dX7_bestWay_52 : decode cX7_bestWay 52 = .ok (.invokevirtual 78, 3) := by decide +kernel
theorem dX7_bestWay_55 : decode cX7_bestWay 55 = .ok (.return_, 1) := by decide +kernel
theorem dX7_canAllBeIn_0 : decode cX7_canAllBeIn 0 = .ok (.aload_n 0, 1) := by decide +kernel
theorem dX7_canAllBeIn_1 : decode cX7_canAllBeIn 1 = .ok (.iload_n 1, 1) := by decide +kernel
theorem dX7_canAllBeIn_2 : decode cX7_canAllBeIn 2 = .ok (.invokevirtual 65, 3) := by decide +kernel
theorem dX7_canAllBeIn_5 : decode cX7_canAllBeIn 5 = .ok (.iconst 0, 1) := by decide +kernel
theorem dX7_canAllBeIn_6 : decode cX7_canAllBeIn 6 = .ok (.istore_n 3, 1) := by decide +kernel
theorem dX7_canAllBeIn_7 : decode cX7_canAllBeIn 7 = .ok (.iload_n 3, 1) := by decide +kernel
theorem dX7_canAllBeIn_8 : decode cX7_canAllBeIn 8 = .ok (.aload_n 0, 1) := by decide +kernel
theorem dX7_canAllBeIn_9 : decode cX7_canAllBeIn 9 = .ok (.getfield 71, 3) := by decide +kernel
theorem dX7_canAllBeIn_12 : decode cX7_canAllBeIn 12 = .ok (.if_icmp .ge 27, 3) := by decide +kernel
theorem dX7_canAllBeIn_15 : decode cX7_canAllBeIn 15 = .ok (.aload_n 0, 1) := by decide +kernel
theorem dX7_canAllBeIn_16 : decode cX7_canAllBeIn 16 = .ok (.getfield 14, 3) := by decide +kernel
theorem dX7_canAllBeIn_19 : decode cX7_canAllBeIn 19 = .ok (.iload_n 3, 1) := by decide +kernel
theorem dX7_canAllBeIn_20 : decode cX7_canAllBeIn 20 = .ok (.aload_n 0, 1) := by decide +kernel
theorem dX7_canAllBeIn_21 : decode cX7_canAllBeIn 21 = .ok (.getfield 14, 3) := by decide +kernel
theorem dX7_canAllBeIn_24 : decode cX7_canAllBeIn 24 = .ok (.iload_n 3, 1) := by decide +kernel
theorem dX7_canAllBeIn_25 : decode cX7_canAllBeIn 25 = .ok (.invokevirtual 39, 3) := by decide +kernel
theorem dX7_canAllBeIn_28 : decode cX7_canAllBeIn 28 = .ok (.iload_n 2, 1) := by decide +kernel
theorem dX7_canAllBeIn_29 : decode cX7_canAllBeIn 29 = .ok (.iand, 1) := by decide +kernel
theorem dX7_canAllBeIn_30 : decode cX7_canAllBeIn 30 = .ok (.invokevirtual 74, 3) := by decide +kernel
theorem dX7_canAllBeIn_33 : decode cX7_canAllBeIn 33 = .ok (.iinc 3 1, 3) := by decide +kernel
theorem dX7_canAllBeIn_36 : decode cX7_canAllBeIn 36 = .ok (.goto (-29), 3) := by decide +kernel
theorem dX7_canAllBeIn_39 : decode cX7_canAllBeIn 39 = .ok (.aload_n 0, 1) := by decide +kernel
theorem dX7_canAllBeIn_40 : decode cX7_canAllBeIn 40 = .ok (.invokevirtual 78, 3) := by decide +kernel
theorem dX7_canAllBeIn_43 : decode cX7_canAllBeIn 43 = .ok (.aload_n 0, 1) := by decide +kernel
theorem dX7_canAllBeIn_44 : decode cX7_canAllBeIn 44 = .ok (.getfield 81, 3) := by decide +kernel
theorem dX7_canAllBeIn_47 : decode cX7_canAllBeIn 47 = .ok (.ireturn, 1) := by decide +kernel
theorem dX7_fewestMoves_0 : decode cX7_fewestMoves 0 = .ok (.aload_n 0, 1) := by decide +kernel
theorem dX7_fewestMoves_1 : decode cX7_fewestMoves 1 = .ok (.aload_n 0, 1) := by decide +kernel
theorem dX7_fewestMoves_2 : decode cX7_fewestMoves 2 = .ok (.getfield 35, 3) := by decide +kernel
theorem dX7_fewestMoves_5 : decode cX7_fewestMoves 5 = .ok (.getfield 60, 3) := by decide +kernel
theorem dX7_fewestMoves_8 : decode cX7_fewestMoves 8 = .ok (.invokevirtual 65, 3) := by decide +kernel
theorem dX7_fewestMoves_11 : decode cX7_fewestMoves 11 = .ok (.iconst 0, 1) := by decide +kernel
theorem dX7_fewestMoves_12 : decode cX7_fewestMoves 12 = .ok (.istore_n 2, 1) := by decide +kernel
theorem dX7_fewestMoves_13 : decode cX7_fewestMoves 13 = .ok (.iload_n 2, 1) := by decide +kernel
theorem dX7_fewestMoves_14 : decode cX7_fewestMoves 14 = .ok (.aload_n 0, 1) := by decide +kernel
theorem dX7_fewestMoves_15 : decode cX7_fewestMoves 15 = .ok (.getfield 71, 3) := by decide +kernel
theorem dX7_fewestMoves_18 : decode cX7_fewestMoves 18 = .ok (.if_icmp .ge 55, 3) := by decide +kernel
theorem dX7_fewestMoves_21 : decode cX7_fewestMoves 21 = .ok (.aload_n 0, 1) := by decide +kernel
theorem dX7_fewestMoves_22 : decode cX7_fewestMoves 22 = .ok (.getfield 35, 3) := by decide +kernel
theorem dX7_fewestMoves_25 : decode cX7_fewestMoves 25 = .ok (.getfield 85, 3) := by decide +kernel
theorem dX7_fewestMoves_28 : decode cX7_fewestMoves 28 = .ok (.iload_n 2, 1) := by decide +kernel
theorem dX7_fewestMoves_29 : decode cX7_fewestMoves 29 = .ok (.invokevirtual 39, 3) := by decide +kernel
theorem dX7_fewestMoves_32 : decode cX7_fewestMoves 32 = .ok (.istore_n 3, 1) := by decide +kernel
theorem dX7_fewestMoves_33 : decode cX7_fewestMoves 33 = .ok (.iload_n 2, 1) := by decide +kernel
theorem dX7_fewestMoves_34 : decode cX7_fewestMoves 34 = .ok (.iload_n 1, 1) := by decide +kernel
theorem dX7_fewestMoves_35 : decode cX7_fewestMoves 35 = .ok (.if_icmp .eq 21, 3) := by decide +kernel
theorem dX7_fewestMoves_38 : decode cX7_fewestMoves 38 = .ok (.iload_n 3, 1) := by decide +kernel
theorem dX7_fewestMoves_39 : decode cX7_fewestMoves 39 = .ok (.iconst 4, 1) := by decide +kernel
theorem dX7_fewestMoves_40 : decode cX7_fewestMoves 40 = .ok (.if_icmp .ne 16, 3) := by decide +kernel
theorem dX7_fewestMoves_43 : decode cX7_fewestMoves 43 = .ok (.aload_n 0, 1) := by decide +kernel
theorem dX7_fewestMoves_44 : decode cX7_fewestMoves 44 = .ok (.getfield 14, 3) := by decide +kernel
theorem dX7_fewestMoves_47 : decode cX7_fewestMoves 47 = .ok (.iload_n 2, 1) := by decide +kernel
theorem dX7_fewestMoves_48 : decode cX7_fewestMoves 48 = .ok (.bipush 16, 2) := by decide +kernel
theorem dX7_fewestMoves_50 : decode cX7_fewestMoves 50 = .ok (.invokevirtual 74, 3) := by decide +kernel
theorem dX7_fewestMoves_53 : decode cX7_fewestMoves 53 = .ok (.goto 14, 3) := by decide +kernel
theorem dX7_fewestMoves_56 : decode cX7_fewestMoves 56 = .ok (.iload_n 2, 1) := by decide +kernel
theorem dX7_fewestMoves_57 : decode cX7_fewestMoves 57 = .ok (.iload_n 1, 1) := by decide +kernel
theorem dX7_fewestMoves_58 : decode cX7_fewestMoves 58 = .ok (.if_icmp .eq 9, 3) := by decide +kernel
theorem dX7_fewestMoves_61 : decode cX7_fewestMoves 61 = .ok (.aload_n 0, 1) := by decide +kernel
theorem dX7_fewestMoves_62 : decode cX7_fewestMoves 62 = .ok (.iload_n 2, 1) := by decide +kernel
theorem dX7_fewestMoves_63 : decode cX7_fewestMoves 63 = .ok (.iload_n 3, 1) := by decide +kernel
theorem dX7_fewestMoves_64 : decode cX7_fewestMoves 64 = .ok (.invokevirtual 88, 3) := by decide +kernel
theorem dX7_fewestMoves_67 : decode cX7_fewestMoves 67 = .ok (.iinc 2 1, 3) := by decide +kernel
theorem dX7_fewestMoves_70 : decode cX7_fewestMoves 70 = .ok (.goto (-57), 3) := by decide +kernel
theorem dX7_fewestMoves_73 : decode cX7_fewestMoves 73 = .ok (.aload_n 0, 1) := by decide +kernel
theorem dX7_fewestMoves_74 : decode cX7_fewestMoves 74 = .ok (.invokevirtual 78, 3) := by decide +kernel
theorem dX7_fewestMoves_77 : decode cX7_fewestMoves 77 = .ok (.aload_n 0, 1) := by decide +kernel
theorem dX7_fewestMoves_78 : decode cX7_fewestMoves 78 = .ok (.getfield 81, 3) := by decide +kernel
theorem dX7_fewestMoves_81 : decode cX7_fewestMoves 81 = .ok (.ifCond .eq 11, 3) := by decide +kernel
theorem dX7_fewestMoves_84 : decode cX7_fewestMoves 84 = .ok (.aload_n 0, 1) := by decide +kernel
theorem dX7_fewestMoves_85 : decode cX7_fewestMoves 85 = .ok (.getfield 47, 3) := by decide +kernel
theorem dX7_fewestMoves_88 : decode cX7_fewestMoves 88 = .ok (.ineg, 1) := by decide +kernel
theorem dX7_fewestMoves_89 : decode cX7_fewestMoves 89 = .ok (.goto 4, 3) := by decide +kernel
theorem dX7_fewestMoves_92 : decode cX7_fewestMoves 92 = .ok (.iconst (-1), 1) := by decide +kernel
theorem dX7_fewestMoves_93 : decode cX7_fewestMoves 93 = .ok (.ireturn, 1) := by decide +kernel
theorem dX7_setMoves_0 : decode cX7_setMoves 0 = .ok (.iconst 0, 1) := by decide +kernel
theorem dX7_setMoves_1 : decode cX7_setMoves 1 = .ok (.istore_n 3, 1) := by decide +kernel
theorem dX7_setMoves_2 : decode cX7_setMoves 2 = .ok (.iload_n 3, 1) := by decide +kernel
theorem dX7_setMoves_3 : decode cX7_setMoves 3 = .ok (.iconst 4, 1) := by decide +kernel
theorem dX7_setMoves_4 : decode cX7_setMoves 4 = .ok (.if_icmp .ge 31, 3) := by decide +kernel
theorem dX7_setMoves_7 : decode cX7_setMoves 7 = .ok (.aload_n 0, 1) := by decide +kernel
theorem dX7_setMoves_8 : decode cX7_setMoves 8 = .ok (.getfield 20, 3) := by decide +kernel
theorem dX7_setMoves_11 : decode cX7_setMoves 11 = .ok (.iload_n 1, 1) := by decide +kernel
theorem dX7_setMoves_12 : decode cX7_setMoves 12 = .ok (.iconst 4, 1) := by decide +kernel
theorem dX7_setMoves_13 : decode cX7_setMoves 13 = .ok (.imul, 1) := by decide +kernel
theorem dX7_setMoves_14 : decode cX7_setMoves 14 = .ok (.iload_n 3, 1) := by decide +kernel
theorem dX7_setMoves_15 : decode cX7_setMoves 15 = .ok (.iadd, 1) := by decide +kernel
theorem dX7_setMoves_16 : decode cX7_setMoves 16 = .ok (.iload_n 3, 1) := by decide +kernel
theorem dX7_setMoves_17 : decode cX7_setMoves 17 = .ok (.iload_n 2, 1) := by decide +kernel
theorem dX7_setMoves_18 : decode cX7_setMoves 18 = .ok (.if_icmp .ne 7, 3) := by decide +kernel
theorem dX7_setMoves_21 : decode cX7_setMoves 21 = .ok (.iconst 0, 1) := by decide +kernel
theorem dX7_setMoves_22 : decode cX7_setMoves 22 = .ok (.goto 4, 3) := by decide +kernel
theorem dX7_setMoves_25 : decode cX7_setMoves 25 = .ok (.iconst (-1), 1) := by decide +kernel
theorem dX7_setMoves_26 : decode cX7_setMoves 26 = .ok (.invokevirtual 74, 3) := by decide +kernel
theorem dX7_setMoves_29 : decode cX7_setMoves 29 = .ok (.iinc 3 1, 3) := by decide +kernel
theorem dX7_setMoves_32 : decode cX7_setMoves 32 = .ok (.goto (-30), 3) := by decide +kernel
theorem dX7_setMoves_35 : decode cX7_setMoves 35 = .ok (.return_, 1) := by decide +kernel
theorem dX7_takeInLine_0 : decode cX7_takeInLine 0 = .ok (.aload_n 0, 1) := by decide +kernel
theorem dX7_takeInLine_1 : decode cX7_takeInLine 1 = .ok (.aload_n 0, 1) := by decide +kernel
theorem dX7_takeInLine_2 : decode cX7_takeInLine 2 = .ok (.getfield 35, 3) := by decide +kernel
theorem dX7_takeInLine_5 : decode cX7_takeInLine 5 = .ok (.getfield 60, 3) := by decide +kernel
theorem dX7_takeInLine_8 : decode cX7_takeInLine 8 = .ok (.invokevirtual 65, 3) := by decide +kernel
theorem dX7_takeInLine_11 : decode cX7_takeInLine 11 = .ok (.aload_n 0, 1) := by decide +kernel
theorem dX7_takeInLine_12 : decode cX7_takeInLine 12 = .ok (.ldc 91, 2) := by decide +kernel
theorem dX7_takeInLine_14 : decode cX7_takeInLine 14 = .ok (.invokevirtual 68, 3) := by decide +kernel
theorem dX7_takeInLine_17 : decode cX7_takeInLine 17 = .ok (.iconst 0, 1) := by decide +kernel
theorem dX7_takeInLine_18 : decode cX7_takeInLine 18 = .ok (.istore_n 1, 1) := by decide +kernel
theorem dX7_takeInLine_19 : decode cX7_takeInLine 19 = .ok (.iconst 0, 1) := by decide +kernel
theorem dX7_takeInLine_20 : decode cX7_takeInLine 20 = .ok (.istore_n 2, 1) := by decide +kernel
theorem dX7_takeInLine_21 : decode cX7_takeInLine 21 = .ok (.iload_n 2, 1) := by decide +kernel
theorem dX7_takeInLine_22 : decode cX7_takeInLine 22 = .ok (.aload_n 0, 1) := by decide +kernel
theorem dX7_takeInLine_23 : decode cX7_takeInLine 23 = .ok (.getfield 71, 3) := by decide +kernel
theorem dX7_takeInLine_26 : decode cX7_takeInLine 26 = .ok (.if_icmp .ge 40, 3) := by decide +kernel
theorem dX7_takeInLine_29 : decode cX7_takeInLine 29 = .ok (.aload_n 0, 1) := by decide +kernel
theorem dX7_takeInLine_30 : decode cX7_takeInLine 30 = .ok (.iload_n 2, 1) := by decide +kernel
theorem dX7_takeInLine_31 : decode cX7_takeInLine 31 = .ok (.iload_n 1, 1) := by decide +kernel
theorem dX7_takeInLine_32 : decode cX7_takeInLine 32 = .ok (.invokevirtual 92, 3) := by decide +kernel
theorem dX7_takeInLine_35 : decode cX7_takeInLine 35 = .ok (.istore_n 3, 1) := by decide +kernel
theorem dX7_takeInLine_36 : decode cX7_takeInLine 36 = .ok (.iload_n 1, 1) := by decide +kernel
theorem dX7_takeInLine_37 : decode cX7_takeInLine 37 = .ok (.aload_n 0, 1) := by decide +kernel
theorem dX7_takeInLine_38 : decode cX7_takeInLine 38 = .ok (.iload_n 2, 1) := by decide +kernel
theorem dX7_takeInLine_39 : decode cX7_takeInLine 39 = .ok (.iload_n 3, 1) := by decide +kernel
theorem dX7_takeInLine_40 : decode cX7_takeInLine 40 = .ok (.invokevirtual 95, 3) := by decide +kernel
theorem dX7_takeInLine_43 : decode cX7_takeInLine 43 = .ok (.ior, 1) := by decide +kernel
theorem dX7_takeInLine_44 : decode cX7_takeInLine 44 = .ok (.istore_n 1, 1) := by decide +kernel
theorem dX7_takeInLine_45 : decode cX7_takeInLine 45 = .ok (.aload_n 0, 1) := by decide +kernel
theorem dX7_takeInLine_46 : decode cX7_takeInLine 46 = .ok (.dup, 1) := by decide +kernel
theorem dX7_takeInLine_47 : decode cX7_takeInLine 47 = .ok (.getfield 47, 3) := by decide +kernel
theorem dX7_takeInLine_50 : decode cX7_takeInLine 50 = .ok (.aload_n 0, 1) := by decide +kernel
theorem dX7_takeInLine_51 : decode cX7_takeInLine 51 = .ok (.iload_n 2, 1) := by decide +kernel
theorem dX7_takeInLine_52 : decode cX7_takeInLine 52 = .ok (.iload_n 3, 1) := by decide +kernel
theorem dX7_takeInLine_53 : decode cX7_takeInLine 53 = .ok (.invokevirtual 98, 3) := by decide +kernel
theorem dX7_takeInLine_56 : decode cX7_takeInLine 56 = .ok (.iadd, 1) := by decide +kernel
theorem dX7_takeInLine_57 : decode cX7_takeInLine 57 = .ok (.putfield 47, 3) := by decide +kernel
theorem dX7_takeInLine_60 : decode cX7_takeInLine 60 = .ok (.iinc 2 1, 3) := by decide +kernel
theorem dX7_takeInLine_63 : decode cX7_takeInLine 63 = .ok (.goto (-42), 3) := by decide +kernel
theorem dX7_takeInLine_66 : decode cX7_takeInLine 66 = .ok (.return_, 1) := by decide +kernel
theorem dX7_bestOrder_0 : decode cX7_bestOrder 0 = .ok (.aload_n 0, 1) := by decide +kernel
theorem dX7_bestOrder_1 : decode cX7_bestOrder 1 = .ok (.aload_n 0, 1) := by decide +kernel
theorem dX7_bestOrder_2 : decode cX7_bestOrder 2 = .ok (.getfield 35, 3) := by decide +kernel
theorem dX7_bestOrder_5 : decode cX7_bestOrder 5 = .ok (.getfield 60, 3) := by decide +kernel
theorem dX7_bestOrder_8 : decode cX7_bestOrder 8 = .ok (.invokevirtual 65, 3) := by decide +kernel
theorem dX7_bestOrder_11 : decode cX7_bestOrder 11 = .ok (.aload_n 0, 1) := by decide +kernel
theorem dX7_bestOrder_12 : decode cX7_bestOrder 12 = .ok (.ldc 91, 2) := by decide +kernel
theorem dX7_bestOrder_14 : decode cX7_bestOrder 14 = .ok (.invokevirtual 68, 3) := by decide +kernel
theorem dX7_bestOrder_17 : decode cX7_bestOrder 17 = .ok (.aload_n 0, 1) := by decide +kernel
theorem dX7_bestOrder_18 : decode cX7_bestOrder 18 = .ok (.iconst 0, 1) := by decide +kernel
theorem dX7_bestOrder_19 : decode cX7_bestOrder 19 = .ok (.iconst 0, 1) := by decide +kernel
theorem dX7_bestOrder_20 : decode cX7_bestOrder 20 = .ok (.iconst 0, 1) := by decide +kernel
theorem dX7_bestOrder_21 : decode cX7_bestOrder 21 = .ok (.iconst 0, 1) := by decide +kernel
theorem dX7_bestOrder_22 : decode cX7_bestOrder 22 = .ok (.aload_n 0, 1) := by decide +kernel
theorem dX7_bestOrder_23 : decode cX7_bestOrder 23 = .ok (.invokevirtual 101, 3) := by decide +kernel
theorem dX7_bestOrder_26 : decode cX7_bestOrder 26 = .ok (.invokevirtual 104, 3) := by decide +kernel
theorem dX7_bestOrder_29 : decode cX7_bestOrder 29 = .ok (.return_, 1) := by decide +kernel
theorem dX7_begin_0 : decode cX7_begin 0 = .ok (.aload_n 0, 1) := by decide +kernel
theorem dX7_begin_1 : decode cX7_begin 1 = .ok (.aload_n 0, 1) := by decide +kernel
theorem dX7_begin_2 : decode cX7_begin 2 = .ok (.getfield 35, 3) := by decide +kernel
theorem dX7_begin_5 : decode cX7_begin 5 = .ok (.invokevirtual 108, 3) := by decide +kernel
theorem dX7_begin_8 : decode cX7_begin 8 = .ok (.bipush 7, 2) := by decide +kernel
theorem dX7_begin_10 : decode cX7_begin 10 = .ok (.invokestatic 110, 3) := by decide +kernel
theorem dX7_begin_13 : decode cX7_begin 13 = .ok (.putfield 71, 3) := by decide +kernel
theorem dX7_begin_16 : decode cX7_begin 16 = .ok (.aload_n 0, 1) := by decide +kernel
theorem dX7_begin_17 : decode cX7_begin 17 = .ok (.iconst 0, 1) := by decide +kernel
theorem dX7_begin_18 : decode cX7_begin 18 = .ok (.putfield 81, 3) := by decide +kernel
theorem dX7_begin_21 : decode cX7_begin 21 = .ok (.aload_n 0, 1) := by decide +kernel
theorem dX7_begin_22 : decode cX7_begin 22 = .ok (.iconst 0, 1) := by decide +kernel
theorem dX7_begin_23 : decode cX7_begin 23 = .ok (.putfield 47, 3) := by decide +kernel
theorem dX7_begin_26 : decode cX7_begin 26 = .ok (.aload_n 0, 1) := by decide +kernel
theorem dX7_begin_27 : decode cX7_begin 27 = .ok (.iconst 0, 1) := by decide +kernel
theorem dX7_begin_28 : decode cX7_begin 28 = .ok (.putfield 43, 3) := by decide +kernel
theorem dX7_begin_31 : decode cX7_begin 31 = .ok (.iconst 0, 1) := by decide +kernel
theorem dX7_begin_32 : decode cX7_begin 32 = .ok (.istore_n 2, 1) := by decide +kernel
theorem dX7_begin_33 : decode cX7_begin 33 = .ok (.iload_n 2, 1) := by decide +kernel
theorem dX7_begin_34 : decode cX7_begin 34 = .ok (.aload_n 0, 1) := by decide +kernel
theorem dX7_begin_35 : decode cX7_begin 35 = .ok (.getfield 71, 3) := by decide +kernel
theorem dX7_begin_38 : decode cX7_begin 38 = .ok (.if_icmp .ge 70, 3) := by decide +kernel
theorem dX7_begin_41 : decode cX7_begin 41 = .ok (.aload_n 0, 1) := by decide +kernel
theorem dX7_begin_42 : decode cX7_begin 42 = .ok (.getfield 14, 3) := by decide +kernel
theorem dX7_begin_45 : decode cX7_begin 45 = .ok (.iload_n 2, 1) := by decide +kernel
theorem dX7_begin_46 : decode cX7_begin 46 = .ok (.aload_n 0, 1) := by decide +kernel
theorem dX7_begin_47 : decode cX7_begin 47 = .ok (.getfield 35, 3) := by decide +kernel
theorem dX7_begin_50 : decode cX7_begin 50 = .ok (.iload_n 2, 1) := by decide +kernel
theorem dX7_begin_51 : decode cX7_begin 51 = .ok (.iload_n 1, 1) := by decide +kernel
theorem dX7_begin_52 : decode cX7_begin 52 = .ok (.invokevirtual 113, 3) := by decide +kernel
theorem dX7_begin_55 : decode cX7_begin 55 = .ok (.invokevirtual 74, 3) := by decide +kernel
theorem dX7_begin_58 : decode cX7_begin 58 = .ok (.iconst 0, 1) := by decide +kernel
theorem dX7_begin_59 : decode cX7_begin 59 = .ok (.istore_n 3, 1) := by decide +kernel
theorem dX7_begin_60 : decode cX7_begin 60 = .ok (.iload_n 3, 1) := by decide +kernel
theorem dX7_begin_61 : decode cX7_begin 61 = .ok (.iconst 4, 1) := by decide +kernel
theorem dX7_begin_62 : decode cX7_begin 62 = .ok (.if_icmp .ge 40, 3) := by decide +kernel
theorem dX7_begin_65 : decode cX7_begin 65 = .ok (.aload_n 0, 1) := by decide +kernel
theorem dX7_begin_66 : decode cX7_begin 66 = .ok (.getfield 20, 3) := by decide +kernel
theorem dX7_begin_69 : decode cX7_begin 69 = .ok (.iload_n 2, 1) := by decide +kernel
theorem dX7_begin_70 : decode cX7_begin 70 = .ok (.iconst 4, 1) := by decide +kernel
theorem dX7_begin_71 : decode cX7_begin 71 = .ok (.imul, 1) := by decide +kernel
theorem dX7_begin_72 : decode cX7_begin 72 = .ok (.iload_n 3, 1) := by decide +kernel
theorem dX7_begin_73 : decode cX7_begin 73 = .ok (.iadd, 1) := by decide +kernel
theorem dX7_begin_74 : decode cX7_begin 74 = .ok (.iconst 0, 1) := by decide +kernel
theorem dX7_begin_75 : decode cX7_begin 75 = .ok (.invokevirtual 74, 3) := by decide +kernel
theorem dX7_begin_78 : decode cX7_begin 78 = .ok (.aload_n 0, 1) := by decide +kernel
theorem dX7_begin_79 : decode cX7_begin 79 = .ok (.getfield 23, 3) := by decide +kernel
theorem dX7_begin_82 : decode cX7_begin 82 = .ok (.iload_n 2, 1) := by decide +kernel
theorem dX7_begin_83 : decode cX7_begin 83 = .ok (.iconst 4, 1) := by decide +kernel
theorem dX7_begin_84 : decode cX7_begin 84 = .ok (.imul, 1) := by decide +kernel
theorem dX7_begin_85 : decode cX7_begin 85 = .ok (.iload_n 3, 1) := by decide +kernel
theorem dX7_begin_86 : decode cX7_begin 86 = .ok (.iadd, 1) := by decide +kernel
theorem dX7_begin_87 : decode cX7_begin 87 = .ok (.aload_n 0, 1) := by decide +kernel
theorem dX7_begin_88 : decode cX7_begin 88 = .ok (.iload_n 2, 1) := by decide +kernel
theorem dX7_begin_89 : decode cX7_begin 89 = .ok (.iload_n 3, 1) := by decide +kernel
theorem dX7_begin_90 : decode cX7_begin 90 = .ok (.invokevirtual 116, 3) := by decide +kernel
theorem dX7_begin_93 : decode cX7_begin 93 = .ok (.invokevirtual 74, 3) := by decide +kernel
theorem dX7_begin_96 : decode cX7_begin 96 = .ok (.iinc 3 1, 3) := by decide +kernel
theorem dX7_begin_99 : decode cX7_begin 99 = .ok (.goto (-39), 3) := by decide +kernel
theorem dX7_begin_102 : decode cX7_begin 102 = .ok (.iinc 2 1, 3) := by decide +kernel
theorem dX7_begin_105 : decode cX7_begin 105 = .ok (.goto (-72), 3) := by decide +kernel
theorem dX7_begin_108 : decode cX7_begin 108 = .ok (.return_, 1) := by decide +kernel
theorem dX7_clashing_0 : decode cX7_clashing 0 = .ok (.iconst 0, 1) := by decide +kernel
theorem dX7_clashing_1 : decode cX7_clashing 1 = .ok (.istore_n 3, 1) := by decide +kernel
theorem dX7_clashing_2 : decode cX7_clashing 2 = .ok (.iconst 0, 1) := by decide +kernel
theorem dX7_clashing_3 : decode cX7_clashing 3 = .ok (.istore 4, 2) := by decide +kernel
theorem dX7_clashing_5 : decode cX7_clashing 5 = .ok (.iload 4, 2) := by decide +kernel
theorem dX7_clashing_7 : decode cX7_clashing 7 = .ok (.aload_n 0, 1) := by decide +kernel
theorem dX7_clashing_8 : decode cX7_clashing 8 = .ok (.getfield 71, 3) := by decide +kernel
theorem dX7_clashing_11 : decode cX7_clashing 11 = .ok (.if_icmp .ge 58, 3) := by decide +kernel
theorem dX7_clashing_14 : decode cX7_clashing 14 = .ok (.iconst 0, 1) := by decide +kernel
theorem dX7_clashing_15 : decode cX7_clashing 15 = .ok (.istore 5, 2) := by decide +kernel
theorem dX7_clashing_17 : decode cX7_clashing 17 = .ok (.iload 5, 2) := by decide +kernel
theorem dX7_clashing_19 : decode cX7_clashing 19 = .ok (.iconst 4, 1) := by decide +kernel
theorem dX7_clashing_20 : decode cX7_clashing 20 = .ok (.if_icmp .ge 43, 3) := by decide +kernel
theorem dX7_clashing_23 : decode cX7_clashing 23 = .ok (.iload 4, 2) := by decide +kernel
theorem dX7_clashing_25 : decode cX7_clashing 25 = .ok (.iload_n 1, 1) := by decide +kernel
theorem dX7_clashing_26 : decode cX7_clashing 26 = .ok (.if_icmp .eq 31, 3) := by decide +kernel
theorem dX7_clashing_29 : decode cX7_clashing 29 = .ok (.aload_n 0, 1) := by decide +kernel
theorem dX7_clashing_30 : decode cX7_clashing 30 = .ok (.getfield 35, 3) := by decide +kernel
theorem dX7_clashing_33 : decode cX7_clashing 33 = .ok (.iload_n 1, 1) := by decide +kernel
theorem dX7_clashing_34 : decode cX7_clashing 34 = .ok (.iload_n 2, 1) := by decide +kernel
theorem dX7_clashing_35 : decode cX7_clashing 35 = .ok (.iload 4, 2) := by decide +kernel
theorem dX7_clashing_37 : decode cX7_clashing 37 = .ok (.iload 5, 2) := by decide +kernel
theorem dX7_clashing_39 : decode cX7_clashing 39 = .ok (.invokevirtual 119, 3) := by decide +kernel
theorem dX7_clashing_42 : decode cX7_clashing 42 = .ok (.ifCond .le 15, 3) := by decide +kernel
theorem dX7_clashing_45 : decode cX7_clashing 45 = .ok (.iload_n 3, 1) := by decide +kernel
theorem dX7_clashing_46 : decode cX7_clashing 46 = .ok (.iconst 1, 1) := by decide +kernel
theorem dX7_clashing_47 : decode cX7_clashing 47 = .ok (.iload 4, 2) := by decide +kernel
theorem dX7_clashing_49 : decode cX7_clashing 49 = .ok (.iconst 4, 1) := by decide +kernel
theorem dX7_clashing_50 : decode cX7_clashing 50 = .ok (.imul, 1) := by decide +kernel
theorem dX7_clashing_51 : decode cX7_clashing 51 = .ok (.iload 5, 2) := by decide +kernel
theorem dX7_clashing_53 : decode cX7_clashing 53 = .ok (.iadd, 1) := by decide +kernel
theorem dX7_clashing_54 : decode cX7_clashing 54 = .ok (.ishl, 1) := by decide +kernel
theorem dX7_clashing_55 : decode cX7_clashing 55 = .ok (.ior, 1) := by decide +kernel
theorem dX7_clashing_56 : decode cX7_clashing 56 = .ok (.istore_n 3, 1) := by decide +kernel
theorem dX7_clashing_57 : decode cX7_clashing 57 = .ok (.iinc 5 1, 3) := by decide +kernel
theorem dX7_clashing_60 : decode cX7_clashing 60 = .ok (.goto (-43), 3) := by decide +kernel
theorem dX7_clashing_63 : decode cX7_clashing 63 = .ok (.iinc 4 1, 3) := by decide +kernel
theorem dX7_clashing_66 : decode cX7_clashing 66 = .ok (.goto (-61), 3) := by decide +kernel
theorem dX7_clashing_69 : decode cX7_clashing 69 = .ok (.iload_n 3, 1) := by decide +kernel
theorem dX7_clashing_70 : decode cX7_clashing 70 = .ok (.ireturn, 1) := by decide +kernel
theorem dX7_value_0 : decode cX7_value 0 = .ok (.aload_n 0, 1) := by decide +kernel
theorem dX7_value_1 : decode cX7_value 1 = .ok (.iload_n 1, 1) := by decide +kernel
theorem dX7_value_2 : decode cX7_value 2 = .ok (.putfield 43, 3) := by decide +kernel
theorem dX7_value_5 : decode cX7_value 5 = .ok (.iconst 0, 1) := by decide +kernel
theorem dX7_value_6 : decode cX7_value 6 = .ok (.istore_n 2, 1) := by decide +kernel
theorem dX7_value_7 : decode cX7_value 7 = .ok (.iload_n 2, 1) := by decide +kernel
theorem dX7_value_8 : decode cX7_value 8 = .ok (.aload_n 0, 1) := by decide +kernel
theorem dX7_value_9 : decode cX7_value 9 = .ok (.getfield 71, 3) := by decide +kernel
theorem dX7_value_12 : decode cX7_value 12 = .ok (.if_icmp .ge 45, 3) := by decide +kernel
theorem dX7_value_15 : decode cX7_value 15 = .ok (.iconst 0, 1) := by decide +kernel
theorem dX7_value_16 : decode cX7_value 16 = .ok (.istore_n 3, 1) := by decide +kernel
theorem dX7_value_17 : decode cX7_value 17 = .ok (.iload_n 3, 1) := by decide +kernel
theorem dX7_value_18 : decode cX7_value 18 = .ok (.iconst 4, 1) := by decide +kernel
theorem dX7_value_19 : decode cX7_value 19 = .ok (.if_icmp .ge 32, 3) := by decide +kernel
theorem dX7_value_22 : decode cX7_value 22 = .ok (.aload_n 0, 1) := by decide +kernel
theorem dX7_value_23 : decode cX7_value 23 = .ok (.getfield 20, 3) := by decide +kernel
theorem dX7_value_26 : decode cX7_value 26 = .ok (.iload_n 2, 1) := by decide +kernel
theorem dX7_value_27 : decode cX7_value 27 = .ok (.iconst 4, 1) := by decide +kernel
theorem dX7_value_28 : decode cX7_value 28 = .ok (.imul, 1) := by decide +kernel
theorem dX7_value_29 : decode cX7_value 29 = .ok (.iload_n 3, 1) := by decide +kernel
theorem dX7_value_30 : decode cX7_value 30 = .ok (.iadd, 1) := by decide +kernel
theorem dX7_value_31 : decode cX7_value 31 = .ok (.iload_n 1, 1) := by decide +kernel
theorem dX7_value_32 : decode cX7_value 32 = .ok (.aload_n 0, 1) := by decide +kernel
theorem dX7_value_33 : decode cX7_value 33 = .ok (.getfield 35, 3) := by decide +kernel
theorem dX7_value_36 : decode cX7_value 36 = .ok (.iload_n 2, 1) := by decide +kernel
theorem dX7_value_37 : decode cX7_value 37 = .ok (.iload_n 3, 1) := by decide +kernel
theorem dX7_value_38 : decode cX7_value 38 = .ok (.invokevirtual 123, 3) := by decide +kernel
theorem dX7_value_41 : decode cX7_value 41 = .ok (.iadd, 1) := by decide +kernel
theorem dX7_value_42 : decode cX7_value 42 = .ok (.invokevirtual 74, 3) := by decide +kernel
theorem dX7_value_45 : decode cX7_value 45 = .ok (.iinc 3 1, 3) := by decide +kernel
theorem dX7_value_48 : decode cX7_value 48 = .ok (.goto (-31), 3) := by decide +kernel
theorem dX7_value_51 : decode cX7_value 51 = .ok (.iinc 2 1, 3) := by decide +kernel
theorem dX7_value_54 : decode cX7_value 54 = .ok (.goto (-47), 3) := by decide +kernel
theorem dX7_value_57 : decode cX7_value 57 = .ok (.return_, 1) := by decide +kernel
theorem dX7_clashesOf_0 : decode cX7_clashesOf 0 = .ok (.iload_n 2, 1) := by decide +kernel
theorem dX7_clashesOf_1 : decode cX7_clashesOf 1 = .ok (.iconst 4, 1) := by decide +kernel
theorem dX7_clashesOf_2 : decode cX7_clashesOf 2 = .ok (.if_icmp .ne 7, 3) := by decide +kernel
theorem dX7_clashesOf_5 : decode cX7_clashesOf 5 = .ok (.iconst 0, 1) := by decide +kernel
theorem dX7_clashesOf_6 : decode cX7_clashesOf 6 = .ok (.goto 15, 3) := by decide +kernel
theorem dX7_clashesOf_9 : decode cX7_clashesOf 9 = .ok (.aload_n 0, 1) := by decide +kernel
theorem dX7_clashesOf_10 : decode cX7_clashesOf 10 = .ok (.getfield 23, 3) := by decide +kernel
theorem dX7_clashesOf_13 : decode cX7_clashesOf 13 = .ok (.iload_n 1, 1) := by decide +kernel
theorem dX7_clashesOf_14 : decode cX7_clashesOf 14 = .ok (.iconst 4, 1) := by decide +kernel
theorem dX7_clashesOf_15 : decode cX7_clashesOf 15 = .ok (.imul, 1) := by decide +kernel
theorem dX7_clashesOf_16 : decode cX7_clashesOf 16 = .ok (.iload_n 2, 1) := by decide +kernel
theorem dX7_clashesOf_17 : decode cX7_clashesOf 17 = .ok (.iadd, 1) := by decide +kernel
theorem dX7_clashesOf_18 : decode cX7_clashesOf 18 = .ok (.invokevirtual 39, 3) := by decide +kernel
theorem dX7_clashesOf_21 : decode cX7_clashesOf 21 = .ok (.ireturn, 1) := by decide +kernel
theorem dX7_valueOf_0 : decode cX7_valueOf 0 = .ok (.iload_n 2, 1) := by decide +kernel
theorem dX7_valueOf_1 : decode cX7_valueOf 1 = .ok (.iconst 4, 1) := by decide +kernel
theorem dX7_valueOf_2 : decode cX7_valueOf 2 = .ok (.if_icmp .ne 7, 3) := by decide +kernel
theorem dX7_valueOf_5 : decode cX7_valueOf 5 = .ok (.iconst 0, 1) := by decide +kernel
theorem dX7_valueOf_6 : decode cX7_valueOf 6 = .ok (.goto 15, 3) := by decide +kernel
theorem dX7_valueOf_9 : decode cX7_valueOf 9 = .ok (.aload_n 0, 1) := by decide +kernel
theorem dX7_valueOf_10 : decode cX7_valueOf 10 = .ok (.getfield 20, 3) := by decide +kernel
theorem dX7_valueOf_13 : decode cX7_valueOf 13 = .ok (.iload_n 1, 1) := by decide +kernel
theorem dX7_valueOf_14 : decode cX7_valueOf 14 = .ok (.iconst 4, 1) := by decide +kernel
theorem dX7_valueOf_15 : decode cX7_valueOf 15 = .ok (.imul, 1) := by decide +kernel
theorem dX7_valueOf_16 : decode cX7_valueOf 16 = .ok (.iload_n 2, 1) := by decide +kernel
theorem dX7_valueOf_17 : decode cX7_valueOf 17 = .ok (.iadd, 1) := by decide +kernel
theorem dX7_valueOf_18 : decode cX7_valueOf 18 = .ok (.invokevirtual 39, 3) := by decide +kernel
theorem dX7_valueOf_21 : decode cX7_valueOf 21 = .ok (.ireturn, 1) := by decide +kernel
theorem dX7_dearest_0 : decode cX7_dearest 0 = .ok (.iconst 4, 1) := by decide +kernel
theorem dX7_dearest_1 : decode cX7_dearest 1 = .ok (.istore_n 3, 1) := by decide +kernel
theorem dX7_dearest_2 : decode cX7_dearest 2 = .ok (.iconst 0, 1) := by decide +kernel
theorem dX7_dearest_3 : decode cX7_dearest 3 = .ok (.istore 4, 2) := by decide +kernel
theorem dX7_dearest_5 : decode cX7_dearest 5 = .ok (.iload 4, 2) := by decide +kernel
theorem dX7_dearest_7 : decode cX7_dearest 7 = .ok (.iconst 4, 1) := by decide +kernel
theorem dX7_dearest_8 : decode cX7_dearest 8 = .ok (.if_icmp .ge 44, 3) := by decide +kernel
theorem dX7_dearest_11 : decode cX7_dearest 11 = .ok (.aload_n 0, 1) := by decide +kernel
theorem dX7_dearest_12 : decode cX7_dearest 12 = .ok (.iload_n 1, 1) := by decide +kernel
theorem dX7_dearest_13 : decode cX7_dearest 13 = .ok (.iload 4, 2) := by decide +kernel
theorem dX7_dearest_15 : decode cX7_dearest 15 = .ok (.iload_n 2, 1) := by decide +kernel
theorem dX7_dearest_16 : decode cX7_dearest 16 = .ok (.invokevirtual 126, 3) := by decide +kernel
theorem dX7_dearest_19 : decode cX7_dearest 19 = .ok (.ifCond .eq 27, 3) := by decide +kernel
theorem dX7_dearest_22 : decode cX7_dearest 22 = .ok (.iload_n 3, 1) := by decide +kernel
theorem dX7_dearest_23 : decode cX7_dearest 23 = .ok (.iconst 4, 1) := by decide +kernel
theorem dX7_dearest_24 : decode cX7_dearest 24 = .ok (.if_icmp .eq 19, 3) := by decide +kernel
theorem dX7_dearest_27 : decode cX7_dearest 27 = .ok (.aload_n 0, 1) := by decide +kernel
theorem dX7_dearest_28 : decode cX7_dearest 28 = .ok (.iload_n 1, 1) := by decide +kernel
theorem dX7_dearest_29 : decode cX7_dearest 29 = .ok (.iload 4, 2) := by decide +kernel
theorem dX7_dearest_31 : decode cX7_dearest 31 = .ok (.invokevirtual 98, 3) := by decide +kernel
theorem dX7_dearest_34 : decode cX7_dearest 34 = .ok (.aload_n 0, 1) := by decide +kernel
theorem dX7_dearest_35 : decode cX7_dearest 35 = .ok (.iload_n 1, 1) := by decide +kernel
theorem dX7_dearest_36 : decode cX7_dearest 36 = .ok (.iload_n 3, 1) := by decide +kernel
theorem dX7_dearest_37 : decode cX7_dearest 37 = .ok (.invokevirtual 98, 3) := by decide +kernel
theorem dX7_dearest_40 : decode cX7_dearest 40 = .ok (.if_icmp .le 6, 3) := by decide +kernel
theorem dX7_dearest_43 : decode cX7_dearest 43 = .ok (.iload 4, 2) := by decide +kernel
theorem dX7_dearest_45 : decode cX7_dearest 45 = .ok (.istore_n 3, 1) := by decide +kernel
theorem dX7_dearest_46 : decode cX7_dearest 46 = .ok (.iinc 4 1, 3) := by decide +kernel
theorem dX7_dearest_49 : decode cX7_dearest 49 = .ok (.goto (-44), 3) := by decide +kernel
theorem dX7_dearest_52 : decode cX7_dearest 52 = .ok (.iload_n 3, 1) := by decide +kernel
theorem dX7_dearest_53 : decode cX7_dearest 53 = .ok (.ireturn, 1) := by decide +kernel
theorem dX7_isOpen_0 : decode cX7_isOpen 0 = .ok (.aload_n 0, 1) := by decide +kernel
theorem dX7_isOpen_1 : decode cX7_isOpen 1 = .ok (.getfield 14, 3) := by decide +kernel
theorem dX7_isOpen_4 : decode cX7_isOpen 4 = .ok (.iload_n 1, 1) := by decide +kernel
theorem dX7_isOpen_5 : decode cX7_isOpen 5 = .ok (.invokevirtual 39, 3) := by decide +kernel
theorem dX7_isOpen_8 : decode cX7_isOpen 8 = .ok (.iload_n 2, 1) := by decide +kernel
theorem dX7_isOpen_9 : decode cX7_isOpen 9 = .ok (.invokestatic 130, 3) := by decide +kernel
theorem dX7_isOpen_12 : decode cX7_isOpen 12 = .ok (.ifCond .eq 24, 3) := by decide +kernel
theorem dX7_isOpen_15 : decode cX7_isOpen 15 = .ok (.iload_n 2, 1) := by decide +kernel
theorem dX7_isOpen_16 : decode cX7_isOpen 16 = .ok (.iconst 4, 1) := by decide +kernel
theorem dX7_isOpen_17 : decode cX7_isOpen 17 = .ok (.if_icmp .eq 15, 3) := by decide +kernel
theorem dX7_isOpen_20 : decode cX7_isOpen 20 = .ok (.iload_n 3, 1) := by decide +kernel
theorem dX7_isOpen_21 : decode cX7_isOpen 21 = .ok (.iload_n 1, 1) := by decide +kernel
theorem dX7_isOpen_22 : decode cX7_isOpen 22 = .ok (.iconst 4, 1) := by decide +kernel
theorem dX7_isOpen_23 : decode cX7_isOpen 23 = .ok (.imul, 1) := by decide +kernel
theorem dX7_isOpen_24 : decode cX7_isOpen 24 = .ok (.iload_n 2, 1) := by decide +kernel
theorem dX7_isOpen_25 : decode cX7_isOpen 25 = .ok (.iadd, 1) := by decide +kernel
theorem dX7_isOpen_26 : decode cX7_isOpen 26 = .ok (.invokestatic 130, 3) := by decide +kernel
theorem dX7_isOpen_29 : decode cX7_isOpen 29 = .ok (.ifCond .ne 7, 3) := by decide +kernel
theorem dX7_isOpen_32 : decode cX7_isOpen 32 = .ok (.iconst 1, 1) := by decide +kernel
theorem dX7_isOpen_33 : decode cX7_isOpen 33 = .ok (.goto 4, 3) := by decide +kernel
theorem dX7_isOpen_36 : decode cX7_isOpen 36 = .ok (.iconst 0, 1) := by decide +kernel
theorem dX7_isOpen_37 : decode cX7_isOpen 37 = .ok (.ireturn, 1) := by decide +kernel
theorem dX7_hopes_0 : decode cX7_hopes 0 = .ok (.iconst 0, 1) := by decide +kernel
theorem dX7_hopes_1 : decode cX7_hopes 1 = .ok (.istore_n 1, 1) := by decide +kernel
theorem dX7_hopes_2 : decode cX7_hopes 2 = .ok (.iconst 0, 1) := by decide +kernel
theorem dX7_hopes_3 : decode cX7_hopes 3 = .ok (.istore_n 2, 1) := by decide +kernel
theorem dX7_hopes_4 : decode cX7_hopes 4 = .ok (.iload_n 2, 1) := by decide +kernel
theorem dX7_hopes_5 : decode cX7_hopes 5 = .ok (.aload_n 0, 1) := by decide +kernel
theorem dX7_hopes_6 : decode cX7_hopes 6 = .ok (.getfield 71, 3) := by decide +kernel
theorem dX7_hopes_9 : decode cX7_hopes 9 = .ok (.if_icmp .ge 55, 3) := by decide +kernel
theorem dX7_hopes_12 : decode cX7_hopes 12 = .ok (.aload_n 0, 1) := by decide +kernel
theorem dX7_hopes_13 : decode cX7_hopes 13 = .ok (.iload_n 2, 1) := by decide +kernel
theorem dX7_hopes_14 : decode cX7_hopes 14 = .ok (.aload_n 0, 1) := by decide +kernel
theorem dX7_hopes_15 : decode cX7_hopes 15 = .ok (.iload_n 2, 1) := by decide +kernel
theorem dX7_hopes_16 : decode cX7_hopes 16 = .ok (.iconst 0, 1) := by decide +kernel
theorem dX7_hopes_17 : decode cX7_hopes 17 = .ok (.invokevirtual 92, 3) := by decide +kernel
theorem dX7_hopes_20 : decode cX7_hopes 20 = .ok (.invokevirtual 98, 3) := by decide +kernel
theorem dX7_hopes_23 : decode cX7_hopes 23 = .ok (.istore_n 3, 1) := by decide +kernel
theorem dX7_hopes_24 : decode cX7_hopes 24 = .ok (.aload_n 0, 1) := by decide +kernel
theorem dX7_hopes_25 : decode cX7_hopes 25 = .ok (.getfield 14, 3) := by decide +kernel
theorem dX7_hopes_28 : decode cX7_hopes 28 = .ok (.iload_n 2, 1) := by decide +kernel
theorem dX7_hopes_29 : decode cX7_hopes 29 = .ok (.invokevirtual 39, 3) := by decide +kernel
theorem dX7_hopes_32 : decode cX7_hopes 32 = .ok (.iconst 4, 1) := by decide +kernel
theorem dX7_hopes_33 : decode cX7_hopes 33 = .ok (.invokestatic 130, 3) := by decide +kernel
theorem dX7_hopes_36 : decode cX7_hopes 36 = .ok (.ifCond .eq 9, 3) := by decide +kernel
theorem dX7_hopes_39 : decode cX7_hopes 39 = .ok (.iload_n 3, 1) := by decide +kernel
theorem dX7_hopes_40 : decode cX7_hopes 40 = .ok (.iconst 0, 1) := by decide +kernel
theorem dX7_hopes_41 : decode cX7_hopes 41 = .ok (.invokestatic 134, 3) := by decide +kernel
theorem dX7_hopes_44 : decode cX7_hopes 44 = .ok (.istore_n 3, 1) := by decide +kernel
theorem dX7_hopes_45 : decode cX7_hopes 45 = .ok (.aload_n 0, 1) := by decide +kernel
theorem dX7_hopes_46 : decode cX7_hopes 46 = .ok (.getfield 26, 3) := by decide +kernel
theorem dX7_hopes_49 : decode cX7_hopes 49 = .ok (.iload_n 2, 1) := by decide +kernel
theorem dX7_hopes_50 : decode cX7_hopes 50 = .ok (.iload_n 3, 1) := by decide +kernel
theorem dX7_hopes_51 : decode cX7_hopes 51 = .ok (.invokevirtual 74, 3) := by decide +kernel
theorem dX7_hopes_54 : decode cX7_hopes 54 = .ok (.iload_n 1, 1) := by decide +kernel
theorem dX7_hopes_55 : decode cX7_hopes 55 = .ok (.iload_n 3, 1) := by decide +kernel
theorem dX7_hopes_56 : decode cX7_hopes 56 = .ok (.iadd, 1) := by decide +kernel
theorem dX7_hopes_57 : decode cX7_hopes 57 = .ok (.istore_n 1, 1) := by decide +kernel
theorem dX7_hopes_58 : decode cX7_hopes 58 = .ok (.iinc 2 1, 3) := by decide +kernel
theorem dX7_hopes_61 : decode cX7_hopes 61 = .ok (.goto (-57), 3) := by decide +kernel
theorem dX7_hopes_64 : decode cX7_hopes 64 = .ok (.iload_n 1, 1) := by decide +kernel
theorem dX7_hopes_65 : decode cX7_hopes 65 = .ok (.ireturn, 1) := by decide +kernel
theorem dX7_goWays_0 : decode cX7_goWays 0 = .ok (.iconst 0, 1) := by decide +kernel
theorem dX7_goWays_1 : decode cX7_goWays 1 = .ok (.istore_n 1, 1) := by decide +kernel
theorem dX7_goWays_2 : decode cX7_goWays 2 = .ok (.iload_n 1, 1) := by decide +kernel
theorem dX7_goWays_3 : decode cX7_goWays 3 = .ok (.aload_n 0, 1) := by decide +kernel
theorem dX7_goWays_4 : decode cX7_goWays 4 = .ok (.getfield 71, 3) := by decide +kernel
theorem dX7_goWays_7 : decode cX7_goWays 7 = .ok (.if_icmp .ge 21, 3) := by decide +kernel
theorem dX7_goWays_10 : decode cX7_goWays 10 = .ok (.aload_n 0, 1) := by decide +kernel
theorem dX7_goWays_11 : decode cX7_goWays 11 = .ok (.getfield 14, 3) := by decide +kernel
theorem dX7_goWays_14 : decode cX7_goWays 14 = .ok (.iload_n 1, 1) := by decide +kernel
theorem dX7_goWays_15 : decode cX7_goWays 15 = .ok (.invokevirtual 39, 3) := by decide +kernel
theorem dX7_goWays_18 : decode cX7_goWays 18 = .ok (.ifCond .ne 4, 3) := by decide +kernel
theorem dX7_goWays_21 : decode cX7_goWays 21 = .ok (.return_, 1) := by decide +kernel
theorem dX7_goWays_22 : decode cX7_goWays 22 = .ok (.iinc 1 1, 3) := by decide +kernel
theorem dX7_goWays_25 : decode cX7_goWays 25 = .ok (.goto (-23), 3) := by decide +kernel
theorem dX7_goWays_28 : decode cX7_goWays 28 = .ok (.aload_n 0, 1) := by decide +kernel
theorem dX7_goWays_29 : decode cX7_goWays 29 = .ok (.iconst 0, 1) := by decide +kernel
theorem dX7_goWays_30 : decode cX7_goWays 30 = .ok (.iconst 0, 1) := by decide +kernel
theorem dX7_goWays_31 : decode cX7_goWays 31 = .ok (.iconst 0, 1) := by decide +kernel
theorem dX7_goWays_32 : decode cX7_goWays 32 = .ok (.aload_n 0, 1) := by decide +kernel
theorem dX7_goWays_33 : decode cX7_goWays 33 = .ok (.invokevirtual 101, 3) := by decide +kernel
theorem dX7_goWays_36 : decode cX7_goWays 36 = .ok (.invokevirtual 137, 3) := by decide +kernel
theorem dX7_goWays_39 : decode cX7_goWays 39 = .ok (.return_, 1) := by decide +kernel
theorem dX7_goOn_0 : decode cX7_goOn 0 = .ok (.aload_n 0, 1) := by decide +kernel
theorem dX7_goOn_1 : decode cX7_goOn 1 = .ok (.getfield 81, 3) := by decide +kernel
theorem dX7_goOn_4 : decode cX7_goOn 4 = .ok (.ifCond .eq 15, 3) := by decide +kernel
theorem dX7_goOn_7 : decode cX7_goOn 7 = .ok (.iload_n 3, 1) := by decide +kernel
theorem dX7_goOn_8 : decode cX7_goOn 8 = .ok (.iload 4, 2) := by decide +kernel
theorem dX7_goOn_10 : decode cX7_goOn 10 = .ok (.iadd, 1) := by decide +kernel
theorem dX7_goOn_11 : decode cX7_goOn 11 = .ok (.aload_n 0, 1) := by decide +kernel
theorem dX7_goOn_12 : decode cX7_goOn 12 = .ok (.getfield 47, 3) := by decide +kernel
theorem dX7_goOn_15 : decode cX7_goOn 15 = .ok (.if_icmp .gt 4, 3) := by decide +kernel
theorem dX7_goOn_18 : decode cX7_goOn 18 = .ok (.return_, 1) := by decide +kernel
theorem dX7_goOn_19 : decode cX7_goOn 19 = .ok (.iload_n 1, 1) := by decide +kernel
theorem dX7_goOn_20 : decode cX7_goOn 20 = .ok (.aload_n 0, 1) := by decide +kernel
theorem dX7_goOn_21 : decode cX7_goOn 21 = .ok (.getfield 71, 3) := by decide +kernel
theorem dX7_goOn_24 : decode cX7_goOn 24 = .ok (.if_icmp .lt 9, 3) := by decide +kernel
theorem dX7_goOn_27 : decode cX7_goOn 27 = .ok (.aload_n 0, 1) := by decide +kernel
theorem dX7_goOn_28 : decode cX7_goOn 28 = .ok (.iload_n 3, 1) := by decide +kernel
theorem dX7_goOn_29 : decode cX7_goOn 29 = .ok (.invokevirtual 141, 3) := by decide +kernel
theorem dX7_goOn_32 : decode cX7_goOn 32 = .ok (.return_, 1) := by decide +kernel
theorem dX7_goOn_33 : decode cX7_goOn 33 = .ok (.iconst 0, 1) := by decide +kernel
theorem dX7_goOn_34 : decode cX7_goOn 34 = .ok (.istore 5, 2) := by decide +kernel
theorem dX7_goOn_36 : decode cX7_goOn 36 = .ok (.iload 5, 2) := by decide +kernel
theorem dX7_goOn_38 : decode cX7_goOn 38 = .ok (.iconst 4, 1) := by decide +kernel
theorem dX7_goOn_39 : decode cX7_goOn 39 = .ok (.if_icmp .gt 31, 3) := by decide +kernel
theorem dX7_goOn_42 : decode cX7_goOn 42 = .ok (.aload_n 0, 1) := by decide +kernel
theorem dX7_goOn_43 : decode cX7_goOn 43 = .ok (.iload_n 1, 1) := by decide +kernel
theorem dX7_goOn_44 : decode cX7_goOn 44 = .ok (.iload 5, 2) := by decide +kernel
theorem dX7_goOn_46 : decode cX7_goOn 46 = .ok (.iload_n 2, 1) := by decide +kernel
theorem dX7_goOn_47 : decode cX7_goOn 47 = .ok (.invokevirtual 126, 3) := by decide +kernel
theorem dX7_goOn_50 : decode cX7_goOn 50 = .ok (.ifCond .eq 14, 3) := by decide +kernel
theorem dX7_goOn_53 : decode cX7_goOn 53 = .ok (.aload_n 0, 1) := by decide +kernel
theorem dX7_goOn_54 : decode cX7_goOn 54 = .ok (.iload_n 1, 1) := by decide +kernel
theorem dX7_goOn_55 : decode cX7_goOn 55 = .ok (.iload 5, 2) := by decide +kernel
theorem dX7_goOn_57 : decode cX7_goOn 57 = .ok (.iload_n 2, 1) := by decide +kernel
theorem dX7_goOn_58 : decode cX7_goOn 58 = .ok (.iload_n 3, 1) := by decide +kernel
theorem dX7_goOn_59 : decode cX7_goOn 59 = .ok (.iload 4, 2) := by decide +kernel
theorem dX7_goOn_61 : decode cX7_goOn 61 = .ok (.invokevirtual 144, 3) := by decide +kernel
theorem dX7_goOn_64 : decode cX7_goOn 64 = .ok (.iinc 5 1, 3) := by decide +kernel
theorem dX7_goOn_67 : decode cX7_goOn 67 = .ok (.goto (-31), 3) := by decide +kernel
theorem dX7_goOn_70 : decode cX7_goOn 70 = .ok (.return_, 1) := by decide +kernel
theorem dX7_goBy_0 : decode cX7_goBy 0 = .ok (.aload_n 0, 1) := by decide +kernel
theorem dX7_goBy_1 : decode cX7_goBy 1 = .ok (.getfield 29, 3) := by decide +kernel
theorem dX7_goBy_4 : decode cX7_goBy 4 = .ok (.iload_n 1, 1) := by decide +kernel
theorem dX7_goBy_5 : decode cX7_goBy 5 = .ok (.iload_n 2, 1) := by decide +kernel
theorem dX7_goBy_6 : decode cX7_goBy 6 = .ok (.invokevirtual 74, 3) := by decide +kernel
theorem dX7_goBy_9 : decode cX7_goBy 9 = .ok (.aload_n 0, 1) := by decide +kernel
theorem dX7_goBy_10 : decode cX7_goBy 10 = .ok (.iload_n 1, 1) := by decide +kernel
theorem dX7_goBy_11 : decode cX7_goBy 11 = .ok (.iconst 1, 1) := by decide +kernel
theorem dX7_goBy_12 : decode cX7_goBy 12 = .ok (.iadd, 1) := by decide +kernel
theorem dX7_goBy_13 : decode cX7_goBy 13 = .ok (.iload_n 3, 1) := by decide +kernel
theorem dX7_goBy_14 : decode cX7_goBy 14 = .ok (.aload_n 0, 1) := by decide +kernel
theorem dX7_goBy_15 : decode cX7_goBy 15 = .ok (.iload_n 1, 1) := by decide +kernel
theorem dX7_goBy_16 : decode cX7_goBy 16 = .ok (.iload_n 2, 1) := by decide +kernel
theorem dX7_goBy_17 : decode cX7_goBy 17 = .ok (.invokevirtual 95, 3) := by decide +kernel
theorem dX7_goBy_20 : decode cX7_goBy 20 = .ok (.ior, 1) := by decide +kernel
theorem dX7_goBy_21 : decode cX7_goBy 21 = .ok (.iload 4, 2) := by decide +kernel
theorem dX7_goBy_23 : decode cX7_goBy 23 = .ok (.aload_n 0, 1) := by decide +kernel
theorem dX7_goBy_24 : decode cX7_goBy 24 = .ok (.iload_n 1, 1) := by decide +kernel
theorem dX7_goBy_25 : decode cX7_goBy 25 = .ok (.iload_n 2, 1) := by decide +kernel
theorem dX7_goBy_26 : decode cX7_goBy 26 = .ok (.invokevirtual 98, 3) := by decide +kernel
theorem dX7_goBy_29 : decode cX7_goBy 29 = .ok (.iadd, 1) := by decide +kernel
theorem dX7_goBy_30 : decode cX7_goBy 30 = .ok (.iload 5, 2) := by decide +kernel
theorem dX7_goBy_32 : decode cX7_goBy 32 = .ok (.aload_n 0, 1) := by decide +kernel
theorem dX7_goBy_33 : decode cX7_goBy 33 = .ok (.getfield 26, 3) := by decide +kernel
theorem dX7_goBy_36 : decode cX7_goBy 36 = .ok (.iload_n 1, 1) := by decide +kernel
theorem dX7_goBy_37 : decode cX7_goBy 37 = .ok (.invokevirtual 39, 3) := by decide +kernel
theorem dX7_goBy_40 : decode cX7_goBy 40 = .ok (.isub, 1) := by decide +kernel
theorem dX7_goBy_41 : decode cX7_goBy 41 = .ok (.invokevirtual 137, 3) := by decide +kernel
theorem dX7_goBy_44 : decode cX7_goBy 44 = .ok (.return_, 1) := by decide +kernel
theorem dX7_lineUp_0 : decode cX7_lineUp 0 = .ok (.aload_n 0, 1) := by decide +kernel
theorem dX7_lineUp_1 : decode cX7_lineUp 1 = .ok (.getfield 81, 3) := by decide +kernel
theorem dX7_lineUp_4 : decode cX7_lineUp 4 = .ok (.ifCond .eq 16, 3) := by decide +kernel
theorem dX7_lineUp_7 : decode cX7_lineUp 7 = .ok (.iload 4, 2) := by decide +kernel
theorem dX7_lineUp_9 : decode cX7_lineUp 9 = .ok (.iload 5, 2) := by decide +kernel
theorem dX7_lineUp_11 : decode cX7_lineUp 11 = .ok (.iadd, 1) := by decide +kernel
theorem dX7_lineUp_12 : decode cX7_lineUp 12 = .ok (.aload_n 0, 1) := by decide +kernel
theorem dX7_lineUp_13 : decode cX7_lineUp 13 = .ok (.getfield 47, 3) := by decide +kernel
theorem dX7_lineUp_16 : decode cX7_lineUp 16 = .ok (.if_icmp .gt 4, 3) := by decide +kernel
theorem dX7_lineUp_19 : decode cX7_lineUp 19 = .ok (.return_, 1) := by decide +kernel
theorem dX7_lineUp_20 : decode cX7_lineUp 20 = .ok (.iload_n 1, 1) := by decide +kernel
theorem dX7_lineUp_21 : decode cX7_lineUp 21 = .ok (.aload_n 0, 1) := by decide +kernel
theorem dX7_lineUp_22 : decode cX7_lineUp 22 = .ok (.getfield 71, 3) := by decide +kernel
theorem dX7_lineUp_25 : decode cX7_lineUp 25 = .ok (.if_icmp .lt 10, 3) := by decide +kernel
theorem dX7_lineUp_28 : decode cX7_lineUp 28 = .ok (.aload_n 0, 1) := by decide +kernel
theorem dX7_lineUp_29 : decode cX7_lineUp 29 = .ok (.iload 4, 2) := by decide +kernel
theorem dX7_lineUp_31 : decode cX7_lineUp 31 = .ok (.invokevirtual 141, 3) := by decide +kernel
theorem dX7_lineUp_34 : decode cX7_lineUp 34 = .ok (.return_, 1) := by decide +kernel
theorem dX7_lineUp_35 : decode cX7_lineUp 35 = .ok (.iconst 0, 1) := by decide +kernel
theorem dX7_lineUp_36 : decode cX7_lineUp 36 = .ok (.istore 6, 2) := by decide +kernel
theorem dX7_lineUp_38 : decode cX7_lineUp 38 = .ok (.iload 6, 2) := by decide +kernel
theorem dX7_lineUp_40 : decode cX7_lineUp 40 = .ok (.aload_n 0, 1) := by decide +kernel
theorem dX7_lineUp_41 : decode cX7_lineUp 41 = .ok (.getfield 71, 3) := by decide +kernel
theorem dX7_lineUp_44 : decode cX7_lineUp 44 = .ok (.if_icmp .ge 31, 3) := by decide +kernel
theorem dX7_lineUp_47 : decode cX7_lineUp 47 = .ok (.iload_n 2, 1) := by decide +kernel
theorem dX7_lineUp_48 : decode cX7_lineUp 48 = .ok (.iload 6, 2) := by decide +kernel
theorem dX7_lineUp_50 : decode cX7_lineUp 50 = .ok (.invokestatic 130, 3) := by decide +kernel
theorem dX7_lineUp_53 : decode cX7_lineUp 53 = .ok (.ifCond .ne 16, 3) := by decide +kernel
theorem dX7_lineUp_56 : decode cX7_lineUp 56 = .ok (.aload_n 0, 1) := by decide +kernel
theorem dX7_lineUp_57 : decode cX7_lineUp 57 = .ok (.iload 6, 2) := by decide +kernel
theorem dX7_lineUp_59 : decode cX7_lineUp 59 = .ok (.iload_n 1, 1) := by decide +kernel
theorem dX7_lineUp_60 : decode cX7_lineUp 60 = .ok (.iload_n 2, 1) := by decide +kernel
theorem dX7_lineUp_61 : decode cX7_lineUp 61 = .ok (.iload_n 3, 1) := by decide +kernel
theorem dX7_lineUp_62 : decode cX7_lineUp 62 = .ok (.iload 4, 2) := by decide +kernel
theorem dX7_lineUp_64 : decode cX7_lineUp 64 = .ok (.iload 5, 2) := by decide +kernel
theorem dX7_lineUp_66 : decode cX7_lineUp 66 = .ok (.invokevirtual 147, 3) := by decide +kernel
theorem dX7_lineUp_69 : decode cX7_lineUp 69 = .ok (.iinc 6 1, 3) := by decide +kernel
theorem dX7_lineUp_72 : decode cX7_lineUp 72 = .ok (.goto (-34), 3) := by decide +kernel
theorem dX7_lineUp_75 : decode cX7_lineUp 75 = .ok (.return_, 1) := by decide +kernel
theorem dX7_lineUpWith_0 : decode cX7_lineUpWith 0 = .ok (.aload_n 0, 1) := by decide +kernel
theorem dX7_lineUpWith_1 : decode cX7_lineUpWith 1 = .ok (.iload_n 1, 1) := by decide +kernel
theorem dX7_lineUpWith_2 : decode cX7_lineUpWith 2 = .ok (.iload 4, 2) := by decide +kernel
theorem dX7_lineUpWith_4 : decode cX7_lineUpWith 4 = .ok (.invokevirtual 92, 3) := by decide +kernel
theorem dX7_lineUpWith_7 : decode cX7_lineUpWith 7 = .ok (.istore 7, 2) := by decide +kernel
theorem dX7_lineUpWith_9 : decode cX7_lineUpWith 9 = .ok (.aload_n 0, 1) := by decide +kernel
theorem dX7_lineUpWith_10 : decode cX7_lineUpWith 10 = .ok (.getfield 29, 3) := by decide +kernel
theorem dX7_lineUpWith_13 : decode cX7_lineUpWith 13 = .ok (.iload_n 2, 1) := by decide +kernel
theorem dX7_lineUpWith_14 : decode cX7_lineUpWith 14 = .ok (.iload_n 1, 1) := by decide +kernel
theorem dX7_lineUpWith_15 : decode cX7_lineUpWith 15 = .ok (.invokevirtual 74, 3) := by decide +kernel
theorem dX7_lineUpWith_18 : decode cX7_lineUpWith 18 = .ok (.aload_n 0, 1) := by decide +kernel
theorem dX7_lineUpWith_19 : decode cX7_lineUpWith 19 = .ok (.iload_n 2, 1) := by decide +kernel
theorem dX7_lineUpWith_20 : decode cX7_lineUpWith 20 = .ok (.iconst 1, 1) := by decide +kernel
theorem dX7_lineUpWith_21 : decode cX7_lineUpWith 21 = .ok (.iadd, 1) := by decide +kernel
theorem dX7_lineUpWith_22 : decode cX7_lineUpWith 22 = .ok (.iload_n 3, 1) := by decide +kernel
theorem dX7_lineUpWith_23 : decode cX7_lineUpWith 23 = .ok (.iconst 1, 1) := by decide +kernel
theorem dX7_lineUpWith_24 : decode cX7_lineUpWith 24 = .ok (.iload_n 1, 1) := by decide +kernel
theorem dX7_lineUpWith_25 : decode cX7_lineUpWith 25 = .ok (.ishl, 1) := by decide +kernel
theorem dX7_lineUpWith_26 : decode cX7_lineUpWith 26 = .ok (.ior, 1) := by decide +kernel
theorem dX7_lineUpWith_27 : decode cX7_lineUpWith 27 = .ok (.iload 4, 2) := by decide +kernel
theorem dX7_lineUpWith_29 : decode cX7_lineUpWith 29 = .ok (.aload_n 0, 1) := by decide +kernel
theorem dX7_lineUpWith_30 : decode cX7_lineUpWith 30 = .ok (.iload_n 1, 1) := by decide +kernel
theorem dX7_lineUpWith_31 : decode cX7_lineUpWith 31 = .ok (.iload 7, 2) := by decide +kernel
theorem dX7_lineUpWith_33 : decode cX7_lineUpWith 33 = .ok (.invokevirtual 95, 3) := by decide +kernel
theorem dX7_lineUpWith_36 : decode cX7_lineUpWith 36 = .ok (.ior, 1) := by decide +kernel
theorem dX7_lineUpWith_37 : decode cX7_lineUpWith 37 = .ok (.iload 5, 2) := by decide +kernel
theorem dX7_lineUpWith_39 : decode cX7_lineUpWith 39 = .ok (.aload_n 0, 1) := by decide +kernel
theorem dX7_lineUpWith_40 : decode cX7_lineUpWith 40 = .ok (.iload_n 1, 1) := by decide +kernel
theorem dX7_lineUpWith_41 : decode cX7_lineUpWith 41 = .ok (.iload 7, 2) := by decide +kernel
theorem dX7_lineUpWith_43 : decode cX7_lineUpWith 43 = .ok (.invokevirtual 98, 3) := by decide +kernel
theorem dX7_lineUpWith_46 : decode cX7_lineUpWith 46 = .ok (.iadd, 1) := by decide +kernel
theorem dX7_lineUpWith_47 : decode cX7_lineUpWith 47 = .ok (.iload 6, 2) := by decide +kernel
theorem dX7_lineUpWith_49 : decode cX7_lineUpWith 49 = .ok (.aload_n 0, 1) := by decide +kernel
theorem dX7_lineUpWith_50 : decode cX7_lineUpWith 50 = .ok (.getfield 26, 3) := by decide +kernel
theorem dX7_lineUpWith_53 : decode cX7_lineUpWith 53 = .ok (.iload_n 1, 1) := by decide +kernel
theorem dX7_lineUpWith_54 : decode cX7_lineUpWith 54 = .ok (.invokevirtual 39, 3) := by decide +kernel
theorem dX7_lineUpWith_57 : decode cX7_lineUpWith 57 = .ok (.isub, 1) := by decide +kernel
theorem dX7_lineUpWith_58 : decode cX7_lineUpWith 58 = .ok (.invokevirtual 104, 3) := by decide +kernel
theorem dX7_lineUpWith_61 : decode cX7_lineUpWith 61 = .ok (.return_, 1) := by decide +kernel
theorem dX7_find_0 : decode cX7_find 0 = .ok (.aload_n 0, 1) := by decide +kernel
theorem dX7_find_1 : decode cX7_find 1 = .ok (.getfield 32, 3) := by decide +kernel
theorem dX7_find_4 : decode cX7_find 4 = .ok (.aload_n 0, 1) := by decide +kernel
theorem dX7_find_5 : decode cX7_find 5 = .ok (.getfield 29, 3) := by decide +kernel
theorem dX7_find_8 : decode cX7_find 8 = .ok (.invokevirtual 151, 3) := by decide +kernel
theorem dX7_find_11 : decode cX7_find 11 = .ok (.aload_n 0, 1) := by decide +kernel
theorem dX7_find_12 : decode cX7_find 12 = .ok (.iconst 1, 1) := by decide +kernel
theorem dX7_find_13 : decode cX7_find 13 = .ok (.putfield 81, 3) := by decide +kernel
theorem dX7_find_16 : decode cX7_find 16 = .ok (.aload_n 0, 1) := by decide +kernel
theorem dX7_find_17 : decode cX7_find 17 = .ok (.iload_n 1, 1) := by decide +kernel
theorem dX7_find_18 : decode cX7_find 18 = .ok (.putfield 47, 3) := by decide +kernel
theorem dX7_find_21 : decode cX7_find 21 = .ok (.return_, 1) := by decide +kernel
theorem dX8_init_0 : decode cX8_init 0 = .ok (.aload_n 0, 1) := by decide +kernel
theorem dX8_init_1 : decode cX8_init 1 = .ok (.invokespecial 3, 3) := by decide +kernel
theorem dX8_init_4 : decode cX8_init 4 = .ok (.aload_n 0, 1) := by decide +kernel
theorem dX8_init_5 : decode cX8_init 5 = .ok (.new 9, 3) := by decide +kernel
theorem dX8_init_8 : decode cX8_init 8 = .ok (.dup, 1) := by decide +kernel
theorem dX8_init_9 : decode cX8_init 9 = .ok (.bipush 100, 2) := by decide +kernel
theorem dX8_init_11 : decode cX8_init 11 = .ok (.invokespecial 11, 3) := by decide +kernel
theorem dX8_init_14 : decode cX8_init 14 = .ok (.putfield 14, 3) := by decide +kernel
theorem dX8_init_17 : decode cX8_init 17 = .ok (.aload_n 0, 1) := by decide +kernel
theorem dX8_init_18 : decode cX8_init 18 = .ok (.new 9, 3) := by decide +kernel
theorem dX8_init_21 : decode cX8_init 21 = .ok (.dup, 1) := by decide +kernel
theorem dX8_init_22 : decode cX8_init 22 = .ok (.bipush 100, 2) := by decide +kernel
theorem dX8_init_24 : decode cX8_init 24 = .ok (.invokespecial 11, 3) := by decide +kernel
theorem dX8_init_27 : decode cX8_init 27 = .ok (.putfield 20, 3) := by decide +kernel
theorem dX8_init_30 : decode cX8_init 30 = .ok (.aload_n 0, 1) := by decide +kernel
theorem dX8_init_31 : decode cX8_init 31 = .ok (.new 23, 3) := by decide +kernel
theorem dX8_init_34 : decode cX8_init 34 = .ok (.dup, 1) := by decide +kernel
theorem dX8_init_35 : decode cX8_init 35 = .ok (.invokespecial 25, 3) := by decide +kernel
theorem dX8_init_38 : decode cX8_init 38 = .ok (.putfield 26, 3) := by decide +kernel
theorem dX8_init_41 : decode cX8_init 41 = .ok (.aload_n 0, 1) := by decide +kernel
theorem dX8_init_42 : decode cX8_init 42 = .ok (.new 9, 3) := by decide +kernel
theorem dX8_init_45 : decode cX8_init 45 = .ok (.dup, 1) := by decide +kernel
theorem dX8_init_46 : decode cX8_init 46 = .ok (.bipush 7, 2) := by decide +kernel
theorem dX8_init_48 : decode cX8_init 48 = .ok (.invokespecial 11, 3) := by decide +kernel
theorem dX8_init_51 : decode cX8_init 51 = .ok (.putfield 30, 3) := by decide +kernel
theorem dX8_init_54 : decode cX8_init 54 = .ok (.aload_n 0, 1) := by decide +kernel
theorem dX8_init_55 : decode cX8_init 55 = .ok (.new 9, 3) := by decide +kernel
theorem dX8_init_58 : decode cX8_init 58 = .ok (.dup, 1) := by decide +kernel
theorem dX8_init_59 : decode cX8_init 59 = .ok (.bipush 28, 2) := by decide +kernel
theorem dX8_init_61 : decode cX8_init 61 = .ok (.invokespecial 11, 3) := by decide +kernel
theorem dX8_init_64 : decode cX8_init 64 = .ok (.putfield 33, 3) := by decide +kernel
theorem dX8_init_67 : decode cX8_init 67 = .ok (.aload_n 0, 1) := by decide +kernel
theorem dX8_init_68 : decode cX8_init 68 = .ok (.new 9, 3) := by decide +kernel
theorem dX8_init_71 : decode cX8_init 71 = .ok (.dup, 1) := by decide +kernel
theorem dX8_init_72 : decode cX8_init 72 = .ok (.bipush 15, 2) := by decide +kernel
theorem dX8_init_74 : decode cX8_init 74 = .ok (.invokespecial 11, 3) := by decide +kernel
theorem dX8_init_77 : decode cX8_init 77 = .ok (.putfield 36, 3) := by decide +kernel
theorem dX8_init_80 : decode cX8_init 80 = .ok (.aload_n 0, 1) := by decide +kernel
theorem dX8_init_81 : decode cX8_init 81 = .ok (.new 9, 3) := by decide +kernel
theorem dX8_init_84 : decode cX8_init 84 = .ok (.dup, 1) := by decide +kernel
theorem dX8_init_85 : decode cX8_init 85 = .ok (.bipush 16, 2) := by decide +kernel
theorem dX8_init_87 : decode cX8_init 87 = .ok (.invokespecial 11, 3) := by decide +kernel
theorem dX8_init_90 : decode cX8_init 90 = .ok (.putfield 39, 3) := by decide +kernel
theorem dX8_init_93 : decode cX8_init 93 = .ok (.aload_n 0, 1) := by decide +kernel
theorem dX8_init_94 : decode cX8_init 94 = .ok (.new 9, 3) := by decide +kernel
theorem dX8_init_97 : decode cX8_init 97 = .ok (.dup, 1) := by decide +kernel
theorem dX8_init_98 : decode cX8_init 98 = .ok (.bipush 16, 2) := by decide +kernel
theorem dX8_init_100 : decode cX8_init 100 = .ok (.invokespecial 11, 3) := by decide +kernel
theorem dX8_init_103 : decode cX8_init 103 = .ok (.putfield 42, 3) := by decide +kernel
theorem dX8_init_106 : decode cX8_init 106 = .ok (.aload_n 0, 1) := by decide +kernel
theorem dX8_init_107 : decode cX8_init 107 = .ok (.new 9, 3) := by decide +kernel
theorem dX8_init_110 : decode cX8_init 110 = .ok (.dup, 1) := by decide +kernel
theorem dX8_init_111 : decode cX8_init 111 = .ok (.bipush 7, 2) := by decide +kernel
theorem dX8_init_113 : decode cX8_init 113 = .ok (.invokespecial 11, 3) := by decide +kernel
theorem dX8_init_116 : decode cX8_init 116 = .ok (.putfield 45, 3) := by decide +kernel
theorem dX8_init_119 : decode cX8_init 119 = .ok (.aload_n 0, 1) := by decide +kernel
theorem dX8_init_120 : decode cX8_init 120 = .ok (.bipush 24, 2) := by decide +kernel
theorem dX8_init_122 : decode cX8_init 122 = .ok (.putfield 48, 3) := by decide +kernel
theorem dX8_init_125 : decode cX8_init 125 = .ok (.aload_n 0, 1) := by decide +kernel
theorem dX8_init_126 : decode cX8_init 126 = .ok (.bipush 99, 2) := by decide +kernel
theorem dX8_init_128 : decode cX8_init 128 = .ok (.putfield 52, 3) := by decide +kernel
theorem dX8_init_131 : decode cX8_init 131 = .ok (.return_, 1) := by decide +kernel
theorem dX8_become_0 : decode cX8_become 0 = .ok (.aload_n 0, 1) := by decide +kernel
theorem dX8_become_1 : decode cX8_become 1 = .ok (.getfield 14, 3) := by decide +kernel
theorem dX8_become_4 : decode cX8_become 4 = .ok (.aload_n 1, 1) := by decide +kernel
theorem dX8_become_5 : decode cX8_become 5 = .ok (.getfield 14, 3) := by decide +kernel
theorem dX8_become_8 : decode cX8_become 8 = .ok (.invokevirtual 55, 3) := by decide +kernel
theorem dX8_become_11 : decode cX8_become 11 = .ok (.aload_n 0, 1) := by decide +kernel
theorem dX8_become_12 : decode cX8_become 12 = .ok (.getfield 20, 3) := by decide +kernel
theorem dX8_become_15 : decode cX8_become 15 = .ok (.aload_n 1, 1) := by decide +kernel
theorem dX8_become_16 : decode cX8_become 16 = .ok (.getfield 20, 3) := by decide +kernel
theorem dX8_become_19 : decode cX8_become 19 = .ok (.invokevirtual 55, 3) := by decide +kernel
theorem dX8_become_22 : decode cX8_become 22 = .ok (.aload_n 0, 1) := by decide +kernel
theorem dX8_become_23 : decode cX8_become 23 = .ok (.getfield 26, 3) := by decide +kernel
theorem dX8_become_26 : decode cX8_become 26 = .ok (.invokevirtual 59, 3) := by decide +kernel
theorem dX8_become_29 : decode cX8_become 29 = .ok (.iconst 0, 1) := by decide +kernel
theorem dX8_become_30 : decode cX8_become 30 = .ok (.istore_n 2, 1) := by decide +kernel
theorem dX8_become_31 : decode cX8_become 31 = .ok (.iload_n 2, 1) := by decide +kernel
theorem dX8_become_32 : decode cX8_become 32 = .ok (.aload_n 1, 1) := by decide +kernel
theorem dX8_become_33 : decode cX8_become 33 = .ok (.getfield 26, 3) := by decide +kernel
theorem dX8_become_36 : decode cX8_become 36 = .ok (.invokevirtual 62, 3) := by decide +kernel
theorem dX8_become_39 : decode cX8_become 39 = .ok (.if_icmp .ge 28, 3) := by decide +kernel
theorem dX8_become_42 : decode cX8_become 42 = .ok (.aload_n 0, 1) := by decide +kernel
theorem dX8_become_43 : decode cX8_become 43 = .ok (.getfield 26, 3) := by decide +kernel
theorem dX8_become_46 : decode cX8_become 46 = .ok (.aload_n 1, 1) := by decide +kernel
theorem dX8_become_47 : decode cX8_become 47 = .ok (.getfield 26, 3) := by decide +kernel
theorem dX8_become_50 : decode cX8_become 50 = .ok (.iload_n 2, 1) := by decide +kernel
theorem dX8_become_51 : decode cX8_become 51 = .ok (.invokevirtual 66, 3) := by decide +kernel
theorem dX8_become_54 : decode cX8_become 54 = .ok (.checkcast 70, 3) := by decide +kernel
theorem dX8_become_57 : decode cX8_become 57 = .ok (.invokevirtual 72, 3) := by decide +kernel
theorem dX8_become_60 : decode cX8_become 60 = .ok (.pop, 1) := by decide +kernel
theorem dX8_become_61 : decode cX8_become 61 = .ok (.iinc 2 1, 3) := by decide +kernel
theorem dX8_become_64 : decode cX8_become 64 = .ok (.goto (-33), 3) := by decide +kernel
theorem dX8_become_67 : decode cX8_become 67 = .ok (.aload_n 0, 1) := by decide +kernel
theorem dX8_become_68 : decode cX8_become 68 = .ok (.getfield 30, 3) := by decide +kernel
theorem dX8_become_71 : decode cX8_become 71 = .ok (.aload_n 1, 1) := by decide +kernel
theorem dX8_become_72 : decode cX8_become 72 = .ok (.getfield 30, 3) := by decide +kernel
theorem dX8_become_75 : decode cX8_become 75 = .ok (.invokevirtual 55, 3) := by decide +kernel
theorem dX8_become_78 : decode cX8_become 78 = .ok (.aload_n 0, 1) := by decide +kernel
theorem dX8_become_79 : decode cX8_become 79 = .ok (.getfield 33, 3) := by decide +kernel
theorem dX8_become_82 : decode cX8_become 82 = .ok (.aload_n 1, 1) := by decide +kernel
theorem dX8_become_83 : decode cX8_become 83 = .ok (.getfield 33, 3) := by decide +kernel
theorem dX8_become_86 : decode cX8_become 86 = .ok (.invokevirtual 55, 3) := by decide +kernel
theorem dX8_become_89 : decode cX8_become 89 = .ok (.aload_n 0, 1) := by decide +kernel
theorem dX8_become_90 : decode cX8_become 90 = .ok (.getfield 36, 3) := by decide +kernel
theorem dX8_become_93 : decode cX8_become 93 = .ok (.aload_n 1, 1) := by decide +kernel
theorem dX8_become_94 : decode cX8_become 94 = .ok (.getfield 36, 3) := by decide +kernel
theorem dX8_become_97 : decode cX8_become 97 = .ok (.invokevirtual 55, 3) := by decide +kernel
theorem dX8_become_100 : decode cX8_become 100 = .ok (.aload_n 0, 1) := by decide +kernel
theorem dX8_become_101 : decode cX8_become 101 = .ok (.getfield 39, 3) := by decide +kernel
theorem dX8_become_104 : decode cX8_become 104 = .ok (.aload_n 1, 1) := by decide +kernel
theorem dX8_become_105 : decode cX8_become 105 = .ok (.getfield 39, 3) := by decide +kernel
theorem dX8_become_108 : decode cX8_become 108 = .ok (.invokevirtual 55, 3) := by decide +kernel
theorem dX8_become_111 : decode cX8_become 111 = .ok (.aload_n 0, 1) := by decide +kernel
theorem dX8_become_112 : decode cX8_become 112 = .ok (.getfield 42, 3) := by decide +kernel
theorem dX8_become_115 : decode cX8_become 115 = .ok (.aload_n 1, 1) := by decide +kernel
theorem dX8_become_116 : decode cX8_become 116 = .ok (.getfield 42, 3) := by decide +kernel
theorem dX8_become_119 : decode cX8_become 119 = .ok (.invokevirtual 55, 3) := by decide +kernel
theorem dX8_become_122 : decode cX8_become 122 = .ok (.aload_n 0, 1) := by decide +kernel
theorem dX8_become_123 : decode cX8_become 123 = .ok (.aload_n 1, 1) := by decide +kernel
theorem dX8_become_124 : decode cX8_become 124 = .ok (.getfield 76, 3) := by decide +kernel
theorem dX8_become_127 : decode cX8_become 127 = .ok (.putfield 76, 3) := by decide +kernel
theorem dX8_become_130 : decode cX8_become 130 = .ok (.aload_n 0, 1) := by decide +kernel
theorem dX8_become_131 : decode cX8_become 131 = .ok (.aload_n 1, 1) := by decide +kernel
theorem dX8_become_132 : decode cX8_become 132 = .ok (.getfield 48, 3) := by decide +kernel
theorem dX8_become_135 : decode cX8_become 135 = .ok (.putfield 48, 3) := by decide +kernel
theorem dX8_become_138 : decode cX8_become 138 = .ok (.aload_n 0, 1) := by decide +kernel
theorem dX8_become_139 : decode cX8_become 139 = .ok (.aload_n 1, 1) := by decide +kernel
theorem dX8_become_140 : decode cX8_become 140 = .ok (.getfield 52, 3) := by decide +kernel
theorem dX8_become_143 : decode cX8_become 143 = .ok (.putfield 52, 3) := by decide +kernel
theorem dX8_become_146 : decode cX8_become 146 = .ok (.return_, 1) := by decide +kernel
theorem dX8_hold_0 : decode cX8_hold 0 = .ok (.aload_n 0, 1) := by decide +kernel
theorem dX8_hold_1 : decode cX8_hold 1 = .ok (.getfield 20, 3) := by decide +kernel
theorem dX8_hold_4 : decode cX8_hold 4 = .ok (.aload_n 1, 1) := by decide +kernel
theorem dX8_hold_5 : decode cX8_hold 5 = .ok (.getfield 79, 3) := by decide +kernel
theorem dX8_hold_8 : decode cX8_hold 8 = .ok (.invokevirtual 55, 3) := by decide +kernel
theorem dX8_hold_11 : decode cX8_hold 11 = .ok (.aload_n 0, 1) := by decide +kernel
theorem dX8_hold_12 : decode cX8_hold 12 = .ok (.aload_n 1, 1) := by decide +kernel
theorem dX8_hold_13 : decode cX8_hold 13 = .ok (.getfield 82, 3) := by decide +kernel
theorem dX8_hold_16 : decode cX8_hold 16 = .ok (.putfield 48, 3) := by decide +kernel
theorem dX8_hold_19 : decode cX8_hold 19 = .ok (.aload_n 0, 1) := by decide +kernel
theorem dX8_hold_20 : decode cX8_hold 20 = .ok (.aload_n 1, 1) := by decide +kernel
theorem dX8_hold_21 : decode cX8_hold 21 = .ok (.getfield 83, 3) := by decide +kernel
theorem dX8_hold_24 : decode cX8_hold 24 = .ok (.putfield 52, 3) := by decide +kernel
theorem dX8_hold_27 : decode cX8_hold 27 = .ok (.aload_n 0, 1) := by decide +kernel
theorem dX8_hold_28 : decode cX8_hold 28 = .ok (.dup, 1) := by decide +kernel
theorem dX8_hold_29 : decode cX8_hold 29 = .ok (.getfield 76, 3) := by decide +kernel
theorem dX8_hold_32 : decode cX8_hold 32 = .ok (.iconst 1, 1) := by decide +kernel
theorem dX8_hold_33 : decode cX8_hold 33 = .ok (.iadd, 1) := by decide +kernel
theorem dX8_hold_34 : decode cX8_hold 34 = .ok (.putfield 76, 3) := by decide +kernel
theorem dX8_hold_37 : decode cX8_hold 37 = .ok (.return_, 1) := by decide +kernel
theorem dX8_dots_0 : decode cX8_dots 0 = .ok (.aload_n 0, 1) := by decide +kernel
theorem dX8_dots_1 : decode cX8_dots 1 = .ok (.getfield 26, 3) := by decide +kernel
theorem dX8_dots_4 : decode cX8_dots 4 = .ok (.invokevirtual 62, 3) := by decide +kernel
theorem dX8_dots_7 : decode cX8_dots 7 = .ok (.ireturn, 1) := by decide +kernel
theorem dX8_has_0 : decode cX8_has 0 = .ok (.iload_n 1, 1) := by decide +kernel
theorem dX8_has_1 : decode cX8_has 1 = .ok (.ifCond .lt 18, 3) := by decide +kernel
theorem dX8_has_4 : decode cX8_has 4 = .ok (.iload_n 1, 1) := by decide +kernel
theorem dX8_has_5 : decode cX8_has 5 = .ok (.aload_n 0, 1) := by decide +kernel
theorem dX8_has_6 : decode cX8_has 6 = .ok (.getfield 26, 3) := by decide +kernel
theorem dX8_has_9 : decode cX8_has 9 = .ok (.invokevirtual 62, 3) := by decide +kernel
theorem dX8_has_12 : decode cX8_has 12 = .ok (.if_icmp .ge 7, 3) := by decide +kernel
theorem dX8_has_15 : decode cX8_has 15 = .ok (.iconst 1, 1) := by decide +kernel
theorem dX8_has_16 : decode cX8_has 16 = .ok (.goto 4, 3) := by decide +kernel
theorem dX8_has_19 : decode cX8_has 19 = .ok (.iconst 0, 1) := by decide +kernel
theorem dX8_has_20 : decode cX8_has 20 = .ok (.ireturn, 1) := by decide +kernel
theorem dX8_name_0 : decode cX8_name 0 = .ok (.aload_n 0, 1) := by decide +kernel
theorem dX8_name_1 : decode cX8_name 1 = .ok (.iload_n 1, 1) := by decide +kernel
theorem dX8_name_2 : decode cX8_name 2 = .ok (.invokevirtual 84, 3) := by decide +kernel
theorem dX8_name_5 : decode cX8_name 5 = .ok (.ifCond .eq 17, 3) := by decide +kernel
theorem dX8_name_8 : decode cX8_name 8 = .ok (.aload_n 0, 1) := by decide +kernel
theorem dX8_name_9 : decode cX8_name 9 = .ok (.getfield 26, 3) := by decide +kernel
theorem dX8_name_12 : decode cX8_name 12 = .ok (.iload_n 1, 1) := by decide +kernel
theorem dX8_name_13 : decode cX8_name 13 = .ok (.invokevirtual 66, 3) := by decide +kernel
theorem dX8_name_16 : decode cX8_name 16 = .ok (.checkcast 70, 3) := by decide +kernel
theorem dX8_name_19 : decode cX8_name 19 = .ok (.goto 4, 3) := by decide +kernel
theorem dX8_name_22 : decode cX8_name 22 = .ok (.aconst_null, 1) := by decide +kernel
theorem dX8_name_23 : decode cX8_name 23 = .ok (.areturn, 1) := by decide +kernel
theorem dX8_hasDot_0 : decode cX8_hasDot 0 = .ok (.iconst 0, 1) := by decide +kernel
theorem dX8_hasDot_1 : decode cX8_hasDot 1 = .ok (.istore_n 3, 1) := by decide +kernel
theorem dX8_hasDot_2 : decode cX8_hasDot 2 = .ok (.iload_n 3, 1) := by decide +kernel
theorem dX8_hasDot_3 : decode cX8_hasDot 3 = .ok (.aload_n 0, 1) := by decide +kernel
theorem dX8_hasDot_4 : decode cX8_hasDot 4 = .ok (.invokevirtual 88, 3) := by decide +kernel
theorem dX8_hasDot_7 : decode cX8_hasDot 7 = .ok (.if_icmp .ge 41, 3) := by decide +kernel
theorem dX8_hasDot_10 : decode cX8_hasDot 10 = .ok (.aload_n 0, 1) := by decide +kernel
theorem dX8_hasDot_11 : decode cX8_hasDot 11 = .ok (.iload_n 3, 1) := by decide +kernel
theorem dX8_hasDot_12 : decode cX8_hasDot 12 = .ok (.invokevirtual 91, 3) := by decide +kernel
theorem dX8_hasDot_15 : decode cX8_hasDot 15 = .ok (.astore 4, 2) := by decide +kernel
theorem dX8_hasDot_17 : decode cX8_hasDot 17 = .ok (.aload 4, 2) := by decide +kernel
theorem dX8_hasDot_19 : decode cX8_hasDot 19 = .ok (.ifnull 23, 3) := by decide +kernel
theorem dX8_hasDot_22 : decode cX8_hasDot 22 = .ok (.aload 4, 2) := by decide +kernel
theorem dX8_hasDot_24 : decode cX8_hasDot 24 = .ok (.getfield 95, 3) := by decide +kernel
theorem dX8_hasDot_27 : decode cX8_hasDot 27 = .ok (.iload_n 1, 1) := by decide +kernel
theorem dX8_hasDot_28 : decode cX8_hasDot 28 = .ok (.if_icmp .ne 14, 3) := by decide +kernel
theorem dX8_hasDot_31 : decode cX8_hasDot 31 = .ok (.aload 4, 2) := by decide +kernel
theorem dX8_hasDot_33 : decode cX8_hasDot 33 = .ok (.getfield 98, 3) := by decide +kernel
theorem dX8_hasDot_36 : decode cX8_hasDot 36 = .ok (.iload_n 2, 1) := by decide +kernel
theorem dX8_hasDot_37 : decode cX8_hasDot 37 = .ok (.if_icmp .ne 5, 3) := by decide +kernel
theorem dX8_hasDot_40 : decode cX8_hasDot 40 = .ok (.iconst 1, 1) := by decide +kernel
theorem dX8_hasDot_41 : decode cX8_hasDot 41 = .ok (.ireturn, 1) := by decide +kernel
theorem dX8_hasDot_42 : decode cX8_hasDot 42 = .ok (.iinc 3 1, 3) := by decide +kernel
theorem dX8_hasDot_45 : decode cX8_hasDot 45 = .ok (.goto (-43), 3) := by decide +kernel
theorem dX8_hasDot_48 : decode cX8_hasDot 48 = .ok (.iconst 0, 1) := by decide +kernel
theorem dX8_hasDot_49 : decode cX8_hasDot 49 = .ok (.ireturn, 1) := by decide +kernel
theorem dX8_mayBe_0 : decode cX8_mayBe 0 = .ok (.aload_n 0, 1) := by decide +kernel
theorem dX8_mayBe_1 : decode cX8_mayBe 1 = .ok (.iload_n 1, 1) := by decide +kernel
theorem dX8_mayBe_2 : decode cX8_mayBe 2 = .ok (.invokevirtual 91, 3) := by decide +kernel
theorem dX8_mayBe_5 : decode cX8_mayBe 5 = .ok (.astore_n 2, 1) := by decide +kernel
theorem dX8_mayBe_6 : decode cX8_mayBe 6 = .ok (.aload_n 2, 1) := by decide +kernel
theorem dX8_mayBe_7 : decode cX8_mayBe 7 = .ok (.ifnonnull 5, 3) := by decide +kernel
theorem dX8_mayBe_10 : decode cX8_mayBe 10 = .ok (.iconst 0, 1) := by decide +kernel
theorem dX8_mayBe_11 : decode cX8_mayBe 11 = .ok (.ireturn, 1) := by decide +kernel
theorem dX8_mayBe_12 : decode cX8_mayBe 12 = .ok (.iconst 0, 1) := by decide +kernel
theorem dX8_mayBe_13 : decode cX8_mayBe 13 = .ok (.istore_n 3, 1) := by decide +kernel
theorem dX8_mayBe_14 : decode cX8_mayBe 14 = .ok (.iconst 0, 1) := by decide +kernel
theorem dX8_mayBe_15 : decode cX8_mayBe 15 = .ok (.istore 4, 2) := by decide +kernel
theorem dX8_mayBe_17 : decode cX8_mayBe 17 = .ok (.iload 4, 2) := by decide +kernel
theorem dX8_mayBe_19 : decode cX8_mayBe 19 = .ok (.iconst 4, 1) := by decide +kernel
theorem dX8_mayBe_20 : decode cX8_mayBe 20 = .ok (.if_icmp .ge 32, 3) := by decide +kernel
theorem dX8_mayBe_23 : decode cX8_mayBe 23 = .ok (.aload_n 0, 1) := by decide +kernel
theorem dX8_mayBe_24 : decode cX8_mayBe 24 = .ok (.getfield 33, 3) := by decide +kernel
theorem dX8_mayBe_27 : decode cX8_mayBe 27 = .ok (.iload_n 1, 1) := by decide +kernel
theorem dX8_mayBe_28 : decode cX8_mayBe 28 = .ok (.iconst 4, 1) := by decide +kernel
theorem dX8_mayBe_29 : decode cX8_mayBe 29 = .ok (.imul, 1) := by decide +kernel
theorem dX8_mayBe_30 : decode cX8_mayBe 30 = .ok (.iload 4, 2) := by decide +kernel
theorem dX8_mayBe_32 : decode cX8_mayBe 32 = .ok (.iadd, 1) := by decide +kernel
theorem dX8_mayBe_33 : decode cX8_mayBe 33 = .ok (.invokevirtual 101, 3) := by decide +kernel
theorem dX8_mayBe_36 : decode cX8_mayBe 36 = .ok (.ifCond .le 10, 3) := by decide +kernel
theorem dX8_mayBe_39 : decode cX8_mayBe 39 = .ok (.iload_n 3, 1) := by decide +kernel
theorem dX8_mayBe_40 : decode cX8_mayBe 40 = .ok (.iconst 1, 1) := by decide +kernel
theorem dX8_mayBe_41 : decode cX8_mayBe 41 = .ok (.iload 4, 2) := by decide +kernel
theorem dX8_mayBe_43 : decode cX8_mayBe 43 = .ok (.ishl, 1) := by decide +kernel
theorem dX8_mayBe_44 : decode cX8_mayBe 44 = .ok (.ior, 1) := by decide +kernel
theorem dX8_mayBe_45 : decode cX8_mayBe 45 = .ok (.istore_n 3, 1) := by decide +kernel
theorem dX8_mayBe_46 : decode cX8_mayBe 46 = .ok (.iinc 4 1, 3) := by decide +kernel
theorem dX8_mayBe_49 : decode cX8_mayBe 49 = .ok (.goto (-32), 3) := by decide +kernel
theorem dX8_mayBe_52 : decode cX8_mayBe 52 = .ok (.aload_n 2, 1) := by decide +kernel
theorem dX8_mayBe_53 : decode cX8_mayBe 53 = .ok (.iload_n 3, 1) := by decide +kernel
theorem dX8_mayBe_54 : decode cX8_mayBe 54 = .ok (.invokevirtual 104, 3) := by decide +kernel
theorem dX8_mayBe_57 : decode cX8_mayBe 57 = .ok (.ireturn, 1) := by decide +kernel
theorem dX8_fitting_0 : decode cX8_fitting 0 = .ok (.aload_n 0, 1) := by decide +kernel
theorem dX8_fitting_1 : decode cX8_fitting 1 = .ok (.iload_n 1, 1) := by decide +kernel
theorem dX8_fitting_2 : decode cX8_fitting 2 = .ok (.invokevirtual 91, 3) := by decide +kernel
theorem dX8_fitting_5 : decode cX8_fitting 5 = .ok (.astore_n 3, 1) := by decide +kernel
theorem dX8_fitting_6 : decode cX8_fitting 6 = .ok (.aload_n 3, 1) := by decide +kernel
theorem dX8_fitting_7 : decode cX8_fitting 7 = .ok (.ifnonnull 5, 3) := by decide +kernel
theorem dX8_fitting_10 : decode cX8_fitting 10 = .ok (.iconst 0, 1) := by decide +kernel
theorem dX8_fitting_11 : decode cX8_fitting 11 = .ok (.ireturn, 1) := by decide +kernel
theorem dX8_fitting_12 : decode cX8_fitting 12 = .ok (.aload_n 0, 1) := by decide +kernel
theorem dX8_fitting_13 : decode cX8_fitting 13 = .ok (.iload_n 1, 1) := by decide +kernel
theorem dX8_fitting_14 : decode cX8_fitting 14 = .ok (.invokevirtual 107, 3) := by decide +kernel
theorem dX8_fitting_17 : decode cX8_fitting 17 = .ok (.istore 4, 2) := by decide +kernel
theorem dX8_fitting_19 : decode cX8_fitting 19 = .ok (.iconst 0, 1) := by decide +kernel
theorem dX8_fitting_20 : decode cX8_fitting 20 = .ok (.istore 5, 2) := by decide +kernel
theorem dX8_fitting_22 : decode cX8_fitting 22 = .ok (.iload 5, 2) := by decide +kernel
theorem dX8_fitting_24 : decode cX8_fitting 24 = .ok (.iconst 4, 1) := by decide +kernel
theorem dX8_fitting_25 : decode cX8_fitting 25 = .ok (.if_icmp .ge 40, 3) := by decide +kernel
theorem dX8_fitting_28 : decode cX8_fitting 28 = .ok (.aload_n 3, 1) := by decide +kernel
theorem dX8_fitting_29 : decode cX8_fitting 29 = .ok (.iload 5, 2) := by decide +kernel
theorem dX8_fitting_31 : decode cX8_fitting 31 = .ok (.iload_n 2, 1) := by decide +kernel
theorem dX8_fitting_32 : decode cX8_fitting 32 = .ok (.invokestatic 108, 3) := by decide +kernel
theorem dX8_fitting_35 : decode cX8_fitting 35 = .ok (.ifCond .eq 13, 3) := by decide +kernel
theorem dX8_fitting_38 : decode cX8_fitting 38 = .ok (.aload_n 0, 1) := by decide +kernel
theorem dX8_fitting_39 : decode cX8_fitting 39 = .ok (.aload_n 3, 1) := by decide +kernel
theorem dX8_fitting_40 : decode cX8_fitting 40 = .ok (.iload 5, 2) := by decide +kernel
theorem dX8_fitting_42 : decode cX8_fitting 42 = .ok (.invokevirtual 112, 3) := by decide +kernel
theorem dX8_fitting_45 : decode cX8_fitting 45 = .ok (.ifCond .eq 14, 3) := by decide +kernel
theorem dX8_fitting_48 : decode cX8_fitting 48 = .ok (.iload 4, 2) := by decide +kernel
theorem dX8_fitting_50 : decode cX8_fitting 50 = .ok (.iconst 1, 1) := by decide +kernel
theorem dX8_fitting_51 : decode cX8_fitting 51 = .ok (.iload 5, 2) := by decide +kernel
theorem dX8_fitting_53 : decode cX8_fitting 53 = .ok (.ishl, 1) := by decide +kernel
theorem dX8_fitting_54 : decode cX8_fitting 54 = .ok (.iconst (-1), 1) := by decide +kernel
theorem dX8_fitting_55 : decode cX8_fitting 55 = .ok (.ixor, 1) := by decide +kernel
theorem dX8_fitting_56 : decode cX8_fitting 56 = .ok (.iand, 1) := by decide +kernel
theorem dX8_fitting_57 : decode cX8_fitting 57 = .ok (.istore 4, 2) := by decide +kernel
theorem dX8_fitting_59 : decode cX8_fitting 59 = .ok (.iinc 5 1, 3) := by decide +kernel
theorem dX8_fitting_62 : decode cX8_fitting 62 = .ok (.goto (-40), 3) := by decide +kernel
theorem dX8_fitting_65 : decode cX8_fitting 65 = .ok (.iload 4, 2) := by decide +kernel
theorem dX8_fitting_67 : decode cX8_fitting 67 = .ok (.ireturn, 1) := by decide +kernel
theorem dX8_isOnSheet_0 : decode cX8_isOnSheet 0 = .ok (.lconst 1, 1) := by decide +kernel
theorem dX8_isOnSheet_1 : decode cX8_isOnSheet 1 = .ok (.iload_n 2, 1) := by decide +kernel
theorem dX8_isOnSheet_2 : decode cX8_isOnSheet 2 = .ok (.lshl, 1) := by decide +kernel
theorem dX8_isOnSheet_3 : decode cX8_isOnSheet 3 = .ok (.lconst 1, 1) := by decide +kernel
theorem dX8_isOnSheet_4 : decode cX8_isOnSheet 4 = .ok (.lsub, 1) := by decide +kernel
theorem dX8_isOnSheet_5 : decode cX8_isOnSheet 5 = .ok (.bipush 14, 2) := by decide +kernel
theorem dX8_isOnSheet_7 : decode cX8_isOnSheet 7 = .ok (.lshl, 1) := by decide +kernel
theorem dX8_isOnSheet_8 : decode cX8_isOnSheet 8 = .ok (.lstore_n 3, 1) := by decide +kernel
theorem dX8_isOnSheet_9 : decode cX8_isOnSheet 9 = .ok (.aload_n 0, 1) := by decide +kernel
theorem dX8_isOnSheet_10 : decode cX8_isOnSheet 10 = .ok (.iload_n 1, 1) := by decide +kernel
theorem dX8_isOnSheet_11 : decode cX8_isOnSheet 11 = .ok (.invokevirtual 116, 3) := by decide +kernel
theorem dX8_isOnSheet_14 : decode cX8_isOnSheet 14 = .ok (.istore 5, 2) := by decide +kernel
theorem dX8_isOnSheet_16 : decode cX8_isOnSheet 16 = .ok (.iload 5, 2) := by decide +kernel
theorem dX8_isOnSheet_18 : decode cX8_isOnSheet 18 = .ok (.ifCond .lt 34, 3) := by decide +kernel
theorem dX8_isOnSheet_21 : decode cX8_isOnSheet 21 = .ok (.iload 5, 2) := by decide +kernel
theorem dX8_isOnSheet_23 : decode cX8_isOnSheet 23 = .ok (.bipush 12, 2) := by decide +kernel
theorem dX8_isOnSheet_25 : decode cX8_isOnSheet 25 = .ok (.if_icmp .ge 27, 3) := by decide +kernel
theorem dX8_isOnSheet_28 : decode cX8_isOnSheet 28 = .ok (.aload_n 0, 1) := by decide +kernel
theorem dX8_isOnSheet_29 : decode cX8_isOnSheet 29 = .ok (.iload_n 1, 1) := by decide +kernel
theorem dX8_isOnSheet_30 : decode cX8_isOnSheet 30 = .ok (.aload_n 0, 1) := by decide +kernel
theorem dX8_isOnSheet_31 : decode cX8_isOnSheet 31 = .ok (.getfield 119, 3) := by decide +kernel
theorem dX8_isOnSheet_34 : decode cX8_isOnSheet 34 = .ok (.invokevirtual 122, 3) := by decide +kernel
theorem dX8_isOnSheet_37 : decode cX8_isOnSheet 37 = .ok (.lload_n 3, 1) := by decide +kernel
theorem dX8_isOnSheet_38 : decode cX8_isOnSheet 38 = .ok (.ldc2_w 126, 3) := by decide +kernel
theorem dX8_isOnSheet_41 : decode cX8_isOnSheet 41 = .ok (.lxor, 1) := by decide +kernel
theorem dX8_isOnSheet_42 : decode cX8_isOnSheet 42 = .ok (.land, 1) := by decide +kernel
theorem dX8_isOnSheet_43 : decode cX8_isOnSheet 43 = .ok (.lconst 0, 1) := by decide +kernel
theorem dX8_isOnSheet_44 : decode cX8_isOnSheet 44 = .ok (.lcmp, 1) := by decide +kernel
theorem dX8_isOnSheet_45 : decode cX8_isOnSheet 45 = .ok (.ifCond .ne 7, 3) := by decide +kernel
theorem dX8_isOnSheet_48 : decode cX8_isOnSheet 48 = .ok (.iconst 1, 1) := by decide +kernel
theorem dX8_isOnSheet_49 : decode cX8_isOnSheet 49 = .ok (.goto 4, 3) := by decide +kernel
theorem dX8_isOnSheet_52 : decode cX8_isOnSheet 52 = .ok (.iconst 0, 1) := by decide +kernel
theorem dX8_isOnSheet_53 : decode cX8_isOnSheet 53 = .ok (.ireturn, 1) := by decide +kernel
theorem dX8_isOverDot_0 : decode cX8_isOverDot 0 = .ok (.iconst 0, 1) := by decide +kernel
theorem dX8_isOverDot_1 : decode cX8_isOverDot 1 = .ok (.istore_n 3, 1) := by decide +kernel
theorem dX8_isOverDot_2 : decode cX8_isOverDot 2 = .ok (.iload_n 3, 1) := by decide +kernel
theorem dX8_isOverDot_3 : decode cX8_isOverDot 3 = .ok (.aload_n 0, 1) := by decide +kernel
theorem dX8_isOverDot_4 : decode cX8_isOverDot 4 = .ok (.invokevirtual 88, 3) := by decide +kernel
theorem dX8_isOverDot_7 : decode cX8_isOverDot 7 = .ok (.if_icmp .ge 45, 3) := by decide +kernel
theorem dX8_isOverDot_10 : decode cX8_isOverDot 10 = .ok (.aload_n 0, 1) := by decide +kernel
theorem dX8_isOverDot_11 : decode cX8_isOverDot 11 = .ok (.iload_n 3, 1) := by decide +kernel
theorem dX8_isOverDot_12 : decode cX8_isOverDot 12 = .ok (.invokevirtual 91, 3) := by decide +kernel
theorem dX8_isOverDot_15 : decode cX8_isOverDot 15 = .ok (.astore 4, 2) := by decide +kernel
theorem dX8_isOverDot_17 : decode cX8_isOverDot 17 = .ok (.aload 4, 2) := by decide +kernel
theorem dX8_isOverDot_19 : decode cX8_isOverDot 19 = .ok (.ifnull 27, 3) := by decide +kernel
theorem dX8_isOverDot_22 : decode cX8_isOverDot 22 = .ok (.aload_n 1, 1) := by decide +kernel
theorem dX8_isOverDot_23 : decode cX8_isOverDot 23 = .ok (.iload_n 2, 1) := by decide +kernel
theorem dX8_isOverDot_24 : decode cX8_isOverDot 24 = .ok (.aload_n 1, 1) := by decide +kernel
theorem dX8_isOverDot_25 : decode cX8_isOverDot 25 = .ok (.getfield 119, 3) := by decide +kernel
theorem dX8_isOverDot_28 : decode cX8_isOverDot 28 = .ok (.aload 4, 2) := by decide +kernel
theorem dX8_isOverDot_30 : decode cX8_isOverDot 30 = .ok (.getfield 95, 3) := by decide +kernel
theorem dX8_isOverDot_33 : decode cX8_isOverDot 33 = .ok (.aload 4, 2) := by decide +kernel
theorem dX8_isOverDot_35 : decode cX8_isOverDot 35 = .ok (.getfield 98, 3) := by decide +kernel
theorem dX8_isOverDot_38 : decode cX8_isOverDot 38 = .ok (.invokevirtual 128, 3) := by decide +kernel
theorem dX8_isOverDot_41 : decode cX8_isOverDot 41 = .ok (.ifCond .eq 5, 3) := by decide +kernel
theorem dX8_isOverDot_44 : decode cX8_isOverDot 44 = .ok (.iconst 1, 1) := by decide +kernel
theorem dX8_isOverDot_45 : decode cX8_isOverDot 45 = .ok (.ireturn, 1) := by decide +kernel
theorem dX8_isOverDot_46 : decode cX8_isOverDot 46 = .ok (.iinc 3 1, 3) := by decide +kernel
theorem dX8_isOverDot_49 : decode cX8_isOverDot 49 = .ok (.goto (-47), 3) := by decide +kernel
theorem dX8_isOverDot_52 : decode cX8_isOverDot 52 = .ok (.iconst 0, 1) := by decide +kernel
theorem dX8_isOverDot_53 : decode cX8_isOverDot 53 = .ok (.ireturn, 1) := by decide +kernel
theorem dX8_free_0 : decode cX8_free 0 = .ok (.aload_n 0, 1) := by decide +kernel
theorem dX8_free_1 : decode cX8_free 1 = .ok (.iload_n 1, 1) := by decide +kernel
theorem dX8_free_2 : decode cX8_free 2 = .ok (.aload_n 0, 1) := by decide +kernel
theorem dX8_free_3 : decode cX8_free 3 = .ok (.getfield 48, 3) := by decide +kernel
theorem dX8_free_6 : decode cX8_free 6 = .ok (.invokevirtual 132, 3) := by decide +kernel
theorem dX8_free_9 : decode cX8_free 9 = .ok (.istore_n 3, 1) := by decide +kernel
theorem dX8_free_10 : decode cX8_free 10 = .ok (.iconst 0, 1) := by decide +kernel
theorem dX8_free_11 : decode cX8_free 11 = .ok (.istore 4, 2) := by decide +kernel
theorem dX8_free_13 : decode cX8_free 13 = .ok (.iload 4, 2) := by decide +kernel
theorem dX8_free_15 : decode cX8_free 15 = .ok (.iconst 4, 1) := by decide +kernel
theorem dX8_free_16 : decode cX8_free 16 = .ok (.if_icmp .ge 38, 3) := by decide +kernel
theorem dX8_free_19 : decode cX8_free 19 = .ok (.iload_n 3, 1) := by decide +kernel
theorem dX8_free_20 : decode cX8_free 20 = .ok (.iload 4, 2) := by decide +kernel
theorem dX8_free_22 : decode cX8_free 22 = .ok (.invokestatic 136, 3) := by decide +kernel
theorem dX8_free_25 : decode cX8_free 25 = .ok (.ifCond .eq 23, 3) := by decide +kernel
theorem dX8_free_28 : decode cX8_free 28 = .ok (.aload_n 0, 1) := by decide +kernel
theorem dX8_free_29 : decode cX8_free 29 = .ok (.iload_n 1, 1) := by decide +kernel
theorem dX8_free_30 : decode cX8_free 30 = .ok (.iload 4, 2) := by decide +kernel
theorem dX8_free_32 : decode cX8_free 32 = .ok (.aload_n 2, 1) := by decide +kernel
theorem dX8_free_33 : decode cX8_free 33 = .ok (.invokevirtual 140, 3) := by decide +kernel
theorem dX8_free_36 : decode cX8_free 36 = .ok (.ifCond .eq 12, 3) := by decide +kernel
theorem dX8_free_39 : decode cX8_free 39 = .ok (.iload_n 3, 1) := by decide +kernel
theorem dX8_free_40 : decode cX8_free 40 = .ok (.iconst 1, 1) := by decide +kernel
theorem dX8_free_41 : decode cX8_free 41 = .ok (.iload 4, 2) := by decide +kernel
theorem dX8_free_43 : decode cX8_free 43 = .ok (.ishl, 1) := by decide +kernel
theorem dX8_free_44 : decode cX8_free 44 = .ok (.iconst (-1), 1) := by decide +kernel
theorem dX8_free_45 : decode cX8_free 45 = .ok (.ixor, 1) := by decide +kernel
theorem dX8_free_46 : decode cX8_free 46 = .ok (.iand, 1) := by decide +kernel
theorem dX8_free_47 : decode cX8_free 47 = .ok (.istore_n 3, 1) := by decide +kernel
theorem dX8_free_48 : decode cX8_free 48 = .ok (.iinc 4 1, 3) := by decide +kernel
theorem dX8_free_51 : decode cX8_free 51 = .ok (.goto (-38), 3) := by decide +kernel
theorem dX8_free_54 : decode cX8_free 54 = .ok (.iload_n 3, 1) := by decide +kernel
theorem dX8_free_55 : decode cX8_free 55 = .ok (.ireturn, 1) := by decide +kernel
theorem dX8_isClashing_0 : decode cX8_isClashing 0 = .ok (.iconst 0, 1) := by decide +kernel
theorem dX8_isClashing_1 : decode cX8_isClashing 1 = .ok (.istore 4, 2) := by decide +kernel
theorem dX8_isClashing_3 : decode cX8_isClashing 3 = .ok (.iload 4, 2) := by decide +kernel
theorem dX8_isClashing_5 : decode cX8_isClashing 5 = .ok (.aload_n 0, 1) := by decide +kernel
theorem dX8_isClashing_6 : decode cX8_isClashing 6 = .ok (.invokevirtual 88, 3) := by decide +kernel
theorem dX8_isClashing_9 : decode cX8_isClashing 9 = .ok (.if_icmp .ge 44, 3) := by decide +kernel
theorem dX8_isClashing_12 : decode cX8_isClashing 12 = .ok (.aload_n 3, 1) := by decide +kernel
theorem dX8_isClashing_13 : decode cX8_isClashing 13 = .ok (.iload 4, 2) := by decide +kernel
theorem dX8_isClashing_15 : decode cX8_isClashing 15 = .ok (.invokevirtual 101, 3) := by decide +kernel
theorem dX8_isClashing_18 : decode cX8_isClashing 18 = .ok (.istore 5, 2) := by decide +kernel
theorem dX8_isClashing_20 : decode cX8_isClashing 20 = .ok (.iload 4, 2) := by decide +kernel
theorem dX8_isClashing_22 : decode cX8_isClashing 22 = .ok (.iload_n 1, 1) := by decide +kernel
theorem dX8_isClashing_23 : decode cX8_isClashing 23 = .ok (.if_icmp .eq 24, 3) := by decide +kernel
theorem dX8_isClashing_26 : decode cX8_isClashing 26 = .ok (.iload 5, 2) := by decide +kernel
theorem dX8_isClashing_28 : decode cX8_isClashing 28 = .ok (.iconst 4, 1) := by decide +kernel
theorem dX8_isClashing_29 : decode cX8_isClashing 29 = .ok (.if_icmp .eq 18, 3) := by decide +kernel
theorem dX8_isClashing_32 : decode cX8_isClashing 32 = .ok (.aload_n 0, 1) := by decide +kernel
theorem dX8_isClashing_33 : decode cX8_isClashing 33 = .ok (.iload_n 1, 1) := by decide +kernel
theorem dX8_isClashing_34 : decode cX8_isClashing 34 = .ok (.iload_n 2, 1) := by decide +kernel
theorem dX8_isClashing_35 : decode cX8_isClashing 35 = .ok (.iload 4, 2) := by decide +kernel
theorem dX8_isClashing_37 : decode cX8_isClashing 37 = .ok (.iload 5, 2) := by decide +kernel
theorem dX8_isClashing_39 : decode cX8_isClashing 39 = .ok (.invokevirtual 144, 3) := by decide +kernel
theorem dX8_isClashing_42 : decode cX8_isClashing 42 = .ok (.ifCond .le 5, 3) := by decide +kernel
theorem dX8_isClashing_45 : decode cX8_isClashing 45 = .ok (.iconst 1, 1) := by decide +kernel
theorem dX8_isClashing_46 : decode cX8_isClashing 46 = .ok (.ireturn, 1) := by decide +kernel
theorem dX8_isClashing_47 : decode cX8_isClashing 47 = .ok (.iinc 4 1, 3) := by decide +kernel
theorem dX8_isClashing_50 : decode cX8_isClashing 50 = .ok (.goto (-47), 3) := by decide +kernel
theorem dX8_isClashing_53 : decode cX8_isClashing 53 = .ok (.iconst 0, 1) := by decide +kernel
theorem dX8_isClashing_54 : decode cX8_isClashing 54 = .ok (.ireturn, 1) := by decide +kernel
theorem dX8_shared_0 : decode cX8_shared 0 = .ok (.aload_n 0, 1) := by decide +kernel
theorem dX8_shared_1 : decode cX8_shared 1 = .ok (.iload_n 1, 1) := by decide +kernel
theorem dX8_shared_2 : decode cX8_shared 2 = .ok (.invokevirtual 91, 3) := by decide +kernel
theorem dX8_shared_5 : decode cX8_shared 5 = .ok (.astore 5, 2) := by decide +kernel
theorem dX8_shared_7 : decode cX8_shared 7 = .ok (.aload_n 0, 1) := by decide +kernel
theorem dX8_shared_8 : decode cX8_shared 8 = .ok (.iload_n 3, 1) := by decide +kernel
theorem dX8_shared_9 : decode cX8_shared 9 = .ok (.invokevirtual 91, 3) := by decide +kernel
theorem dX8_shared_12 : decode cX8_shared 12 = .ok (.astore 6, 2) := by decide +kernel
theorem dX8_shared_14 : decode cX8_shared 14 = .ok (.aload 5, 2) := by decide +kernel
theorem dX8_shared_16 : decode cX8_shared 16 = .ok (.ifnull 24, 3) := by decide +kernel
theorem dX8_shared_19 : decode cX8_shared 19 = .ok (.aload 6, 2) := by decide +kernel
theorem dX8_shared_21 : decode cX8_shared 21 = .ok (.ifnull 19, 3) := by decide +kernel
theorem dX8_shared_24 : decode cX8_shared 24 = .ok (.aload 5, 2) := by decide +kernel
theorem dX8_shared_26 : decode cX8_shared 26 = .ok (.iload_n 2, 1) := by decide +kernel
theorem dX8_shared_27 : decode cX8_shared 27 = .ok (.invokevirtual 116, 3) := by decide +kernel
theorem dX8_shared_30 : decode cX8_shared 30 = .ok (.aload 6, 2) := by decide +kernel
theorem dX8_shared_32 : decode cX8_shared 32 = .ok (.iload 4, 2) := by decide +kernel
theorem dX8_shared_34 : decode cX8_shared 34 = .ok (.invokevirtual 116, 3) := by decide +kernel
theorem dX8_shared_37 : decode cX8_shared 37 = .ok (.if_icmp .eq 5, 3) := by decide +kernel
theorem dX8_shared_40 : decode cX8_shared 40 = .ok (.iconst 0, 1) := by decide +kernel
theorem dX8_shared_41 : decode cX8_shared 41 = .ok (.ireturn, 1) := by decide +kernel
theorem dX8_shared_42 : decode cX8_shared 42 = .ok (.aload 5, 2) := by decide +kernel
theorem dX8_shared_44 : decode cX8_shared 44 = .ok (.iload_n 2, 1) := by decide +kernel
theorem dX8_shared_45 : decode cX8_shared 45 = .ok (.aload 5, 2) := by decide +kernel
theorem dX8_shared_47 : decode cX8_shared 47 = .ok (.getfield 119, 3) := by decide +kernel
theorem dX8_shared_50 : decode cX8_shared 50 = .ok (.invokevirtual 122, 3) := by decide +kernel
theorem dX8_shared_53 : decode cX8_shared 53 = .ok (.aload 6, 2) := by decide +kernel
theorem dX8_shared_55 : decode cX8_shared 55 = .ok (.iload 4, 2) := by decide +kernel
theorem dX8_shared_57 : decode cX8_shared 57 = .ok (.aload 6, 2) := by decide +kernel
theorem dX8_shared_59 : decode cX8_shared 59 = .ok (.getfield 119, 3) := by decide +kernel
theorem dX8_shared_62 : decode cX8_shared 62 = .ok (.invokevirtual 122, 3) := by decide +kernel
theorem dX8_shared_65 : decode cX8_shared 65 = .ok (.land, 1) := by decide +kernel
theorem dX8_shared_66 : decode cX8_shared 66 = .ok (.invokestatic 148, 3) := by decide +kernel
theorem dX8_shared_69 : decode cX8_shared 69 = .ok (.ireturn, 1) := by decide +kernel
theorem dX8_laid_0 : decode cX8_laid 0 = .ok (.iconst 0, 1) := by decide +kernel
theorem dX8_laid_1 : decode cX8_laid 1 = .ok (.istore_n 2, 1) := by decide +kernel
theorem dX8_laid_2 : decode cX8_laid 2 = .ok (.iconst 0, 1) := by decide +kernel
theorem dX8_laid_3 : decode cX8_laid 3 = .ok (.istore_n 3, 1) := by decide +kernel
theorem dX8_laid_4 : decode cX8_laid 4 = .ok (.iload_n 3, 1) := by decide +kernel
theorem dX8_laid_5 : decode cX8_laid 5 = .ok (.aload_n 0, 1) := by decide +kernel
theorem dX8_laid_6 : decode cX8_laid 6 = .ok (.invokevirtual 88, 3) := by decide +kernel
theorem dX8_laid_9 : decode cX8_laid 9 = .ok (.if_icmp .ge 24, 3) := by decide +kernel
theorem dX8_laid_12 : decode cX8_laid 12 = .ok (.aload_n 1, 1) := by decide +kernel
theorem dX8_laid_13 : decode cX8_laid 13 = .ok (.iload_n 3, 1) := by decide +kernel
theorem dX8_laid_14 : decode cX8_laid 14 = .ok (.invokevirtual 101, 3) := by decide +kernel
theorem dX8_laid_17 : decode cX8_laid 17 = .ok (.iconst 4, 1) := by decide +kernel
theorem dX8_laid_18 : decode cX8_laid 18 = .ok (.if_icmp .eq 9, 3) := by decide +kernel
theorem dX8_laid_21 : decode cX8_laid 21 = .ok (.iload_n 2, 1) := by decide +kernel
theorem dX8_laid_22 : decode cX8_laid 22 = .ok (.iconst 1, 1) := by decide +kernel
theorem dX8_laid_23 : decode cX8_laid 23 = .ok (.iload_n 3, 1) := by decide +kernel
theorem dX8_laid_24 : decode cX8_laid 24 = .ok (.ishl, 1) := by decide +kernel
theorem dX8_laid_25 : decode cX8_laid 25 = .ok (.ior, 1) := by decide +kernel
theorem dX8_laid_26 : decode cX8_laid 26 = .ok (.istore_n 2, 1) := by decide +kernel
theorem dX8_laid_27 : decode cX8_laid 27 = .ok (.iinc 3 1, 3) := by decide +kernel
theorem dX8_laid_30 : decode cX8_laid 30 = .ok (.goto (-26), 3) := by decide +kernel
theorem dX8_laid_33 : decode cX8_laid 33 = .ok (.iload_n 2, 1) := by decide +kernel
theorem dX8_laid_34 : decode cX8_laid 34 = .ok (.ireturn, 1) := by decide +kernel
theorem dX8_score_0 : decode cX8_score 0 = .ok (.iconst 0, 1) := by decide +kernel
theorem dX8_score_1 : decode cX8_score 1 = .ok (.istore_n 2, 1) := by decide +kernel
theorem dX8_score_2 : decode cX8_score 2 = .ok (.iconst 0, 1) := by decide +kernel
theorem dX8_score_3 : decode cX8_score 3 = .ok (.istore_n 3, 1) := by decide +kernel
theorem dX8_score_4 : decode cX8_score 4 = .ok (.iload_n 3, 1) := by decide +kernel
theorem dX8_score_5 : decode cX8_score 5 = .ok (.aload_n 0, 1) := by decide +kernel
theorem dX8_score_6 : decode cX8_score 6 = .ok (.invokevirtual 88, 3) := by decide +kernel
theorem dX8_score_9 : decode cX8_score 9 = .ok (.if_icmp .ge 31, 3) := by decide +kernel
theorem dX8_score_12 : decode cX8_score 12 = .ok (.aload_n 1, 1) := by decide +kernel
theorem dX8_score_13 : decode cX8_score 13 = .ok (.iload_n 3, 1) := by decide +kernel
theorem dX8_score_14 : decode cX8_score 14 = .ok (.invokevirtual 101, 3) := by decide +kernel
theorem dX8_score_17 : decode cX8_score 17 = .ok (.iconst 4, 1) := by decide +kernel
theorem dX8_score_18 : decode cX8_score 18 = .ok (.if_icmp .eq 16, 3) := by decide +kernel
theorem dX8_score_21 : decode cX8_score 21 = .ok (.iload_n 2, 1) := by decide +kernel
theorem dX8_score_22 : decode cX8_score 22 = .ok (.aload_n 0, 1) := by decide +kernel
theorem dX8_score_23 : decode cX8_score 23 = .ok (.iload_n 3, 1) := by decide +kernel
theorem dX8_score_24 : decode cX8_score 24 = .ok (.aload_n 1, 1) := by decide +kernel
theorem dX8_score_25 : decode cX8_score 25 = .ok (.iload_n 3, 1) := by decide +kernel
theorem dX8_score_26 : decode cX8_score 26 = .ok (.invokevirtual 101, 3) := by decide +kernel
theorem dX8_score_29 : decode cX8_score 29 = .ok (.invokevirtual 154, 3) := by decide +kernel
theorem dX8_score_32 : decode cX8_score 32 = .ok (.iadd, 1) := by decide +kernel
theorem dX8_score_33 : decode cX8_score 33 = .ok (.istore_n 2, 1) := by decide +kernel
theorem dX8_score_34 : decode cX8_score 34 = .ok (.iinc 3 1, 3) := by decide +kernel
theorem dX8_score_37 : decode cX8_score 37 = .ok (.goto (-33), 3) := by decide +kernel
theorem dX8_score_40 : decode cX8_score 40 = .ok (.iload_n 2, 1) := by decide +kernel
theorem dX8_score_41 : decode cX8_score 41 = .ok (.ireturn, 1) := by decide +kernel
theorem dX8_goodness_0 : decode cX8_goodness 0 = .ok (.aload_n 0, 1) := by decide +kernel
theorem dX8_goodness_1 : decode cX8_goodness 1 = .ok (.iload_n 1, 1) := by decide +kernel
theorem dX8_goodness_2 : decode cX8_goodness 2 = .ok (.invokevirtual 91, 3) := by decide +kernel
theorem dX8_goodness_5 : decode cX8_goodness 5 = .ok (.astore_n 3, 1) := by decide +kernel
theorem dX8_goodness_6 : decode cX8_goodness 6 = .ok (.aload_n 3, 1) := by decide +kernel
theorem dX8_goodness_7 : decode cX8_goodness 7 = .ok (.ifnonnull 5, 3) := by decide +kernel
theorem dX8_goodness_10 : decode cX8_goodness 10 = .ok (.iconst 0, 1) := by decide +kernel
theorem dX8_goodness_11 : decode cX8_goodness 11 = .ok (.ireturn, 1) := by decide +kernel
theorem dX8_goodness_12 : decode cX8_goodness 12 = .ok (.aload_n 0, 1) := by decide +kernel
theorem dX8_goodness_13 : decode cX8_goodness 13 = .ok (.getfield 52, 3) := by decide +kernel
theorem dX8_goodness_16 : decode cX8_goodness 16 = .ok (.bipush 44, 2) := by decide +kernel
theorem dX8_goodness_18 : decode cX8_goodness 18 = .ok (.if_icmp .ge 28, 3) := by decide +kernel
theorem dX8_goodness_21 : decode cX8_goodness 21 = .ok (.aload_n 3, 1) := by decide +kernel
theorem dX8_goodness_22 : decode cX8_goodness 22 = .ok (.iload_n 2, 1) := by decide +kernel
theorem dX8_goodness_23 : decode cX8_goodness 23 = .ok (.aload_n 3, 1) := by decide +kernel
theorem dX8_goodness_24 : decode cX8_goodness 24 = .ok (.getfield 119, 3) := by decide +kernel
theorem dX8_goodness_27 : decode cX8_goodness 27 = .ok (.aload_n 0, 1) := by decide +kernel
theorem dX8_goodness_28 : decode cX8_goodness 28 = .ok (.getfield 52, 3) := by decide +kernel
theorem dX8_goodness_31 : decode cX8_goodness 31 = .ok (.aload_n 3, 1) := by decide +kernel
theorem dX8_goodness_32 : decode cX8_goodness 32 = .ok (.iload_n 2, 1) := by decide +kernel
theorem dX8_goodness_33 : decode cX8_goodness 33 = .ok (.invokevirtual 116, 3) := by decide +kernel
theorem dX8_goodness_36 : decode cX8_goodness 36 = .ok (.invokevirtual 128, 3) := by decide +kernel
theorem dX8_goodness_39 : decode cX8_goodness 39 = .ok (.ifCond .eq 7, 3) := by decide +kernel
theorem dX8_goodness_42 : decode cX8_goodness 42 = .ok (.iconst 1, 1) := by decide +kernel
theorem dX8_goodness_43 : decode cX8_goodness 43 = .ok (.goto 4, 3) := by decide +kernel
theorem dX8_goodness_46 : decode cX8_goodness 46 = .ok (.iconst 0, 1) := by decide +kernel
theorem dX8_goodness_47 : decode cX8_goodness 47 = .ok (.istore 4, 2) := by decide +kernel
theorem dX8_goodness_49 : decode cX8_goodness 49 = .ok (.bipush 10, 2) := by decide +kernel
theorem dX8_goodness_51 : decode cX8_goodness 51 = .ok (.aload_n 0, 1) := by decide +kernel
theorem dX8_goodness_52 : decode cX8_goodness 52 = .ok (.aload_n 3, 1) := by decide +kernel
theorem dX8_goodness_53 : decode cX8_goodness 53 = .ok (.iload_n 2, 1) := by decide +kernel
theorem dX8_goodness_54 : decode cX8_goodness 54 = .ok (.invokevirtual 157, 3) := by decide +kernel
theorem dX8_goodness_57 : decode cX8_goodness 57 = .ok (.iadd, 1) := by decide +kernel
theorem dX8_goodness_58 : decode cX8_goodness 58 = .ok (.iload 4, 2) := by decide +kernel
theorem dX8_goodness_60 : decode cX8_goodness 60 = .ok (.ifCond .eq 7, 3) := by decide +kernel
theorem dX8_goodness_63 : decode cX8_goodness 63 = .ok (.iconst 5, 1) := by decide +kernel
theorem dX8_goodness_64 : decode cX8_goodness 64 = .ok (.goto 4, 3) := by decide +kernel
theorem dX8_goodness_67 : decode cX8_goodness 67 = .ok (.iconst 0, 1) := by decide +kernel
theorem dX8_goodness_68 : decode cX8_goodness 68 = .ok (.isub, 1) := by decide +kernel
theorem dX8_goodness_69 : decode cX8_goodness 69 = .ok (.ireturn, 1) := by decide +kernel
theorem dX8_taste_0 : decode cX8_taste 0 = .ok (.iconst 0, 1) := by decide +kernel
theorem dX8_taste_1 : decode cX8_taste 1 = .ok (.istore_n 3, 1) := by decide +kernel
theorem dX8_taste_2 : decode cX8_taste 2 = .ok (.iconst 0, 1) := by decide +kernel
theorem dX8_taste_3 : decode cX8_taste 3 = .ok (.istore 4, 2) := by decide +kernel
theorem dX8_taste_5 : decode cX8_taste 5 = .ok (.iconst 0, 1) := by decide +kernel
theorem dX8_taste_6 : decode cX8_taste 6 = .ok (.istore 5, 2) := by decide +kernel
theorem dX8_taste_8 : decode cX8_taste 8 = .ok (.iload 5, 2) := by decide +kernel
theorem dX8_taste_10 : decode cX8_taste 10 = .ok (.aload_n 0, 1) := by decide +kernel
theorem dX8_taste_11 : decode cX8_taste 11 = .ok (.getfield 20, 3) := by decide +kernel
theorem dX8_taste_14 : decode cX8_taste 14 = .ok (.invokevirtual 161, 3) := by decide +kernel
theorem dX8_taste_17 : decode cX8_taste 17 = .ok (.if_icmp .ge 153, 3) := by decide +kernel
theorem dX8_taste_20 : decode cX8_taste 20 = .ok (.aload_n 0, 1) := by decide +kernel
theorem dX8_taste_21 : decode cX8_taste 21 = .ok (.getfield 20, 3) := by decide +kernel
theorem dX8_taste_24 : decode cX8_taste 24 = .ok (.iload 5, 2) := by decide +kernel
theorem dX8_taste_26 : decode cX8_taste 26 = .ok (.invokevirtual 101, 3) := by decide +kernel
theorem dX8_taste_29 : decode cX8_taste 29 = .ok (.istore 6, 2) := by decide +kernel
theorem dX8_taste_31 : decode cX8_taste 31 = .ok (.iload 6, 2) := by decide +kernel
theorem dX8_taste_33 : decode cX8_taste 33 = .ok (.sipush 10000, 3) := by decide +kernel
theorem dX8_taste_36 : decode cX8_taste 36 = .ok (.if_icmp .lt 44, 3) := by decide +kernel
theorem dX8_taste_39 : decode cX8_taste 39 = .ok (.iload 6, 2) := by decide +kernel
theorem dX8_taste_41 : decode cX8_taste 41 = .ok (.sipush 20000, 3) := by decide +kernel
theorem dX8_taste_44 : decode cX8_taste 44 = .ok (.if_icmp .lt 12, 3) := by decide +kernel
theorem dX8_taste_47 : decode cX8_taste 47 = .ok (.sipush 20000, 3) := by decide +kernel
theorem dX8_taste_50 : decode cX8_taste 50 = .ok (.iload 6, 2) := by decide +kernel
theorem dX8_taste_52 : decode cX8_taste 52 = .ok (.isub, 1) := by decide +kernel
theorem dX8_taste_53 : decode cX8_taste 53 = .ok (.goto 9, 3) := by decide +kernel
theorem dX8_taste_56 : decode cX8_taste 56 = .ok (.iload 6, 2) := by decide +kernel
theorem dX8_taste_58 : decode cX8_taste 58 = .ok (.sipush 10000, 3) := by decide +kernel
theorem dX8_taste_61 : decode cX8_taste 61 = .ok (.isub, 1) := by decide +kernel
theorem dX8_taste_62 : decode cX8_taste 62 = .ok (.istore 7, 2) := by decide +kernel
theorem dX8_taste_64 : decode cX8_taste 64 = .ok (.iload_n 3, 1) := by decide +kernel
theorem dX8_taste_65 : decode cX8_taste 65 = .ok (.iload 4, 2) := by decide +kernel
theorem dX8_taste_67 : decode cX8_taste 67 = .ok (.iconst 1, 1) := by decide +kernel
theorem dX8_taste_68 : decode cX8_taste 68 = .ok (.iand, 1) := by decide +kernel
theorem dX8_taste_69 : decode cX8_taste 69 = .ok (.iload 7, 2) := by decide +kernel
theorem dX8_taste_71 : decode cX8_taste 71 = .ok (.imul, 1) := by decide +kernel
theorem dX8_taste_72 : decode cX8_taste 72 = .ok (.iadd, 1) := by decide +kernel
theorem dX8_taste_73 : decode cX8_taste 73 = .ok (.istore_n 3, 1) := by decide +kernel
theorem dX8_taste_74 : decode cX8_taste 74 = .ok (.iconst 0, 1) := by decide +kernel
theorem dX8_taste_75 : decode cX8_taste 75 = .ok (.istore 4, 2) := by decide +kernel
theorem dX8_taste_77 : decode cX8_taste 77 = .ok (.goto 87, 3) := by decide +kernel
theorem dX8_taste_80 : decode cX8_taste 80 = .ok (.iload 6, 2) := by decide +kernel
theorem dX8_taste_82 : decode cX8_taste 82 = .ok (.sipush 1000, 3) := by decide +kernel
theorem dX8_taste_85 : decode cX8_taste 85 = .ok (.if_icmp .lt 32, 3) := by decide +kernel
theorem dX8_taste_88 : decode cX8_taste 88 = .ok (.iload 4, 2) := by decide +kernel
theorem dX8_taste_90 : decode cX8_taste 90 = .ok (.iconst 1, 1) := by decide +kernel
theorem dX8_taste_91 : decode cX8_taste 91 = .ok (.ishl, 1) := by decide +kernel
theorem dX8_taste_92 : decode cX8_taste 92 = .ok (.iload 6, 2) := by decide +kernel
theorem dX8_taste_94 : decode cX8_taste 94 = .ok (.sipush 1000, 3) := by decide +kernel
theorem dX8_taste_97 : decode cX8_taste 97 = .ok (.isub, 1) := by decide +kernel
theorem dX8_taste_98 : decode cX8_taste 98 = .ok (.aload_n 1, 1) := by decide +kernel
theorem dX8_taste_99 : decode cX8_taste 99 = .ok (.iload_n 2, 1) := by decide +kernel
theorem dX8_taste_100 : decode cX8_taste 100 = .ok (.invokestatic 162, 3) := by decide +kernel
theorem dX8_taste_103 : decode cX8_taste 103 = .ok (.ifCond .eq 7, 3) := by decide +kernel
theorem dX8_taste_106 : decode cX8_taste 106 = .ok (.iconst 1, 1) := by decide +kernel
theorem dX8_taste_107 : decode cX8_taste 107 = .ok (.goto 4, 3) := by decide +kernel
theorem dX8_taste_110 : decode cX8_taste 110 = .ok (.iconst 0, 1) := by decide +kernel
theorem dX8_taste_111 : decode cX8_taste 111 = .ok (.ior, 1) := by decide +kernel
theorem dX8_taste_112 : decode cX8_taste 112 = .ok (.istore 4, 2) := by decide +kernel
theorem dX8_taste_114 : decode cX8_taste 114 = .ok (.goto 50, 3) := by decide +kernel
theorem dX8_taste_117 : decode cX8_taste 117 = .ok (.iload 6, 2) := by decide +kernel
theorem dX8_taste_119 : decode cX8_taste 119 = .ok (.iconst 1, 1) := by decide +kernel
theorem dX8_taste_120 : decode cX8_taste 120 = .ok (.if_icmp .ne 12, 3) := by decide +kernel
theorem dX8_taste_123 : decode cX8_taste 123 = .ok (.iload 4, 2) := by decide +kernel
theorem dX8_taste_125 : decode cX8_taste 125 = .ok (.iconst 1, 1) := by decide +kernel
theorem dX8_taste_126 : decode cX8_taste 126 = .ok (.ixor, 1) := by decide +kernel
theorem dX8_taste_127 : decode cX8_taste 127 = .ok (.istore 4, 2) := by decide +kernel
theorem dX8_taste_129 : decode cX8_taste 129 = .ok (.goto 35, 3) := by decide +kernel
theorem dX8_taste_132 : decode cX8_taste 132 = .ok (.iload 6, 2) := by decide +kernel
theorem dX8_taste_134 : decode cX8_taste 134 = .ok (.iconst 2, 1) := by decide +kernel
theorem dX8_taste_135 : decode cX8_taste 135 = .ok (.if_icmp .ne 18, 3) := by decide +kernel
theorem dX8_taste_138 : decode cX8_taste 138 = .ok (.iload 4, 2) := by decide +kernel
theorem dX8_taste_140 : decode cX8_taste 140 = .ok (.iconst 1, 1) := by decide +kernel
theorem dX8_taste_141 : decode cX8_taste 141 = .ok (.ishr, 1) := by decide +kernel
theorem dX8_taste_142 : decode cX8_taste 142 = .ok (.iload 4, 2) := by decide +kernel
theorem dX8_taste_144 : decode cX8_taste 144 = .ok (.bipush (-2), 2) := by decide +kernel
theorem dX8_taste_146 : decode cX8_taste 146 = .ok (.ior, 1) := by decide +kernel
theorem dX8_taste_147 : decode cX8_taste 147 = .ok (.iand, 1) := by decide +kernel
theorem dX8_taste_148 : decode cX8_taste 148 = .ok (.istore 4, 2) := by decide +kernel
theorem dX8_taste_150 : decode cX8_taste 150 = .ok (.goto 14, 3) := by decide +kernel
theorem dX8_taste_153 : decode cX8_taste 153 = .ok (.iload 4, 2) := by decide +kernel
theorem dX8_taste_155 : decode cX8_taste 155 = .ok (.iconst 1, 1) := by decide +kernel
theorem dX8_taste_156 : decode cX8_taste 156 = .ok (.ishr, 1) := by decide +kernel
theorem dX8_taste_157 : decode cX8_taste 157 = .ok (.iload 4, 2) := by decide +kernel
theorem dX8_taste_159 : decode cX8_taste 159 = .ok (.iconst 1, 1) := by decide +kernel
theorem dX8_taste_160 : decode cX8_taste 160 = .ok (.iand, 1) := by decide +kernel
theorem dX8_taste_161 : decode cX8_taste 161 = .ok (.ior, 1) := by decide +kernel
theorem dX8_taste_162 : decode cX8_taste 162 = .ok (.istore 4, 2) := by decide +kernel
theorem dX8_taste_164 : decode cX8_taste 164 = .ok (.iinc 5 1, 3) := by decide +kernel
theorem dX8_taste_167 : decode cX8_taste 167 = .ok (.goto (-159), 3) := by decide +kernel
theorem dX8_taste_170 : decode cX8_taste 170 = .ok (.iload_n 3, 1) := by decide +kernel
theorem dX8_taste_171 : decode cX8_taste 171 = .ok (.ireturn, 1) := by decide +kernel
theorem dX8_holds_0 : decode cX8_holds 0 = .ok (.iload_n 0, 1) := by decide +kernel
theorem dX8_holds_1 : decode cX8_holds 1 = .ok (.sipush 300, 3) := by decide +kernel
theorem dX8_holds_4 : decode cX8_holds 4 = .ok (.idiv, 1) := by decide +kernel
theorem dX8_holds_5 : decode cX8_holds 5 = .ok (.aload_n 1, 1) := by decide +kernel
theorem dX8_holds_6 : decode cX8_holds 6 = .ok (.iload_n 2, 1) := by decide +kernel
theorem dX8_holds_7 : decode cX8_holds 7 = .ok (.invokestatic 166, 3) := by decide +kernel
theorem dX8_holds_10 : decode cX8_holds 10 = .ok (.istore_n 3, 1) := by decide +kernel
theorem dX8_holds_11 : decode cX8_holds 11 = .ok (.iload_n 0, 1) := by decide +kernel
theorem dX8_holds_12 : decode cX8_holds 12 = .ok (.bipush 100, 2) := by decide +kernel
theorem dX8_holds_14 : decode cX8_holds 14 = .ok (.irem, 1) := by decide +kernel
theorem dX8_holds_15 : decode cX8_holds 15 = .ok (.istore 4, 2) := by decide +kernel
theorem dX8_holds_17 : decode cX8_holds 17 = .ok (.iload_n 0, 1) := by decide +kernel
theorem dX8_holds_18 : decode cX8_holds 18 = .ok (.bipush 100, 2) := by decide +kernel
theorem dX8_holds_20 : decode cX8_holds 20 = .ok (.idiv, 1) := by decide +kernel
theorem dX8_holds_21 : decode cX8_holds 21 = .ok (.iconst 3, 1) := by decide +kernel
theorem dX8_holds_22 : decode cX8_holds 22 = .ok (.irem, 1) := by decide +kernel
theorem dX8_holds_23 : decode cX8_holds 23 = .ok (.lookupswitch 49 #[(0, 25), (1, 37)], 25) := by decide +kernel
theorem dX8_holds_48 : decode cX8_holds 48 = .ok (.iload_n 3, 1) := by decide +kernel
theorem dX8_holds_49 : decode cX8_holds 49 = .ok (.iload 4, 2) := by decide +kernel
theorem dX8_holds_51 : decode cX8_holds 51 = .ok (.if_icmp .ge 7, 3) := by decide +kernel
theorem dX8_holds_54 : decode cX8_holds 54 = .ok (.iconst 1, 1) := by decide +kernel
theorem dX8_holds_55 : decode cX8_holds 55 = .ok (.goto 4, 3) := by decide +kernel
theorem dX8_holds_58 : decode cX8_holds 58 = .ok (.iconst 0, 1) := by decide +kernel
theorem dX8_holds_59 : decode cX8_holds 59 = .ok (.ireturn, 1) := by decide +kernel
theorem dX8_holds_60 : decode cX8_holds 60 = .ok (.iload_n 3, 1) := by decide +kernel
theorem dX8_holds_61 : decode cX8_holds 61 = .ok (.iload 4, 2) := by decide +kernel
theorem dX8_holds_63 : decode cX8_holds 63 = .ok (.if_icmp .ne 7, 3) := by decide +kernel
theorem dX8_holds_66 : decode cX8_holds 66 = .ok (.iconst 1, 1) := by decide +kernel
theorem dX8_holds_67 : decode cX8_holds 67 = .ok (.goto 4, 3) := by decide +kernel
theorem dX8_holds_70 : decode cX8_holds 70 = .ok (.iconst 0, 1) := by decide +kernel
theorem dX8_holds_71 : decode cX8_holds 71 = .ok (.ireturn, 1) := by decide +kernel
theorem dX8_holds_72 : decode cX8_holds 72 = .ok (.iload_n 3, 1) := by decide +kernel
theorem dX8_holds_73 : decode cX8_holds 73 = .ok (.iload 4, 2) := by decide +kernel
theorem dX8_holds_75 : decode cX8_holds 75 = .ok (.if_icmp .le 7, 3) := by decide +kernel
theorem dX8_holds_78 : decode cX8_holds 78 = .ok (.iconst 1, 1) := by decide +kernel
theorem dX8_holds_79 : decode cX8_holds 79 = .ok (.goto 4, 3) := by decide +kernel
theorem dX8_holds_82 : decode cX8_holds 82 = .ok (.iconst 0, 1) := by decide +kernel
theorem dX8_holds_83 : decode cX8_holds 83 = .ok (.ireturn, 1) := by decide +kernel
theorem dX8_asked_0 : decode cX8_asked 0 = .ok (.iload_n 0, 1) := by decide +kernel
theorem dX8_asked_1 : decode cX8_asked 1 = .ok (.tableswitch 59 0 4 #[35, 40, 45, 50, 52], 35) := by decide +kernel
theorem dX8_asked_36 : decode cX8_asked 36 = .ok (.aload_n 1, 1) := by decide +kernel
theorem dX8_asked_37 : decode cX8_asked 37 = .ok (.getfield 170, 3) := by decide +kernel
theorem dX8_asked_40 : decode cX8_asked 40 = .ok (.ireturn, 1) := by decide +kernel
theorem dX8_asked_41 : decode cX8_asked 41 = .ok (.aload_n 1, 1) := by decide +kernel
theorem dX8_asked_42 : decode cX8_asked 42 = .ok (.invokevirtual 173, 3) := by decide +kernel
theorem dX8_asked_45 : decode cX8_asked 45 = .ok (.ireturn, 1) := by decide +kernel
theorem dX8_asked_46 : decode cX8_asked 46 = .ok (.aload_n 1, 1) := by decide +kernel
theorem dX8_asked_47 : decode cX8_asked 47 = .ok (.getfield 119, 3) := by decide +kernel
theorem dX8_asked_50 : decode cX8_asked 50 = .ok (.ireturn, 1) := by decide +kernel
theorem dX8_asked_51 : decode cX8_asked 51 = .ok (.iload_n 2, 1) := by decide +kernel
theorem dX8_asked_52 : decode cX8_asked 52 = .ok (.ireturn, 1) := by decide +kernel
theorem dX8_asked_53 : decode cX8_asked 53 = .ok (.aload_n 1, 1) := by decide +kernel
theorem dX8_asked_54 : decode cX8_asked 54 = .ok (.getfield 95, 3) := by decide +kernel
theorem dX8_asked_57 : decode cX8_asked 57 = .ok (.iconst 3, 1) := by decide +kernel
theorem dX8_asked_58 : decode cX8_asked 58 = .ok (.idiv, 1) := by decide +kernel
theorem dX8_asked_59 : decode cX8_asked 59 = .ok (.ireturn, 1) := by decide +kernel
theorem dX8_asked_60 : decode cX8_asked 60 = .ok (.aload_n 1, 1) := by decide +kernel
theorem dX8_asked_61 : decode cX8_asked 61 = .ok (.getfield 176, 3) := by decide +kernel
theorem dX8_asked_64 : decode cX8_asked 64 = .ok (.ireturn, 1) := by decide +kernel
theorem dX8_mistaken_0 : decode cX8_mistaken 0 = .ok (.iconst 0, 1) := by decide +kernel
theorem dX8_mistaken_1 : decode cX8_mistaken 1 = .ok (.istore_n 1, 1) := by decide +kernel
theorem dX8_mistaken_2 : decode cX8_mistaken 2 = .ok (.iconst 0, 1) := by decide +kernel
theorem dX8_mistaken_3 : decode cX8_mistaken 3 = .ok (.istore_n 2, 1) := by decide +kernel
theorem dX8_mistaken_4 : decode cX8_mistaken 4 = .ok (.iload_n 2, 1) := by decide +kernel
theorem dX8_mistaken_5 : decode cX8_mistaken 5 = .ok (.aload_n 0, 1) := by decide +kernel
theorem dX8_mistaken_6 : decode cX8_mistaken 6 = .ok (.invokevirtual 88, 3) := by decide +kernel
theorem dX8_mistaken_9 : decode cX8_mistaken 9 = .ok (.if_icmp .ge 58, 3) := by decide +kernel
theorem dX8_mistaken_12 : decode cX8_mistaken 12 = .ok (.iconst 0, 1) := by decide +kernel
theorem dX8_mistaken_13 : decode cX8_mistaken 13 = .ok (.istore_n 3, 1) := by decide +kernel
theorem dX8_mistaken_14 : decode cX8_mistaken 14 = .ok (.iload_n 3, 1) := by decide +kernel
theorem dX8_mistaken_15 : decode cX8_mistaken 15 = .ok (.aload_n 0, 1) := by decide +kernel
theorem dX8_mistaken_16 : decode cX8_mistaken 16 = .ok (.invokevirtual 88, 3) := by decide +kernel
theorem dX8_mistaken_19 : decode cX8_mistaken 19 = .ok (.if_icmp .ge 42, 3) := by decide +kernel
theorem dX8_mistaken_22 : decode cX8_mistaken 22 = .ok (.aload_n 0, 1) := by decide +kernel
theorem dX8_mistaken_23 : decode cX8_mistaken 23 = .ok (.getfield 30, 3) := by decide +kernel
theorem dX8_mistaken_26 : decode cX8_mistaken 26 = .ok (.iload_n 2, 1) := by decide +kernel
theorem dX8_mistaken_27 : decode cX8_mistaken 27 = .ok (.invokevirtual 101, 3) := by decide +kernel
theorem dX8_mistaken_30 : decode cX8_mistaken 30 = .ok (.iconst 4, 1) := by decide +kernel
theorem dX8_mistaken_31 : decode cX8_mistaken 31 = .ok (.if_icmp .eq 24, 3) := by decide +kernel
theorem dX8_mistaken_34 : decode cX8_mistaken 34 = .ok (.aload_n 0, 1) := by decide +kernel
theorem dX8_mistaken_35 : decode cX8_mistaken 35 = .ok (.iload_n 2, 1) := by decide +kernel
theorem dX8_mistaken_36 : decode cX8_mistaken 36 = .ok (.iload_n 3, 1) := by decide +kernel
theorem dX8_mistaken_37 : decode cX8_mistaken 37 = .ok (.invokevirtual 179, 3) := by decide +kernel
theorem dX8_mistaken_40 : decode cX8_mistaken 40 = .ok (.aload_n 0, 1) := by decide +kernel
theorem dX8_mistaken_41 : decode cX8_mistaken 41 = .ok (.iload_n 2, 1) := by decide +kernel
theorem dX8_mistaken_42 : decode cX8_mistaken 42 = .ok (.iload_n 2, 1) := by decide +kernel
theorem dX8_mistaken_43 : decode cX8_mistaken 43 = .ok (.invokevirtual 179, 3) := by decide +kernel
theorem dX8_mistaken_46 : decode cX8_mistaken 46 = .ok (.if_icmp .ge 9, 3) := by decide +kernel
theorem dX8_mistaken_49 : decode cX8_mistaken 49 = .ok (.iload_n 1, 1) := by decide +kernel
theorem dX8_mistaken_50 : decode cX8_mistaken 50 = .ok (.iconst 1, 1) := by decide +kernel
theorem dX8_mistaken_51 : decode cX8_mistaken 51 = .ok (.iload_n 2, 1) := by decide +kernel
theorem dX8_mistaken_52 : decode cX8_mistaken 52 = .ok (.ishl, 1) := by decide +kernel
theorem dX8_mistaken_53 : decode cX8_mistaken 53 = .ok (.ior, 1) := by decide +kernel
theorem dX8_mistaken_54 : decode cX8_mistaken 54 = .ok (.istore_n 1, 1) := by decide +kernel
theorem dX8_mistaken_55 : decode cX8_mistaken 55 = .ok (.iinc 3 1, 3) := by decide +kernel
theorem dX8_mistaken_58 : decode cX8_mistaken 58 = .ok (.goto (-44), 3) := by decide +kernel
theorem dX8_mistaken_61 : decode cX8_mistaken 61 = .ok (.iinc 2 1, 3) := by decide +kernel
theorem dX8_mistaken_64 : decode cX8_mistaken 64 = .ok (.goto (-60), 3) := by decide +kernel
theorem dX8_mistaken_67 : decode cX8_mistaken 67 = .ok (.iload_n 1, 1) := by decide +kernel
theorem dX8_mistaken_68 : decode cX8_mistaken 68 = .ok (.ireturn, 1) := by decide +kernel
theorem dX8_fromMiddle_0 : decode cX8_fromMiddle 0 = .ok (.aload_n 0, 1) := by decide +kernel
theorem dX8_fromMiddle_1 : decode cX8_fromMiddle 1 = .ok (.iload_n 1, 1) := by decide +kernel
theorem dX8_fromMiddle_2 : decode cX8_fromMiddle 2 = .ok (.invokevirtual 91, 3) := by decide +kernel
theorem dX8_fromMiddle_5 : decode cX8_fromMiddle 5 = .ok (.astore_n 3, 1) := by decide +kernel
theorem dX8_fromMiddle_6 : decode cX8_fromMiddle 6 = .ok (.aload_n 0, 1) := by decide +kernel
theorem dX8_fromMiddle_7 : decode cX8_fromMiddle 7 = .ok (.iload_n 2, 1) := by decide +kernel
theorem dX8_fromMiddle_8 : decode cX8_fromMiddle 8 = .ok (.invokevirtual 91, 3) := by decide +kernel
theorem dX8_fromMiddle_11 : decode cX8_fromMiddle 11 = .ok (.astore 4, 2) := by decide +kernel
theorem dX8_fromMiddle_13 : decode cX8_fromMiddle 13 = .ok (.aload_n 3, 1) := by decide +kernel
theorem dX8_fromMiddle_14 : decode cX8_fromMiddle 14 = .ok (.ifnull 8, 3) := by decide +kernel
theorem dX8_fromMiddle_17 : decode cX8_fromMiddle 17 = .ok (.aload 4, 2) := by decide +kernel
theorem dX8_fromMiddle_19 : decode cX8_fromMiddle 19 = .ok (.ifnonnull 5, 3) := by decide +kernel
theorem dX8_fromMiddle_22 : decode cX8_fromMiddle 22 = .ok (.iconst 0, 1) := by decide +kernel
theorem dX8_fromMiddle_23 : decode cX8_fromMiddle 23 = .ok (.ireturn, 1) := by decide +kernel
theorem dX8_fromMiddle_24 : decode cX8_fromMiddle 24 = .ok (.aload_n 0, 1) := by decide +kernel
theorem dX8_fromMiddle_25 : decode cX8_fromMiddle 25 = .ok (.getfield 30, 3) := by decide +kernel
theorem dX8_fromMiddle_28 : decode cX8_fromMiddle 28 = .ok (.iload_n 1, 1) := by decide +kernel
theorem dX8_fromMiddle_29 : decode cX8_fromMiddle 29 = .ok (.invokevirtual 101, 3) := by decide +kernel
theorem dX8_fromMiddle_32 : decode cX8_fromMiddle 32 = .ok (.istore 5, 2) := by decide +kernel
theorem dX8_fromMiddle_34 : decode cX8_fromMiddle 34 = .ok (.aload_n 3, 1) := by decide +kernel
theorem dX8_fromMiddle_35 : decode cX8_fromMiddle 35 = .ok (.aload_n 3, 1) := by decide +kernel
theorem dX8_fromMiddle_36 : decode cX8_fromMiddle 36 = .ok (.getfield 119, 3) := by decide +kernel
theorem dX8_fromMiddle_39 : decode cX8_fromMiddle 39 = .ok (.invokevirtual 182, 3) := by decide +kernel
theorem dX8_fromMiddle_42 : decode cX8_fromMiddle 42 = .ok (.istore 6, 2) := by decide +kernel
theorem dX8_fromMiddle_44 : decode cX8_fromMiddle 44 = .ok (.aload_n 3, 1) := by decide +kernel
theorem dX8_fromMiddle_45 : decode cX8_fromMiddle 45 = .ok (.iload 5, 2) := by decide +kernel
theorem dX8_fromMiddle_47 : decode cX8_fromMiddle 47 = .ok (.iload 6, 2) := by decide +kernel
theorem dX8_fromMiddle_49 : decode cX8_fromMiddle 49 = .ok (.invokevirtual 185, 3) := by decide +kernel
theorem dX8_fromMiddle_52 : decode cX8_fromMiddle 52 = .ok (.iload 6, 2) := by decide +kernel
theorem dX8_fromMiddle_54 : decode cX8_fromMiddle 54 = .ok (.iconst 2, 1) := by decide +kernel
theorem dX8_fromMiddle_55 : decode cX8_fromMiddle 55 = .ok (.idiv, 1) := by decide +kernel
theorem dX8_fromMiddle_56 : decode cX8_fromMiddle 56 = .ok (.iadd, 1) := by decide +kernel
theorem dX8_fromMiddle_57 : decode cX8_fromMiddle 57 = .ok (.istore 7, 2) := by decide +kernel
