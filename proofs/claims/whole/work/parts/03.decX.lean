theorem dX0_init_0 : decode cX0_init 0 = .ok (.aload_n 0, 1) := by decide +kernel
theorem dX0_init_1 : decode cX0_init 1 = .ok (.invokespecial 3, 3) := by decide +kernel
theorem dX0_init_4 : decode cX0_init 4 = .ok (.aload_n 0, 1) := by decide +kernel
theorem dX0_init_5 : decode cX0_init 5 = .ok (.iconst 2, 1) := by decide +kernel
theorem dX0_init_6 : decode cX0_init 6 = .ok (.putfield 9, 3) := by decide +kernel
theorem dX0_init_9 : decode cX0_init 9 = .ok (.aload_n 0, 1) := by decide +kernel
theorem dX0_init_10 : decode cX0_init 10 = .ok (.iconst 1, 1) := by decide +kernel
theorem dX0_init_11 : decode cX0_init 11 = .ok (.putfield 15, 3) := by decide +kernel
theorem dX0_init_14 : decode cX0_init 14 = .ok (.aload_n 0, 1) := by decide +kernel
theorem dX0_init_15 : decode cX0_init 15 = .ok (.iconst 0, 1) := by decide +kernel
theorem dX0_init_16 : decode cX0_init 16 = .ok (.putfield 18, 3) := by decide +kernel
theorem dX0_init_19 : decode cX0_init 19 = .ok (.aload_n 0, 1) := by decide +kernel
theorem dX0_init_20 : decode cX0_init 20 = .ok (.iconst 2, 1) := by decide +kernel
theorem dX0_init_21 : decode cX0_init 21 = .ok (.newarray .int, 2) := by decide +kernel
theorem dX0_init_23 : decode cX0_init 23 = .ok (.putfield 21, 3) := by decide +kernel
theorem dX0_init_26 : decode cX0_init 26 = .ok (.aload_n 0, 1) := by decide +kernel
theorem dX0_init_27 : decode cX0_init 27 = .ok (.iconst 2, 1) := by decide +kernel
theorem dX0_init_28 : decode cX0_init 28 = .ok (.newarray .int, 2) := by decide +kernel
theorem dX0_init_30 : decode cX0_init 30 = .ok (.putfield 25, 3) := by decide +kernel
theorem dX0_init_33 : decode cX0_init 33 = .ok (.aload_n 0, 1) := by decide +kernel
theorem dX0_init_34 : decode cX0_init 34 = .ok (.iconst 0, 1) := by decide +kernel
theorem dX0_init_35 : decode cX0_init 35 = .ok (.putfield 28, 3) := by decide +kernel
theorem dX0_init_38 : decode cX0_init 38 = .ok (.aload_n 0, 1) := by decide +kernel
theorem dX0_init_39 : decode cX0_init 39 = .ok (.bipush 35, 2) := by decide +kernel
theorem dX0_init_41 : decode cX0_init 41 = .ok (.newarray .int, 2) := by decide +kernel
theorem dX0_init_43 : decode cX0_init 43 = .ok (.putfield 31, 3) := by decide +kernel
theorem dX0_init_46 : decode cX0_init 46 = .ok (.aload_n 0, 1) := by decide +kernel
theorem dX0_init_47 : decode cX0_init 47 = .ok (.bipush 35, 2) := by decide +kernel
theorem dX0_init_49 : decode cX0_init 49 = .ok (.newarray .int, 2) := by decide +kernel
theorem dX0_init_51 : decode cX0_init 51 = .ok (.putfield 34, 3) := by decide +kernel
theorem dX0_init_54 : decode cX0_init 54 = .ok (.aload_n 0, 1) := by decide +kernel
theorem dX0_init_55 : decode cX0_init 55 = .ok (.iconst 4, 1) := by decide +kernel
theorem dX0_init_56 : decode cX0_init 56 = .ok (.newarray .int, 2) := by decide +kernel
theorem dX0_init_58 : decode cX0_init 58 = .ok (.putfield 37, 3) := by decide +kernel
theorem dX0_init_61 : decode cX0_init 61 = .ok (.aload_n 0, 1) := by decide +kernel
theorem dX0_init_62 : decode cX0_init 62 = .ok (.iconst 4, 1) := by decide +kernel
theorem dX0_init_63 : decode cX0_init 63 = .ok (.newarray .int, 2) := by decide +kernel
theorem dX0_init_65 : decode cX0_init 65 = .ok (.putfield 40, 3) := by decide +kernel
theorem dX0_init_68 : decode cX0_init 68 = .ok (.aload_n 0, 1) := by decide +kernel
theorem dX0_init_69 : decode cX0_init 69 = .ok (.iconst 4, 1) := by decide +kernel
theorem dX0_init_70 : decode cX0_init 70 = .ok (.newarray .int, 2) := by decide +kernel
theorem dX0_init_72 : decode cX0_init 72 = .ok (.putfield 43, 3) := by decide +kernel
theorem dX0_init_75 : decode cX0_init 75 = .ok (.return_, 1) := by decide +kernel
theorem dX0_open_0 : decode cX0_open 0 = .ok (.aload_n 0, 1) := by decide +kernel
theorem dX0_open_1 : decode cX0_open 1 = .ok (.iload_n 1, 1) := by decide +kernel
theorem dX0_open_2 : decode cX0_open 2 = .ok (.putfield 9, 3) := by decide +kernel
theorem dX0_open_5 : decode cX0_open 5 = .ok (.aload_n 0, 1) := by decide +kernel
theorem dX0_open_6 : decode cX0_open 6 = .ok (.iload_n 2, 1) := by decide +kernel
theorem dX0_open_7 : decode cX0_open 7 = .ok (.putfield 15, 3) := by decide +kernel
theorem dX0_open_10 : decode cX0_open 10 = .ok (.aload_n 0, 1) := by decide +kernel
theorem dX0_open_11 : decode cX0_open 11 = .ok (.iconst 0, 1) := by decide +kernel
theorem dX0_open_12 : decode cX0_open 12 = .ok (.putfield 18, 3) := by decide +kernel
theorem dX0_open_15 : decode cX0_open 15 = .ok (.aload_n 0, 1) := by decide +kernel
theorem dX0_open_16 : decode cX0_open 16 = .ok (.getfield 31, 3) := by decide +kernel
theorem dX0_open_19 : decode cX0_open 19 = .ok (.iconst 0, 1) := by decide +kernel
theorem dX0_open_20 : decode cX0_open 20 = .ok (.invokestatic 46, 3) := by decide +kernel
theorem dX0_open_23 : decode cX0_open 23 = .ok (.return_, 1) := by decide +kernel
theorem dX0_isBallot_0 : decode cX0_isBallot 0 = .ok (.iload_n 1, 1) := by decide +kernel
theorem dX0_isBallot_1 : decode cX0_isBallot 1 = .ok (.ifCond .lt 28, 3) := by decide +kernel
theorem dX0_isBallot_4 : decode cX0_isBallot 4 = .ok (.iload_n 1, 1) := by decide +kernel
theorem dX0_isBallot_5 : decode cX0_isBallot 5 = .ok (.iconst 1, 1) := by decide +kernel
theorem dX0_isBallot_6 : decode cX0_isBallot 6 = .ok (.aload_n 0, 1) := by decide +kernel
theorem dX0_isBallot_7 : decode cX0_isBallot 7 = .ok (.getfield 9, 3) := by decide +kernel
theorem dX0_isBallot_10 : decode cX0_isBallot 10 = .ok (.ishl, 1) := by decide +kernel
theorem dX0_isBallot_11 : decode cX0_isBallot 11 = .ok (.if_icmp .ge 18, 3) := by decide +kernel
theorem dX0_isBallot_14 : decode cX0_isBallot 14 = .ok (.iload_n 1, 1) := by decide +kernel
theorem dX0_isBallot_15 : decode cX0_isBallot 15 = .ok (.invokestatic 52, 3) := by decide +kernel
theorem dX0_isBallot_18 : decode cX0_isBallot 18 = .ok (.aload_n 0, 1) := by decide +kernel
theorem dX0_isBallot_19 : decode cX0_isBallot 19 = .ok (.getfield 15, 3) := by decide +kernel
theorem dX0_isBallot_22 : decode cX0_isBallot 22 = .ok (.if_icmp .ne 7, 3) := by decide +kernel
theorem dX0_isBallot_25 : decode cX0_isBallot 25 = .ok (.iconst 1, 1) := by decide +kernel
theorem dX0_isBallot_26 : decode cX0_isBallot 26 = .ok (.goto 4, 3) := by decide +kernel
theorem dX0_isBallot_29 : decode cX0_isBallot 29 = .ok (.iconst 0, 1) := by decide +kernel
theorem dX0_isBallot_30 : decode cX0_isBallot 30 = .ok (.ireturn, 1) := by decide +kernel
theorem dX0_take_0 : decode cX0_take 0 = .ok (.aload_n 0, 1) := by decide +kernel
theorem dX0_take_1 : decode cX0_take 1 = .ok (.getfield 31, 3) := by decide +kernel
theorem dX0_take_4 : decode cX0_take 4 = .ok (.iload_n 1, 1) := by decide +kernel
theorem dX0_take_5 : decode cX0_take 5 = .ok (.iaload, 1) := by decide +kernel
theorem dX0_take_6 : decode cX0_take 6 = .ok (.istore_n 3, 1) := by decide +kernel
theorem dX0_take_7 : decode cX0_take 7 = .ok (.iload_n 3, 1) := by decide +kernel
theorem dX0_take_8 : decode cX0_take 8 = .ok (.ifCond .ne 13, 3) := by decide +kernel
theorem dX0_take_11 : decode cX0_take 11 = .ok (.aload_n 0, 1) := by decide +kernel
theorem dX0_take_12 : decode cX0_take 12 = .ok (.dup, 1) := by decide +kernel
theorem dX0_take_13 : decode cX0_take 13 = .ok (.getfield 18, 3) := by decide +kernel
theorem dX0_take_16 : decode cX0_take 16 = .ok (.iconst 1, 1) := by decide +kernel
theorem dX0_take_17 : decode cX0_take 17 = .ok (.iadd, 1) := by decide +kernel
theorem dX0_take_18 : decode cX0_take 18 = .ok (.putfield 18, 3) := by decide +kernel
theorem dX0_take_21 : decode cX0_take 21 = .ok (.aload_n 0, 1) := by decide +kernel
theorem dX0_take_22 : decode cX0_take 22 = .ok (.getfield 31, 3) := by decide +kernel
theorem dX0_take_25 : decode cX0_take 25 = .ok (.iload_n 1, 1) := by decide +kernel
theorem dX0_take_26 : decode cX0_take 26 = .ok (.iload_n 2, 1) := by decide +kernel
theorem dX0_take_27 : decode cX0_take 27 = .ok (.iastore, 1) := by decide +kernel
theorem dX0_take_28 : decode cX0_take 28 = .ok (.iload_n 3, 1) := by decide +kernel
theorem dX0_take_29 : decode cX0_take 29 = .ok (.iload_n 2, 1) := by decide +kernel
theorem dX0_take_30 : decode cX0_take 30 = .ok (.if_icmp .eq 7, 3) := by decide +kernel
theorem dX0_take_33 : decode cX0_take 33 = .ok (.iconst 1, 1) := by decide +kernel
theorem dX0_take_34 : decode cX0_take 34 = .ok (.goto 4, 3) := by decide +kernel
theorem dX0_take_37 : decode cX0_take 37 = .ok (.iconst 0, 1) := by decide +kernel
theorem dX0_take_38 : decode cX0_take 38 = .ok (.ireturn, 1) := by decide +kernel
theorem dX0_run_0 : decode cX0_run 0 = .ok (.aload_n 0, 1) := by decide +kernel
theorem dX0_run_1 : decode cX0_run 1 = .ok (.lload_n 1, 1) := by decide +kernel
theorem dX0_run_2 : decode cX0_run 2 = .ok (.invokevirtual 58, 3) := by decide +kernel
theorem dX0_run_5 : decode cX0_run 5 = .ok (.iconst 1, 1) := by decide +kernel
theorem dX0_run_6 : decode cX0_run 6 = .ok (.istore_n 3, 1) := by decide +kernel
theorem dX0_run_7 : decode cX0_run 7 = .ok (.iload_n 3, 1) := by decide +kernel
theorem dX0_run_8 : decode cX0_run 8 = .ok (.bipush 35, 2) := by decide +kernel
theorem dX0_run_10 : decode cX0_run 10 = .ok (.if_icmp .gt 14, 3) := by decide +kernel
theorem dX0_run_13 : decode cX0_run 13 = .ok (.aload_n 0, 1) := by decide +kernel
theorem dX0_run_14 : decode cX0_run 14 = .ok (.iload_n 3, 1) := by decide +kernel
theorem dX0_run_15 : decode cX0_run 15 = .ok (.invokevirtual 62, 3) := by decide +kernel
theorem dX0_run_18 : decode cX0_run 18 = .ok (.iinc 3 1, 3) := by decide +kernel
theorem dX0_run_21 : decode cX0_run 21 = .ok (.goto (-14), 3) := by decide +kernel
theorem dX0_run_24 : decode cX0_run 24 = .ok (.aload_n 0, 1) := by decide +kernel
theorem dX0_run_25 : decode cX0_run 25 = .ok (.invokevirtual 66, 3) := by decide +kernel
theorem dX0_run_28 : decode cX0_run 28 = .ok (.return_, 1) := by decide +kernel
theorem dX0_sureAfter_0 : decode cX0_sureAfter 0 = .ok (.aload_n 0, 1) := by decide +kernel
theorem dX0_sureAfter_1 : decode cX0_sureAfter 1 = .ok (.lload_n 1, 1) := by decide +kernel
theorem dX0_sureAfter_2 : decode cX0_sureAfter 2 = .ok (.invokevirtual 58, 3) := by decide +kernel
theorem dX0_sureAfter_5 : decode cX0_sureAfter 5 = .ok (.iconst 0, 1) := by decide +kernel
theorem dX0_sureAfter_6 : decode cX0_sureAfter 6 = .ok (.istore_n 3, 1) := by decide +kernel
theorem dX0_sureAfter_7 : decode cX0_sureAfter 7 = .ok (.iload_n 3, 1) := by decide +kernel
theorem dX0_sureAfter_8 : decode cX0_sureAfter 8 = .ok (.bipush 35, 2) := by decide +kernel
theorem dX0_sureAfter_10 : decode cX0_sureAfter 10 = .ok (.if_icmp .ge 42, 3) := by decide +kernel
theorem dX0_sureAfter_13 : decode cX0_sureAfter 13 = .ok (.iload_n 3, 1) := by decide +kernel
theorem dX0_sureAfter_14 : decode cX0_sureAfter 14 = .ok (.ifCond .le 8, 3) := by decide +kernel
theorem dX0_sureAfter_17 : decode cX0_sureAfter 17 = .ok (.aload_n 0, 1) := by decide +kernel
theorem dX0_sureAfter_18 : decode cX0_sureAfter 18 = .ok (.iload_n 3, 1) := by decide +kernel
theorem dX0_sureAfter_19 : decode cX0_sureAfter 19 = .ok (.invokevirtual 62, 3) := by decide +kernel
theorem dX0_sureAfter_22 : decode cX0_sureAfter 22 = .ok (.aload_n 0, 1) := by decide +kernel
theorem dX0_sureAfter_23 : decode cX0_sureAfter 23 = .ok (.getfield 28, 3) := by decide +kernel
theorem dX0_sureAfter_26 : decode cX0_sureAfter 26 = .ok (.aload_n 0, 1) := by decide +kernel
theorem dX0_sureAfter_27 : decode cX0_sureAfter 27 = .ok (.getfield 15, 3) := by decide +kernel
theorem dX0_sureAfter_30 : decode cX0_sureAfter 30 = .ok (.if_icmp .ge 14, 3) := by decide +kernel
theorem dX0_sureAfter_33 : decode cX0_sureAfter 33 = .ok (.aload_n 0, 1) := by decide +kernel
theorem dX0_sureAfter_34 : decode cX0_sureAfter 34 = .ok (.invokevirtual 69, 3) := by decide +kernel
theorem dX0_sureAfter_37 : decode cX0_sureAfter 37 = .ok (.bipush 35, 2) := by decide +kernel
theorem dX0_sureAfter_39 : decode cX0_sureAfter 39 = .ok (.iload_n 3, 1) := by decide +kernel
theorem dX0_sureAfter_40 : decode cX0_sureAfter 40 = .ok (.isub, 1) := by decide +kernel
theorem dX0_sureAfter_41 : decode cX0_sureAfter 41 = .ok (.if_icmp .lt 5, 3) := by decide +kernel
theorem dX0_sureAfter_44 : decode cX0_sureAfter 44 = .ok (.iload_n 3, 1) := by decide +kernel
theorem dX0_sureAfter_45 : decode cX0_sureAfter 45 = .ok (.ireturn, 1) := by decide +kernel
theorem dX0_sureAfter_46 : decode cX0_sureAfter 46 = .ok (.iinc 3 1, 3) := by decide +kernel
theorem dX0_sureAfter_49 : decode cX0_sureAfter 49 = .ok (.goto (-42), 3) := by decide +kernel
theorem dX0_sureAfter_52 : decode cX0_sureAfter 52 = .ok (.bipush 35, 2) := by decide +kernel
theorem dX0_sureAfter_54 : decode cX0_sureAfter 54 = .ok (.ireturn, 1) := by decide +kernel
theorem dX0_begin_0 : decode cX0_begin 0 = .ok (.aload_n 0, 1) := by decide +kernel
theorem dX0_begin_1 : decode cX0_begin 1 = .ok (.getfield 34, 3) := by decide +kernel
theorem dX0_begin_4 : decode cX0_begin 4 = .ok (.bipush 35, 2) := by decide +kernel
theorem dX0_begin_6 : decode cX0_begin 6 = .ok (.lload_n 1, 1) := by decide +kernel
theorem dX0_begin_7 : decode cX0_begin 7 = .ok (.invokestatic 73, 3) := by decide +kernel
theorem dX0_begin_10 : decode cX0_begin 10 = .ok (.aload_n 0, 1) := by decide +kernel
theorem dX0_begin_11 : decode cX0_begin 11 = .ok (.iconst 0, 1) := by decide +kernel
theorem dX0_begin_12 : decode cX0_begin 12 = .ok (.putfield 28, 3) := by decide +kernel
theorem dX0_begin_15 : decode cX0_begin 15 = .ok (.aload_n 0, 1) := by decide +kernel
theorem dX0_begin_16 : decode cX0_begin 16 = .ok (.getfield 37, 3) := by decide +kernel
theorem dX0_begin_19 : decode cX0_begin 19 = .ok (.iconst 0, 1) := by decide +kernel
theorem dX0_begin_20 : decode cX0_begin 20 = .ok (.invokestatic 46, 3) := by decide +kernel
theorem dX0_begin_23 : decode cX0_begin 23 = .ok (.aload_n 0, 1) := by decide +kernel
theorem dX0_begin_24 : decode cX0_begin 24 = .ok (.getfield 40, 3) := by decide +kernel
theorem dX0_begin_27 : decode cX0_begin 27 = .ok (.iconst 0, 1) := by decide +kernel
theorem dX0_begin_28 : decode cX0_begin 28 = .ok (.invokestatic 46, 3) := by decide +kernel
theorem dX0_begin_31 : decode cX0_begin 31 = .ok (.return_, 1) := by decide +kernel
theorem dX0_countUnit_0 : decode cX0_countUnit 0 = .ok (.aload_n 0, 1) := by decide +kernel
theorem dX0_countUnit_1 : decode cX0_countUnit 1 = .ok (.getfield 31, 3) := by decide +kernel
theorem dX0_countUnit_4 : decode cX0_countUnit 4 = .ok (.aload_n 0, 1) := by decide +kernel
theorem dX0_countUnit_5 : decode cX0_countUnit 5 = .ok (.getfield 34, 3) := by decide +kernel
theorem dX0_countUnit_8 : decode cX0_countUnit 8 = .ok (.iload_n 1, 1) := by decide +kernel
theorem dX0_countUnit_9 : decode cX0_countUnit 9 = .ok (.iconst 1, 1) := by decide +kernel
theorem dX0_countUnit_10 : decode cX0_countUnit 10 = .ok (.isub, 1) := by decide +kernel
theorem dX0_countUnit_11 : decode cX0_countUnit 11 = .ok (.iaload, 1) := by decide +kernel
theorem dX0_countUnit_12 : decode cX0_countUnit 12 = .ok (.iaload, 1) := by decide +kernel
theorem dX0_countUnit_13 : decode cX0_countUnit 13 = .ok (.istore_n 2, 1) := by decide +kernel
theorem dX0_countUnit_14 : decode cX0_countUnit 14 = .ok (.iconst 0, 1) := by decide +kernel
theorem dX0_countUnit_15 : decode cX0_countUnit 15 = .ok (.istore_n 3, 1) := by decide +kernel
theorem dX0_countUnit_16 : decode cX0_countUnit 16 = .ok (.iload_n 3, 1) := by decide +kernel
theorem dX0_countUnit_17 : decode cX0_countUnit 17 = .ok (.aload_n 0, 1) := by decide +kernel
theorem dX0_countUnit_18 : decode cX0_countUnit 18 = .ok (.getfield 9, 3) := by decide +kernel
theorem dX0_countUnit_21 : decode cX0_countUnit 21 = .ok (.if_icmp .ge 62, 3) := by decide +kernel
theorem dX0_countUnit_24 : decode cX0_countUnit 24 = .ok (.iload_n 2, 1) := by decide +kernel
theorem dX0_countUnit_25 : decode cX0_countUnit 25 = .ok (.iload_n 3, 1) := by decide +kernel
theorem dX0_countUnit_26 : decode cX0_countUnit 26 = .ok (.ishr, 1) := by decide +kernel
theorem dX0_countUnit_27 : decode cX0_countUnit 27 = .ok (.iconst 1, 1) := by decide +kernel
theorem dX0_countUnit_28 : decode cX0_countUnit 28 = .ok (.iand, 1) := by decide +kernel
theorem dX0_countUnit_29 : decode cX0_countUnit 29 = .ok (.ifCond .eq 48, 3) := by decide +kernel
theorem dX0_countUnit_32 : decode cX0_countUnit 32 = .ok (.aload_n 0, 1) := by decide +kernel
theorem dX0_countUnit_33 : decode cX0_countUnit 33 = .ok (.getfield 37, 3) := by decide +kernel
theorem dX0_countUnit_36 : decode cX0_countUnit 36 = .ok (.iload_n 3, 1) := by decide +kernel
theorem dX0_countUnit_37 : decode cX0_countUnit 37 = .ok (.dup2, 1) := by decide +kernel
theorem dX0_countUnit_38 : decode cX0_countUnit 38 = .ok (.iaload, 1) := by decide +kernel
theorem dX0_countUnit_39 : decode cX0_countUnit 39 = .ok (.iconst 1, 1) := by decide +kernel
theorem dX0_countUnit_40 : decode cX0_countUnit 40 = .ok (.iadd, 1) := by decide +kernel
theorem dX0_countUnit_41 : decode cX0_countUnit 41 = .ok (.iastore, 1) := by decide +kernel
theorem dX0_countUnit_42 : decode cX0_countUnit 42 = .ok (.aload_n 0, 1) := by decide +kernel
theorem dX0_countUnit_43 : decode cX0_countUnit 43 = .ok (.getfield 40, 3) := by decide +kernel
theorem dX0_countUnit_46 : decode cX0_countUnit 46 = .ok (.iload_n 3, 1) := by decide +kernel
theorem dX0_countUnit_47 : decode cX0_countUnit 47 = .ok (.iload_n 1, 1) := by decide +kernel
theorem dX0_countUnit_48 : decode cX0_countUnit 48 = .ok (.iastore, 1) := by decide +kernel
theorem dX0_countUnit_49 : decode cX0_countUnit 49 = .ok (.aload_n 0, 1) := by decide +kernel
theorem dX0_countUnit_50 : decode cX0_countUnit 50 = .ok (.getfield 37, 3) := by decide +kernel
theorem dX0_countUnit_53 : decode cX0_countUnit 53 = .ok (.iload_n 3, 1) := by decide +kernel
theorem dX0_countUnit_54 : decode cX0_countUnit 54 = .ok (.iaload, 1) := by decide +kernel
theorem dX0_countUnit_55 : decode cX0_countUnit 55 = .ok (.bipush 18, 2) := by decide +kernel
theorem dX0_countUnit_57 : decode cX0_countUnit 57 = .ok (.if_icmp .ne 20, 3) := by decide +kernel
theorem dX0_countUnit_60 : decode cX0_countUnit 60 = .ok (.aload_n 0, 1) := by decide +kernel
theorem dX0_countUnit_61 : decode cX0_countUnit 61 = .ok (.getfield 28, 3) := by decide +kernel
theorem dX0_countUnit_64 : decode cX0_countUnit 64 = .ok (.aload_n 0, 1) := by decide +kernel
theorem dX0_countUnit_65 : decode cX0_countUnit 65 = .ok (.getfield 15, 3) := by decide +kernel
theorem dX0_countUnit_68 : decode cX0_countUnit 68 = .ok (.if_icmp .ge 9, 3) := by decide +kernel
theorem dX0_countUnit_71 : decode cX0_countUnit 71 = .ok (.aload_n 0, 1) := by decide +kernel
theorem dX0_countUnit_72 : decode cX0_countUnit 72 = .ok (.iload_n 3, 1) := by decide +kernel
theorem dX0_countUnit_73 : decode cX0_countUnit 73 = .ok (.iload_n 1, 1) := by decide +kernel
theorem dX0_countUnit_74 : decode cX0_countUnit 74 = .ok (.invokevirtual 77, 3) := by decide +kernel
theorem dX0_countUnit_77 : decode cX0_countUnit 77 = .ok (.iinc 3 1, 3) := by decide +kernel
theorem dX0_countUnit_80 : decode cX0_countUnit 80 = .ok (.goto (-64), 3) := by decide +kernel
theorem dX0_countUnit_83 : decode cX0_countUnit 83 = .ok (.return_, 1) := by decide +kernel
theorem dX0_elect_0 : decode cX0_elect 0 = .ok (.aload_n 0, 1) := by decide +kernel
theorem dX0_elect_1 : decode cX0_elect 1 = .ok (.getfield 21, 3) := by decide +kernel
theorem dX0_elect_4 : decode cX0_elect 4 = .ok (.aload_n 0, 1) := by decide +kernel
theorem dX0_elect_5 : decode cX0_elect 5 = .ok (.getfield 28, 3) := by decide +kernel
theorem dX0_elect_8 : decode cX0_elect 8 = .ok (.iload_n 1, 1) := by decide +kernel
theorem dX0_elect_9 : decode cX0_elect 9 = .ok (.iastore, 1) := by decide +kernel
theorem dX0_elect_10 : decode cX0_elect 10 = .ok (.aload_n 0, 1) := by decide +kernel
theorem dX0_elect_11 : decode cX0_elect 11 = .ok (.getfield 25, 3) := by decide +kernel
theorem dX0_elect_14 : decode cX0_elect 14 = .ok (.aload_n 0, 1) := by decide +kernel
theorem dX0_elect_15 : decode cX0_elect 15 = .ok (.getfield 28, 3) := by decide +kernel
theorem dX0_elect_18 : decode cX0_elect 18 = .ok (.iload_n 2, 1) := by decide +kernel
theorem dX0_elect_19 : decode cX0_elect 19 = .ok (.iastore, 1) := by decide +kernel
theorem dX0_elect_20 : decode cX0_elect 20 = .ok (.aload_n 0, 1) := by decide +kernel
theorem dX0_elect_21 : decode cX0_elect 21 = .ok (.dup, 1) := by decide +kernel
theorem dX0_elect_22 : decode cX0_elect 22 = .ok (.getfield 28, 3) := by decide +kernel
theorem dX0_elect_25 : decode cX0_elect 25 = .ok (.iconst 1, 1) := by decide +kernel
theorem dX0_elect_26 : decode cX0_elect 26 = .ok (.iadd, 1) := by decide +kernel
theorem dX0_elect_27 : decode cX0_elect 27 = .ok (.putfield 28, 3) := by decide +kernel
theorem dX0_elect_30 : decode cX0_elect 30 = .ok (.return_, 1) := by decide +kernel
theorem dX0_electRest_0 : decode cX0_electRest 0 = .ok (.aload_n 0, 1) := by decide +kernel
theorem dX0_electRest_1 : decode cX0_electRest 1 = .ok (.getfield 28, 3) := by decide +kernel
theorem dX0_electRest_4 : decode cX0_electRest 4 = .ok (.istore_n 1, 1) := by decide +kernel
theorem dX0_electRest_5 : decode cX0_electRest 5 = .ok (.iload_n 1, 1) := by decide +kernel
theorem dX0_electRest_6 : decode cX0_electRest 6 = .ok (.aload_n 0, 1) := by decide +kernel
theorem dX0_electRest_7 : decode cX0_electRest 7 = .ok (.getfield 15, 3) := by decide +kernel
theorem dX0_electRest_10 : decode cX0_electRest 10 = .ok (.if_icmp .ge 19, 3) := by decide +kernel
theorem dX0_electRest_13 : decode cX0_electRest 13 = .ok (.aload_n 0, 1) := by decide +kernel
theorem dX0_electRest_14 : decode cX0_electRest 14 = .ok (.aload_n 0, 1) := by decide +kernel
theorem dX0_electRest_15 : decode cX0_electRest 15 = .ok (.invokevirtual 81, 3) := by decide +kernel
theorem dX0_electRest_18 : decode cX0_electRest 18 = .ok (.bipush 35, 2) := by decide +kernel
theorem dX0_electRest_20 : decode cX0_electRest 20 = .ok (.invokevirtual 77, 3) := by decide +kernel
theorem dX0_electRest_23 : decode cX0_electRest 23 = .ok (.iinc 1 1, 3) := by decide +kernel
theorem dX0_electRest_26 : decode cX0_electRest 26 = .ok (.goto (-21), 3) := by decide +kernel
theorem dX0_electRest_29 : decode cX0_electRest 29 = .ok (.return_, 1) := by decide +kernel
theorem dX0_bestOfRest_0 : decode cX0_bestOfRest 0 = .ok (.iconst (-1), 1) := by decide +kernel
theorem dX0_bestOfRest_1 : decode cX0_bestOfRest 1 = .ok (.istore_n 1, 1) := by decide +kernel
theorem dX0_bestOfRest_2 : decode cX0_bestOfRest 2 = .ok (.iconst 0, 1) := by decide +kernel
theorem dX0_bestOfRest_3 : decode cX0_bestOfRest 3 = .ok (.istore_n 2, 1) := by decide +kernel
theorem dX0_bestOfRest_4 : decode cX0_bestOfRest 4 = .ok (.iload_n 2, 1) := by decide +kernel
theorem dX0_bestOfRest_5 : decode cX0_bestOfRest 5 = .ok (.aload_n 0, 1) := by decide +kernel
theorem dX0_bestOfRest_6 : decode cX0_bestOfRest 6 = .ok (.getfield 9, 3) := by decide +kernel
theorem dX0_bestOfRest_9 : decode cX0_bestOfRest 9 = .ok (.if_icmp .ge 33, 3) := by decide +kernel
theorem dX0_bestOfRest_12 : decode cX0_bestOfRest 12 = .ok (.aload_n 0, 1) := by decide +kernel
theorem dX0_bestOfRest_13 : decode cX0_bestOfRest 13 = .ok (.iload_n 2, 1) := by decide +kernel
theorem dX0_bestOfRest_14 : decode cX0_bestOfRest 14 = .ok (.invokevirtual 84, 3) := by decide +kernel
theorem dX0_bestOfRest_17 : decode cX0_bestOfRest 17 = .ok (.ifCond .ne 19, 3) := by decide +kernel
theorem dX0_bestOfRest_20 : decode cX0_bestOfRest 20 = .ok (.iload_n 1, 1) := by decide +kernel
theorem dX0_bestOfRest_21 : decode cX0_bestOfRest 21 = .ok (.iconst (-1), 1) := by decide +kernel
theorem dX0_bestOfRest_22 : decode cX0_bestOfRest 22 = .ok (.if_icmp .eq 12, 3) := by decide +kernel
theorem dX0_bestOfRest_25 : decode cX0_bestOfRest 25 = .ok (.aload_n 0, 1) := by decide +kernel
theorem dX0_bestOfRest_26 : decode cX0_bestOfRest 26 = .ok (.iload_n 2, 1) := by decide +kernel
theorem dX0_bestOfRest_27 : decode cX0_bestOfRest 27 = .ok (.iload_n 1, 1) := by decide +kernel
theorem dX0_bestOfRest_28 : decode cX0_bestOfRest 28 = .ok (.invokevirtual 88, 3) := by decide +kernel
theorem dX0_bestOfRest_31 : decode cX0_bestOfRest 31 = .ok (.ifCond .eq 5, 3) := by decide +kernel
theorem dX0_bestOfRest_34 : decode cX0_bestOfRest 34 = .ok (.iload_n 2, 1) := by decide +kernel
theorem dX0_bestOfRest_35 : decode cX0_bestOfRest 35 = .ok (.istore_n 1, 1) := by decide +kernel
theorem dX0_bestOfRest_36 : decode cX0_bestOfRest 36 = .ok (.iinc 2 1, 3) := by decide +kernel
theorem dX0_bestOfRest_39 : decode cX0_bestOfRest 39 = .ok (.goto (-35), 3) := by decide +kernel
theorem dX0_bestOfRest_42 : decode cX0_bestOfRest 42 = .ok (.iload_n 1, 1) := by decide +kernel
theorem dX0_bestOfRest_43 : decode cX0_bestOfRest 43 = .ok (.ireturn, 1) := by decide +kernel
theorem dX0_isElected_0 : decode cX0_isElected 0 = .ok (.iconst 0, 1) := by decide +kernel
theorem dX0_isElected_1 : decode cX0_isElected 1 = .ok (.istore_n 2, 1) := by decide +kernel
theorem dX0_isElected_2 : decode cX0_isElected 2 = .ok (.iload_n 2, 1) := by decide +kernel
theorem dX0_isElected_3 : decode cX0_isElected 3 = .ok (.aload_n 0, 1) := by decide +kernel
theorem dX0_isElected_4 : decode cX0_isElected 4 = .ok (.getfield 28, 3) := by decide +kernel
theorem dX0_isElected_7 : decode cX0_isElected 7 = .ok (.if_icmp .ge 21, 3) := by decide +kernel
theorem dX0_isElected_10 : decode cX0_isElected 10 = .ok (.aload_n 0, 1) := by decide +kernel
theorem dX0_isElected_11 : decode cX0_isElected 11 = .ok (.getfield 21, 3) := by decide +kernel
theorem dX0_isElected_14 : decode cX0_isElected 14 = .ok (.iload_n 2, 1) := by decide +kernel
theorem dX0_isElected_15 : decode cX0_isElected 15 = .ok (.iaload, 1) := by decide +kernel
theorem dX0_isElected_16 : decode cX0_isElected 16 = .ok (.iload_n 1, 1) := by decide +kernel
theorem dX0_isElected_17 : decode cX0_isElected 17 = .ok (.if_icmp .ne 5, 3) := by decide +kernel
theorem dX0_isElected_20 : decode cX0_isElected 20 = .ok (.iconst 1, 1) := by decide +kernel
theorem dX0_isElected_21 : decode cX0_isElected 21 = .ok (.ireturn, 1) := by decide +kernel
theorem dX0_isElected_22 : decode cX0_isElected 22 = .ok (.iinc 2 1, 3) := by decide +kernel
theorem dX0_isElected_25 : decode cX0_isElected 25 = .ok (.goto (-23), 3) := by decide +kernel
theorem dX0_isElected_28 : decode cX0_isElected 28 = .ok (.iconst 0, 1) := by decide +kernel
theorem dX0_isElected_29 : decode cX0_isElected 29 = .ok (.ireturn, 1) := by decide +kernel
theorem dX0_isAhead_0 : decode cX0_isAhead 0 = .ok (.aload_n 0, 1) := by decide +kernel
theorem dX0_isAhead_1 : decode cX0_isAhead 1 = .ok (.getfield 37, 3) := by decide +kernel
theorem dX0_isAhead_4 : decode cX0_isAhead 4 = .ok (.iload_n 1, 1) := by decide +kernel
theorem dX0_isAhead_5 : decode cX0_isAhead 5 = .ok (.iaload, 1) := by decide +kernel
theorem dX0_isAhead_6 : decode cX0_isAhead 6 = .ok (.aload_n 0, 1) := by decide +kernel
theorem dX0_isAhead_7 : decode cX0_isAhead 7 = .ok (.getfield 37, 3) := by decide +kernel
theorem dX0_isAhead_10 : decode cX0_isAhead 10 = .ok (.iload_n 2, 1) := by decide +kernel
theorem dX0_isAhead_11 : decode cX0_isAhead 11 = .ok (.iaload, 1) := by decide +kernel
theorem dX0_isAhead_12 : decode cX0_isAhead 12 = .ok (.if_icmp .eq 24, 3) := by decide +kernel
theorem dX0_isAhead_15 : decode cX0_isAhead 15 = .ok (.aload_n 0, 1) := by decide +kernel
theorem dX0_isAhead_16 : decode cX0_isAhead 16 = .ok (.getfield 37, 3) := by decide +kernel
theorem dX0_isAhead_19 : decode cX0_isAhead 19 = .ok (.iload_n 1, 1) := by decide +kernel
theorem dX0_isAhead_20 : decode cX0_isAhead 20 = .ok (.iaload, 1) := by decide +kernel
theorem dX0_isAhead_21 : decode cX0_isAhead 21 = .ok (.aload_n 0, 1) := by decide +kernel
theorem dX0_isAhead_22 : decode cX0_isAhead 22 = .ok (.getfield 37, 3) := by decide +kernel
theorem dX0_isAhead_25 : decode cX0_isAhead 25 = .ok (.iload_n 2, 1) := by decide +kernel
theorem dX0_isAhead_26 : decode cX0_isAhead 26 = .ok (.iaload, 1) := by decide +kernel
theorem dX0_isAhead_27 : decode cX0_isAhead 27 = .ok (.if_icmp .le 7, 3) := by decide +kernel
theorem dX0_isAhead_30 : decode cX0_isAhead 30 = .ok (.iconst 1, 1) := by decide +kernel
theorem dX0_isAhead_31 : decode cX0_isAhead 31 = .ok (.goto 4, 3) := by decide +kernel
theorem dX0_isAhead_34 : decode cX0_isAhead 34 = .ok (.iconst 0, 1) := by decide +kernel
theorem dX0_isAhead_35 : decode cX0_isAhead 35 = .ok (.ireturn, 1) := by decide +kernel
theorem dX0_isAhead_36 : decode cX0_isAhead 36 = .ok (.aload_n 0, 1) := by decide +kernel
theorem dX0_isAhead_37 : decode cX0_isAhead 37 = .ok (.getfield 40, 3) := by decide +kernel
theorem dX0_isAhead_40 : decode cX0_isAhead 40 = .ok (.iload_n 1, 1) := by decide +kernel
theorem dX0_isAhead_41 : decode cX0_isAhead 41 = .ok (.iaload, 1) := by decide +kernel
theorem dX0_isAhead_42 : decode cX0_isAhead 42 = .ok (.aload_n 0, 1) := by decide +kernel
theorem dX0_isAhead_43 : decode cX0_isAhead 43 = .ok (.getfield 40, 3) := by decide +kernel
theorem dX0_isAhead_46 : decode cX0_isAhead 46 = .ok (.iload_n 2, 1) := by decide +kernel
theorem dX0_isAhead_47 : decode cX0_isAhead 47 = .ok (.iaload, 1) := by decide +kernel
theorem dX0_isAhead_48 : decode cX0_isAhead 48 = .ok (.if_icmp .ge 7, 3) := by decide +kernel
theorem dX0_isAhead_51 : decode cX0_isAhead 51 = .ok (.iconst 1, 1) := by decide +kernel
theorem dX0_isAhead_52 : decode cX0_isAhead 52 = .ok (.goto 4, 3) := by decide +kernel
theorem dX0_isAhead_55 : decode cX0_isAhead 55 = .ok (.iconst 0, 1) := by decide +kernel
theorem dX0_isAhead_56 : decode cX0_isAhead 56 = .ok (.ireturn, 1) := by decide +kernel
theorem dX0_lead_0 : decode cX0_lead 0 = .ok (.iconst 0, 1) := by decide +kernel
theorem dX0_lead_1 : decode cX0_lead 1 = .ok (.istore_n 1, 1) := by decide +kernel
theorem dX0_lead_2 : decode cX0_lead 2 = .ok (.iload_n 1, 1) := by decide +kernel
theorem dX0_lead_3 : decode cX0_lead 3 = .ok (.aload_n 0, 1) := by decide +kernel
theorem dX0_lead_4 : decode cX0_lead 4 = .ok (.getfield 9, 3) := by decide +kernel
theorem dX0_lead_7 : decode cX0_lead 7 = .ok (.if_icmp .ge 70, 3) := by decide +kernel
theorem dX0_lead_10 : decode cX0_lead 10 = .ok (.iload_n 1, 1) := by decide +kernel
theorem dX0_lead_11 : decode cX0_lead 11 = .ok (.istore_n 2, 1) := by decide +kernel
theorem dX0_lead_12 : decode cX0_lead 12 = .ok (.iload_n 1, 1) := by decide +kernel
theorem dX0_lead_13 : decode cX0_lead 13 = .ok (.istore_n 3, 1) := by decide +kernel
theorem dX0_lead_14 : decode cX0_lead 14 = .ok (.iload_n 3, 1) := by decide +kernel
theorem dX0_lead_15 : decode cX0_lead 15 = .ok (.ifCond .le 44, 3) := by decide +kernel
theorem dX0_lead_18 : decode cX0_lead 18 = .ok (.aload_n 0, 1) := by decide +kernel
theorem dX0_lead_19 : decode cX0_lead 19 = .ok (.getfield 43, 3) := by decide +kernel
theorem dX0_lead_22 : decode cX0_lead 22 = .ok (.iload_n 3, 1) := by decide +kernel
theorem dX0_lead_23 : decode cX0_lead 23 = .ok (.iconst 1, 1) := by decide +kernel
theorem dX0_lead_24 : decode cX0_lead 24 = .ok (.isub, 1) := by decide +kernel
theorem dX0_lead_25 : decode cX0_lead 25 = .ok (.iaload, 1) := by decide +kernel
theorem dX0_lead_26 : decode cX0_lead 26 = .ok (.aload_n 0, 1) := by decide +kernel
theorem dX0_lead_27 : decode cX0_lead 27 = .ok (.getfield 37, 3) := by decide +kernel
theorem dX0_lead_30 : decode cX0_lead 30 = .ok (.iload_n 1, 1) := by decide +kernel
theorem dX0_lead_31 : decode cX0_lead 31 = .ok (.iaload, 1) := by decide +kernel
theorem dX0_lead_32 : decode cX0_lead 32 = .ok (.if_icmp .ge 27, 3) := by decide +kernel
theorem dX0_lead_35 : decode cX0_lead 35 = .ok (.aload_n 0, 1) := by decide +kernel
theorem dX0_lead_36 : decode cX0_lead 36 = .ok (.getfield 43, 3) := by decide +kernel
theorem dX0_lead_39 : decode cX0_lead 39 = .ok (.iload_n 3, 1) := by decide +kernel
theorem dX0_lead_40 : decode cX0_lead 40 = .ok (.aload_n 0, 1) := by decide +kernel
theorem dX0_lead_41 : decode cX0_lead 41 = .ok (.getfield 43, 3) := by decide +kernel
theorem dX0_lead_44 : decode cX0_lead 44 = .ok (.iload_n 3, 1) := by decide +kernel
theorem dX0_lead_45 : decode cX0_lead 45 = .ok (.iconst 1, 1) := by decide +kernel
theorem dX0_lead_46 : decode cX0_lead 46 = .ok (.isub, 1) := by decide +kernel
theorem dX0_lead_47 : decode cX0_lead 47 = .ok (.iaload, 1) := by decide +kernel
theorem dX0_lead_48 : decode cX0_lead 48 = .ok (.iastore, 1) := by decide +kernel
theorem dX0_lead_49 : decode cX0_lead 49 = .ok (.iload_n 3, 1) := by decide +kernel
theorem dX0_lead_50 : decode cX0_lead 50 = .ok (.iconst 1, 1) := by decide +kernel
theorem dX0_lead_51 : decode cX0_lead 51 = .ok (.isub, 1) := by decide +kernel
theorem dX0_lead_52 : decode cX0_lead 52 = .ok (.istore_n 2, 1) := by decide +kernel
theorem dX0_lead_53 : decode cX0_lead 53 = .ok (.iinc 3 (-1), 3) := by decide +kernel
theorem dX0_lead_56 : decode cX0_lead 56 = .ok (.goto (-42), 3) := by decide +kernel
theorem dX0_lead_59 : decode cX0_lead 59 = .ok (.aload_n 0, 1) := by decide +kernel
theorem dX0_lead_60 : decode cX0_lead 60 = .ok (.getfield 43, 3) := by decide +kernel
theorem dX0_lead_63 : decode cX0_lead 63 = .ok (.iload_n 2, 1) := by decide +kernel
theorem dX0_lead_64 : decode cX0_lead 64 = .ok (.aload_n 0, 1) := by decide +kernel
theorem dX0_lead_65 : decode cX0_lead 65 = .ok (.getfield 37, 3) := by decide +kernel
theorem dX0_lead_68 : decode cX0_lead 68 = .ok (.iload_n 1, 1) := by decide +kernel
theorem dX0_lead_69 : decode cX0_lead 69 = .ok (.iaload, 1) := by decide +kernel
theorem dX0_lead_70 : decode cX0_lead 70 = .ok (.iastore, 1) := by decide +kernel
theorem dX0_lead_71 : decode cX0_lead 71 = .ok (.iinc 1 1, 3) := by decide +kernel
theorem dX0_lead_74 : decode cX0_lead 74 = .ok (.goto (-72), 3) := by decide +kernel
theorem dX0_lead_77 : decode cX0_lead 77 = .ok (.aload_n 0, 1) := by decide +kernel
theorem dX0_lead_78 : decode cX0_lead 78 = .ok (.getfield 43, 3) := by decide +kernel
theorem dX0_lead_81 : decode cX0_lead 81 = .ok (.aload_n 0, 1) := by decide +kernel
theorem dX0_lead_82 : decode cX0_lead 82 = .ok (.getfield 15, 3) := by decide +kernel
theorem dX0_lead_85 : decode cX0_lead 85 = .ok (.iconst 1, 1) := by decide +kernel
theorem dX0_lead_86 : decode cX0_lead 86 = .ok (.isub, 1) := by decide +kernel
theorem dX0_lead_87 : decode cX0_lead 87 = .ok (.iaload, 1) := by decide +kernel
theorem dX0_lead_88 : decode cX0_lead 88 = .ok (.aload_n 0, 1) := by decide +kernel
theorem dX0_lead_89 : decode cX0_lead 89 = .ok (.getfield 43, 3) := by decide +kernel
theorem dX0_lead_92 : decode cX0_lead 92 = .ok (.aload_n 0, 1) := by decide +kernel
theorem dX0_lead_93 : decode cX0_lead 93 = .ok (.getfield 15, 3) := by decide +kernel
theorem dX0_lead_96 : decode cX0_lead 96 = .ok (.iaload, 1) := by decide +kernel
theorem dX0_lead_97 : decode cX0_lead 97 = .ok (.isub, 1) := by decide +kernel
theorem dX0_lead_98 : decode cX0_lead 98 = .ok (.ireturn, 1) := by decide +kernel
theorem dX1_init_0 : decode cX1_init 0 = .ok (.aload_n 0, 1) := by decide +kernel
theorem dX1_init_1 : decode cX1_init 1 = .ok (.invokespecial 3, 3) := by decide +kernel
theorem dX1_init_4 : decode cX1_init 4 = .ok (.aload_n 0, 1) := by decide +kernel
theorem dX1_init_5 : decode cX1_init 5 = .ok (.bipush 24, 2) := by decide +kernel
theorem dX1_init_7 : decode cX1_init 7 = .ok (.newarray .int, 2) := by decide +kernel
theorem dX1_init_9 : decode cX1_init 9 = .ok (.putfield 9, 3) := by decide +kernel
theorem dX1_init_12 : decode cX1_init 12 = .ok (.aload_n 0, 1) := by decide +kernel
theorem dX1_init_13 : decode cX1_init 13 = .ok (.bipush 24, 2) := by decide +kernel
theorem dX1_init_15 : decode cX1_init 15 = .ok (.newarray .int, 2) := by decide +kernel
theorem dX1_init_17 : decode cX1_init 17 = .ok (.putfield 15, 3) := by decide +kernel
theorem dX1_init_20 : decode cX1_init 20 = .ok (.aload_n 0, 1) := by decide +kernel
theorem dX1_init_21 : decode cX1_init 21 = .ok (.bipush 24, 2) := by decide +kernel
theorem dX1_init_23 : decode cX1_init 23 = .ok (.newarray .int, 2) := by decide +kernel
theorem dX1_init_25 : decode cX1_init 25 = .ok (.putfield 18, 3) := by decide +kernel
theorem dX1_init_28 : decode cX1_init 28 = .ok (.aload_n 0, 1) := by decide +kernel
theorem dX1_init_29 : decode cX1_init 29 = .ok (.bipush 8, 2) := by decide +kernel
theorem dX1_init_31 : decode cX1_init 31 = .ok (.newarray .int, 2) := by decide +kernel
theorem dX1_init_33 : decode cX1_init 33 = .ok (.putfield 21, 3) := by decide +kernel
theorem dX1_init_36 : decode cX1_init 36 = .ok (.aload_n 0, 1) := by decide +kernel
theorem dX1_init_37 : decode cX1_init 37 = .ok (.bipush 8, 2) := by decide +kernel
theorem dX1_init_39 : decode cX1_init 39 = .ok (.newarray .boolean, 2) := by decide +kernel
theorem dX1_init_41 : decode cX1_init 41 = .ok (.putfield 24, 3) := by decide +kernel
theorem dX1_init_44 : decode cX1_init 44 = .ok (.aload_n 0, 1) := by decide +kernel
theorem dX1_init_45 : decode cX1_init 45 = .ok (.bipush 8, 2) := by decide +kernel
theorem dX1_init_47 : decode cX1_init 47 = .ok (.newarray .int, 2) := by decide +kernel
theorem dX1_init_49 : decode cX1_init 49 = .ok (.putfield 28, 3) := by decide +kernel
theorem dX1_init_52 : decode cX1_init 52 = .ok (.return_, 1) := by decide +kernel
theorem dX1_search_0 : decode cX1_search 0 = .ok (.aload_n 0, 1) := by decide +kernel
theorem dX1_search_1 : decode cX1_search 1 = .ok (.iload_n 3, 1) := by decide +kernel
theorem dX1_search_2 : decode cX1_search 2 = .ok (.putfield 31, 3) := by decide +kernel
theorem dX1_search_5 : decode cX1_search 5 = .ok (.aload_n 0, 1) := by decide +kernel
theorem dX1_search_6 : decode cX1_search 6 = .ok (.iload 4, 2) := by decide +kernel
theorem dX1_search_8 : decode cX1_search 8 = .ok (.putfield 35, 3) := by decide +kernel
theorem dX1_search_11 : decode cX1_search 11 = .ok (.aload_n 0, 1) := by decide +kernel
theorem dX1_search_12 : decode cX1_search 12 = .ok (.iload 5, 2) := by decide +kernel
theorem dX1_search_14 : decode cX1_search 14 = .ok (.putfield 38, 3) := by decide +kernel
theorem dX1_search_17 : decode cX1_search 17 = .ok (.aload_n 0, 1) := by decide +kernel
theorem dX1_search_18 : decode cX1_search 18 = .ok (.iconst 0, 1) := by decide +kernel
theorem dX1_search_19 : decode cX1_search 19 = .ok (.putfield 42, 3) := by decide +kernel
theorem dX1_search_22 : decode cX1_search 22 = .ok (.aload_n 0, 1) := by decide +kernel
theorem dX1_search_23 : decode cX1_search 23 = .ok (.iconst 0, 1) := by decide +kernel
theorem dX1_search_24 : decode cX1_search 24 = .ok (.putfield 45, 3) := by decide +kernel
theorem dX1_search_27 : decode cX1_search 27 = .ok (.aload_n 0, 1) := by decide +kernel
theorem dX1_search_28 : decode cX1_search 28 = .ok (.iconst 0, 1) := by decide +kernel
theorem dX1_search_29 : decode cX1_search 29 = .ok (.putfield 48, 3) := by decide +kernel
theorem dX1_search_32 : decode cX1_search 32 = .ok (.aload_n 0, 1) := by decide +kernel
theorem dX1_search_33 : decode cX1_search 33 = .ok (.iconst 0, 1) := by decide +kernel
theorem dX1_search_34 : decode cX1_search 34 = .ok (.putfield 51, 3) := by decide +kernel
theorem dX1_search_37 : decode cX1_search 37 = .ok (.aload_n 0, 1) := by decide +kernel
theorem dX1_search_38 : decode cX1_search 38 = .ok (.iconst 0, 1) := by decide +kernel
theorem dX1_search_39 : decode cX1_search 39 = .ok (.putfield 54, 3) := by decide +kernel
theorem dX1_search_42 : decode cX1_search 42 = .ok (.aload_n 0, 1) := by decide +kernel
theorem dX1_search_43 : decode cX1_search 43 = .ok (.iconst 0, 1) := by decide +kernel
theorem dX1_search_44 : decode cX1_search 44 = .ok (.putfield 57, 3) := by decide +kernel
theorem dX1_search_47 : decode cX1_search 47 = .ok (.iconst 0, 1) := by decide +kernel
theorem dX1_search_48 : decode cX1_search 48 = .ok (.istore 6, 2) := by decide +kernel
theorem dX1_search_50 : decode cX1_search 50 = .ok (.iload 6, 2) := by decide +kernel
theorem dX1_search_52 : decode cX1_search 52 = .ok (.aload_n 1, 1) := by decide +kernel
theorem dX1_search_53 : decode cX1_search 53 = .ok (.getfield 60, 3) := by decide +kernel
theorem dX1_search_56 : decode cX1_search 56 = .ok (.if_icmp .ge 59, 3) := by decide +kernel
theorem dX1_search_59 : decode cX1_search 59 = .ok (.aload_n 0, 1) := by decide +kernel
theorem dX1_search_60 : decode cX1_search 60 = .ok (.getfield 28, 3) := by decide +kernel
theorem dX1_search_63 : decode cX1_search 63 = .ok (.iload 6, 2) := by decide +kernel
theorem dX1_search_65 : decode cX1_search 65 = .ok (.iconst 0, 1) := by decide +kernel
theorem dX1_search_66 : decode cX1_search 66 = .ok (.iastore, 1) := by decide +kernel
theorem dX1_search_67 : decode cX1_search 67 = .ok (.aload_n 0, 1) := by decide +kernel
theorem dX1_search_68 : decode cX1_search 68 = .ok (.aload_n 1, 1) := by decide +kernel
theorem dX1_search_69 : decode cX1_search 69 = .ok (.getfield 65, 3) := by decide +kernel
theorem dX1_search_72 : decode cX1_search 72 = .ok (.iload 6, 2) := by decide +kernel
theorem dX1_search_74 : decode cX1_search 74 = .ok (.aaload, 1) := by decide +kernel
theorem dX1_search_75 : decode cX1_search 75 = .ok (.iload 6, 2) := by decide +kernel
theorem dX1_search_77 : decode cX1_search 77 = .ok (.iload_n 2, 1) := by decide +kernel
theorem dX1_search_78 : decode cX1_search 78 = .ok (.invokevirtual 69, 3) := by decide +kernel
theorem dX1_search_81 : decode cX1_search 81 = .ok (.aload_n 0, 1) := by decide +kernel
theorem dX1_search_82 : decode cX1_search 82 = .ok (.getfield 24, 3) := by decide +kernel
theorem dX1_search_85 : decode cX1_search 85 = .ok (.iload 6, 2) := by decide +kernel
theorem dX1_search_87 : decode cX1_search 87 = .ok (.aload_n 1, 1) := by decide +kernel
theorem dX1_search_88 : decode cX1_search 88 = .ok (.iload 6, 2) := by decide +kernel
theorem dX1_search_90 : decode cX1_search 90 = .ok (.iload_n 2, 1) := by decide +kernel
theorem dX1_search_91 : decode cX1_search 91 = .ok (.invokevirtual 73, 3) := by decide +kernel
theorem dX1_search_94 : decode cX1_search 94 = .ok (.bastore, 1) := by decide +kernel
theorem dX1_search_95 : decode cX1_search 95 = .ok (.aload_n 0, 1) := by decide +kernel
theorem dX1_search_96 : decode cX1_search 96 = .ok (.getfield 21, 3) := by decide +kernel
theorem dX1_search_99 : decode cX1_search 99 = .ok (.iload 6, 2) := by decide +kernel
theorem dX1_search_101 : decode cX1_search 101 = .ok (.aload_n 1, 1) := by decide +kernel
theorem dX1_search_102 : decode cX1_search 102 = .ok (.iload 6, 2) := by decide +kernel
theorem dX1_search_104 : decode cX1_search 104 = .ok (.iload_n 2, 1) := by decide +kernel
theorem dX1_search_105 : decode cX1_search 105 = .ok (.invokestatic 77, 3) := by decide +kernel
theorem dX1_search_108 : decode cX1_search 108 = .ok (.iastore, 1) := by decide +kernel
theorem dX1_search_109 : decode cX1_search 109 = .ok (.iinc 6 1, 3) := by decide +kernel
theorem dX1_search_112 : decode cX1_search 112 = .ok (.goto (-62), 3) := by decide +kernel
theorem dX1_search_115 : decode cX1_search 115 = .ok (.aload_n 0, 1) := by decide +kernel
theorem dX1_search_116 : decode cX1_search 116 = .ok (.aload_n 1, 1) := by decide +kernel
theorem dX1_search_117 : decode cX1_search 117 = .ok (.iconst 0, 1) := by decide +kernel
theorem dX1_search_118 : decode cX1_search 118 = .ok (.invokevirtual 81, 3) := by decide +kernel
theorem dX1_search_121 : decode cX1_search 121 = .ok (.return_, 1) := by decide +kernel
theorem dX1_putIn_0 : decode cX1_putIn 0 = .ok (.iconst 0, 1) := by decide +kernel
theorem dX1_putIn_1 : decode cX1_putIn 1 = .ok (.istore_n 3, 1) := by decide +kernel
theorem dX1_putIn_2 : decode cX1_putIn 2 = .ok (.iload_n 3, 1) := by decide +kernel
theorem dX1_putIn_3 : decode cX1_putIn 3 = .ok (.aload_n 0, 1) := by decide +kernel
theorem dX1_putIn_4 : decode cX1_putIn 4 = .ok (.getfield 57, 3) := by decide +kernel
theorem dX1_putIn_7 : decode cX1_putIn 7 = .ok (.if_icmp .ge 32, 3) := by decide +kernel
theorem dX1_putIn_10 : decode cX1_putIn 10 = .ok (.aload_n 1, 1) := by decide +kernel
theorem dX1_putIn_11 : decode cX1_putIn 11 = .ok (.aload_n 0, 1) := by decide +kernel
theorem dX1_putIn_12 : decode cX1_putIn 12 = .ok (.getfield 18, 3) := by decide +kernel
theorem dX1_putIn_15 : decode cX1_putIn 15 = .ok (.iload_n 3, 1) := by decide +kernel
theorem dX1_putIn_16 : decode cX1_putIn 16 = .ok (.iaload, 1) := by decide +kernel
theorem dX1_putIn_17 : decode cX1_putIn 17 = .ok (.aload_n 0, 1) := by decide +kernel
theorem dX1_putIn_18 : decode cX1_putIn 18 = .ok (.getfield 9, 3) := by decide +kernel
theorem dX1_putIn_21 : decode cX1_putIn 21 = .ok (.iload_n 3, 1) := by decide +kernel
theorem dX1_putIn_22 : decode cX1_putIn 22 = .ok (.iaload, 1) := by decide +kernel
theorem dX1_putIn_23 : decode cX1_putIn 23 = .ok (.iload_n 2, 1) := by decide +kernel
theorem dX1_putIn_24 : decode cX1_putIn 24 = .ok (.aload_n 0, 1) := by decide +kernel
theorem dX1_putIn_25 : decode cX1_putIn 25 = .ok (.getfield 15, 3) := by decide +kernel
theorem dX1_putIn_28 : decode cX1_putIn 28 = .ok (.iload_n 3, 1) := by decide +kernel
theorem dX1_putIn_29 : decode cX1_putIn 29 = .ok (.iaload, 1) := by decide +kernel
theorem dX1_putIn_30 : decode cX1_putIn 30 = .ok (.invokevirtual 85, 3) := by decide +kernel
theorem dX1_putIn_33 : decode cX1_putIn 33 = .ok (.iinc 3 1, 3) := by decide +kernel
theorem dX1_putIn_36 : decode cX1_putIn 36 = .ok (.goto (-34), 3) := by decide +kernel
theorem dX1_putIn_39 : decode cX1_putIn 39 = .ok (.return_, 1) := by decide +kernel
theorem dX1_addSlots_0 : decode cX1_addSlots 0 = .ok (.iconst 0, 1) := by decide +kernel
theorem dX1_addSlots_1 : decode cX1_addSlots 1 = .ok (.istore 4, 2) := by decide +kernel
theorem dX1_addSlots_3 : decode cX1_addSlots 3 = .ok (.iload 4, 2) := by decide +kernel
theorem dX1_addSlots_5 : decode cX1_addSlots 5 = .ok (.aload_n 1, 1) := by decide +kernel
theorem dX1_addSlots_6 : decode cX1_addSlots 6 = .ok (.getfield 89, 3) := by decide +kernel
theorem dX1_addSlots_9 : decode cX1_addSlots 9 = .ok (.if_icmp .ge 51, 3) := by decide +kernel
theorem dX1_addSlots_12 : decode cX1_addSlots 12 = .ok (.aload_n 1, 1) := by decide +kernel
theorem dX1_addSlots_13 : decode cX1_addSlots 13 = .ok (.iload_n 3, 1) := by decide +kernel
theorem dX1_addSlots_14 : decode cX1_addSlots 14 = .ok (.iload 4, 2) := by decide +kernel
theorem dX1_addSlots_16 : decode cX1_addSlots 16 = .ok (.invokevirtual 94, 3) := by decide +kernel
theorem dX1_addSlots_19 : decode cX1_addSlots 19 = .ok (.iconst (-1), 1) := by decide +kernel
theorem dX1_addSlots_20 : decode cX1_addSlots 20 = .ok (.if_icmp .ne 34, 3) := by decide +kernel
theorem dX1_addSlots_23 : decode cX1_addSlots 23 = .ok (.aload_n 0, 1) := by decide +kernel
theorem dX1_addSlots_24 : decode cX1_addSlots 24 = .ok (.getfield 9, 3) := by decide +kernel
theorem dX1_addSlots_27 : decode cX1_addSlots 27 = .ok (.aload_n 0, 1) := by decide +kernel
theorem dX1_addSlots_28 : decode cX1_addSlots 28 = .ok (.getfield 57, 3) := by decide +kernel
theorem dX1_addSlots_31 : decode cX1_addSlots 31 = .ok (.iload_n 2, 1) := by decide +kernel
theorem dX1_addSlots_32 : decode cX1_addSlots 32 = .ok (.iastore, 1) := by decide +kernel
theorem dX1_addSlots_33 : decode cX1_addSlots 33 = .ok (.aload_n 0, 1) := by decide +kernel
theorem dX1_addSlots_34 : decode cX1_addSlots 34 = .ok (.getfield 15, 3) := by decide +kernel
theorem dX1_addSlots_37 : decode cX1_addSlots 37 = .ok (.aload_n 0, 1) := by decide +kernel
theorem dX1_addSlots_38 : decode cX1_addSlots 38 = .ok (.getfield 57, 3) := by decide +kernel
theorem dX1_addSlots_41 : decode cX1_addSlots 41 = .ok (.iload 4, 2) := by decide +kernel
theorem dX1_addSlots_43 : decode cX1_addSlots 43 = .ok (.iastore, 1) := by decide +kernel
theorem dX1_addSlots_44 : decode cX1_addSlots 44 = .ok (.aload_n 0, 1) := by decide +kernel
theorem dX1_addSlots_45 : decode cX1_addSlots 45 = .ok (.dup, 1) := by decide +kernel
theorem dX1_addSlots_46 : decode cX1_addSlots 46 = .ok (.getfield 57, 3) := by decide +kernel
theorem dX1_addSlots_49 : decode cX1_addSlots 49 = .ok (.iconst 1, 1) := by decide +kernel
theorem dX1_addSlots_50 : decode cX1_addSlots 50 = .ok (.iadd, 1) := by decide +kernel
theorem dX1_addSlots_51 : decode cX1_addSlots 51 = .ok (.putfield 57, 3) := by decide +kernel
theorem dX1_addSlots_54 : decode cX1_addSlots 54 = .ok (.iinc 4 1, 3) := by decide +kernel
theorem dX1_addSlots_57 : decode cX1_addSlots 57 = .ok (.goto (-54), 3) := by decide +kernel
theorem dX1_addSlots_60 : decode cX1_addSlots 60 = .ok (.return_, 1) := by decide +kernel
theorem dX1_ableIn_0 : decode cX1_ableIn 0 = .ok (.iconst 0, 1) := by decide +kernel
theorem dX1_ableIn_1 : decode cX1_ableIn 1 = .ok (.istore_n 3, 1) := by decide +kernel
theorem dX1_ableIn_2 : decode cX1_ableIn 2 = .ok (.aload_n 0, 1) := by decide +kernel
theorem dX1_ableIn_3 : decode cX1_ableIn 3 = .ok (.getfield 65, 3) := by decide +kernel
theorem dX1_ableIn_6 : decode cX1_ableIn 6 = .ok (.iload_n 1, 1) := by decide +kernel
theorem dX1_ableIn_7 : decode cX1_ableIn 7 = .ok (.aaload, 1) := by decide +kernel
theorem dX1_ableIn_8 : decode cX1_ableIn 8 = .ok (.iload_n 2, 1) := by decide +kernel
theorem dX1_ableIn_9 : decode cX1_ableIn 9 = .ok (.invokevirtual 98, 3) := by decide +kernel
theorem dX1_ableIn_12 : decode cX1_ableIn 12 = .ok (.iconst (-1), 1) := by decide +kernel
theorem dX1_ableIn_13 : decode cX1_ableIn 13 = .ok (.if_icmp .ne 5, 3) := by decide +kernel
theorem dX1_ableIn_16 : decode cX1_ableIn 16 = .ok (.iload_n 3, 1) := by decide +kernel
theorem dX1_ableIn_17 : decode cX1_ableIn 17 = .ok (.ireturn, 1) := by decide +kernel
theorem dX1_ableIn_18 : decode cX1_ableIn 18 = .ok (.iconst 0, 1) := by decide +kernel
theorem dX1_ableIn_19 : decode cX1_ableIn 19 = .ok (.istore 4, 2) := by decide +kernel
theorem dX1_ableIn_21 : decode cX1_ableIn 21 = .ok (.iload 4, 2) := by decide +kernel
theorem dX1_ableIn_23 : decode cX1_ableIn 23 = .ok (.aload_n 0, 1) := by decide +kernel
theorem dX1_ableIn_24 : decode cX1_ableIn 24 = .ok (.getfield 102, 3) := by decide +kernel
theorem dX1_ableIn_27 : decode cX1_ableIn 27 = .ok (.if_icmp .ge 30, 3) := by decide +kernel
theorem dX1_ableIn_30 : decode cX1_ableIn 30 = .ok (.aload_n 0, 1) := by decide +kernel
theorem dX1_ableIn_31 : decode cX1_ableIn 31 = .ok (.iload 4, 2) := by decide +kernel
theorem dX1_ableIn_33 : decode cX1_ableIn 33 = .ok (.iload_n 1, 1) := by decide +kernel
theorem dX1_ableIn_34 : decode cX1_ableIn 34 = .ok (.iload_n 2, 1) := by decide +kernel
theorem dX1_ableIn_35 : decode cX1_ableIn 35 = .ok (.iconst 1, 1) := by decide +kernel
theorem dX1_ableIn_36 : decode cX1_ableIn 36 = .ok (.invokevirtual 105, 3) := by decide +kernel
theorem dX1_ableIn_39 : decode cX1_ableIn 39 = .ok (.bipush (-2), 2) := by decide +kernel
theorem dX1_ableIn_41 : decode cX1_ableIn 41 = .ok (.if_icmp .ne 10, 3) := by decide +kernel
theorem dX1_ableIn_44 : decode cX1_ableIn 44 = .ok (.iload_n 3, 1) := by decide +kernel
theorem dX1_ableIn_45 : decode cX1_ableIn 45 = .ok (.iconst 1, 1) := by decide +kernel
theorem dX1_ableIn_46 : decode cX1_ableIn 46 = .ok (.iload 4, 2) := by decide +kernel
theorem dX1_ableIn_48 : decode cX1_ableIn 48 = .ok (.ishl, 1) := by decide +kernel
theorem dX1_ableIn_49 : decode cX1_ableIn 49 = .ok (.ior, 1) := by decide +kernel
theorem dX1_ableIn_50 : decode cX1_ableIn 50 = .ok (.istore_n 3, 1) := by decide +kernel
theorem dX1_ableIn_51 : decode cX1_ableIn 51 = .ok (.iinc 4 1, 3) := by decide +kernel
theorem dX1_ableIn_54 : decode cX1_ableIn 54 = .ok (.goto (-33), 3) := by decide +kernel
theorem dX1_ableIn_57 : decode cX1_ableIn 57 = .ok (.iload_n 3, 1) := by decide +kernel
theorem dX1_ableIn_58 : decode cX1_ableIn 58 = .ok (.ireturn, 1) := by decide +kernel
theorem dX1_place_0 : decode cX1_place 0 = .ok (.iload_n 2, 1) := by decide +kernel
theorem dX1_place_1 : decode cX1_place 1 = .ok (.aload_n 0, 1) := by decide +kernel
theorem dX1_place_2 : decode cX1_place 2 = .ok (.getfield 57, 3) := by decide +kernel
theorem dX1_place_5 : decode cX1_place 5 = .ok (.if_icmp .lt 8, 3) := by decide +kernel
theorem dX1_place_8 : decode cX1_place 8 = .ok (.aload_n 0, 1) := by decide +kernel
theorem dX1_place_9 : decode cX1_place 9 = .ok (.invokevirtual 109, 3) := by decide +kernel
theorem dX1_place_12 : decode cX1_place 12 = .ok (.return_, 1) := by decide +kernel
theorem dX1_place_13 : decode cX1_place 13 = .ok (.aload_n 0, 1) := by decide +kernel
theorem dX1_place_14 : decode cX1_place 14 = .ok (.getfield 9, 3) := by decide +kernel
theorem dX1_place_17 : decode cX1_place 17 = .ok (.iload_n 2, 1) := by decide +kernel
theorem dX1_place_18 : decode cX1_place 18 = .ok (.iaload, 1) := by decide +kernel
theorem dX1_place_19 : decode cX1_place 19 = .ok (.istore_n 3, 1) := by decide +kernel
theorem dX1_place_20 : decode cX1_place 20 = .ok (.iload_n 2, 1) := by decide +kernel
theorem dX1_place_21 : decode cX1_place 21 = .ok (.ifCond .le 19, 3) := by decide +kernel
theorem dX1_place_24 : decode cX1_place 24 = .ok (.aload_n 0, 1) := by decide +kernel
theorem dX1_place_25 : decode cX1_place 25 = .ok (.getfield 9, 3) := by decide +kernel
theorem dX1_place_28 : decode cX1_place 28 = .ok (.iload_n 2, 1) := by decide +kernel
theorem dX1_place_29 : decode cX1_place 29 = .ok (.iconst 1, 1) := by decide +kernel
theorem dX1_place_30 : decode cX1_place 30 = .ok (.isub, 1) := by decide +kernel
theorem dX1_place_31 : decode cX1_place 31 = .ok (.iaload, 1) := by decide +kernel
theorem dX1_place_32 : decode cX1_place 32 = .ok (.iload_n 3, 1) := by decide +kernel
theorem dX1_place_33 : decode cX1_place 33 = .ok (.if_icmp .ne 7, 3) := by decide +kernel
theorem dX1_place_36 : decode cX1_place 36 = .ok (.iconst 1, 1) := by decide +kernel
theorem dX1_place_37 : decode cX1_place 37 = .ok (.goto 4, 3) := by decide +kernel
theorem dX1_place_40 : decode cX1_place 40 = .ok (.iconst 0, 1) := by decide +kernel
theorem dX1_place_41 : decode cX1_place 41 = .ok (.istore 4, 2) := by decide +kernel
theorem dX1_place_43 : decode cX1_place 43 = .ok (.iload 4, 2) := by decide +kernel
theorem dX1_place_45 : decode cX1_place 45 = .ok (.ifCond .eq 16, 3) := by decide +kernel
theorem dX1_place_48 : decode cX1_place 48 = .ok (.aload_n 0, 1) := by decide +kernel
theorem dX1_place_49 : decode cX1_place 49 = .ok (.getfield 18, 3) := by decide +kernel
theorem dX1_place_52 : decode cX1_place 52 = .ok (.iload_n 2, 1) := by decide +kernel
theorem dX1_place_53 : decode cX1_place 53 = .ok (.iconst 1, 1) := by decide +kernel
theorem dX1_place_54 : decode cX1_place 54 = .ok (.isub, 1) := by decide +kernel
theorem dX1_place_55 : decode cX1_place 55 = .ok (.iaload, 1) := by decide +kernel
theorem dX1_place_56 : decode cX1_place 56 = .ok (.iconst 1, 1) := by decide +kernel
theorem dX1_place_57 : decode cX1_place 57 = .ok (.iadd, 1) := by decide +kernel
theorem dX1_place_58 : decode cX1_place 58 = .ok (.goto 4, 3) := by decide +kernel
theorem dX1_place_61 : decode cX1_place 61 = .ok (.iconst 0, 1) := by decide +kernel
theorem dX1_place_62 : decode cX1_place 62 = .ok (.istore 5, 2) := by decide +kernel
theorem dX1_place_64 : decode cX1_place 64 = .ok (.iload 5, 2) := by decide +kernel
theorem dX1_place_66 : decode cX1_place 66 = .ok (.istore 6, 2) := by decide +kernel
theorem dX1_place_68 : decode cX1_place 68 = .ok (.iload 6, 2) := by decide +kernel
theorem dX1_place_70 : decode cX1_place 70 = .ok (.aload_n 1, 1) := by decide +kernel
theorem dX1_place_71 : decode cX1_place 71 = .ok (.getfield 102, 3) := by decide +kernel
theorem dX1_place_74 : decode cX1_place 74 = .ok (.if_icmp .ge 61, 3) := by decide +kernel
theorem dX1_place_77 : decode cX1_place 77 = .ok (.aload_n 0, 1) := by decide +kernel
theorem dX1_place_78 : decode cX1_place 78 = .ok (.invokevirtual 112, 3) := by decide +kernel
theorem dX1_place_81 : decode cX1_place 81 = .ok (.ifCond .ne 54, 3) := by decide +kernel
theorem dX1_place_84 : decode cX1_place 84 = .ok (.aload_n 0, 1) := by decide +kernel
theorem dX1_place_85 : decode cX1_place 85 = .ok (.getfield 48, 3) := by decide +kernel
theorem dX1_place_88 : decode cX1_place 88 = .ok (.sipush 20000, 3) := by decide +kernel
theorem dX1_place_91 : decode cX1_place 91 = .ok (.if_icmp .lt 9, 3) := by decide +kernel
theorem dX1_place_94 : decode cX1_place 94 = .ok (.aload_n 0, 1) := by decide +kernel
theorem dX1_place_95 : decode cX1_place 95 = .ok (.iconst 1, 1) := by decide +kernel
theorem dX1_place_96 : decode cX1_place 96 = .ok (.putfield 51, 3) := by decide +kernel
theorem dX1_place_99 : decode cX1_place 99 = .ok (.return_, 1) := by decide +kernel
theorem dX1_place_100 : decode cX1_place 100 = .ok (.aload_n 0, 1) := by decide +kernel
theorem dX1_place_101 : decode cX1_place 101 = .ok (.dup, 1) := by decide +kernel
theorem dX1_place_102 : decode cX1_place 102 = .ok (.getfield 48, 3) := by decide +kernel
theorem dX1_place_105 : decode cX1_place 105 = .ok (.iconst 1, 1) := by decide +kernel
theorem dX1_place_106 : decode cX1_place 106 = .ok (.iadd, 1) := by decide +kernel
theorem dX1_place_107 : decode cX1_place 107 = .ok (.putfield 48, 3) := by decide +kernel
theorem dX1_place_110 : decode cX1_place 110 = .ok (.aload_n 0, 1) := by decide +kernel
theorem dX1_place_111 : decode cX1_place 111 = .ok (.aload_n 1, 1) := by decide +kernel
theorem dX1_place_112 : decode cX1_place 112 = .ok (.iload 6, 2) := by decide +kernel
theorem dX1_place_114 : decode cX1_place 114 = .ok (.iload_n 3, 1) := by decide +kernel
theorem dX1_place_115 : decode cX1_place 115 = .ok (.invokevirtual 116, 3) := by decide +kernel
theorem dX1_place_118 : decode cX1_place 118 = .ok (.ifCond .eq 11, 3) := by decide +kernel
theorem dX1_place_121 : decode cX1_place 121 = .ok (.aload_n 0, 1) := by decide +kernel
theorem dX1_place_122 : decode cX1_place 122 = .ok (.aload_n 1, 1) := by decide +kernel
theorem dX1_place_123 : decode cX1_place 123 = .ok (.iload_n 2, 1) := by decide +kernel
theorem dX1_place_124 : decode cX1_place 124 = .ok (.iload 6, 2) := by decide +kernel
theorem dX1_place_126 : decode cX1_place 126 = .ok (.invokevirtual 120, 3) := by decide +kernel
theorem dX1_place_129 : decode cX1_place 129 = .ok (.iinc 6 1, 3) := by decide +kernel
theorem dX1_place_132 : decode cX1_place 132 = .ok (.goto (-64), 3) := by decide +kernel
theorem dX1_place_135 : decode cX1_place 135 = .ok (.return_, 1) := by decide +kernel
theorem dX1_takeAndGoOn_0 : decode cX1_takeAndGoOn 0 = .ok (.aload_n 0, 1) := by decide +kernel
theorem dX1_takeAndGoOn_1 : decode cX1_takeAndGoOn 1 = .ok (.getfield 9, 3) := by decide +kernel
theorem dX1_takeAndGoOn_4 : decode cX1_takeAndGoOn 4 = .ok (.iload_n 2, 1) := by decide +kernel
theorem dX1_takeAndGoOn_5 : decode cX1_takeAndGoOn 5 = .ok (.iaload, 1) := by decide +kernel
theorem dX1_takeAndGoOn_6 : decode cX1_takeAndGoOn 6 = .ok (.istore 4, 2) := by decide +kernel
theorem dX1_takeAndGoOn_8 : decode cX1_takeAndGoOn 8 = .ok (.iconst 1, 1) := by decide +kernel
theorem dX1_takeAndGoOn_9 : decode cX1_takeAndGoOn 9 = .ok (.iload_n 3, 1) := by decide +kernel
theorem dX1_takeAndGoOn_10 : decode cX1_takeAndGoOn 10 = .ok (.ishl, 1) := by decide +kernel
theorem dX1_takeAndGoOn_11 : decode cX1_takeAndGoOn 11 = .ok (.istore 5, 2) := by decide +kernel
theorem dX1_takeAndGoOn_13 : decode cX1_takeAndGoOn 13 = .ok (.aload_n 0, 1) := by decide +kernel
theorem dX1_takeAndGoOn_14 : decode cX1_takeAndGoOn 14 = .ok (.getfield 18, 3) := by decide +kernel
theorem dX1_takeAndGoOn_17 : decode cX1_takeAndGoOn 17 = .ok (.iload_n 2, 1) := by decide +kernel
theorem dX1_takeAndGoOn_18 : decode cX1_takeAndGoOn 18 = .ok (.iload_n 3, 1) := by decide +kernel
theorem dX1_takeAndGoOn_19 : decode cX1_takeAndGoOn 19 = .ok (.iastore, 1) := by decide +kernel
theorem dX1_takeAndGoOn_20 : decode cX1_takeAndGoOn 20 = .ok (.aload_n 0, 1) := by decide +kernel
theorem dX1_takeAndGoOn_21 : decode cX1_takeAndGoOn 21 = .ok (.dup, 1) := by decide +kernel
theorem dX1_takeAndGoOn_22 : decode cX1_takeAndGoOn 22 = .ok (.getfield 54, 3) := by decide +kernel
theorem dX1_takeAndGoOn_25 : decode cX1_takeAndGoOn 25 = .ok (.iload 5, 2) := by decide +kernel
theorem dX1_takeAndGoOn_27 : decode cX1_takeAndGoOn 27 = .ok (.ior, 1) := by decide +kernel
theorem dX1_takeAndGoOn_28 : decode cX1_takeAndGoOn 28 = .ok (.putfield 54, 3) := by decide +kernel
theorem dX1_takeAndGoOn_31 : decode cX1_takeAndGoOn 31 = .ok (.aload_n 0, 1) := by decide +kernel
theorem dX1_takeAndGoOn_32 : decode cX1_takeAndGoOn 32 = .ok (.getfield 28, 3) := by decide +kernel
theorem dX1_takeAndGoOn_35 : decode cX1_takeAndGoOn 35 = .ok (.iload 4, 2) := by decide +kernel
theorem dX1_takeAndGoOn_37 : decode cX1_takeAndGoOn 37 = .ok (.dup2, 1) := by decide +kernel
theorem dX1_takeAndGoOn_38 : decode cX1_takeAndGoOn 38 = .ok (.iaload, 1) := by decide +kernel
theorem dX1_takeAndGoOn_39 : decode cX1_takeAndGoOn 39 = .ok (.iload 5, 2) := by decide +kernel
theorem dX1_takeAndGoOn_41 : decode cX1_takeAndGoOn 41 = .ok (.ior, 1) := by decide +kernel
theorem dX1_takeAndGoOn_42 : decode cX1_takeAndGoOn 42 = .ok (.iastore, 1) := by decide +kernel
theorem dX1_takeAndGoOn_43 : decode cX1_takeAndGoOn 43 = .ok (.aload_n 0, 1) := by decide +kernel
theorem dX1_takeAndGoOn_44 : decode cX1_takeAndGoOn 44 = .ok (.aload_n 1, 1) := by decide +kernel
theorem dX1_takeAndGoOn_45 : decode cX1_takeAndGoOn 45 = .ok (.iload_n 2, 1) := by decide +kernel
theorem dX1_takeAndGoOn_46 : decode cX1_takeAndGoOn 46 = .ok (.iconst 1, 1) := by decide +kernel
theorem dX1_takeAndGoOn_47 : decode cX1_takeAndGoOn 47 = .ok (.iadd, 1) := by decide +kernel
theorem dX1_takeAndGoOn_48 : decode cX1_takeAndGoOn 48 = .ok (.invokevirtual 81, 3) := by decide +kernel
theorem dX1_takeAndGoOn_51 : decode cX1_takeAndGoOn 51 = .ok (.aload_n 0, 1) := by decide +kernel
theorem dX1_takeAndGoOn_52 : decode cX1_takeAndGoOn 52 = .ok (.dup, 1) := by decide +kernel
theorem dX1_takeAndGoOn_53 : decode cX1_takeAndGoOn 53 = .ok (.getfield 54, 3) := by decide +kernel
theorem dX1_takeAndGoOn_56 : decode cX1_takeAndGoOn 56 = .ok (.iload 5, 2) := by decide +kernel
theorem dX1_takeAndGoOn_58 : decode cX1_takeAndGoOn 58 = .ok (.iconst (-1), 1) := by decide +kernel
theorem dX1_takeAndGoOn_59 : decode cX1_takeAndGoOn 59 = .ok (.ixor, 1) := by decide +kernel
theorem dX1_takeAndGoOn_60 : decode cX1_takeAndGoOn 60 = .ok (.iand, 1) := by decide +kernel
theorem dX1_takeAndGoOn_61 : decode cX1_takeAndGoOn 61 = .ok (.putfield 54, 3) := by decide +kernel
theorem dX1_takeAndGoOn_64 : decode cX1_takeAndGoOn 64 = .ok (.aload_n 0, 1) := by decide +kernel
theorem dX1_takeAndGoOn_65 : decode cX1_takeAndGoOn 65 = .ok (.getfield 28, 3) := by decide +kernel
theorem dX1_takeAndGoOn_68 : decode cX1_takeAndGoOn 68 = .ok (.iload 4, 2) := by decide +kernel
theorem dX1_takeAndGoOn_70 : decode cX1_takeAndGoOn 70 = .ok (.dup2, 1) := by decide +kernel
theorem dX1_takeAndGoOn_71 : decode cX1_takeAndGoOn 71 = .ok (.iaload, 1) := by decide +kernel
theorem dX1_takeAndGoOn_72 : decode cX1_takeAndGoOn 72 = .ok (.iload 5, 2) := by decide +kernel
theorem dX1_takeAndGoOn_74 : decode cX1_takeAndGoOn 74 = .ok (.iconst (-1), 1) := by decide +kernel
theorem dX1_takeAndGoOn_75 : decode cX1_takeAndGoOn 75 = .ok (.ixor, 1) := by decide +kernel
theorem dX1_takeAndGoOn_76 : decode cX1_takeAndGoOn 76 = .ok (.iand, 1) := by decide +kernel
theorem dX1_takeAndGoOn_77 : decode cX1_takeAndGoOn 77 = .ok (.iastore, 1) := by decide +kernel
theorem dX1_takeAndGoOn_78 : decode cX1_takeAndGoOn 78 = .ok (.return_, 1) := by decide +kernel
theorem dX1_isOver_0 : decode cX1_isOver 0 = .ok (.aload_n 0, 1) := by decide +kernel
theorem dX1_isOver_1 : decode cX1_isOver 1 = .ok (.getfield 51, 3) := by decide +kernel
theorem dX1_isOver_4 : decode cX1_isOver 4 = .ok (.ifCond .ne 17, 3) := by decide +kernel
theorem dX1_isOver_7 : decode cX1_isOver 7 = .ok (.aload_n 0, 1) := by decide +kernel
theorem dX1_isOver_8 : decode cX1_isOver 8 = .ok (.getfield 38, 3) := by decide +kernel
theorem dX1_isOver_11 : decode cX1_isOver 11 = .ok (.ifCond .eq 14, 3) := by decide +kernel
theorem dX1_isOver_14 : decode cX1_isOver 14 = .ok (.aload_n 0, 1) := by decide +kernel
theorem dX1_isOver_15 : decode cX1_isOver 15 = .ok (.getfield 42, 3) := by decide +kernel
theorem dX1_isOver_18 : decode cX1_isOver 18 = .ok (.ifCond .le 7, 3) := by decide +kernel
theorem dX1_isOver_21 : decode cX1_isOver 21 = .ok (.iconst 1, 1) := by decide +kernel
theorem dX1_isOver_22 : decode cX1_isOver 22 = .ok (.goto 4, 3) := by decide +kernel
theorem dX1_isOver_25 : decode cX1_isOver 25 = .ok (.iconst 0, 1) := by decide +kernel
theorem dX1_isOver_26 : decode cX1_isOver 26 = .ok (.ireturn, 1) := by decide +kernel
theorem dX1_fits_0 : decode cX1_fits 0 = .ok (.aload_n 0, 1) := by decide +kernel
theorem dX1_fits_1 : decode cX1_fits 1 = .ok (.getfield 21, 3) := by decide +kernel
theorem dX1_fits_4 : decode cX1_fits 4 = .ok (.iload_n 3, 1) := by decide +kernel
theorem dX1_fits_5 : decode cX1_fits 5 = .ok (.iaload, 1) := by decide +kernel
theorem dX1_fits_6 : decode cX1_fits 6 = .ok (.aload_n 0, 1) := by decide +kernel
theorem dX1_fits_7 : decode cX1_fits 7 = .ok (.getfield 54, 3) := by decide +kernel
theorem dX1_fits_10 : decode cX1_fits 10 = .ok (.iconst (-1), 1) := by decide +kernel
theorem dX1_fits_11 : decode cX1_fits 11 = .ok (.ixor, 1) := by decide +kernel
theorem dX1_fits_12 : decode cX1_fits 12 = .ok (.iand, 1) := by decide +kernel
theorem dX1_fits_13 : decode cX1_fits 13 = .ok (.iconst 1, 1) := by decide +kernel
theorem dX1_fits_14 : decode cX1_fits 14 = .ok (.iload_n 2, 1) := by decide +kernel
theorem dX1_fits_15 : decode cX1_fits 15 = .ok (.ishl, 1) := by decide +kernel
theorem dX1_fits_16 : decode cX1_fits 16 = .ok (.iand, 1) := by decide +kernel
theorem dX1_fits_17 : decode cX1_fits 17 = .ok (.ifCond .ne 5, 3) := by decide +kernel
theorem dX1_fits_20 : decode cX1_fits 20 = .ok (.iconst 0, 1) := by decide +kernel
theorem dX1_fits_21 : decode cX1_fits 21 = .ok (.ireturn, 1) := by decide +kernel
theorem dX1_fits_22 : decode cX1_fits 22 = .ok (.aload_n 0, 1) := by decide +kernel
theorem dX1_fits_23 : decode cX1_fits 23 = .ok (.getfield 24, 3) := by decide +kernel
theorem dX1_fits_26 : decode cX1_fits 26 = .ok (.iload_n 3, 1) := by decide +kernel
theorem dX1_fits_27 : decode cX1_fits 27 = .ok (.baload, 1) := by decide +kernel
theorem dX1_fits_28 : decode cX1_fits 28 = .ok (.ifCond .eq 22, 3) := by decide +kernel
theorem dX1_fits_31 : decode cX1_fits 31 = .ok (.aload_n 1, 1) := by decide +kernel
theorem dX1_fits_32 : decode cX1_fits 32 = .ok (.getfield 124, 3) := by decide +kernel
theorem dX1_fits_35 : decode cX1_fits 35 = .ok (.iload_n 2, 1) := by decide +kernel
theorem dX1_fits_36 : decode cX1_fits 36 = .ok (.aaload, 1) := by decide +kernel
theorem dX1_fits_37 : decode cX1_fits 37 = .ok (.getfield 128, 3) := by decide +kernel
theorem dX1_fits_40 : decode cX1_fits 40 = .ok (.aload_n 0, 1) := by decide +kernel
theorem dX1_fits_41 : decode cX1_fits 41 = .ok (.getfield 28, 3) := by decide +kernel
theorem dX1_fits_44 : decode cX1_fits 44 = .ok (.iload_n 3, 1) := by decide +kernel
theorem dX1_fits_45 : decode cX1_fits 45 = .ok (.iaload, 1) := by decide +kernel
theorem dX1_fits_46 : decode cX1_fits 46 = .ok (.iand, 1) := by decide +kernel
theorem dX1_fits_47 : decode cX1_fits 47 = .ok (.ifCond .ne 7, 3) := by decide +kernel
theorem dX1_fits_50 : decode cX1_fits 50 = .ok (.iconst 1, 1) := by decide +kernel
theorem dX1_fits_51 : decode cX1_fits 51 = .ok (.goto 4, 3) := by decide +kernel
theorem dX1_fits_54 : decode cX1_fits 54 = .ok (.iconst 0, 1) := by decide +kernel
theorem dX1_fits_55 : decode cX1_fits 55 = .ok (.ireturn, 1) := by decide +kernel
theorem dX1_tellFound_0 : decode cX1_tellFound 0 = .ok (.aload_n 0, 1) := by decide +kernel
theorem dX1_tellFound_1 : decode cX1_tellFound 1 = .ok (.dup, 1) := by decide +kernel
theorem dX1_tellFound_2 : decode cX1_tellFound 2 = .ok (.getfield 42, 3) := by decide +kernel
theorem dX1_tellFound_5 : decode cX1_tellFound 5 = .ok (.iconst 1, 1) := by decide +kernel
theorem dX1_tellFound_6 : decode cX1_tellFound 6 = .ok (.iadd, 1) := by decide +kernel
theorem dX1_tellFound_7 : decode cX1_tellFound 7 = .ok (.putfield 42, 3) := by decide +kernel
theorem dX1_tellFound_10 : decode cX1_tellFound 10 = .ok (.aload_n 0, 1) := by decide +kernel
theorem dX1_tellFound_11 : decode cX1_tellFound 11 = .ok (.getfield 31, 3) := by decide +kernel
theorem dX1_tellFound_14 : decode cX1_tellFound 14 = .ok (.iconst (-1), 1) := by decide +kernel
theorem dX1_tellFound_15 : decode cX1_tellFound 15 = .ok (.if_icmp .eq 40, 3) := by decide +kernel
theorem dX1_tellFound_18 : decode cX1_tellFound 18 = .ok (.aload_n 0, 1) := by decide +kernel
theorem dX1_tellFound_19 : decode cX1_tellFound 19 = .ok (.getfield 35, 3) := by decide +kernel
theorem dX1_tellFound_22 : decode cX1_tellFound 22 = .ok (.iconst (-1), 1) := by decide +kernel
theorem dX1_tellFound_23 : decode cX1_tellFound 23 = .ok (.if_icmp .eq 32, 3) := by decide +kernel
theorem dX1_tellFound_26 : decode cX1_tellFound 26 = .ok (.aload_n 0, 1) := by decide +kernel
theorem dX1_tellFound_27 : decode cX1_tellFound 27 = .ok (.getfield 28, 3) := by decide +kernel
theorem dX1_tellFound_30 : decode cX1_tellFound 30 = .ok (.aload_n 0, 1) := by decide +kernel
theorem dX1_tellFound_31 : decode cX1_tellFound 31 = .ok (.getfield 35, 3) := by decide +kernel
theorem dX1_tellFound_34 : decode cX1_tellFound 34 = .ok (.iaload, 1) := by decide +kernel
theorem dX1_tellFound_35 : decode cX1_tellFound 35 = .ok (.aload_n 0, 1) := by decide +kernel
theorem dX1_tellFound_36 : decode cX1_tellFound 36 = .ok (.getfield 31, 3) := by decide +kernel
theorem dX1_tellFound_39 : decode cX1_tellFound 39 = .ok (.ishr, 1) := by decide +kernel
theorem dX1_tellFound_40 : decode cX1_tellFound 40 = .ok (.iconst 1, 1) := by decide +kernel
theorem dX1_tellFound_41 : decode cX1_tellFound 41 = .ok (.iand, 1) := by decide +kernel
theorem dX1_tellFound_42 : decode cX1_tellFound 42 = .ok (.ifCond .eq 13, 3) := by decide +kernel
theorem dX1_tellFound_45 : decode cX1_tellFound 45 = .ok (.aload_n 0, 1) := by decide +kernel
theorem dX1_tellFound_46 : decode cX1_tellFound 46 = .ok (.dup, 1) := by decide +kernel
theorem dX1_tellFound_47 : decode cX1_tellFound 47 = .ok (.getfield 45, 3) := by decide +kernel
theorem dX1_tellFound_50 : decode cX1_tellFound 50 = .ok (.iconst 1, 1) := by decide +kernel
theorem dX1_tellFound_51 : decode cX1_tellFound 51 = .ok (.iadd, 1) := by decide +kernel
theorem dX1_tellFound_52 : decode cX1_tellFound 52 = .ok (.putfield 45, 3) := by decide +kernel
theorem dX1_tellFound_55 : decode cX1_tellFound 55 = .ok (.return_, 1) := by decide +kernel
theorem dX2_init_0 : decode cX2_init 0 = .ok (.aload_n 0, 1) := by decide +kernel
theorem dX2_init_1 : decode cX2_init 1 = .ok (.invokespecial 3, 3) := by decide +kernel
theorem dX2_init_4 : decode cX2_init 4 = .ok (.aload_n 0, 1) := by decide +kernel
theorem dX2_init_5 : decode cX2_init 5 = .ok (.iload_n 1, 1) := by decide +kernel
theorem dX2_init_6 : decode cX2_init 6 = .ok (.putfield 9, 3) := by decide +kernel
theorem dX2_init_9 : decode cX2_init 9 = .ok (.aload_n 0, 1) := by decide +kernel
theorem dX2_init_10 : decode cX2_init 10 = .ok (.iload_n 2, 1) := by decide +kernel
theorem dX2_init_11 : decode cX2_init 11 = .ok (.putfield 15, 3) := by decide +kernel
theorem dX2_init_14 : decode cX2_init 14 = .ok (.aload_n 0, 1) := by decide +kernel
theorem dX2_init_15 : decode cX2_init 15 = .ok (.iload_n 3, 1) := by decide +kernel
theorem dX2_init_16 : decode cX2_init 16 = .ok (.putfield 18, 3) := by decide +kernel
theorem dX2_init_19 : decode cX2_init 19 = .ok (.aload_n 0, 1) := by decide +kernel
theorem dX2_init_20 : decode cX2_init 20 = .ok (.iload 4, 2) := by decide +kernel
theorem dX2_init_22 : decode cX2_init 22 = .ok (.putfield 21, 3) := by decide +kernel
theorem dX2_init_25 : decode cX2_init 25 = .ok (.aload_n 0, 1) := by decide +kernel
theorem dX2_init_26 : decode cX2_init 26 = .ok (.iload 5, 2) := by decide +kernel
theorem dX2_init_28 : decode cX2_init 28 = .ok (.putfield 24, 3) := by decide +kernel
theorem dX2_init_31 : decode cX2_init 31 = .ok (.aload_n 0, 1) := by decide +kernel
theorem dX2_init_32 : decode cX2_init 32 = .ok (.iload 6, 2) := by decide +kernel
theorem dX2_init_34 : decode cX2_init 34 = .ok (.putfield 27, 3) := by decide +kernel
theorem dX2_init_37 : decode cX2_init 37 = .ok (.return_, 1) := by decide +kernel
theorem dX2_binds_0 : decode cX2_binds 0 = .ok (.aload_n 0, 1) := by decide +kernel
theorem dX2_binds_1 : decode cX2_binds 1 = .ok (.getfield 18, 3) := by decide +kernel
theorem dX2_binds_4 : decode cX2_binds 4 = .ok (.iconst (-1), 1) := by decide +kernel
theorem dX2_binds_5 : decode cX2_binds 5 = .ok (.if_icmp .eq 11, 3) := by decide +kernel
theorem dX2_binds_8 : decode cX2_binds 8 = .ok (.aload_n 0, 1) := by decide +kernel
theorem dX2_binds_9 : decode cX2_binds 9 = .ok (.getfield 18, 3) := by decide +kernel
theorem dX2_binds_12 : decode cX2_binds 12 = .ok (.iload_n 1, 1) := by decide +kernel
theorem dX2_binds_13 : decode cX2_binds 13 = .ok (.if_icmp .ne 23, 3) := by decide +kernel
theorem dX2_binds_16 : decode cX2_binds 16 = .ok (.aload_n 0, 1) := by decide +kernel
theorem dX2_binds_17 : decode cX2_binds 17 = .ok (.getfield 24, 3) := by decide +kernel
theorem dX2_binds_20 : decode cX2_binds 20 = .ok (.iload_n 2, 1) := by decide +kernel
theorem dX2_binds_21 : decode cX2_binds 21 = .ok (.if_icmp .gt 15, 3) := by decide +kernel
theorem dX2_binds_24 : decode cX2_binds 24 = .ok (.iload_n 2, 1) := by decide +kernel
theorem dX2_binds_25 : decode cX2_binds 25 = .ok (.aload_n 0, 1) := by decide +kernel
theorem dX2_binds_26 : decode cX2_binds 26 = .ok (.getfield 27, 3) := by decide +kernel
theorem dX2_binds_29 : decode cX2_binds 29 = .ok (.if_icmp .ge 7, 3) := by decide +kernel
theorem dX2_binds_32 : decode cX2_binds 32 = .ok (.iconst 1, 1) := by decide +kernel
theorem dX2_binds_33 : decode cX2_binds 33 = .ok (.goto 4, 3) := by decide +kernel
theorem dX2_binds_36 : decode cX2_binds 36 = .ok (.iconst 0, 1) := by decide +kernel
theorem dX2_binds_37 : decode cX2_binds 37 = .ok (.ireturn, 1) := by decide +kernel
theorem dX2_bars_0 : decode cX2_bars 0 = .ok (.aload_n 0, 1) := by decide +kernel
theorem dX2_bars_1 : decode cX2_bars 1 = .ok (.getfield 15, 3) := by decide +kernel
theorem dX2_bars_4 : decode cX2_bars 4 = .ok (.tableswitch 146 0 4 #[36, 55, 75, 102, 129], 36) := by decide +kernel
theorem dX2_bars_40 : decode cX2_bars 40 = .ok (.iload_n 2, 1) := by decide +kernel
theorem dX2_bars_41 : decode cX2_bars 41 = .ok (.aload_n 1, 1) := by decide +kernel
theorem dX2_bars_42 : decode cX2_bars 42 = .ok (.getfield 30, 3) := by decide +kernel
theorem dX2_bars_45 : decode cX2_bars 45 = .ok (.isub, 1) := by decide +kernel
theorem dX2_bars_46 : decode cX2_bars 46 = .ok (.aload_n 0, 1) := by decide +kernel
theorem dX2_bars_47 : decode cX2_bars 47 = .ok (.getfield 21, 3) := by decide +kernel
theorem dX2_bars_50 : decode cX2_bars 50 = .ok (.if_icmp .ge 7, 3) := by decide +kernel
theorem dX2_bars_53 : decode cX2_bars 53 = .ok (.iconst 1, 1) := by decide +kernel
theorem dX2_bars_54 : decode cX2_bars 54 = .ok (.goto 4, 3) := by decide +kernel
theorem dX2_bars_57 : decode cX2_bars 57 = .ok (.iconst 0, 1) := by decide +kernel
theorem dX2_bars_58 : decode cX2_bars 58 = .ok (.ireturn, 1) := by decide +kernel
theorem dX2_bars_59 : decode cX2_bars 59 = .ok (.aload_n 3, 1) := by decide +kernel
theorem dX2_bars_60 : decode cX2_bars 60 = .ok (.getfield 35, 3) := by decide +kernel
theorem dX2_bars_63 : decode cX2_bars 63 = .ok (.aload_n 0, 1) := by decide +kernel
theorem dX2_bars_64 : decode cX2_bars 64 = .ok (.getfield 21, 3) := by decide +kernel
theorem dX2_bars_67 : decode cX2_bars 67 = .ok (.ishr, 1) := by decide +kernel
theorem dX2_bars_68 : decode cX2_bars 68 = .ok (.iconst 1, 1) := by decide +kernel
theorem dX2_bars_69 : decode cX2_bars 69 = .ok (.iand, 1) := by decide +kernel
theorem dX2_bars_70 : decode cX2_bars 70 = .ok (.ifCond .ne 7, 3) := by decide +kernel
theorem dX2_bars_73 : decode cX2_bars 73 = .ok (.iconst 1, 1) := by decide +kernel
theorem dX2_bars_74 : decode cX2_bars 74 = .ok (.goto 4, 3) := by decide +kernel
theorem dX2_bars_77 : decode cX2_bars 77 = .ok (.iconst 0, 1) := by decide +kernel
theorem dX2_bars_78 : decode cX2_bars 78 = .ok (.ireturn, 1) := by decide +kernel
theorem dX2_bars_79 : decode cX2_bars 79 = .ok (.aload_n 3, 1) := by decide +kernel
theorem dX2_bars_80 : decode cX2_bars 80 = .ok (.getfield 40, 3) := by decide +kernel
theorem dX2_bars_83 : decode cX2_bars 83 = .ok (.iconst (-1), 1) := by decide +kernel
theorem dX2_bars_84 : decode cX2_bars 84 = .ok (.if_icmp .eq 20, 3) := by decide +kernel
theorem dX2_bars_87 : decode cX2_bars 87 = .ok (.iload_n 2, 1) := by decide +kernel
theorem dX2_bars_88 : decode cX2_bars 88 = .ok (.aload_n 3, 1) := by decide +kernel
theorem dX2_bars_89 : decode cX2_bars 89 = .ok (.getfield 40, 3) := by decide +kernel
theorem dX2_bars_92 : decode cX2_bars 92 = .ok (.isub, 1) := by decide +kernel
theorem dX2_bars_93 : decode cX2_bars 93 = .ok (.aload_n 0, 1) := by decide +kernel
theorem dX2_bars_94 : decode cX2_bars 94 = .ok (.getfield 21, 3) := by decide +kernel
theorem dX2_bars_97 : decode cX2_bars 97 = .ok (.if_icmp .gt 7, 3) := by decide +kernel
theorem dX2_bars_100 : decode cX2_bars 100 = .ok (.iconst 1, 1) := by decide +kernel
theorem dX2_bars_101 : decode cX2_bars 101 = .ok (.goto 4, 3) := by decide +kernel
theorem dX2_bars_104 : decode cX2_bars 104 = .ok (.iconst 0, 1) := by decide +kernel
theorem dX2_bars_105 : decode cX2_bars 105 = .ok (.ireturn, 1) := by decide +kernel
theorem dX2_bars_106 : decode cX2_bars 106 = .ok (.aload_n 3, 1) := by decide +kernel
theorem dX2_bars_107 : decode cX2_bars 107 = .ok (.getfield 43, 3) := by decide +kernel
theorem dX2_bars_110 : decode cX2_bars 110 = .ok (.iconst (-1), 1) := by decide +kernel
theorem dX2_bars_111 : decode cX2_bars 111 = .ok (.if_icmp .eq 20, 3) := by decide +kernel
theorem dX2_bars_114 : decode cX2_bars 114 = .ok (.iload_n 2, 1) := by decide +kernel
theorem dX2_bars_115 : decode cX2_bars 115 = .ok (.aload_n 3, 1) := by decide +kernel
theorem dX2_bars_116 : decode cX2_bars 116 = .ok (.getfield 43, 3) := by decide +kernel
theorem dX2_bars_119 : decode cX2_bars 119 = .ok (.isub, 1) := by decide +kernel
theorem dX2_bars_120 : decode cX2_bars 120 = .ok (.aload_n 0, 1) := by decide +kernel
theorem dX2_bars_121 : decode cX2_bars 121 = .ok (.getfield 21, 3) := by decide +kernel
theorem dX2_bars_124 : decode cX2_bars 124 = .ok (.if_icmp .gt 7, 3) := by decide +kernel
theorem dX2_bars_127 : decode cX2_bars 127 = .ok (.iconst 1, 1) := by decide +kernel
theorem dX2_bars_128 : decode cX2_bars 128 = .ok (.goto 4, 3) := by decide +kernel
theorem dX2_bars_131 : decode cX2_bars 131 = .ok (.iconst 0, 1) := by decide +kernel
theorem dX2_bars_132 : decode cX2_bars 132 = .ok (.ireturn, 1) := by decide +kernel
theorem dX2_bars_133 : decode cX2_bars 133 = .ok (.aload_n 1, 1) := by decide +kernel
theorem dX2_bars_134 : decode cX2_bars 134 = .ok (.getfield 46, 3) := by decide +kernel
theorem dX2_bars_137 : decode cX2_bars 137 = .ok (.aload_n 0, 1) := by decide +kernel
theorem dX2_bars_138 : decode cX2_bars 138 = .ok (.getfield 21, 3) := by decide +kernel
theorem dX2_bars_141 : decode cX2_bars 141 = .ok (.if_icmp .ne 7, 3) := by decide +kernel
theorem dX2_bars_144 : decode cX2_bars 144 = .ok (.iconst 1, 1) := by decide +kernel
theorem dX2_bars_145 : decode cX2_bars 145 = .ok (.goto 4, 3) := by decide +kernel
theorem dX2_bars_148 : decode cX2_bars 148 = .ok (.iconst 0, 1) := by decide +kernel
theorem dX2_bars_149 : decode cX2_bars 149 = .ok (.ireturn, 1) := by decide +kernel
theorem dX2_bars_150 : decode cX2_bars 150 = .ok (.aload_n 3, 1) := by decide +kernel
theorem dX2_bars_151 : decode cX2_bars 151 = .ok (.getfield 49, 3) := by decide +kernel
theorem dX2_bars_154 : decode cX2_bars 154 = .ok (.ireturn, 1) := by decide +kernel
theorem dX2_leavesDoubt_0 : decode cX2_leavesDoubt 0 = .ok (.aload_n 0, 1) := by decide +kernel
theorem dX2_leavesDoubt_1 : decode cX2_leavesDoubt 1 = .ok (.getfield 15, 3) := by decide +kernel
theorem dX2_leavesDoubt_4 : decode cX2_leavesDoubt 4 = .ok (.ifCond .ne 20, 3) := by decide +kernel
theorem dX2_leavesDoubt_7 : decode cX2_leavesDoubt 7 = .ok (.iload_n 2, 1) := by decide +kernel
theorem dX2_leavesDoubt_8 : decode cX2_leavesDoubt 8 = .ok (.aload_n 1, 1) := by decide +kernel
theorem dX2_leavesDoubt_9 : decode cX2_leavesDoubt 9 = .ok (.getfield 53, 3) := by decide +kernel
theorem dX2_leavesDoubt_12 : decode cX2_leavesDoubt 12 = .ok (.isub, 1) := by decide +kernel
theorem dX2_leavesDoubt_13 : decode cX2_leavesDoubt 13 = .ok (.aload_n 0, 1) := by decide +kernel
theorem dX2_leavesDoubt_14 : decode cX2_leavesDoubt 14 = .ok (.getfield 21, 3) := by decide +kernel
theorem dX2_leavesDoubt_17 : decode cX2_leavesDoubt 17 = .ok (.if_icmp .ge 7, 3) := by decide +kernel
theorem dX2_leavesDoubt_20 : decode cX2_leavesDoubt 20 = .ok (.iconst 1, 1) := by decide +kernel
theorem dX2_leavesDoubt_21 : decode cX2_leavesDoubt 21 = .ok (.goto 4, 3) := by decide +kernel
theorem dX2_leavesDoubt_24 : decode cX2_leavesDoubt 24 = .ok (.iconst 0, 1) := by decide +kernel
theorem dX2_leavesDoubt_25 : decode cX2_leavesDoubt 25 = .ok (.ireturn, 1) := by decide +kernel
theorem dX2_looksAtLists_0 : decode cX2_looksAtLists 0 = .ok (.aload_n 0, 1) := by decide +kernel
theorem dX2_looksAtLists_1 : decode cX2_looksAtLists 1 = .ok (.getfield 15, 3) := by decide +kernel
theorem dX2_looksAtLists_4 : decode cX2_looksAtLists 4 = .ok (.ifCond .eq 15, 3) := by decide +kernel
theorem dX2_looksAtLists_7 : decode cX2_looksAtLists 7 = .ok (.aload_n 0, 1) := by decide +kernel
theorem dX2_looksAtLists_8 : decode cX2_looksAtLists 8 = .ok (.getfield 15, 3) := by decide +kernel
theorem dX2_looksAtLists_11 : decode cX2_looksAtLists 11 = .ok (.iconst 4, 1) := by decide +kernel
theorem dX2_looksAtLists_12 : decode cX2_looksAtLists 12 = .ok (.if_icmp .eq 7, 3) := by decide +kernel
theorem dX2_looksAtLists_15 : decode cX2_looksAtLists 15 = .ok (.iconst 1, 1) := by decide +kernel
theorem dX2_looksAtLists_16 : decode cX2_looksAtLists 16 = .ok (.goto 4, 3) := by decide +kernel
theorem dX2_looksAtLists_19 : decode cX2_looksAtLists 19 = .ok (.iconst 0, 1) := by decide +kernel
theorem dX2_looksAtLists_20 : decode cX2_looksAtLists 20 = .ok (.ireturn, 1) := by decide +kernel
theorem dX2_heft_0 : decode cX2_heft 0 = .ok (.bipush 10, 2) := by decide +kernel
theorem dX2_heft_2 : decode cX2_heft 2 = .ok (.aload_n 0, 1) := by decide +kernel
theorem dX2_heft_3 : decode cX2_heft 3 = .ok (.getfield 15, 3) := by decide +kernel
theorem dX2_heft_6 : decode cX2_heft 6 = .ok (.iadd, 1) := by decide +kernel
theorem dX2_heft_7 : decode cX2_heft 7 = .ok (.istore_n 1, 1) := by decide +kernel
theorem dX2_heft_8 : decode cX2_heft 8 = .ok (.aload_n 0, 1) := by decide +kernel
theorem dX2_heft_9 : decode cX2_heft 9 = .ok (.getfield 15, 3) := by decide +kernel
theorem dX2_heft_12 : decode cX2_heft 12 = .ok (.iconst 5, 1) := by decide +kernel
theorem dX2_heft_13 : decode cX2_heft 13 = .ok (.if_icmp .eq 13, 3) := by decide +kernel
theorem dX2_heft_16 : decode cX2_heft 16 = .ok (.iload_n 1, 1) := by decide +kernel
theorem dX2_heft_17 : decode cX2_heft 17 = .ok (.bipush 100, 2) := by decide +kernel
theorem dX2_heft_19 : decode cX2_heft 19 = .ok (.aload_n 0, 1) := by decide +kernel
theorem dX2_heft_20 : decode cX2_heft 20 = .ok (.getfield 21, 3) := by decide +kernel
theorem dX2_heft_23 : decode cX2_heft 23 = .ok (.iadd, 1) := by decide +kernel
theorem dX2_heft_24 : decode cX2_heft 24 = .ok (.iadd, 1) := by decide +kernel
theorem dX2_heft_25 : decode cX2_heft 25 = .ok (.istore_n 1, 1) := by decide +kernel
theorem dX2_heft_26 : decode cX2_heft 26 = .ok (.aload_n 0, 1) := by decide +kernel
theorem dX2_heft_27 : decode cX2_heft 27 = .ok (.invokevirtual 56, 3) := by decide +kernel
theorem dX2_heft_30 : decode cX2_heft 30 = .ok (.ifCond .eq 9, 3) := by decide +kernel
theorem dX2_heft_33 : decode cX2_heft 33 = .ok (.iinc 1 1000, 6) := by decide +kernel
theorem dX2_heft_39 : decode cX2_heft 39 = .ok (.aload_n 0, 1) := by decide +kernel
theorem dX2_heft_40 : decode cX2_heft 40 = .ok (.getfield 15, 3) := by decide +kernel
theorem dX2_heft_43 : decode cX2_heft 43 = .ok (.iconst 2, 1) := by decide +kernel
theorem dX2_heft_44 : decode cX2_heft 44 = .ok (.if_icmp .eq 11, 3) := by decide +kernel
theorem dX2_heft_47 : decode cX2_heft 47 = .ok (.aload_n 0, 1) := by decide +kernel
theorem dX2_heft_48 : decode cX2_heft 48 = .ok (.getfield 15, 3) := by decide +kernel
theorem dX2_heft_51 : decode cX2_heft 51 = .ok (.iconst 3, 1) := by decide +kernel
theorem dX2_heft_52 : decode cX2_heft 52 = .ok (.if_icmp .ne 9, 3) := by decide +kernel
theorem dX2_heft_55 : decode cX2_heft 55 = .ok (.iconst 2, 1) := by decide +kernel
theorem dX2_heft_56 : decode cX2_heft 56 = .ok (.iload_n 1, 1) := by decide +kernel
theorem dX2_heft_57 : decode cX2_heft 57 = .ok (.imul, 1) := by decide +kernel
theorem dX2_heft_58 : decode cX2_heft 58 = .ok (.goto 4, 3) := by decide +kernel
theorem dX2_heft_61 : decode cX2_heft 61 = .ok (.iload_n 1, 1) := by decide +kernel
theorem dX2_heft_62 : decode cX2_heft 62 = .ok (.ireturn, 1) := by decide +kernel
theorem dX2_fail_0 : decode cX2_fail 0 = .ok (.aload_n 0, 1) := by decide +kernel
theorem dX2_fail_1 : decode cX2_fail 1 = .ok (.invokevirtual 56, 3) := by decide +kernel
theorem dX2_fail_4 : decode cX2_fail 4 = .ok (.ifCond .eq 13, 3) := by decide +kernel
theorem dX2_fail_7 : decode cX2_fail 7 = .ok (.new 60, 3) := by decide +kernel
theorem dX2_fail_10 : decode cX2_fail 10 = .ok (.dup, 1) := by decide +kernel
theorem dX2_fail_11 : decode cX2_fail 11 = .ok (.ldc 62, 2) := by decide +kernel
theorem dX2_fail_13 : decode cX2_fail 13 = .ok (.invokespecial 64, 3) := by decide +kernel
theorem dX2_fail_16 : decode cX2_fail 16 = .ok (.athrow, 1) := by decide +kernel
theorem dX2_fail_17 : decode cX2_fail 17 = .ok (.return_, 1) := by decide +kernel
theorem dX3_init_0 : decode cX3_init 0 = .ok (.aload_n 0, 1) := by decide +kernel
theorem dX3_init_1 : decode cX3_init 1 = .ok (.invokespecial 3, 3) := by decide +kernel
theorem dX3_init_4 : decode cX3_init 4 = .ok (.aload_n 0, 1) := by decide +kernel
theorem dX3_init_5 : decode cX3_init 5 = .ok (.iload_n 1, 1) := by decide +kernel
theorem dX3_init_6 : decode cX3_init 6 = .ok (.putfield 9, 3) := by decide +kernel
theorem dX3_init_9 : decode cX3_init 9 = .ok (.aload_n 0, 1) := by decide +kernel
theorem dX3_init_10 : decode cX3_init 10 = .ok (.iload_n 2, 1) := by decide +kernel
theorem dX3_init_11 : decode cX3_init 11 = .ok (.putfield 15, 3) := by decide +kernel
theorem dX3_init_14 : decode cX3_init 14 = .ok (.aload_n 0, 1) := by decide +kernel
theorem dX3_init_15 : decode cX3_init 15 = .ok (.sipush 200, 3) := by decide +kernel
theorem dX3_init_18 : decode cX3_init 18 = .ok (.iload_n 1, 1) := by decide +kernel
theorem dX3_init_19 : decode cX3_init 19 = .ok (.imul, 1) := by decide +kernel
theorem dX3_init_20 : decode cX3_init 20 = .ok (.newarray .byte, 2) := by decide +kernel
theorem dX3_init_22 : decode cX3_init 22 = .ok (.putfield 19, 3) := by decide +kernel
theorem dX3_init_25 : decode cX3_init 25 = .ok (.aload_n 0, 1) := by decide +kernel
theorem dX3_init_26 : decode cX3_init 26 = .ok (.getfield 19, 3) := by decide +kernel
theorem dX3_init_29 : decode cX3_init 29 = .ok (.iconst (-1), 1) := by decide +kernel
theorem dX3_init_30 : decode cX3_init 30 = .ok (.invokestatic 23, 3) := by decide +kernel
theorem dX3_init_33 : decode cX3_init 33 = .ok (.return_, 1) := by decide +kernel
theorem dX3_code_0 : decode cX3_code 0 = .ok (.aload_n 0, 1) := by decide +kernel
theorem dX3_code_1 : decode cX3_code 1 = .ok (.getfield 19, 3) := by decide +kernel
theorem dX3_code_4 : decode cX3_code 4 = .ok (.iload_n 1, 1) := by decide +kernel
theorem dX3_code_5 : decode cX3_code 5 = .ok (.aload_n 0, 1) := by decide +kernel
theorem dX3_code_6 : decode cX3_code 6 = .ok (.getfield 9, 3) := by decide +kernel
theorem dX3_code_9 : decode cX3_code 9 = .ok (.imul, 1) := by decide +kernel
theorem dX3_code_10 : decode cX3_code 10 = .ok (.iload_n 2, 1) := by decide +kernel
theorem dX3_code_11 : decode cX3_code 11 = .ok (.iadd, 1) := by decide +kernel
theorem dX3_code_12 : decode cX3_code 12 = .ok (.baload, 1) := by decide +kernel
theorem dX3_code_13 : decode cX3_code 13 = .ok (.ireturn, 1) := by decide +kernel
theorem dX3_setCode_0 : decode cX3_setCode 0 = .ok (.aload_n 0, 1) := by decide +kernel
theorem dX3_setCode_1 : decode cX3_setCode 1 = .ok (.getfield 19, 3) := by decide +kernel
theorem dX3_setCode_4 : decode cX3_setCode 4 = .ok (.iload_n 1, 1) := by decide +kernel
theorem dX3_setCode_5 : decode cX3_setCode 5 = .ok (.aload_n 0, 1) := by decide +kernel
theorem dX3_setCode_6 : decode cX3_setCode 6 = .ok (.getfield 9, 3) := by decide +kernel
theorem dX3_setCode_9 : decode cX3_setCode 9 = .ok (.imul, 1) := by decide +kernel
theorem dX3_setCode_10 : decode cX3_setCode 10 = .ok (.iload_n 2, 1) := by decide +kernel
theorem dX3_setCode_11 : decode cX3_setCode 11 = .ok (.iadd, 1) := by decide +kernel
theorem dX3_setCode_12 : decode cX3_setCode 12 = .ok (.iload_n 3, 1) := by decide +kernel
theorem dX3_setCode_13 : decode cX3_setCode 13 = .ok (.i2b, 1) := by decide +kernel
theorem dX3_setCode_14 : decode cX3_setCode 14 = .ok (.bastore, 1) := by decide +kernel
theorem dX3_setCode_15 : decode cX3_setCode 15 = .ok (.return_, 1) := by decide +kernel
theorem dX3_holder_0 : decode cX3_holder 0 = .ok (.aload_n 0, 1) := by decide +kernel
theorem dX3_holder_1 : decode cX3_holder 1 = .ok (.iload_n 1, 1) := by decide +kernel
theorem dX3_holder_2 : decode cX3_holder 2 = .ok (.iload_n 2, 1) := by decide +kernel
theorem dX3_holder_3 : decode cX3_holder 3 = .ok (.invokevirtual 29, 3) := by decide +kernel
theorem dX3_holder_6 : decode cX3_holder 6 = .ok (.istore_n 3, 1) := by decide +kernel
theorem dX3_holder_7 : decode cX3_holder 7 = .ok (.iload_n 3, 1) := by decide +kernel
theorem dX3_holder_8 : decode cX3_holder 8 = .ok (.iconst (-1), 1) := by decide +kernel
theorem dX3_holder_9 : decode cX3_holder 9 = .ok (.if_icmp .ne 7, 3) := by decide +kernel
theorem dX3_holder_12 : decode cX3_holder 12 = .ok (.iconst (-1), 1) := by decide +kernel
theorem dX3_holder_13 : decode cX3_holder 13 = .ok (.goto 7, 3) := by decide +kernel
theorem dX3_holder_16 : decode cX3_holder 16 = .ok (.iload_n 3, 1) := by decide +kernel
theorem dX3_holder_17 : decode cX3_holder 17 = .ok (.bipush 100, 2) := by decide +kernel
theorem dX3_holder_19 : decode cX3_holder 19 = .ok (.irem, 1) := by decide +kernel
theorem dX3_holder_20 : decode cX3_holder 20 = .ok (.ireturn, 1) := by decide +kernel
theorem dX3_isVoid_0 : decode cX3_isVoid 0 = .ok (.aload_n 0, 1) := by decide +kernel
theorem dX3_isVoid_1 : decode cX3_isVoid 1 = .ok (.iload_n 1, 1) := by decide +kernel
theorem dX3_isVoid_2 : decode cX3_isVoid 2 = .ok (.iload_n 2, 1) := by decide +kernel
theorem dX3_isVoid_3 : decode cX3_isVoid 3 = .ok (.invokevirtual 29, 3) := by decide +kernel
theorem dX3_isVoid_6 : decode cX3_isVoid 6 = .ok (.bipush 100, 2) := by decide +kernel
theorem dX3_isVoid_8 : decode cX3_isVoid 8 = .ok (.if_icmp .lt 7, 3) := by decide +kernel
theorem dX3_isVoid_11 : decode cX3_isVoid 11 = .ok (.iconst 1, 1) := by decide +kernel
theorem dX3_isVoid_12 : decode cX3_isVoid 12 = .ok (.goto 4, 3) := by decide +kernel
theorem dX3_isVoid_15 : decode cX3_isVoid 15 = .ok (.iconst 0, 1) := by decide +kernel
theorem dX3_isVoid_16 : decode cX3_isVoid 16 = .ok (.ireturn, 1) := by decide +kernel
theorem dX3_firstEmpty_0 : decode cX3_firstEmpty 0 = .ok (.iconst 0, 1) := by decide +kernel
theorem dX3_firstEmpty_1 : decode cX3_firstEmpty 1 = .ok (.istore_n 2, 1) := by decide +kernel
theorem dX3_firstEmpty_2 : decode cX3_firstEmpty 2 = .ok (.iload_n 2, 1) := by decide +kernel
theorem dX3_firstEmpty_3 : decode cX3_firstEmpty 3 = .ok (.aload_n 0, 1) := by decide +kernel
theorem dX3_firstEmpty_4 : decode cX3_firstEmpty 4 = .ok (.getfield 9, 3) := by decide +kernel
theorem dX3_firstEmpty_7 : decode cX3_firstEmpty 7 = .ok (.if_icmp .ge 21, 3) := by decide +kernel
theorem dX3_firstEmpty_10 : decode cX3_firstEmpty 10 = .ok (.aload_n 0, 1) := by decide +kernel
theorem dX3_firstEmpty_11 : decode cX3_firstEmpty 11 = .ok (.iload_n 1, 1) := by decide +kernel
theorem dX3_firstEmpty_12 : decode cX3_firstEmpty 12 = .ok (.iload_n 2, 1) := by decide +kernel
theorem dX3_firstEmpty_13 : decode cX3_firstEmpty 13 = .ok (.invokevirtual 29, 3) := by decide +kernel
theorem dX3_firstEmpty_16 : decode cX3_firstEmpty 16 = .ok (.iconst (-1), 1) := by decide +kernel
theorem dX3_firstEmpty_17 : decode cX3_firstEmpty 17 = .ok (.if_icmp .ne 5, 3) := by decide +kernel
theorem dX3_firstEmpty_20 : decode cX3_firstEmpty 20 = .ok (.iload_n 2, 1) := by decide +kernel
theorem dX3_firstEmpty_21 : decode cX3_firstEmpty 21 = .ok (.ireturn, 1) := by decide +kernel
theorem dX3_firstEmpty_22 : decode cX3_firstEmpty 22 = .ok (.iinc 2 1, 3) := by decide +kernel
theorem dX3_firstEmpty_25 : decode cX3_firstEmpty 25 = .ok (.goto (-23), 3) := by decide +kernel
theorem dX3_firstEmpty_28 : decode cX3_firstEmpty 28 = .ok (.iconst (-1), 1) := by decide +kernel
theorem dX3_firstEmpty_29 : decode cX3_firstEmpty 29 = .ok (.ireturn, 1) := by decide +kernel
theorem dX3_heldAhead_0 : decode cX3_heldAhead 0 = .ok (.iconst 0, 1) := by decide +kernel
theorem dX3_heldAhead_1 : decode cX3_heldAhead 1 = .ok (.istore_n 3, 1) := by decide +kernel
theorem dX3_heldAhead_2 : decode cX3_heldAhead 2 = .ok (.iconst 0, 1) := by decide +kernel
theorem dX3_heldAhead_3 : decode cX3_heldAhead 3 = .ok (.istore 4, 2) := by decide +kernel
theorem dX3_heldAhead_5 : decode cX3_heldAhead 5 = .ok (.iload 4, 2) := by decide +kernel
theorem dX3_heldAhead_7 : decode cX3_heldAhead 7 = .ok (.iload_n 2, 1) := by decide +kernel
theorem dX3_heldAhead_8 : decode cX3_heldAhead 8 = .ok (.if_icmp .ge 23, 3) := by decide +kernel
theorem dX3_heldAhead_11 : decode cX3_heldAhead 11 = .ok (.aload_n 0, 1) := by decide +kernel
theorem dX3_heldAhead_12 : decode cX3_heldAhead 12 = .ok (.iload_n 1, 1) := by decide +kernel
theorem dX3_heldAhead_13 : decode cX3_heldAhead 13 = .ok (.iload 4, 2) := by decide +kernel
theorem dX3_heldAhead_15 : decode cX3_heldAhead 15 = .ok (.invokevirtual 29, 3) := by decide +kernel
theorem dX3_heldAhead_18 : decode cX3_heldAhead 18 = .ok (.iconst (-1), 1) := by decide +kernel
theorem dX3_heldAhead_19 : decode cX3_heldAhead 19 = .ok (.if_icmp .eq 6, 3) := by decide +kernel
theorem dX3_heldAhead_22 : decode cX3_heldAhead 22 = .ok (.iinc 3 1, 3) := by decide +kernel
theorem dX3_heldAhead_25 : decode cX3_heldAhead 25 = .ok (.iinc 4 1, 3) := by decide +kernel
theorem dX3_heldAhead_28 : decode cX3_heldAhead 28 = .ok (.goto (-23), 3) := by decide +kernel
theorem dX3_heldAhead_31 : decode cX3_heldAhead 31 = .ok (.iload_n 3, 1) := by decide +kernel
theorem dX3_heldAhead_32 : decode cX3_heldAhead 32 = .ok (.ireturn, 1) := by decide +kernel
theorem dX3_holders_0 : decode cX3_holders 0 = .ok (.iconst 0, 1) := by decide +kernel
theorem dX3_holders_1 : decode cX3_holders 1 = .ok (.istore_n 2, 1) := by decide +kernel
theorem dX3_holders_2 : decode cX3_holders 2 = .ok (.iconst 0, 1) := by decide +kernel
theorem dX3_holders_3 : decode cX3_holders 3 = .ok (.istore_n 3, 1) := by decide +kernel
theorem dX3_holders_4 : decode cX3_holders 4 = .ok (.iload_n 3, 1) := by decide +kernel
theorem dX3_holders_5 : decode cX3_holders 5 = .ok (.aload_n 0, 1) := by decide +kernel
theorem dX3_holders_6 : decode cX3_holders 6 = .ok (.getfield 9, 3) := by decide +kernel
theorem dX3_holders_9 : decode cX3_holders 9 = .ok (.if_icmp .ge 37, 3) := by decide +kernel
theorem dX3_holders_12 : decode cX3_holders 12 = .ok (.aload_n 0, 1) := by decide +kernel
theorem dX3_holders_13 : decode cX3_holders 13 = .ok (.iload_n 1, 1) := by decide +kernel
theorem dX3_holders_14 : decode cX3_holders 14 = .ok (.iload_n 3, 1) := by decide +kernel
theorem dX3_holders_15 : decode cX3_holders 15 = .ok (.invokevirtual 29, 3) := by decide +kernel
theorem dX3_holders_18 : decode cX3_holders 18 = .ok (.istore 4, 2) := by decide +kernel
theorem dX3_holders_20 : decode cX3_holders 20 = .ok (.iload 4, 2) := by decide +kernel
theorem dX3_holders_22 : decode cX3_holders 22 = .ok (.iconst (-1), 1) := by decide +kernel
theorem dX3_holders_23 : decode cX3_holders 23 = .ok (.if_icmp .eq 17, 3) := by decide +kernel
theorem dX3_holders_26 : decode cX3_holders 26 = .ok (.iload 4, 2) := by decide +kernel
theorem dX3_holders_28 : decode cX3_holders 28 = .ok (.bipush 100, 2) := by decide +kernel
theorem dX3_holders_30 : decode cX3_holders 30 = .ok (.if_icmp .ge 10, 3) := by decide +kernel
theorem dX3_holders_33 : decode cX3_holders 33 = .ok (.iload_n 2, 1) := by decide +kernel
theorem dX3_holders_34 : decode cX3_holders 34 = .ok (.iconst 1, 1) := by decide +kernel
theorem dX3_holders_35 : decode cX3_holders 35 = .ok (.iload 4, 2) := by decide +kernel
theorem dX3_holders_37 : decode cX3_holders 37 = .ok (.ishl, 1) := by decide +kernel
theorem dX3_holders_38 : decode cX3_holders 38 = .ok (.ior, 1) := by decide +kernel
theorem dX3_holders_39 : decode cX3_holders 39 = .ok (.istore_n 2, 1) := by decide +kernel
theorem dX3_holders_40 : decode cX3_holders 40 = .ok (.iinc 3 1, 3) := by decide +kernel
theorem dX3_holders_43 : decode cX3_holders 43 = .ok (.goto (-39), 3) := by decide +kernel
theorem dX3_holders_46 : decode cX3_holders 46 = .ok (.iload_n 2, 1) := by decide +kernel
theorem dX3_holders_47 : decode cX3_holders 47 = .ok (.ireturn, 1) := by decide +kernel
theorem dX4_init_0 : decode cX4_init 0 = .ok (.aload_n 0, 1) := by decide +kernel
theorem dX4_init_1 : decode cX4_init 1 = .ok (.invokespecial 3, 3) := by decide +kernel
theorem dX4_init_4 : decode cX4_init 4 = .ok (.return_, 1) := by decide +kernel
theorem dX4_look_0 : decode cX4_look 0 = .ok (.aload_n 0, 1) := by decide +kernel
theorem dX4_look_1 : decode cX4_look 1 = .ok (.iconst 0, 1) := by decide +kernel
theorem dX4_look_2 : decode cX4_look 2 = .ok (.putfield 9, 3) := by decide +kernel
theorem dX4_look_5 : decode cX4_look 5 = .ok (.aload_n 0, 1) := by decide +kernel
theorem dX4_look_6 : decode cX4_look 6 = .ok (.iconst (-1), 1) := by decide +kernel
theorem dX4_look_7 : decode cX4_look 7 = .ok (.putfield 15, 3) := by decide +kernel
theorem dX4_look_10 : decode cX4_look 10 = .ok (.aload_n 0, 1) := by decide +kernel
theorem dX4_look_11 : decode cX4_look 11 = .ok (.iconst (-1), 1) := by decide +kernel
theorem dX4_look_12 : decode cX4_look 12 = .ok (.putfield 18, 3) := by decide +kernel
theorem dX4_look_15 : decode cX4_look 15 = .ok (.iconst 0, 1) := by decide +kernel
theorem dX4_look_16 : decode cX4_look 16 = .ok (.istore 5, 2) := by decide +kernel
theorem dX4_look_18 : decode cX4_look 18 = .ok (.iload 5, 2) := by decide +kernel
theorem dX4_look_20 : decode cX4_look 20 = .ok (.iload 4, 2) := by decide +kernel
theorem dX4_look_22 : decode cX4_look 22 = .ok (.if_icmp .ge 69, 3) := by decide +kernel
theorem dX4_look_25 : decode cX4_look 25 = .ok (.aload_n 1, 1) := by decide +kernel
theorem dX4_look_26 : decode cX4_look 26 = .ok (.getfield 21, 3) := by decide +kernel
theorem dX4_look_29 : decode cX4_look 29 = .ok (.iload 5, 2) := by decide +kernel
theorem dX4_look_31 : decode cX4_look 31 = .ok (.baload, 1) := by decide +kernel
theorem dX4_look_32 : decode cX4_look 32 = .ok (.istore 6, 2) := by decide +kernel
theorem dX4_look_34 : decode cX4_look 34 = .ok (.iload 6, 2) := by decide +kernel
theorem dX4_look_36 : decode cX4_look 36 = .ok (.iconst (-1), 1) := by decide +kernel
theorem dX4_look_37 : decode cX4_look 37 = .ok (.if_icmp .eq 48, 3) := by decide +kernel
theorem dX4_look_40 : decode cX4_look 40 = .ok (.iload 6, 2) := by decide +kernel
theorem dX4_look_42 : decode cX4_look 42 = .ok (.bipush 100, 2) := by decide +kernel
theorem dX4_look_44 : decode cX4_look 44 = .ok (.if_icmp .ge 41, 3) := by decide +kernel
theorem dX4_look_47 : decode cX4_look 47 = .ok (.aload_n 0, 1) := by decide +kernel
theorem dX4_look_48 : decode cX4_look 48 = .ok (.dup, 1) := by decide +kernel
theorem dX4_look_49 : decode cX4_look 49 = .ok (.getfield 9, 3) := by decide +kernel
theorem dX4_look_52 : decode cX4_look 52 = .ok (.iconst 1, 1) := by decide +kernel
theorem dX4_look_53 : decode cX4_look 53 = .ok (.iload 6, 2) := by decide +kernel
theorem dX4_look_55 : decode cX4_look 55 = .ok (.ishl, 1) := by decide +kernel
theorem dX4_look_56 : decode cX4_look 56 = .ok (.ior, 1) := by decide +kernel
theorem dX4_look_57 : decode cX4_look 57 = .ok (.putfield 9, 3) := by decide +kernel
theorem dX4_look_60 : decode cX4_look 60 = .ok (.aload_n 0, 1) := by decide +kernel
theorem dX4_look_61 : decode cX4_look 61 = .ok (.iload 5, 2) := by decide +kernel
theorem dX4_look_63 : decode cX4_look 63 = .ok (.putfield 15, 3) := by decide +kernel
theorem dX4_look_66 : decode cX4_look 66 = .ok (.aload_n 0, 1) := by decide +kernel
theorem dX4_look_67 : decode cX4_look 67 = .ok (.iload 6, 2) := by decide +kernel
theorem dX4_look_69 : decode cX4_look 69 = .ok (.iload_n 3, 1) := by decide +kernel
theorem dX4_look_70 : decode cX4_look 70 = .ok (.if_icmp .ne 8, 3) := by decide +kernel
theorem dX4_look_73 : decode cX4_look 73 = .ok (.iload 5, 2) := by decide +kernel
theorem dX4_look_75 : decode cX4_look 75 = .ok (.goto 7, 3) := by decide +kernel
theorem dX4_look_78 : decode cX4_look 78 = .ok (.aload_n 0, 1) := by decide +kernel
theorem dX4_look_79 : decode cX4_look 79 = .ok (.getfield 18, 3) := by decide +kernel
theorem dX4_look_82 : decode cX4_look 82 = .ok (.putfield 18, 3) := by decide +kernel
theorem dX4_look_85 : decode cX4_look 85 = .ok (.iinc 5 1, 3) := by decide +kernel
theorem dX4_look_88 : decode cX4_look 88 = .ok (.goto (-70), 3) := by decide +kernel
theorem dX4_look_91 : decode cX4_look 91 = .ok (.aload_n 0, 1) := by decide +kernel
theorem dX4_look_92 : decode cX4_look 92 = .ok (.aload_n 1, 1) := by decide +kernel
theorem dX4_look_93 : decode cX4_look 93 = .ok (.getfield 27, 3) := by decide +kernel
theorem dX4_look_96 : decode cX4_look 96 = .ok (.aload_n 2, 1) := by decide +kernel
theorem dX4_look_97 : decode cX4_look 97 = .ok (.iload 4, 2) := by decide +kernel
theorem dX4_look_99 : decode cX4_look 99 = .ok (.invokevirtual 30, 3) := by decide +kernel
theorem dX4_look_102 : decode cX4_look 102 = .ok (.iand, 1) := by decide +kernel
theorem dX4_look_103 : decode cX4_look 103 = .ok (.ifCond .eq 7, 3) := by decide +kernel
theorem dX4_look_106 : decode cX4_look 106 = .ok (.iconst 1, 1) := by decide +kernel
theorem dX4_look_107 : decode cX4_look 107 = .ok (.goto 4, 3) := by decide +kernel
theorem dX4_look_110 : decode cX4_look 110 = .ok (.iconst 0, 1) := by decide +kernel
theorem dX4_look_111 : decode cX4_look 111 = .ok (.putfield 36, 3) := by decide +kernel
theorem dX4_look_114 : decode cX4_look 114 = .ok (.return_, 1) := by decide +kernel
theorem dX5_init_0 : decode cX5_init 0 = .ok (.aload_n 0, 1) := by decide +kernel
theorem dX5_init_1 : decode cX5_init 1 = .ok (.invokespecial 3, 3) := by decide +kernel
theorem dX5_init_4 : decode cX5_init 4 = .ok (.aload_n 0, 1) := by decide +kernel
theorem dX5_init_5 : decode cX5_init 5 = .ok (.sipush 200, 3) := by decide +kernel
theorem dX5_init_8 : decode cX5_init 8 = .ok (.newarray .byte, 2) := by decide +kernel
theorem dX5_init_10 : decode cX5_init 10 = .ok (.putfield 9, 3) := by decide +kernel
theorem dX5_init_13 : decode cX5_init 13 = .ok (.aload_n 0, 1) := by decide +kernel
theorem dX5_init_14 : decode cX5_init 14 = .ok (.sipush 200, 3) := by decide +kernel
theorem dX5_init_17 : decode cX5_init 17 = .ok (.putfield 15, 3) := by decide +kernel
theorem dX5_init_20 : decode cX5_init 20 = .ok (.aload_n 0, 1) := by decide +kernel
theorem dX5_init_21 : decode cX5_init 21 = .ok (.iconst 0, 1) := by decide +kernel
theorem dX5_init_22 : decode cX5_init 22 = .ok (.putfield 19, 3) := by decide +kernel
theorem dX5_init_25 : decode cX5_init 25 = .ok (.aload_n 0, 1) := by decide +kernel
theorem dX5_init_26 : decode cX5_init 26 = .ok (.iconst (-1), 1) := by decide +kernel
theorem dX5_init_27 : decode cX5_init 27 = .ok (.putfield 22, 3) := by decide +kernel
theorem dX5_init_30 : decode cX5_init 30 = .ok (.aload_n 0, 1) := by decide +kernel
theorem dX5_init_31 : decode cX5_init 31 = .ok (.iconst 0, 1) := by decide +kernel
theorem dX5_init_32 : decode cX5_init 32 = .ok (.putfield 25, 3) := by decide +kernel
theorem dX5_init_35 : decode cX5_init 35 = .ok (.aload_n 0, 1) := by decide +kernel
theorem dX5_init_36 : decode cX5_init 36 = .ok (.iload_n 1, 1) := by decide +kernel
theorem dX5_init_37 : decode cX5_init 37 = .ok (.putfield 28, 3) := by decide +kernel
theorem dX5_init_40 : decode cX5_init 40 = .ok (.aload_n 0, 1) := by decide +kernel
theorem dX5_init_41 : decode cX5_init 41 = .ok (.iload_n 2, 1) := by decide +kernel
theorem dX5_init_42 : decode cX5_init 42 = .ok (.putfield 31, 3) := by decide +kernel
theorem dX5_init_45 : decode cX5_init 45 = .ok (.aload_n 0, 1) := by decide +kernel
theorem dX5_init_46 : decode cX5_init 46 = .ok (.iload_n 3, 1) := by decide +kernel
theorem dX5_init_47 : decode cX5_init 47 = .ok (.putfield 34, 3) := by decide +kernel
theorem dX5_init_50 : decode cX5_init 50 = .ok (.aload_n 0, 1) := by decide +kernel
theorem dX5_init_51 : decode cX5_init 51 = .ok (.iload 4, 2) := by decide +kernel
theorem dX5_init_53 : decode cX5_init 53 = .ok (.putfield 37, 3) := by decide +kernel
theorem dX5_init_56 : decode cX5_init 56 = .ok (.aload_n 0, 1) := by decide +kernel
theorem dX5_init_57 : decode cX5_init 57 = .ok (.getfield 9, 3) := by decide +kernel
theorem dX5_init_60 : decode cX5_init 60 = .ok (.iconst (-1), 1) := by decide +kernel
theorem dX5_init_61 : decode cX5_init 61 = .ok (.invokestatic 40, 3) := by decide +kernel
theorem dX5_init_64 : decode cX5_init 64 = .ok (.return_, 1) := by decide +kernel
theorem dX5_hasExile_0 : decode cX5_hasExile 0 = .ok (.aload_n 0, 1) := by decide +kernel
theorem dX5_hasExile_1 : decode cX5_hasExile 1 = .ok (.getfield 19, 3) := by decide +kernel
theorem dX5_hasExile_4 : decode cX5_hasExile 4 = .ok (.aload_n 0, 1) := by decide +kernel
theorem dX5_hasExile_5 : decode cX5_hasExile 5 = .ok (.getfield 22, 3) := by decide +kernel
theorem dX5_hasExile_8 : decode cX5_hasExile 8 = .ok (.if_icmp .gt 7, 3) := by decide +kernel
theorem dX5_hasExile_11 : decode cX5_hasExile 11 = .ok (.iconst 1, 1) := by decide +kernel
theorem dX5_hasExile_12 : decode cX5_hasExile 12 = .ok (.goto 4, 3) := by decide +kernel
theorem dX5_hasExile_15 : decode cX5_hasExile 15 = .ok (.iconst 0, 1) := by decide +kernel
theorem dX5_hasExile_16 : decode cX5_hasExile 16 = .ok (.ireturn, 1) := by decide +kernel
theorem dX5_setExile_0 : decode cX5_setExile 0 = .ok (.iload_n 1, 1) := by decide +kernel
theorem dX5_setExile_1 : decode cX5_setExile 1 = .ok (.iload_n 2, 1) := by decide +kernel
theorem dX5_setExile_2 : decode cX5_setExile 2 = .ok (.if_icmp .gt 7, 3) := by decide +kernel
theorem dX5_setExile_5 : decode cX5_setExile 5 = .ok (.iconst 1, 1) := by decide +kernel
theorem dX5_setExile_6 : decode cX5_setExile 6 = .ok (.goto 4, 3) := by decide +kernel
theorem dX5_setExile_9 : decode cX5_setExile 9 = .ok (.iconst 0, 1) := by decide +kernel
theorem dX5_setExile_10 : decode cX5_setExile 10 = .ok (.istore_n 3, 1) := by decide +kernel
theorem dX5_setExile_11 : decode cX5_setExile 11 = .ok (.aload_n 0, 1) := by decide +kernel
theorem dX5_setExile_12 : decode cX5_setExile 12 = .ok (.iload_n 3, 1) := by decide +kernel
theorem dX5_setExile_13 : decode cX5_setExile 13 = .ok (.ifCond .eq 7, 3) := by decide +kernel
theorem dX5_setExile_16 : decode cX5_setExile 16 = .ok (.iload_n 1, 1) := by decide +kernel
theorem dX5_setExile_17 : decode cX5_setExile 17 = .ok (.goto 4, 3) := by decide +kernel
theorem dX5_setExile_20 : decode cX5_setExile 20 = .ok (.iconst 0, 1) := by decide +kernel
theorem dX5_setExile_21 : decode cX5_setExile 21 = .ok (.putfield 19, 3) := by decide +kernel
theorem dX5_setExile_24 : decode cX5_setExile 24 = .ok (.aload_n 0, 1) := by decide +kernel
theorem dX5_setExile_25 : decode cX5_setExile 25 = .ok (.iload_n 3, 1) := by decide +kernel
theorem dX5_setExile_26 : decode cX5_setExile 26 = .ok (.ifCond .eq 7, 3) := by decide +kernel
theorem dX5_setExile_29 : decode cX5_setExile 29 = .ok (.iload_n 2, 1) := by decide +kernel
theorem dX5_setExile_30 : decode cX5_setExile 30 = .ok (.goto 4, 3) := by decide +kernel
theorem dX5_setExile_33 : decode cX5_setExile 33 = .ok (.iconst (-1), 1) := by decide +kernel
theorem dX5_setExile_34 : decode cX5_setExile 34 = .ok (.putfield 22, 3) := by decide +kernel
theorem dX5_setExile_37 : decode cX5_setExile 37 = .ok (.return_, 1) := by decide +kernel
theorem dX5_yearsHeld_0 : decode cX5_yearsHeld 0 = .ok (.iconst 0, 1) := by decide +kernel
theorem dX5_yearsHeld_1 : decode cX5_yearsHeld 1 = .ok (.istore_n 3, 1) := by decide +kernel
theorem dX5_yearsHeld_2 : decode cX5_yearsHeld 2 = .ok (.iconst 0, 1) := by decide +kernel
theorem dX5_yearsHeld_3 : decode cX5_yearsHeld 3 = .ok (.istore 4, 2) := by decide +kernel
theorem dX5_yearsHeld_5 : decode cX5_yearsHeld 5 = .ok (.iload 4, 2) := by decide +kernel
theorem dX5_yearsHeld_7 : decode cX5_yearsHeld 7 = .ok (.iload_n 2, 1) := by decide +kernel
theorem dX5_yearsHeld_8 : decode cX5_yearsHeld 8 = .ok (.if_icmp .ge 48, 3) := by decide +kernel
theorem dX5_yearsHeld_11 : decode cX5_yearsHeld 11 = .ok (.aload_n 0, 1) := by decide +kernel
theorem dX5_yearsHeld_12 : decode cX5_yearsHeld 12 = .ok (.getfield 9, 3) := by decide +kernel
theorem dX5_yearsHeld_15 : decode cX5_yearsHeld 15 = .ok (.iload 4, 2) := by decide +kernel
theorem dX5_yearsHeld_17 : decode cX5_yearsHeld 17 = .ok (.baload, 1) := by decide +kernel
theorem dX5_yearsHeld_18 : decode cX5_yearsHeld 18 = .ok (.istore 5, 2) := by decide +kernel
theorem dX5_yearsHeld_20 : decode cX5_yearsHeld 20 = .ok (.iload 5, 2) := by decide +kernel
theorem dX5_yearsHeld_22 : decode cX5_yearsHeld 22 = .ok (.iconst (-1), 1) := by decide +kernel
theorem dX5_yearsHeld_23 : decode cX5_yearsHeld 23 = .ok (.if_icmp .eq 27, 3) := by decide +kernel
theorem dX5_yearsHeld_26 : decode cX5_yearsHeld 26 = .ok (.iload_n 1, 1) := by decide +kernel
theorem dX5_yearsHeld_27 : decode cX5_yearsHeld 27 = .ok (.iconst (-1), 1) := by decide +kernel
theorem dX5_yearsHeld_28 : decode cX5_yearsHeld 28 = .ok (.if_icmp .ne 13, 3) := by decide +kernel
theorem dX5_yearsHeld_31 : decode cX5_yearsHeld 31 = .ok (.iload 5, 2) := by decide +kernel
theorem dX5_yearsHeld_33 : decode cX5_yearsHeld 33 = .ok (.bipush 100, 2) := by decide +kernel
theorem dX5_yearsHeld_35 : decode cX5_yearsHeld 35 = .ok (.if_icmp .ge 15, 3) := by decide +kernel
theorem dX5_yearsHeld_38 : decode cX5_yearsHeld 38 = .ok (.goto 9, 3) := by decide +kernel
theorem dX5_yearsHeld_41 : decode cX5_yearsHeld 41 = .ok (.iload 5, 2) := by decide +kernel
theorem dX5_yearsHeld_43 : decode cX5_yearsHeld 43 = .ok (.iload_n 1, 1) := by decide +kernel
theorem dX5_yearsHeld_44 : decode cX5_yearsHeld 44 = .ok (.if_icmp .ne 6, 3) := by decide +kernel
theorem dX5_yearsHeld_47 : decode cX5_yearsHeld 47 = .ok (.iinc 3 1, 3) := by decide +kernel
theorem dX5_yearsHeld_50 : decode cX5_yearsHeld 50 = .ok (.iinc 4 1, 3) := by decide +kernel
theorem dX5_yearsHeld_53 : decode cX5_yearsHeld 53 = .ok (.goto (-48), 3) := by decide +kernel
theorem dX5_yearsHeld_56 : decode cX5_yearsHeld 56 = .ok (.iload_n 3, 1) := by decide +kernel
theorem dX5_yearsHeld_57 : decode cX5_yearsHeld 57 = .ok (.ireturn, 1) := by decide +kernel
theorem dX6_init_0 : decode cX6_init 0 = .ok (.aload_n 0, 1) := by decide +kernel
theorem dX6_init_1 : decode cX6_init 1 = .ok (.invokespecial 3, 3) := by decide +kernel
theorem dX6_init_4 : decode cX6_init 4 = .ok (.aload_n 0, 1) := by decide +kernel
theorem dX6_init_5 : decode cX6_init 5 = .ok (.bipush 8, 2) := by decide +kernel
theorem dX6_init_7 : decode cX6_init 7 = .ok (.anewarray 9, 3) := by decide +kernel
theorem dX6_init_10 : decode cX6_init 10 = .ok (.putfield 11, 3) := by decide +kernel
theorem dX6_init_13 : decode cX6_init 13 = .ok (.aload_n 0, 1) := by decide +kernel
theorem dX6_init_14 : decode cX6_init 14 = .ok (.bipush 24, 2) := by decide +kernel
theorem dX6_init_16 : decode cX6_init 16 = .ok (.anewarray 17, 3) := by decide +kernel
theorem dX6_init_19 : decode cX6_init 19 = .ok (.putfield 19, 3) := by decide +kernel
theorem dX6_init_22 : decode cX6_init 22 = .ok (.aload_n 0, 1) := by decide +kernel
theorem dX6_init_23 : decode cX6_init 23 = .ok (.bipush 20, 2) := by decide +kernel
theorem dX6_init_25 : decode cX6_init 25 = .ok (.anewarray 23, 3) := by decide +kernel
theorem dX6_init_28 : decode cX6_init 28 = .ok (.putfield 25, 3) := by decide +kernel
theorem dX6_init_31 : decode cX6_init 31 = .ok (.aload_n 0, 1) := by decide +kernel
theorem dX6_init_32 : decode cX6_init 32 = .ok (.iconst 0, 1) := by decide +kernel
theorem dX6_init_33 : decode cX6_init 33 = .ok (.putfield 29, 3) := by decide +kernel
theorem dX6_init_36 : decode cX6_init 36 = .ok (.aload_n 0, 1) := by decide +kernel
theorem dX6_init_37 : decode cX6_init 37 = .ok (.iconst 0, 1) := by decide +kernel
theorem dX6_init_38 : decode cX6_init 38 = .ok (.putfield 33, 3) := by decide +kernel
theorem dX6_init_41 : decode cX6_init 41 = .ok (.aload_n 0, 1) := by decide +kernel
theorem dX6_init_42 : decode cX6_init 42 = .ok (.iconst 0, 1) := by decide +kernel
theorem dX6_init_43 : decode cX6_init 43 = .ok (.putfield 36, 3) := by decide +kernel
theorem dX6_init_46 : decode cX6_init 46 = .ok (.aload_n 0, 1) := by decide +kernel
theorem dX6_init_47 : decode cX6_init 47 = .ok (.iconst 0, 1) := by decide +kernel
theorem dX6_init_48 : decode cX6_init 48 = .ok (.putfield 39, 3) := by decide +kernel
theorem dX6_init_51 : decode cX6_init 51 = .ok (.aload_n 0, 1) := by decide +kernel
theorem dX6_init_52 : decode cX6_init 52 = .ok (.iconst 0, 1) := by decide +kernel
theorem dX6_init_53 : decode cX6_init 53 = .ok (.putfield 42, 3) := by decide +kernel
theorem dX6_init_56 : decode cX6_init 56 = .ok (.aload_n 0, 1) := by decide +kernel
theorem dX6_init_57 : decode cX6_init 57 = .ok (.new 45, 3) := by decide +kernel
theorem dX6_init_60 : decode cX6_init 60 = .ok (.dup, 1) := by decide +kernel
theorem dX6_init_61 : decode cX6_init 61 = .ok (.invokespecial 47, 3) := by decide +kernel
theorem dX6_init_64 : decode cX6_init 64 = .ok (.putfield 48, 3) := by decide +kernel
theorem dX6_init_67 : decode cX6_init 67 = .ok (.return_, 1) := by decide +kernel
theorem dX6_hasOffice_0 : decode cX6_hasOffice 0 = .ok (.iload_n 1, 1) := by decide +kernel
theorem dX6_hasOffice_1 : decode cX6_hasOffice 1 = .ok (.ifCond .lt 15, 3) := by decide +kernel
theorem dX6_hasOffice_4 : decode cX6_hasOffice 4 = .ok (.iload_n 1, 1) := by decide +kernel
theorem dX6_hasOffice_5 : decode cX6_hasOffice 5 = .ok (.aload_n 0, 1) := by decide +kernel
theorem dX6_hasOffice_6 : decode cX6_hasOffice 6 = .ok (.getfield 29, 3) := by decide +kernel
theorem dX6_hasOffice_9 : decode cX6_hasOffice 9 = .ok (.if_icmp .ge 7, 3) := by decide +kernel
theorem dX6_hasOffice_12 : decode cX6_hasOffice 12 = .ok (.iconst 1, 1) := by decide +kernel
theorem dX6_hasOffice_13 : decode cX6_hasOffice 13 = .ok (.goto 4, 3) := by decide +kernel
theorem dX6_hasOffice_16 : decode cX6_hasOffice 16 = .ok (.iconst 0, 1) := by decide +kernel
theorem dX6_hasOffice_17 : decode cX6_hasOffice 17 = .ok (.ireturn, 1) := by decide +kernel
theorem dX6_hasPerson_0 : decode cX6_hasPerson 0 = .ok (.iload_n 1, 1) := by decide +kernel
theorem dX6_hasPerson_1 : decode cX6_hasPerson 1 = .ok (.ifCond .lt 15, 3) := by decide +kernel
theorem dX6_hasPerson_4 : decode cX6_hasPerson 4 = .ok (.iload_n 1, 1) := by decide +kernel
theorem dX6_hasPerson_5 : decode cX6_hasPerson 5 = .ok (.aload_n 0, 1) := by decide +kernel
theorem dX6_hasPerson_6 : decode cX6_hasPerson 6 = .ok (.getfield 33, 3) := by decide +kernel
theorem dX6_hasPerson_9 : decode cX6_hasPerson 9 = .ok (.if_icmp .ge 7, 3) := by decide +kernel
theorem dX6_hasPerson_12 : decode cX6_hasPerson 12 = .ok (.iconst 1, 1) := by decide +kernel
theorem dX6_hasPerson_13 : decode cX6_hasPerson 13 = .ok (.goto 4, 3) := by decide +kernel
theorem dX6_hasPerson_16 : decode cX6_hasPerson 16 = .ok (.iconst 0, 1) := by decide +kernel
theorem dX6_hasPerson_17 : decode cX6_hasPerson 17 = .ok (.ireturn, 1) := by decide +kernel
theorem dX6_hasLaw_0 : decode cX6_hasLaw 0 = .ok (.iload_n 1, 1) := by decide +kernel
theorem dX6_hasLaw_1 : decode cX6_hasLaw 1 = .ok (.ifCond .lt 15, 3) := by decide +kernel
theorem dX6_hasLaw_4 : decode cX6_hasLaw 4 = .ok (.iload_n 1, 1) := by decide +kernel
theorem dX6_hasLaw_5 : decode cX6_hasLaw 5 = .ok (.aload_n 0, 1) := by decide +kernel
theorem dX6_hasLaw_6 : decode cX6_hasLaw 6 = .ok (.getfield 36, 3) := by decide +kernel
theorem dX6_hasLaw_9 : decode cX6_hasLaw 9 = .ok (.if_icmp .ge 7, 3) := by decide +kernel
theorem dX6_hasLaw_12 : decode cX6_hasLaw 12 = .ok (.iconst 1, 1) := by decide +kernel
theorem dX6_hasLaw_13 : decode cX6_hasLaw 13 = .ok (.goto 4, 3) := by decide +kernel
theorem dX6_hasLaw_16 : decode cX6_hasLaw 16 = .ok (.iconst 0, 1) := by decide +kernel
theorem dX6_hasLaw_17 : decode cX6_hasLaw 17 = .ok (.ireturn, 1) := by decide +kernel
theorem dX6_hasSeat_0 : decode cX6_hasSeat 0 = .ok (.aload_n 0, 1) := by decide +kernel
theorem dX6_hasSeat_1 : decode cX6_hasSeat 1 = .ok (.iload_n 1, 1) := by decide +kernel
theorem dX6_hasSeat_2 : decode cX6_hasSeat 2 = .ok (.invokevirtual 52, 3) := by decide +kernel
theorem dX6_hasSeat_5 : decode cX6_hasSeat 5 = .ok (.ifCond .eq 31, 3) := by decide +kernel
theorem dX6_hasSeat_8 : decode cX6_hasSeat 8 = .ok (.iload_n 2, 1) := by decide +kernel
theorem dX6_hasSeat_9 : decode cX6_hasSeat 9 = .ok (.invokestatic 56, 3) := by decide +kernel
theorem dX6_hasSeat_12 : decode cX6_hasSeat 12 = .ok (.ifCond .eq 24, 3) := by decide +kernel
theorem dX6_hasSeat_15 : decode cX6_hasSeat 15 = .ok (.iload_n 3, 1) := by decide +kernel
theorem dX6_hasSeat_16 : decode cX6_hasSeat 16 = .ok (.ifCond .lt 20, 3) := by decide +kernel
theorem dX6_hasSeat_19 : decode cX6_hasSeat 19 = .ok (.iload_n 3, 1) := by decide +kernel
theorem dX6_hasSeat_20 : decode cX6_hasSeat 20 = .ok (.aload_n 0, 1) := by decide +kernel
theorem dX6_hasSeat_21 : decode cX6_hasSeat 21 = .ok (.getfield 11, 3) := by decide +kernel
theorem dX6_hasSeat_24 : decode cX6_hasSeat 24 = .ok (.iload_n 1, 1) := by decide +kernel
theorem dX6_hasSeat_25 : decode cX6_hasSeat 25 = .ok (.aaload, 1) := by decide +kernel
theorem dX6_hasSeat_26 : decode cX6_hasSeat 26 = .ok (.getfield 59, 3) := by decide +kernel
theorem dX6_hasSeat_29 : decode cX6_hasSeat 29 = .ok (.if_icmp .ge 7, 3) := by decide +kernel
theorem dX6_hasSeat_32 : decode cX6_hasSeat 32 = .ok (.iconst 1, 1) := by decide +kernel
theorem dX6_hasSeat_33 : decode cX6_hasSeat 33 = .ok (.goto 4, 3) := by decide +kernel
theorem dX6_hasSeat_36 : decode cX6_hasSeat 36 = .ok (.iconst 0, 1) := by decide +kernel
theorem dX6_hasSeat_37 : decode cX6_hasSeat 37 = .ok (.ireturn, 1) := by decide +kernel
theorem dX6_isNumberOf_0 : decode cX6_isNumberOf 0 = .ok (.iload_n 1, 1) := by decide +kernel
theorem dX6_isNumberOf_1 : decode cX6_isNumberOf 1 = .ok (.tableswitch 79 0 4 #[35, 51, 57, 57, 74], 35) := by decide +kernel
theorem dX6_isNumberOf_36 : decode cX6_isNumberOf 36 = .ok (.iload_n 2, 1) := by decide +kernel
theorem dX6_isNumberOf_37 : decode cX6_isNumberOf 37 = .ok (.ifCond .lt 13, 3) := by decide +kernel
theorem dX6_isNumberOf_40 : decode cX6_isNumberOf 40 = .ok (.iload_n 2, 1) := by decide +kernel
theorem dX6_isNumberOf_41 : decode cX6_isNumberOf 41 = .ok (.bipush 99, 2) := by decide +kernel
theorem dX6_isNumberOf_43 : decode cX6_isNumberOf 43 = .ok (.if_icmp .gt 7, 3) := by decide +kernel
theorem dX6_isNumberOf_46 : decode cX6_isNumberOf 46 = .ok (.iconst 1, 1) := by decide +kernel
theorem dX6_isNumberOf_47 : decode cX6_isNumberOf 47 = .ok (.goto 4, 3) := by decide +kernel
theorem dX6_isNumberOf_50 : decode cX6_isNumberOf 50 = .ok (.iconst 0, 1) := by decide +kernel
theorem dX6_isNumberOf_51 : decode cX6_isNumberOf 51 = .ok (.ireturn, 1) := by decide +kernel
theorem dX6_isNumberOf_52 : decode cX6_isNumberOf 52 = .ok (.aload_n 0, 1) := by decide +kernel
theorem dX6_isNumberOf_53 : decode cX6_isNumberOf 53 = .ok (.iload_n 2, 1) := by decide +kernel
theorem dX6_isNumberOf_54 : decode cX6_isNumberOf 54 = .ok (.invokevirtual 52, 3) := by decide +kernel
theorem dX6_isNumberOf_57 : decode cX6_isNumberOf 57 = .ok (.ireturn, 1) := by decide +kernel
theorem dX6_isNumberOf_58 : decode cX6_isNumberOf 58 = .ok (.iload_n 2, 1) := by decide +kernel
theorem dX6_isNumberOf_59 : decode cX6_isNumberOf 59 = .ok (.iconst 1, 1) := by decide +kernel
theorem dX6_isNumberOf_60 : decode cX6_isNumberOf 60 = .ok (.if_icmp .lt 13, 3) := by decide +kernel
theorem dX6_isNumberOf_63 : decode cX6_isNumberOf 63 = .ok (.iload_n 2, 1) := by decide +kernel
theorem dX6_isNumberOf_64 : decode cX6_isNumberOf 64 = .ok (.bipush 99, 2) := by decide +kernel
theorem dX6_isNumberOf_66 : decode cX6_isNumberOf 66 = .ok (.if_icmp .gt 7, 3) := by decide +kernel
theorem dX6_isNumberOf_69 : decode cX6_isNumberOf 69 = .ok (.iconst 1, 1) := by decide +kernel
theorem dX6_isNumberOf_70 : decode cX6_isNumberOf 70 = .ok (.goto 4, 3) := by decide +kernel
theorem dX6_isNumberOf_73 : decode cX6_isNumberOf 73 = .ok (.iconst 0, 1) := by decide +kernel
theorem dX6_isNumberOf_74 : decode cX6_isNumberOf 74 = .ok (.ireturn, 1) := by decide +kernel
theorem dX6_isNumberOf_75 : decode cX6_isNumberOf 75 = .ok (.iload_n 2, 1) := by decide +kernel
theorem dX6_isNumberOf_76 : decode cX6_isNumberOf 76 = .ok (.invokestatic 62, 3) := by decide +kernel
theorem dX6_isNumberOf_79 : decode cX6_isNumberOf 79 = .ok (.ireturn, 1) := by decide +kernel
theorem dX6_isNumberOf_80 : decode cX6_isNumberOf 80 = .ok (.iconst 1, 1) := by decide +kernel
theorem dX6_isNumberOf_81 : decode cX6_isNumberOf 81 = .ok (.ireturn, 1) := by decide +kernel
theorem dX6_addOffice_0 : decode cX6_addOffice 0 = .ok (.aload_n 0, 1) := by decide +kernel
theorem dX6_addOffice_1 : decode cX6_addOffice 1 = .ok (.getfield 11, 3) := by decide +kernel
theorem dX6_addOffice_4 : decode cX6_addOffice 4 = .ok (.aload_n 0, 1) := by decide +kernel
theorem dX6_addOffice_5 : decode cX6_addOffice 5 = .ok (.getfield 29, 3) := by decide +kernel
theorem dX6_addOffice_8 : decode cX6_addOffice 8 = .ok (.aload_n 1, 1) := by decide +kernel
theorem dX6_addOffice_9 : decode cX6_addOffice 9 = .ok (.aastore, 1) := by decide +kernel
theorem dX6_addOffice_10 : decode cX6_addOffice 10 = .ok (.aload_n 0, 1) := by decide +kernel
theorem dX6_addOffice_11 : decode cX6_addOffice 11 = .ok (.dup, 1) := by decide +kernel
theorem dX6_addOffice_12 : decode cX6_addOffice 12 = .ok (.getfield 29, 3) := by decide +kernel
theorem dX6_addOffice_15 : decode cX6_addOffice 15 = .ok (.iconst 1, 1) := by decide +kernel
theorem dX6_addOffice_16 : decode cX6_addOffice 16 = .ok (.iadd, 1) := by decide +kernel
theorem dX6_addOffice_17 : decode cX6_addOffice 17 = .ok (.putfield 29, 3) := by decide +kernel
theorem dX6_addOffice_20 : decode cX6_addOffice 20 = .ok (.aload_n 0, 1) := by decide +kernel
theorem dX6_addOffice_21 : decode cX6_addOffice 21 = .ok (.getfield 29, 3) := by decide +kernel
theorem dX6_addOffice_24 : decode cX6_addOffice 24 = .ok (.iconst 1, 1) := by decide +kernel
theorem dX6_addOffice_25 : decode cX6_addOffice 25 = .ok (.isub, 1) := by decide +kernel
theorem dX6_addOffice_26 : decode cX6_addOffice 26 = .ok (.ireturn, 1) := by decide +kernel
theorem dX6_addLaw_0 : decode cX6_addLaw 0 = .ok (.aload_n 0, 1) := by decide +kernel
theorem dX6_addLaw_1 : decode cX6_addLaw 1 = .ok (.getfield 25, 3) := by decide +kernel
theorem dX6_addLaw_4 : decode cX6_addLaw 4 = .ok (.aload_n 0, 1) := by decide +kernel
theorem dX6_addLaw_5 : decode cX6_addLaw 5 = .ok (.getfield 36, 3) := by decide +kernel
theorem dX6_addLaw_8 : decode cX6_addLaw 8 = .ok (.aload_n 1, 1) := by decide +kernel
theorem dX6_addLaw_9 : decode cX6_addLaw 9 = .ok (.aastore, 1) := by decide +kernel
theorem dX6_addLaw_10 : decode cX6_addLaw 10 = .ok (.aload_n 0, 1) := by decide +kernel
theorem dX6_addLaw_11 : decode cX6_addLaw 11 = .ok (.dup, 1) := by decide +kernel
theorem dX6_addLaw_12 : decode cX6_addLaw 12 = .ok (.getfield 36, 3) := by decide +kernel
theorem dX6_addLaw_15 : decode cX6_addLaw 15 = .ok (.iconst 1, 1) := by decide +kernel
theorem dX6_addLaw_16 : decode cX6_addLaw 16 = .ok (.iadd, 1) := by decide +kernel
theorem dX6_addLaw_17 : decode cX6_addLaw 17 = .ok (.putfield 36, 3) := by decide +kernel
theorem dX6_addLaw_20 : decode cX6_addLaw 20 = .ok (.aload_n 0, 1) := by decide +kernel
theorem dX6_addLaw_21 : decode cX6_addLaw 21 = .ok (.getfield 36, 3) := by decide +kernel
theorem dX6_addLaw_24 : decode cX6_addLaw 24 = .ok (.iconst 1, 1) := by decide +kernel
theorem dX6_addLaw_25 : decode cX6_addLaw 25 = .ok (.isub, 1) := by decide +kernel
theorem dX6_addLaw_26 : decode cX6_addLaw 26 = .ok (.ireturn, 1) := by decide +kernel
theorem dX6_addPerson_0 : decode cX6_addPerson 0 = .ok (.aload_n 0, 1) := by decide +kernel
theorem dX6_addPerson_1 : decode cX6_addPerson 1 = .ok (.getfield 33, 3) := by decide +kernel
theorem dX6_addPerson_4 : decode cX6_addPerson 4 = .ok (.istore_n 2, 1) := by decide +kernel
theorem dX6_addPerson_5 : decode cX6_addPerson 5 = .ok (.aload_n 0, 1) := by decide +kernel
theorem dX6_addPerson_6 : decode cX6_addPerson 6 = .ok (.getfield 19, 3) := by decide +kernel
theorem dX6_addPerson_9 : decode cX6_addPerson 9 = .ok (.iload_n 2, 1) := by decide +kernel
theorem dX6_addPerson_10 : decode cX6_addPerson 10 = .ok (.aload_n 1, 1) := by decide +kernel
theorem dX6_addPerson_11 : decode cX6_addPerson 11 = .ok (.aastore, 1) := by decide +kernel
theorem dX6_addPerson_12 : decode cX6_addPerson 12 = .ok (.aload_n 0, 1) := by decide +kernel
theorem dX6_addPerson_13 : decode cX6_addPerson 13 = .ok (.dup, 1) := by decide +kernel
theorem dX6_addPerson_14 : decode cX6_addPerson 14 = .ok (.getfield 33, 3) := by decide +kernel
theorem dX6_addPerson_17 : decode cX6_addPerson 17 = .ok (.iconst 1, 1) := by decide +kernel
theorem dX6_addPerson_18 : decode cX6_addPerson 18 = .ok (.iadd, 1) := by decide +kernel
theorem dX6_addPerson_19 : decode cX6_addPerson 19 = .ok (.putfield 33, 3) := by decide +kernel
theorem dX6_addPerson_22 : decode cX6_addPerson 22 = .ok (.aload_n 1, 1) := by decide +kernel
theorem dX6_addPerson_23 : decode cX6_addPerson 23 = .ok (.getfield 65, 3) := by decide +kernel
theorem dX6_addPerson_26 : decode cX6_addPerson 26 = .ok (.iconst (-1), 1) := by decide +kernel
theorem dX6_addPerson_27 : decode cX6_addPerson 27 = .ok (.if_icmp .eq 47, 3) := by decide +kernel
theorem dX6_addPerson_30 : decode cX6_addPerson 30 = .ok (.aload_n 0, 1) := by decide +kernel
theorem dX6_addPerson_31 : decode cX6_addPerson 31 = .ok (.iload_n 2, 1) := by decide +kernel
theorem dX6_addPerson_32 : decode cX6_addPerson 32 = .ok (.aload_n 1, 1) := by decide +kernel
theorem dX6_addPerson_33 : decode cX6_addPerson 33 = .ok (.getfield 65, 3) := by decide +kernel
theorem dX6_addPerson_36 : decode cX6_addPerson 36 = .ok (.invokevirtual 68, 3) := by decide +kernel
theorem dX6_addPerson_39 : decode cX6_addPerson 39 = .ok (.iconst 0, 1) := by decide +kernel
theorem dX6_addPerson_40 : decode cX6_addPerson 40 = .ok (.istore_n 3, 1) := by decide +kernel
theorem dX6_addPerson_41 : decode cX6_addPerson 41 = .ok (.iload_n 3, 1) := by decide +kernel
theorem dX6_addPerson_42 : decode cX6_addPerson 42 = .ok (.iload_n 2, 1) := by decide +kernel
theorem dX6_addPerson_43 : decode cX6_addPerson 43 = .ok (.if_icmp .ge 31, 3) := by decide +kernel
theorem dX6_addPerson_46 : decode cX6_addPerson 46 = .ok (.aload_n 0, 1) := by decide +kernel
theorem dX6_addPerson_47 : decode cX6_addPerson 47 = .ok (.getfield 19, 3) := by decide +kernel
theorem dX6_addPerson_50 : decode cX6_addPerson 50 = .ok (.iload_n 3, 1) := by decide +kernel
theorem dX6_addPerson_51 : decode cX6_addPerson 51 = .ok (.aaload, 1) := by decide +kernel
theorem dX6_addPerson_52 : decode cX6_addPerson 52 = .ok (.getfield 65, 3) := by decide +kernel
theorem dX6_addPerson_55 : decode cX6_addPerson 55 = .ok (.aload_n 1, 1) := by decide +kernel
theorem dX6_addPerson_56 : decode cX6_addPerson 56 = .ok (.getfield 65, 3) := by decide +kernel
theorem dX6_addPerson_59 : decode cX6_addPerson 59 = .ok (.if_icmp .ne 9, 3) := by decide +kernel
theorem dX6_addPerson_62 : decode cX6_addPerson 62 = .ok (.aload_n 0, 1) := by decide +kernel
theorem dX6_addPerson_63 : decode cX6_addPerson 63 = .ok (.iload_n 2, 1) := by decide +kernel
theorem dX6_addPerson_64 : decode cX6_addPerson 64 = .ok (.iload_n 3, 1) := by decide +kernel
theorem dX6_addPerson_65 : decode cX6_addPerson 65 = .ok (.invokevirtual 68, 3) := by decide +kernel
theorem dX6_addPerson_68 : decode cX6_addPerson 68 = .ok (.iinc 3 1, 3) := by decide +kernel
theorem dX6_addPerson_71 : decode cX6_addPerson 71 = .ok (.goto (-30), 3) := by decide +kernel
theorem dX6_addPerson_74 : decode cX6_addPerson 74 = .ok (.iload_n 2, 1) := by decide +kernel
theorem dX6_addPerson_75 : decode cX6_addPerson 75 = .ok (.ireturn, 1) := by decide +kernel
theorem dX6_tie_0 : decode cX6_tie 0 = .ok (.aload_n 0, 1) := by decide +kernel
theorem dX6_tie_1 : decode cX6_tie 1 = .ok (.getfield 19, 3) := by decide +kernel
theorem dX6_tie_4 : decode cX6_tie 4 = .ok (.iload_n 1, 1) := by decide +kernel
theorem dX6_tie_5 : decode cX6_tie 5 = .ok (.aaload, 1) := by decide +kernel
theorem dX6_tie_6 : decode cX6_tie 6 = .ok (.dup, 1) := by decide +kernel
theorem dX6_tie_7 : decode cX6_tie 7 = .ok (.getfield 72, 3) := by decide +kernel
theorem dX6_tie_10 : decode cX6_tie 10 = .ok (.iconst 1, 1) := by decide +kernel
theorem dX6_tie_11 : decode cX6_tie 11 = .ok (.iload_n 2, 1) := by decide +kernel
theorem dX6_tie_12 : decode cX6_tie 12 = .ok (.ishl, 1) := by decide +kernel
theorem dX6_tie_13 : decode cX6_tie 13 = .ok (.ior, 1) := by decide +kernel
theorem dX6_tie_14 : decode cX6_tie 14 = .ok (.putfield 72, 3) := by decide +kernel
theorem dX6_tie_17 : decode cX6_tie 17 = .ok (.aload_n 0, 1) := by decide +kernel
theorem dX6_tie_18 : decode cX6_tie 18 = .ok (.getfield 19, 3) := by decide +kernel
theorem dX6_tie_21 : decode cX6_tie 21 = .ok (.iload_n 2, 1) := by decide +kernel
theorem dX6_tie_22 : decode cX6_tie 22 = .ok (.aaload, 1) := by decide +kernel
theorem dX6_tie_23 : decode cX6_tie 23 = .ok (.dup, 1) := by decide +kernel
theorem dX6_tie_24 : decode cX6_tie 24 = .ok (.getfield 72, 3) := by decide +kernel
theorem dX6_tie_27 : decode cX6_tie 27 = .ok (.iconst 1, 1) := by decide +kernel
theorem dX6_tie_28 : decode cX6_tie 28 = .ok (.iload_n 1, 1) := by decide +kernel
theorem dX6_tie_29 : decode cX6_tie 29 = .ok (.ishl, 1) := by decide +kernel
theorem dX6_tie_30 : decode cX6_tie 30 = .ok (.ior, 1) := by decide +kernel
theorem dX6_tie_31 : decode cX6_tie 31 = .ok (.putfield 72, 3) := by decide +kernel
theorem dX6_tie_34 : decode cX6_tie 34 = .ok (.return_, 1) := by decide +kernel
theorem dX6_put_0 : decode cX6_put 0 = .ok (.aload_n 0, 1) := by decide +kernel
theorem dX6_put_1 : decode cX6_put 1 = .ok (.getfield 11, 3) := by decide +kernel
theorem dX6_put_4 : decode cX6_put 4 = .ok (.iload_n 2, 1) := by decide +kernel
theorem dX6_put_5 : decode cX6_put 5 = .ok (.aaload, 1) := by decide +kernel
theorem dX6_put_6 : decode cX6_put 6 = .ok (.iload_n 3, 1) := by decide +kernel
theorem dX6_put_7 : decode cX6_put 7 = .ok (.iload 4, 2) := by decide +kernel
theorem dX6_put_9 : decode cX6_put 9 = .ok (.iload_n 1, 1) := by decide +kernel
theorem dX6_put_10 : decode cX6_put 10 = .ok (.invokevirtual 75, 3) := by decide +kernel
theorem dX6_put_13 : decode cX6_put 13 = .ok (.aload_n 0, 1) := by decide +kernel
theorem dX6_put_14 : decode cX6_put 14 = .ok (.getfield 19, 3) := by decide +kernel
theorem dX6_put_17 : decode cX6_put 17 = .ok (.iload_n 1, 1) := by decide +kernel
theorem dX6_put_18 : decode cX6_put 18 = .ok (.aaload, 1) := by decide +kernel
theorem dX6_put_19 : decode cX6_put 19 = .ok (.getfield 79, 3) := by decide +kernel
theorem dX6_put_22 : decode cX6_put 22 = .ok (.iload_n 3, 1) := by decide +kernel
theorem dX6_put_23 : decode cX6_put 23 = .ok (.iload_n 2, 1) := by decide +kernel
theorem dX6_put_24 : decode cX6_put 24 = .ok (.i2b, 1) := by decide +kernel
theorem dX6_put_25 : decode cX6_put 25 = .ok (.bastore, 1) := by decide +kernel
theorem dX6_put_26 : decode cX6_put 26 = .ok (.aload_n 0, 1) := by decide +kernel
theorem dX6_put_27 : decode cX6_put 27 = .ok (.dup, 1) := by decide +kernel
theorem dX6_put_28 : decode cX6_put 28 = .ok (.getfield 39, 3) := by decide +kernel
theorem dX6_put_31 : decode cX6_put 31 = .ok (.iconst 1, 1) := by decide +kernel
theorem dX6_put_32 : decode cX6_put 32 = .ok (.iadd, 1) := by decide +kernel
theorem dX6_put_33 : decode cX6_put 33 = .ok (.putfield 39, 3) := by decide +kernel
theorem dX6_put_36 : decode cX6_put 36 = .ok (.return_, 1) := by decide +kernel
theorem dX6_vacate_0 : decode cX6_vacate 0 = .ok (.aload_n 0, 1) := by decide +kernel
theorem dX6_vacate_1 : decode cX6_vacate 1 = .ok (.getfield 11, 3) := by decide +kernel
theorem dX6_vacate_4 : decode cX6_vacate 4 = .ok (.iload_n 2, 1) := by decide +kernel
theorem dX6_vacate_5 : decode cX6_vacate 5 = .ok (.aaload, 1) := by decide +kernel
theorem dX6_vacate_6 : decode cX6_vacate 6 = .ok (.iload_n 3, 1) := by decide +kernel
theorem dX6_vacate_7 : decode cX6_vacate 7 = .ok (.iload 4, 2) := by decide +kernel
theorem dX6_vacate_9 : decode cX6_vacate 9 = .ok (.invokevirtual 83, 3) := by decide +kernel
theorem dX6_vacate_12 : decode cX6_vacate 12 = .ok (.ifCond .eq 13, 3) := by decide +kernel
theorem dX6_vacate_15 : decode cX6_vacate 15 = .ok (.aload_n 0, 1) := by decide +kernel
theorem dX6_vacate_16 : decode cX6_vacate 16 = .ok (.dup, 1) := by decide +kernel
theorem dX6_vacate_17 : decode cX6_vacate 17 = .ok (.getfield 42, 3) := by decide +kernel
theorem dX6_vacate_20 : decode cX6_vacate 20 = .ok (.iconst 1, 1) := by decide +kernel
theorem dX6_vacate_21 : decode cX6_vacate 21 = .ok (.isub, 1) := by decide +kernel
theorem dX6_vacate_22 : decode cX6_vacate 22 = .ok (.putfield 42, 3) := by decide +kernel
theorem dX6_vacate_25 : decode cX6_vacate 25 = .ok (.aload_n 0, 1) := by decide +kernel
theorem dX6_vacate_26 : decode cX6_vacate 26 = .ok (.getfield 11, 3) := by decide +kernel
theorem dX6_vacate_29 : decode cX6_vacate 29 = .ok (.iload_n 2, 1) := by decide +kernel
theorem dX6_vacate_30 : decode cX6_vacate 30 = .ok (.aaload, 1) := by decide +kernel
theorem dX6_vacate_31 : decode cX6_vacate 31 = .ok (.iload_n 3, 1) := by decide +kernel
theorem dX6_vacate_32 : decode cX6_vacate 32 = .ok (.iload 4, 2) := by decide +kernel
theorem dX6_vacate_34 : decode cX6_vacate 34 = .ok (.iconst (-1), 1) := by decide +kernel
theorem dX6_vacate_35 : decode cX6_vacate 35 = .ok (.invokevirtual 75, 3) := by decide +kernel
theorem dX6_vacate_38 : decode cX6_vacate 38 = .ok (.aload_n 0, 1) := by decide +kernel
theorem dX6_vacate_39 : decode cX6_vacate 39 = .ok (.getfield 19, 3) := by decide +kernel
theorem dX6_vacate_42 : decode cX6_vacate 42 = .ok (.iload_n 1, 1) := by decide +kernel
theorem dX6_vacate_43 : decode cX6_vacate 43 = .ok (.aaload, 1) := by decide +kernel
theorem dX6_vacate_44 : decode cX6_vacate 44 = .ok (.getfield 79, 3) := by decide +kernel
theorem dX6_vacate_47 : decode cX6_vacate 47 = .ok (.iload_n 3, 1) := by decide +kernel
theorem dX6_vacate_48 : decode cX6_vacate 48 = .ok (.iconst (-1), 1) := by decide +kernel
theorem dX6_vacate_49 : decode cX6_vacate 49 = .ok (.bastore, 1) := by decide +kernel
theorem dX6_vacate_50 : decode cX6_vacate 50 = .ok (.aload_n 0, 1) := by decide +kernel
theorem dX6_vacate_51 : decode cX6_vacate 51 = .ok (.dup, 1) := by decide +kernel
theorem dX6_vacate_52 : decode cX6_vacate 52 = .ok (.getfield 39, 3) := by decide +kernel
theorem dX6_vacate_55 : decode cX6_vacate 55 = .ok (.iconst 1, 1) := by decide +kernel
theorem dX6_vacate_56 : decode cX6_vacate 56 = .ok (.isub, 1) := by decide +kernel
theorem dX6_vacate_57 : decode cX6_vacate 57 = .ok (.putfield 39, 3) := by decide +kernel
theorem dX6_vacate_60 : decode cX6_vacate 60 = .ok (.return_, 1) := by decide +kernel
theorem dX6_mark_0 : decode cX6_mark 0 = .ok (.iload 5, 2) := by decide +kernel
theorem dX6_mark_2 : decode cX6_mark 2 = .ok (.ifCond .eq 8, 3) := by decide +kernel
theorem dX6_mark_5 : decode cX6_mark 5 = .ok (.bipush 100, 2) := by decide +kernel
theorem dX6_mark_7 : decode cX6_mark 7 = .ok (.goto 4, 3) := by decide +kernel
theorem dX6_mark_10 : decode cX6_mark 10 = .ok (.iconst 0, 1) := by decide +kernel
theorem dX6_mark_11 : decode cX6_mark 11 = .ok (.istore 6, 2) := by decide +kernel
theorem dX6_mark_13 : decode cX6_mark 13 = .ok (.aload_n 0, 1) := by decide +kernel
theorem dX6_mark_14 : decode cX6_mark 14 = .ok (.getfield 11, 3) := by decide +kernel
theorem dX6_mark_17 : decode cX6_mark 17 = .ok (.iload_n 2, 1) := by decide +kernel
theorem dX6_mark_18 : decode cX6_mark 18 = .ok (.aaload, 1) := by decide +kernel
theorem dX6_mark_19 : decode cX6_mark 19 = .ok (.iload_n 3, 1) := by decide +kernel
theorem dX6_mark_20 : decode cX6_mark 20 = .ok (.iload 4, 2) := by decide +kernel
theorem dX6_mark_22 : decode cX6_mark 22 = .ok (.iload_n 1, 1) := by decide +kernel
theorem dX6_mark_23 : decode cX6_mark 23 = .ok (.iload 6, 2) := by decide +kernel
theorem dX6_mark_25 : decode cX6_mark 25 = .ok (.iadd, 1) := by decide +kernel
theorem dX6_mark_26 : decode cX6_mark 26 = .ok (.invokevirtual 75, 3) := by decide +kernel
theorem dX6_mark_29 : decode cX6_mark 29 = .ok (.aload_n 0, 1) := by decide +kernel
theorem dX6_mark_30 : decode cX6_mark 30 = .ok (.getfield 19, 3) := by decide +kernel
theorem dX6_mark_33 : decode cX6_mark 33 = .ok (.iload_n 1, 1) := by decide +kernel
theorem dX6_mark_34 : decode cX6_mark 34 = .ok (.aaload, 1) := by decide +kernel
theorem dX6_mark_35 : decode cX6_mark 35 = .ok (.getfield 79, 3) := by decide +kernel
theorem dX6_mark_38 : decode cX6_mark 38 = .ok (.iload_n 3, 1) := by decide +kernel
theorem dX6_mark_39 : decode cX6_mark 39 = .ok (.iload_n 2, 1) := by decide +kernel
theorem dX6_mark_40 : decode cX6_mark 40 = .ok (.iload 6, 2) := by decide +kernel
theorem dX6_mark_42 : decode cX6_mark 42 = .ok (.iadd, 1) := by decide +kernel
theorem dX6_mark_43 : decode cX6_mark 43 = .ok (.i2b, 1) := by decide +kernel
theorem dX6_mark_44 : decode cX6_mark 44 = .ok (.bastore, 1) := by decide +kernel
theorem dX6_mark_45 : decode cX6_mark 45 = .ok (.aload_n 0, 1) := by decide +kernel
theorem dX6_mark_46 : decode cX6_mark 46 = .ok (.dup, 1) := by decide +kernel
theorem dX6_mark_47 : decode cX6_mark 47 = .ok (.getfield 42, 3) := by decide +kernel
theorem dX6_mark_50 : decode cX6_mark 50 = .ok (.iload 5, 2) := by decide +kernel
theorem dX6_mark_52 : decode cX6_mark 52 = .ok (.ifCond .eq 7, 3) := by decide +kernel
theorem dX6_mark_55 : decode cX6_mark 55 = .ok (.iconst 1, 1) := by decide +kernel
theorem dX6_mark_56 : decode cX6_mark 56 = .ok (.goto 4, 3) := by decide +kernel
theorem dX6_mark_59 : decode cX6_mark 59 = .ok (.iconst (-1), 1) := by decide +kernel
theorem dX6_mark_60 : decode cX6_mark 60 = .ok (.iadd, 1) := by decide +kernel
theorem dX6_mark_61 : decode cX6_mark 61 = .ok (.putfield 42, 3) := by decide +kernel
theorem dX6_mark_64 : decode cX6_mark 64 = .ok (.return_, 1) := by decide +kernel
theorem dX6_firstBar_0 : decode cX6_firstBar 0 = .ok (.aload_n 0, 1) := by decide +kernel
theorem dX6_firstBar_1 : decode cX6_firstBar 1 = .ok (.getfield 19, 3) := by decide +kernel
theorem dX6_firstBar_4 : decode cX6_firstBar 4 = .ok (.iload_n 1, 1) := by decide +kernel
theorem dX6_firstBar_5 : decode cX6_firstBar 5 = .ok (.aaload, 1) := by decide +kernel
theorem dX6_firstBar_6 : decode cX6_firstBar 6 = .ok (.astore 5, 2) := by decide +kernel
theorem dX6_firstBar_8 : decode cX6_firstBar 8 = .ok (.iload_n 3, 1) := by decide +kernel
theorem dX6_firstBar_9 : decode cX6_firstBar 9 = .ok (.aload 5, 2) := by decide +kernel
theorem dX6_firstBar_11 : decode cX6_firstBar 11 = .ok (.getfield 87, 3) := by decide +kernel
theorem dX6_firstBar_14 : decode cX6_firstBar 14 = .ok (.if_icmp .lt 6, 3) := by decide +kernel
theorem dX6_firstBar_17 : decode cX6_firstBar 17 = .ok (.bipush (-4), 2) := by decide +kernel
theorem dX6_firstBar_19 : decode cX6_firstBar 19 = .ok (.ireturn, 1) := by decide +kernel
theorem dX6_firstBar_20 : decode cX6_firstBar 20 = .ok (.iload_n 3, 1) := by decide +kernel
theorem dX6_firstBar_21 : decode cX6_firstBar 21 = .ok (.aload 5, 2) := by decide +kernel
theorem dX6_firstBar_23 : decode cX6_firstBar 23 = .ok (.getfield 90, 3) := by decide +kernel
theorem dX6_firstBar_26 : decode cX6_firstBar 26 = .ok (.if_icmp .ge 6, 3) := by decide +kernel
theorem dX6_firstBar_29 : decode cX6_firstBar 29 = .ok (.bipush (-5), 2) := by decide +kernel
theorem dX6_firstBar_31 : decode cX6_firstBar 31 = .ok (.ireturn, 1) := by decide +kernel
theorem dX6_firstBar_32 : decode cX6_firstBar 32 = .ok (.iload_n 3, 1) := by decide +kernel
theorem dX6_firstBar_33 : decode cX6_firstBar 33 = .ok (.aload 5, 2) := by decide +kernel
theorem dX6_firstBar_35 : decode cX6_firstBar 35 = .ok (.getfield 93, 3) := by decide +kernel
theorem dX6_firstBar_38 : decode cX6_firstBar 38 = .ok (.if_icmp .lt 15, 3) := by decide +kernel
theorem dX6_firstBar_41 : decode cX6_firstBar 41 = .ok (.iload_n 3, 1) := by decide +kernel
theorem dX6_firstBar_42 : decode cX6_firstBar 42 = .ok (.aload 5, 2) := by decide +kernel
theorem dX6_firstBar_44 : decode cX6_firstBar 44 = .ok (.getfield 96, 3) := by decide +kernel
theorem dX6_firstBar_47 : decode cX6_firstBar 47 = .ok (.if_icmp .gt 6, 3) := by decide +kernel
theorem dX6_firstBar_50 : decode cX6_firstBar 50 = .ok (.bipush (-6), 2) := by decide +kernel
theorem dX6_firstBar_52 : decode cX6_firstBar 52 = .ok (.ireturn, 1) := by decide +kernel
theorem dX6_firstBar_53 : decode cX6_firstBar 53 = .ok (.iload 4, 2) := by decide +kernel
theorem dX6_firstBar_55 : decode cX6_firstBar 55 = .ok (.ifCond .eq 17, 3) := by decide +kernel
theorem dX6_firstBar_58 : decode cX6_firstBar 58 = .ok (.aload 5, 2) := by decide +kernel
theorem dX6_firstBar_60 : decode cX6_firstBar 60 = .ok (.getfield 79, 3) := by decide +kernel
theorem dX6_firstBar_63 : decode cX6_firstBar 63 = .ok (.iload_n 3, 1) := by decide +kernel
theorem dX6_firstBar_64 : decode cX6_firstBar 64 = .ok (.baload, 1) := by decide +kernel
theorem dX6_firstBar_65 : decode cX6_firstBar 65 = .ok (.iconst (-1), 1) := by decide +kernel
theorem dX6_firstBar_66 : decode cX6_firstBar 66 = .ok (.if_icmp .eq 6, 3) := by decide +kernel
theorem dX6_firstBar_69 : decode cX6_firstBar 69 = .ok (.bipush (-7), 2) := by decide +kernel
theorem dX6_firstBar_71 : decode cX6_firstBar 71 = .ok (.ireturn, 1) := by decide +kernel
theorem dX6_firstBar_72 : decode cX6_firstBar 72 = .ok (.aload_n 0, 1) := by decide +kernel
theorem dX6_firstBar_73 : decode cX6_firstBar 73 = .ok (.getfield 11, 3) := by decide +kernel
theorem dX6_firstBar_76 : decode cX6_firstBar 76 = .ok (.iload_n 2, 1) := by decide +kernel
theorem dX6_firstBar_77 : decode cX6_firstBar 77 = .ok (.aaload, 1) := by decide +kernel
theorem dX6_firstBar_78 : decode cX6_firstBar 78 = .ok (.getfield 99, 3) := by decide +kernel
theorem dX6_firstBar_81 : decode cX6_firstBar 81 = .ok (.ifCond .eq 6, 3) := by decide +kernel
theorem dX6_firstBar_84 : decode cX6_firstBar 84 = .ok (.bipush (-2), 2) := by decide +kernel
theorem dX6_firstBar_86 : decode cX6_firstBar 86 = .ok (.ireturn, 1) := by decide +kernel
theorem dX6_firstBar_87 : decode cX6_firstBar 87 = .ok (.aload_n 0, 1) := by decide +kernel
theorem dX6_firstBar_88 : decode cX6_firstBar 88 = .ok (.getfield 48, 3) := by decide +kernel
theorem dX6_firstBar_91 : decode cX6_firstBar 91 = .ok (.aload 5, 2) := by decide +kernel
theorem dX6_firstBar_93 : decode cX6_firstBar 93 = .ok (.aload_n 0, 1) := by decide +kernel
theorem dX6_firstBar_94 : decode cX6_firstBar 94 = .ok (.getfield 11, 3) := by decide +kernel
theorem dX6_firstBar_97 : decode cX6_firstBar 97 = .ok (.iload_n 2, 1) := by decide +kernel
theorem dX6_firstBar_98 : decode cX6_firstBar 98 = .ok (.aaload, 1) := by decide +kernel
theorem dX6_firstBar_99 : decode cX6_firstBar 99 = .ok (.iload_n 2, 1) := by decide +kernel
theorem dX6_firstBar_100 : decode cX6_firstBar 100 = .ok (.iload_n 3, 1) := by decide +kernel
theorem dX6_firstBar_101 : decode cX6_firstBar 101 = .ok (.invokevirtual 103, 3) := by decide +kernel
theorem dX6_firstBar_104 : decode cX6_firstBar 104 = .ok (.iconst 0, 1) := by decide +kernel
theorem dX6_firstBar_105 : decode cX6_firstBar 105 = .ok (.istore 6, 2) := by decide +kernel
theorem dX6_firstBar_107 : decode cX6_firstBar 107 = .ok (.iload 6, 2) := by decide +kernel
theorem dX6_firstBar_109 : decode cX6_firstBar 109 = .ok (.aload_n 0, 1) := by decide +kernel
theorem dX6_firstBar_110 : decode cX6_firstBar 110 = .ok (.getfield 36, 3) := by decide +kernel
theorem dX6_firstBar_113 : decode cX6_firstBar 113 = .ok (.if_icmp .ge 47, 3) := by decide +kernel
theorem dX6_firstBar_116 : decode cX6_firstBar 116 = .ok (.aload_n 0, 1) := by decide +kernel
theorem dX6_firstBar_117 : decode cX6_firstBar 117 = .ok (.getfield 25, 3) := by decide +kernel
theorem dX6_firstBar_120 : decode cX6_firstBar 120 = .ok (.iload 6, 2) := by decide +kernel
theorem dX6_firstBar_122 : decode cX6_firstBar 122 = .ok (.aaload, 1) := by decide +kernel
theorem dX6_firstBar_123 : decode cX6_firstBar 123 = .ok (.iload_n 2, 1) := by decide +kernel
theorem dX6_firstBar_124 : decode cX6_firstBar 124 = .ok (.iload_n 3, 1) := by decide +kernel
theorem dX6_firstBar_125 : decode cX6_firstBar 125 = .ok (.invokevirtual 107, 3) := by decide +kernel
theorem dX6_firstBar_128 : decode cX6_firstBar 128 = .ok (.ifCond .eq 26, 3) := by decide +kernel
theorem dX6_firstBar_131 : decode cX6_firstBar 131 = .ok (.aload_n 0, 1) := by decide +kernel
theorem dX6_firstBar_132 : decode cX6_firstBar 132 = .ok (.getfield 25, 3) := by decide +kernel
theorem dX6_firstBar_135 : decode cX6_firstBar 135 = .ok (.iload 6, 2) := by decide +kernel
theorem dX6_firstBar_137 : decode cX6_firstBar 137 = .ok (.aaload, 1) := by decide +kernel
theorem dX6_firstBar_138 : decode cX6_firstBar 138 = .ok (.aload 5, 2) := by decide +kernel
theorem dX6_firstBar_140 : decode cX6_firstBar 140 = .ok (.iload_n 3, 1) := by decide +kernel
theorem dX6_firstBar_141 : decode cX6_firstBar 141 = .ok (.aload_n 0, 1) := by decide +kernel
theorem dX6_firstBar_142 : decode cX6_firstBar 142 = .ok (.getfield 48, 3) := by decide +kernel
theorem dX6_firstBar_145 : decode cX6_firstBar 145 = .ok (.invokevirtual 110, 3) := by decide +kernel
theorem dX6_firstBar_148 : decode cX6_firstBar 148 = .ok (.ifCond .eq 6, 3) := by decide +kernel
theorem dX6_firstBar_151 : decode cX6_firstBar 151 = .ok (.iload 6, 2) := by decide +kernel
theorem dX6_firstBar_153 : decode cX6_firstBar 153 = .ok (.ireturn, 1) := by decide +kernel
theorem dX6_firstBar_154 : decode cX6_firstBar 154 = .ok (.iinc 6 1, 3) := by decide +kernel
theorem dX6_firstBar_157 : decode cX6_firstBar 157 = .ok (.goto (-50), 3) := by decide +kernel
theorem dX6_firstBar_160 : decode cX6_firstBar 160 = .ok (.bipush (-2), 2) := by decide +kernel
theorem dX6_firstBar_162 : decode cX6_firstBar 162 = .ok (.ireturn, 1) := by decide +kernel
theorem dX6_level_0 : decode cX6_level 0 = .ok (.aload_n 0, 1) := by decide +kernel
theorem dX6_level_1 : decode cX6_level 1 = .ok (.iload_n 1, 1) := by decide +kernel
theorem dX6_level_2 : decode cX6_level 2 = .ok (.iload_n 2, 1) := by decide +kernel
theorem dX6_level_3 : decode cX6_level 3 = .ok (.iload_n 3, 1) := by decide +kernel
theorem dX6_level_4 : decode cX6_level 4 = .ok (.iconst 1, 1) := by decide +kernel
theorem dX6_level_5 : decode cX6_level 5 = .ok (.invokevirtual 114, 3) := by decide +kernel
theorem dX6_level_8 : decode cX6_level 8 = .ok (.bipush (-2), 2) := by decide +kernel
theorem dX6_level_10 : decode cX6_level 10 = .ok (.if_icmp .eq 5, 3) := by decide +kernel
theorem dX6_level_13 : decode cX6_level 13 = .ok (.iconst 0, 1) := by decide +kernel
theorem dX6_level_14 : decode cX6_level 14 = .ok (.ireturn, 1) := by decide +kernel
theorem dX6_level_15 : decode cX6_level 15 = .ok (.aload_n 0, 1) := by decide +kernel
theorem dX6_level_16 : decode cX6_level 16 = .ok (.getfield 11, 3) := by decide +kernel
theorem dX6_level_19 : decode cX6_level 19 = .ok (.iload_n 2, 1) := by decide +kernel
theorem dX6_level_20 : decode cX6_level 20 = .ok (.aaload, 1) := by decide +kernel
theorem dX6_level_21 : decode cX6_level 21 = .ok (.getfield 99, 3) := by decide +kernel
theorem dX6_level_24 : decode cX6_level 24 = .ok (.ifCond .eq 5, 3) := by decide +kernel
theorem dX6_level_27 : decode cX6_level 27 = .ok (.iconst 2, 1) := by decide +kernel
theorem dX6_level_28 : decode cX6_level 28 = .ok (.ireturn, 1) := by decide +kernel
theorem dX6_level_29 : decode cX6_level 29 = .ok (.iconst 0, 1) := by decide +kernel
theorem dX6_level_30 : decode cX6_level 30 = .ok (.istore 4, 2) := by decide +kernel
theorem dX6_level_32 : decode cX6_level 32 = .ok (.iload 4, 2) := by decide +kernel
theorem dX6_level_34 : decode cX6_level 34 = .ok (.aload_n 0, 1) := by decide +kernel
theorem dX6_level_35 : decode cX6_level 35 = .ok (.getfield 36, 3) := by decide +kernel
theorem dX6_level_38 : decode cX6_level 38 = .ok (.if_icmp .ge 46, 3) := by decide +kernel
theorem dX6_level_41 : decode cX6_level 41 = .ok (.aload_n 0, 1) := by decide +kernel
theorem dX6_level_42 : decode cX6_level 42 = .ok (.getfield 25, 3) := by decide +kernel
theorem dX6_level_45 : decode cX6_level 45 = .ok (.iload 4, 2) := by decide +kernel
theorem dX6_level_47 : decode cX6_level 47 = .ok (.aaload, 1) := by decide +kernel
theorem dX6_level_48 : decode cX6_level 48 = .ok (.iload_n 2, 1) := by decide +kernel
theorem dX6_level_49 : decode cX6_level 49 = .ok (.iload_n 3, 1) := by decide +kernel
theorem dX6_level_50 : decode cX6_level 50 = .ok (.invokevirtual 107, 3) := by decide +kernel
theorem dX6_level_53 : decode cX6_level 53 = .ok (.ifCond .eq 25, 3) := by decide +kernel
theorem dX6_level_56 : decode cX6_level 56 = .ok (.aload_n 0, 1) := by decide +kernel
theorem dX6_level_57 : decode cX6_level 57 = .ok (.getfield 25, 3) := by decide +kernel
theorem dX6_level_60 : decode cX6_level 60 = .ok (.iload 4, 2) := by decide +kernel
theorem dX6_level_62 : decode cX6_level 62 = .ok (.aaload, 1) := by decide +kernel
theorem dX6_level_63 : decode cX6_level 63 = .ok (.aload_n 0, 1) := by decide +kernel
theorem dX6_level_64 : decode cX6_level 64 = .ok (.getfield 19, 3) := by decide +kernel
theorem dX6_level_67 : decode cX6_level 67 = .ok (.iload_n 1, 1) := by decide +kernel
theorem dX6_level_68 : decode cX6_level 68 = .ok (.aaload, 1) := by decide +kernel
theorem dX6_level_69 : decode cX6_level 69 = .ok (.iload_n 3, 1) := by decide +kernel
theorem dX6_level_70 : decode cX6_level 70 = .ok (.invokevirtual 118, 3) := by decide +kernel
theorem dX6_level_73 : decode cX6_level 73 = .ok (.ifCond .eq 5, 3) := by decide +kernel
theorem dX6_level_76 : decode cX6_level 76 = .ok (.iconst 1, 1) := by decide +kernel
theorem dX6_level_77 : decode cX6_level 77 = .ok (.ireturn, 1) := by decide +kernel
theorem dX6_level_78 : decode cX6_level 78 = .ok (.iinc 4 1, 3) := by decide +kernel
theorem dX6_level_81 : decode cX6_level 81 = .ok (.goto (-49), 3) := by decide +kernel
theorem dX6_level_84 : decode cX6_level 84 = .ok (.iconst 2, 1) := by decide +kernel
theorem dX6_level_85 : decode cX6_level 85 = .ok (.ireturn, 1) := by decide +kernel
theorem dX6_breachesIn_0 : decode cX6_breachesIn 0 = .ok (.aload_n 0, 1) := by decide +kernel
theorem dX6_breachesIn_1 : decode cX6_breachesIn 1 = .ok (.getfield 11, 3) := by decide +kernel
theorem dX6_breachesIn_4 : decode cX6_breachesIn 4 = .ok (.iload_n 1, 1) := by decide +kernel
theorem dX6_breachesIn_5 : decode cX6_breachesIn 5 = .ok (.aaload, 1) := by decide +kernel
theorem dX6_breachesIn_6 : decode cX6_breachesIn 6 = .ok (.astore_n 3, 1) := by decide +kernel
theorem dX6_breachesIn_7 : decode cX6_breachesIn 7 = .ok (.iconst 0, 1) := by decide +kernel
theorem dX6_breachesIn_8 : decode cX6_breachesIn 8 = .ok (.istore 4, 2) := by decide +kernel
theorem dX6_breachesIn_10 : decode cX6_breachesIn 10 = .ok (.iconst 0, 1) := by decide +kernel
theorem dX6_breachesIn_11 : decode cX6_breachesIn 11 = .ok (.istore 5, 2) := by decide +kernel
theorem dX6_breachesIn_13 : decode cX6_breachesIn 13 = .ok (.iload 5, 2) := by decide +kernel
theorem dX6_breachesIn_15 : decode cX6_breachesIn 15 = .ok (.aload_n 3, 1) := by decide +kernel
theorem dX6_breachesIn_16 : decode cX6_breachesIn 16 = .ok (.getfield 59, 3) := by decide +kernel
theorem dX6_breachesIn_19 : decode cX6_breachesIn 19 = .ok (.if_icmp .ge 48, 3) := by decide +kernel
theorem dX6_breachesIn_22 : decode cX6_breachesIn 22 = .ok (.aload_n 3, 1) := by decide +kernel
theorem dX6_breachesIn_23 : decode cX6_breachesIn 23 = .ok (.iload_n 2, 1) := by decide +kernel
theorem dX6_breachesIn_24 : decode cX6_breachesIn 24 = .ok (.iload 5, 2) := by decide +kernel
theorem dX6_breachesIn_26 : decode cX6_breachesIn 26 = .ok (.invokevirtual 122, 3) := by decide +kernel
theorem dX6_breachesIn_29 : decode cX6_breachesIn 29 = .ok (.istore 6, 2) := by decide +kernel
theorem dX6_breachesIn_31 : decode cX6_breachesIn 31 = .ok (.iload 6, 2) := by decide +kernel
theorem dX6_breachesIn_33 : decode cX6_breachesIn 33 = .ok (.iconst (-1), 1) := by decide +kernel
theorem dX6_breachesIn_34 : decode cX6_breachesIn 34 = .ok (.if_icmp .eq 27, 3) := by decide +kernel
theorem dX6_breachesIn_37 : decode cX6_breachesIn 37 = .ok (.iload 6, 2) := by decide +kernel
theorem dX6_breachesIn_39 : decode cX6_breachesIn 39 = .ok (.bipush 100, 2) := by decide +kernel
theorem dX6_breachesIn_41 : decode cX6_breachesIn 41 = .ok (.if_icmp .ge 20, 3) := by decide +kernel
theorem dX6_breachesIn_44 : decode cX6_breachesIn 44 = .ok (.aload_n 0, 1) := by decide +kernel
theorem dX6_breachesIn_45 : decode cX6_breachesIn 45 = .ok (.iload 6, 2) := by decide +kernel
theorem dX6_breachesIn_47 : decode cX6_breachesIn 47 = .ok (.iload_n 1, 1) := by decide +kernel
theorem dX6_breachesIn_48 : decode cX6_breachesIn 48 = .ok (.iload_n 2, 1) := by decide +kernel
theorem dX6_breachesIn_49 : decode cX6_breachesIn 49 = .ok (.iconst 0, 1) := by decide +kernel
theorem dX6_breachesIn_50 : decode cX6_breachesIn 50 = .ok (.invokevirtual 114, 3) := by decide +kernel
theorem dX6_breachesIn_53 : decode cX6_breachesIn 53 = .ok (.bipush (-2), 2) := by decide +kernel
theorem dX6_breachesIn_55 : decode cX6_breachesIn 55 = .ok (.if_icmp .eq 6, 3) := by decide +kernel
theorem dX6_breachesIn_58 : decode cX6_breachesIn 58 = .ok (.iinc 4 1, 3) := by decide +kernel
theorem dX6_breachesIn_61 : decode cX6_breachesIn 61 = .ok (.iinc 5 1, 3) := by decide +kernel
theorem dX6_breachesIn_64 : decode cX6_breachesIn 64 = .ok (.goto (-51), 3) := by decide +kernel
theorem dX6_breachesIn_67 : decode cX6_breachesIn 67 = .ok (.iload 4, 2) := by decide +kernel
theorem dX6_breachesIn_69 : decode cX6_breachesIn 69 = .ok (.ireturn, 1) := by decide +kernel
theorem dX6_kinLawBinds_0 : decode cX6_kinLawBinds 0 = .ok (.aload_n 0, 1) := by decide +kernel
theorem dX6_kinLawBinds_1 : decode cX6_kinLawBinds 1 = .ok (.getfield 11, 3) := by decide +kernel
theorem dX6_kinLawBinds_4 : decode cX6_kinLawBinds 4 = .ok (.iload_n 1, 1) := by decide +kernel
theorem dX6_kinLawBinds_5 : decode cX6_kinLawBinds 5 = .ok (.aaload, 1) := by decide +kernel
theorem dX6_kinLawBinds_6 : decode cX6_kinLawBinds 6 = .ok (.getfield 99, 3) := by decide +kernel
theorem dX6_kinLawBinds_9 : decode cX6_kinLawBinds 9 = .ok (.ifCond .eq 5, 3) := by decide +kernel
theorem dX6_kinLawBinds_12 : decode cX6_kinLawBinds 12 = .ok (.iconst 0, 1) := by decide +kernel
theorem dX6_kinLawBinds_13 : decode cX6_kinLawBinds 13 = .ok (.ireturn, 1) := by decide +kernel
theorem dX6_kinLawBinds_14 : decode cX6_kinLawBinds 14 = .ok (.iconst 0, 1) := by decide +kernel
theorem dX6_kinLawBinds_15 : decode cX6_kinLawBinds 15 = .ok (.istore_n 3, 1) := by decide +kernel
theorem dX6_kinLawBinds_16 : decode cX6_kinLawBinds 16 = .ok (.iload_n 3, 1) := by decide +kernel
theorem dX6_kinLawBinds_17 : decode cX6_kinLawBinds 17 = .ok (.aload_n 0, 1) := by decide +kernel
theorem dX6_kinLawBinds_18 : decode cX6_kinLawBinds 18 = .ok (.getfield 36, 3) := by decide +kernel
theorem dX6_kinLawBinds_21 : decode cX6_kinLawBinds 21 = .ok (.if_icmp .ge 38, 3) := by decide +kernel
theorem dX6_kinLawBinds_24 : decode cX6_kinLawBinds 24 = .ok (.aload_n 0, 1) := by decide +kernel
theorem dX6_kinLawBinds_25 : decode cX6_kinLawBinds 25 = .ok (.getfield 25, 3) := by decide +kernel
theorem dX6_kinLawBinds_28 : decode cX6_kinLawBinds 28 = .ok (.iload_n 3, 1) := by decide +kernel
theorem dX6_kinLawBinds_29 : decode cX6_kinLawBinds 29 = .ok (.aaload, 1) := by decide +kernel
theorem dX6_kinLawBinds_30 : decode cX6_kinLawBinds 30 = .ok (.getfield 126, 3) := by decide +kernel
theorem dX6_kinLawBinds_33 : decode cX6_kinLawBinds 33 = .ok (.iconst 5, 1) := by decide +kernel
theorem dX6_kinLawBinds_34 : decode cX6_kinLawBinds 34 = .ok (.if_icmp .ne 19, 3) := by decide +kernel
theorem dX6_kinLawBinds_37 : decode cX6_kinLawBinds 37 = .ok (.aload_n 0, 1) := by decide +kernel
theorem dX6_kinLawBinds_38 : decode cX6_kinLawBinds 38 = .ok (.getfield 25, 3) := by decide +kernel
theorem dX6_kinLawBinds_41 : decode cX6_kinLawBinds 41 = .ok (.iload_n 3, 1) := by decide +kernel
theorem dX6_kinLawBinds_42 : decode cX6_kinLawBinds 42 = .ok (.aaload, 1) := by decide +kernel
theorem dX6_kinLawBinds_43 : decode cX6_kinLawBinds 43 = .ok (.iload_n 1, 1) := by decide +kernel
theorem dX6_kinLawBinds_44 : decode cX6_kinLawBinds 44 = .ok (.iload_n 2, 1) := by decide +kernel
theorem dX6_kinLawBinds_45 : decode cX6_kinLawBinds 45 = .ok (.invokevirtual 107, 3) := by decide +kernel
theorem dX6_kinLawBinds_48 : decode cX6_kinLawBinds 48 = .ok (.ifCond .eq 5, 3) := by decide +kernel
theorem dX6_kinLawBinds_51 : decode cX6_kinLawBinds 51 = .ok (.iconst 1, 1) := by decide +kernel
theorem dX6_kinLawBinds_52 : decode cX6_kinLawBinds 52 = .ok (.ireturn, 1) := by decide +kernel
theorem dX6_kinLawBinds_53 : decode cX6_kinLawBinds 53 = .ok (.iinc 3 1, 3) := by decide +kernel
theorem dX6_kinLawBinds_56 : decode cX6_kinLawBinds 56 = .ok (.goto (-40), 3) := by decide +kernel
theorem dX6_kinLawBinds_59 : decode cX6_kinLawBinds 59 = .ok (.iconst 0, 1) := by decide +kernel
theorem dX6_kinLawBinds_60 : decode cX6_kinLawBinds 60 = .ok (.ireturn, 1) := by decide +kernel
theorem dX7_init_0 : decode cX7_init 0 = .ok (.aload_n 0, 1) := by decide +kernel
theorem dX7_init_1 : decode cX7_init 1 = .ok (.invokespecial 3, 3) := by decide +kernel
theorem dX7_init_4 : decode cX7_init 4 = .ok (.aload_n 0, 1) := by decide +kernel
theorem dX7_init_5 : decode cX7_init 5 = .ok (.iconst 0, 1) := by decide +kernel
theorem dX7_init_6 : decode cX7_init 6 = .ok (.putfield 9, 3) := by decide +kernel
theorem dX7_init_9 : decode cX7_init 9 = .ok (.aload_n 0, 1) := by decide +kernel
theorem dX7_init_10 : decode cX7_init 10 = .ok (.aconst_null, 1) := by decide +kernel
theorem dX7_init_11 : decode cX7_init 11 = .ok (.putfield 15, 3) := by decide +kernel
theorem dX7_init_14 : decode cX7_init 14 = .ok (.aload_n 0, 1) := by decide +kernel
theorem dX7_init_15 : decode cX7_init 15 = .ok (.iconst 0, 1) := by decide +kernel
theorem dX7_init_16 : decode cX7_init 16 = .ok (.putfield 19, 3) := by decide +kernel
theorem dX7_init_19 : decode cX7_init 19 = .ok (.aload_n 0, 1) := by decide +kernel
theorem dX7_init_20 : decode cX7_init 20 = .ok (.sipush 200, 3) := by decide +kernel
theorem dX7_init_23 : decode cX7_init 23 = .ok (.newarray .byte, 2) := by decide +kernel
theorem dX7_init_25 : decode cX7_init 25 = .ok (.putfield 22, 3) := by decide +kernel
theorem dX7_init_28 : decode cX7_init 28 = .ok (.aload_n 0, 1) := by decide +kernel
theorem dX7_init_29 : decode cX7_init 29 = .ok (.bipush 60, 2) := by decide +kernel
theorem dX7_init_31 : decode cX7_init 31 = .ok (.newarray .int, 2) := by decide +kernel
theorem dX7_init_33 : decode cX7_init 33 = .ok (.putfield 26, 3) := by decide +kernel
theorem dX7_init_36 : decode cX7_init 36 = .ok (.return_, 1) := by decide +kernel
theorem dX7_isRow_0 : decode cX7_isRow 0 = .ok (.aload_n 0, 1) := by decide +kernel
theorem dX7_isRow_1 : decode cX7_isRow 1 = .ok (.getfield 9, 3) := by decide +kernel
theorem dX7_isRow_4 : decode cX7_isRow 4 = .ok (.iconst 3, 1) := by decide +kernel
theorem dX7_isRow_5 : decode cX7_isRow 5 = .ok (.if_icmp .eq 11, 3) := by decide +kernel
theorem dX7_isRow_8 : decode cX7_isRow 8 = .ok (.aload_n 0, 1) := by decide +kernel
theorem dX7_isRow_9 : decode cX7_isRow 9 = .ok (.getfield 9, 3) := by decide +kernel
theorem dX7_isRow_12 : decode cX7_isRow 12 = .ok (.iconst 4, 1) := by decide +kernel
theorem dX7_isRow_13 : decode cX7_isRow 13 = .ok (.if_icmp .ne 7, 3) := by decide +kernel
theorem dX7_isRow_16 : decode cX7_isRow 16 = .ok (.iconst 1, 1) := by decide +kernel
theorem dX7_isRow_17 : decode cX7_isRow 17 = .ok (.goto 4, 3) := by decide +kernel
theorem dX7_isRow_20 : decode cX7_isRow 20 = .ok (.iconst 0, 1) := by decide +kernel
theorem dX7_isRow_21 : decode cX7_isRow 21 = .ok (.ireturn, 1) := by decide +kernel
theorem dX7_hasSpan_0 : decode cX7_hasSpan 0 = .ok (.iload_n 1, 1) := by decide +kernel
theorem dX7_hasSpan_1 : decode cX7_hasSpan 1 = .ok (.ifCond .lt 29, 3) := by decide +kernel
theorem dX7_hasSpan_4 : decode cX7_hasSpan 4 = .ok (.iload_n 2, 1) := by decide +kernel
theorem dX7_hasSpan_5 : decode cX7_hasSpan 5 = .ok (.ifCond .lt 25, 3) := by decide +kernel
theorem dX7_hasSpan_8 : decode cX7_hasSpan 8 = .ok (.iload_n 2, 1) := by decide +kernel
theorem dX7_hasSpan_9 : decode cX7_hasSpan 9 = .ok (.aload_n 0, 1) := by decide +kernel
theorem dX7_hasSpan_10 : decode cX7_hasSpan 10 = .ok (.getfield 19, 3) := by decide +kernel
theorem dX7_hasSpan_13 : decode cX7_hasSpan 13 = .ok (.if_icmp .gt 17, 3) := by decide +kernel
theorem dX7_hasSpan_16 : decode cX7_hasSpan 16 = .ok (.iload_n 1, 1) := by decide +kernel
theorem dX7_hasSpan_17 : decode cX7_hasSpan 17 = .ok (.aload_n 0, 1) := by decide +kernel
theorem dX7_hasSpan_18 : decode cX7_hasSpan 18 = .ok (.getfield 19, 3) := by decide +kernel
theorem dX7_hasSpan_21 : decode cX7_hasSpan 21 = .ok (.iload_n 2, 1) := by decide +kernel
theorem dX7_hasSpan_22 : decode cX7_hasSpan 22 = .ok (.isub, 1) := by decide +kernel
theorem dX7_hasSpan_23 : decode cX7_hasSpan 23 = .ok (.if_icmp .gt 7, 3) := by decide +kernel
theorem dX7_hasSpan_26 : decode cX7_hasSpan 26 = .ok (.iconst 1, 1) := by decide +kernel
theorem dX7_hasSpan_27 : decode cX7_hasSpan 27 = .ok (.goto 4, 3) := by decide +kernel
theorem dX7_hasSpan_30 : decode cX7_hasSpan 30 = .ok (.iconst 0, 1) := by decide +kernel
theorem dX7_hasSpan_31 : decode cX7_hasSpan 31 = .ok (.ireturn, 1) := by decide +kernel
theorem dX7_at_0 : decode cX7_at 0 = .ok (.aload_n 0, 1) := by decide +kernel
theorem dX7_at_1 : decode cX7_at 1 = .ok (.getfield 9, 3) := by decide +kernel
theorem dX7_at_4 : decode cX7_at 4 = .ok (.iconst 3, 1) := by decide +kernel
theorem dX7_at_5 : decode cX7_at 5 = .ok (.if_icmp .ne 13, 3) := by decide +kernel
theorem dX7_at_8 : decode cX7_at 8 = .ok (.aload_n 0, 1) := by decide +kernel
theorem dX7_at_9 : decode cX7_at 9 = .ok (.getfield 22, 3) := by decide +kernel
theorem dX7_at_12 : decode cX7_at 12 = .ok (.iload_n 1, 1) := by decide +kernel
theorem dX7_at_13 : decode cX7_at 13 = .ok (.baload, 1) := by decide +kernel
theorem dX7_at_14 : decode cX7_at 14 = .ok (.i2l, 1) := by decide +kernel
theorem dX7_at_15 : decode cX7_at 15 = .ok (.goto 10, 3) := by decide +kernel
theorem dX7_at_18 : decode cX7_at 18 = .ok (.aload_n 0, 1) := by decide +kernel
theorem dX7_at_19 : decode cX7_at 19 = .ok (.getfield 26, 3) := by decide +kernel
theorem dX7_at_22 : decode cX7_at 22 = .ok (.iload_n 1, 1) := by decide +kernel
theorem dX7_at_23 : decode cX7_at 23 = .ok (.iaload, 1) := by decide +kernel
theorem dX7_at_24 : decode cX7_at 24 = .ok (.i2l, 1) := by decide +kernel
theorem dX7_at_25 : decode cX7_at 25 = .ok (.lreturn, 1) := by decide +kernel
theorem dX7_clear_0 : decode cX7_clear 0 = .ok (.aload_n 0, 1) := by decide +kernel
theorem dX7_clear_1 : decode cX7_clear 1 = .ok (.iconst 0, 1) := by decide +kernel
theorem dX7_clear_2 : decode cX7_clear 2 = .ok (.iconst 0, 1) := by decide +kernel
theorem dX7_clear_3 : decode cX7_clear 3 = .ok (.invokevirtual 30, 3) := by decide +kernel
theorem dX7_clear_6 : decode cX7_clear 6 = .ok (.return_, 1) := by decide +kernel
theorem dX7_keepLaw_0 : decode cX7_keepLaw 0 = .ok (.aload_n 0, 1) := by decide +kernel
theorem dX7_keepLaw_1 : decode cX7_keepLaw 1 = .ok (.iconst 1, 1) := by decide +kernel
theorem dX7_keepLaw_2 : decode cX7_keepLaw 2 = .ok (.iconst 0, 1) := by decide +kernel
theorem dX7_keepLaw_3 : decode cX7_keepLaw 3 = .ok (.invokevirtual 30, 3) := by decide +kernel
theorem dX7_keepLaw_6 : decode cX7_keepLaw 6 = .ok (.aload_n 0, 1) := by decide +kernel
theorem dX7_keepLaw_7 : decode cX7_keepLaw 7 = .ok (.aload_n 1, 1) := by decide +kernel
theorem dX7_keepLaw_8 : decode cX7_keepLaw 8 = .ok (.putfield 15, 3) := by decide +kernel
theorem dX7_keepLaw_11 : decode cX7_keepLaw 11 = .ok (.return_, 1) := by decide +kernel
theorem dX7_keepHolders_0 : decode cX7_keepHolders 0 = .ok (.aload_n 0, 1) := by decide +kernel
theorem dX7_keepHolders_1 : decode cX7_keepHolders 1 = .ok (.iconst 3, 1) := by decide +kernel
theorem dX7_keepHolders_2 : decode cX7_keepHolders 2 = .ok (.sipush 200, 3) := by decide +kernel
theorem dX7_keepHolders_5 : decode cX7_keepHolders 5 = .ok (.invokevirtual 30, 3) := by decide +kernel
theorem dX7_keepHolders_8 : decode cX7_keepHolders 8 = .ok (.iconst 0, 1) := by decide +kernel
theorem dX7_keepHolders_9 : decode cX7_keepHolders 9 = .ok (.istore_n 2, 1) := by decide +kernel
theorem dX7_keepHolders_10 : decode cX7_keepHolders 10 = .ok (.iload_n 2, 1) := by decide +kernel
theorem dX7_keepHolders_11 : decode cX7_keepHolders 11 = .ok (.sipush 200, 3) := by decide +kernel
theorem dX7_keepHolders_14 : decode cX7_keepHolders 14 = .ok (.if_icmp .ge 22, 3) := by decide +kernel
theorem dX7_keepHolders_17 : decode cX7_keepHolders 17 = .ok (.aload_n 0, 1) := by decide +kernel
theorem dX7_keepHolders_18 : decode cX7_keepHolders 18 = .ok (.getfield 22, 3) := by decide +kernel
theorem dX7_keepHolders_21 : decode cX7_keepHolders 21 = .ok (.iload_n 2, 1) := by decide +kernel
theorem dX7_keepHolders_22 : decode cX7_keepHolders 22 = .ok (.aload_n 1, 1) := by decide +kernel
theorem dX7_keepHolders_23 : decode cX7_keepHolders 23 = .ok (.iload_n 2, 1) := by decide +kernel
theorem dX7_keepHolders_24 : decode cX7_keepHolders 24 = .ok (.iconst 0, 1) := by decide +kernel
theorem dX7_keepHolders_25 : decode cX7_keepHolders 25 = .ok (.invokevirtual 34, 3) := by decide +kernel
theorem dX7_keepHolders_28 : decode cX7_keepHolders 28 = .ok (.i2b, 1) := by decide +kernel
theorem dX7_keepHolders_29 : decode cX7_keepHolders 29 = .ok (.bastore, 1) := by decide +kernel
theorem dX7_keepHolders_30 : decode cX7_keepHolders 30 = .ok (.iinc 2 1, 3) := by decide +kernel
theorem dX7_keepHolders_33 : decode cX7_keepHolders 33 = .ok (.goto (-23), 3) := by decide +kernel
theorem dX7_keepHolders_36 : decode cX7_keepHolders 36 = .ok (.return_, 1) := by decide +kernel
theorem dX7_keepLife_0 : decode cX7_keepLife 0 = .ok (.aload_n 0, 1) := by decide +kernel
theorem dX7_keepLife_1 : decode cX7_keepLife 1 = .ok (.iconst 4, 1) := by decide +kernel
theorem dX7_keepLife_2 : decode cX7_keepLife 2 = .ok (.iconst 5, 1) := by decide +kernel
theorem dX7_keepLife_3 : decode cX7_keepLife 3 = .ok (.invokevirtual 30, 3) := by decide +kernel
theorem dX7_keepLife_6 : decode cX7_keepLife 6 = .ok (.aload_n 0, 1) := by decide +kernel
theorem dX7_keepLife_7 : decode cX7_keepLife 7 = .ok (.getfield 26, 3) := by decide +kernel
theorem dX7_keepLife_10 : decode cX7_keepLife 10 = .ok (.iconst 0, 1) := by decide +kernel
theorem dX7_keepLife_11 : decode cX7_keepLife 11 = .ok (.aload_n 1, 1) := by decide +kernel
theorem dX7_keepLife_12 : decode cX7_keepLife 12 = .ok (.getfield 40, 3) := by decide +kernel
theorem dX7_keepLife_15 : decode cX7_keepLife 15 = .ok (.iastore, 1) := by decide +kernel
theorem dX7_keepLife_16 : decode cX7_keepLife 16 = .ok (.aload_n 0, 1) := by decide +kernel
theorem dX7_keepLife_17 : decode cX7_keepLife 17 = .ok (.getfield 26, 3) := by decide +kernel
theorem dX7_keepLife_20 : decode cX7_keepLife 20 = .ok (.iconst 1, 1) := by decide +kernel
theorem dX7_keepLife_21 : decode cX7_keepLife 21 = .ok (.aload_n 1, 1) := by decide +kernel
theorem dX7_keepLife_22 : decode cX7_keepLife 22 = .ok (.getfield 45, 3) := by decide +kernel
theorem dX7_keepLife_25 : decode cX7_keepLife 25 = .ok (.iastore, 1) := by decide +kernel
theorem dX7_keepLife_26 : decode cX7_keepLife 26 = .ok (.aload_n 0, 1) := by decide +kernel
theorem dX7_keepLife_27 : decode cX7_keepLife 27 = .ok (.getfield 26, 3) := by decide +kernel
theorem dX7_keepLife_30 : decode cX7_keepLife 30 = .ok (.iconst 2, 1) := by decide +kernel
theorem dX7_keepLife_31 : decode cX7_keepLife 31 = .ok (.aload_n 1, 1) := by decide +kernel
theorem dX7_keepLife_32 : decode cX7_keepLife 32 = .ok (.getfield 48, 3) := by decide +kernel
theorem dX7_keepLife_35 : decode cX7_keepLife 35 = .ok (.iastore, 1) := by decide +kernel
theorem dX7_keepLife_36 : decode cX7_keepLife 36 = .ok (.aload_n 0, 1) := by decide +kernel
theorem dX7_keepLife_37 : decode cX7_keepLife 37 = .ok (.getfield 26, 3) := by decide +kernel
theorem dX7_keepLife_40 : decode cX7_keepLife 40 = .ok (.iconst 3, 1) := by decide +kernel
theorem dX7_keepLife_41 : decode cX7_keepLife 41 = .ok (.aload_n 1, 1) := by decide +kernel
theorem dX7_keepLife_42 : decode cX7_keepLife 42 = .ok (.getfield 51, 3) := by decide +kernel
theorem dX7_keepLife_45 : decode cX7_keepLife 45 = .ok (.iastore, 1) := by decide +kernel
theorem dX7_keepLife_46 : decode cX7_keepLife 46 = .ok (.aload_n 0, 1) := by decide +kernel
theorem dX7_keepLife_47 : decode cX7_keepLife 47 = .ok (.getfield 26, 3) := by decide +kernel
theorem dX7_keepLife_50 : decode cX7_keepLife 50 = .ok (.iconst 4, 1) := by decide +kernel
theorem dX7_keepLife_51 : decode cX7_keepLife 51 = .ok (.aload_n 1, 1) := by decide +kernel
theorem dX7_keepLife_52 : decode cX7_keepLife 52 = .ok (.getfield 54, 3) := by decide +kernel
theorem dX7_keepLife_55 : decode cX7_keepLife 55 = .ok (.iastore, 1) := by decide +kernel
theorem dX7_keepLife_56 : decode cX7_keepLife 56 = .ok (.return_, 1) := by decide +kernel
theorem dX7_keepZeros_0 : decode cX7_keepZeros 0 = .ok (.aload_n 0, 1) := by decide +kernel
theorem dX7_keepZeros_1 : decode cX7_keepZeros 1 = .ok (.iload_n 1, 1) := by decide +kernel
theorem dX7_keepZeros_2 : decode cX7_keepZeros 2 = .ok (.iload_n 2, 1) := by decide +kernel
theorem dX7_keepZeros_3 : decode cX7_keepZeros 3 = .ok (.invokevirtual 30, 3) := by decide +kernel
theorem dX7_keepZeros_6 : decode cX7_keepZeros 6 = .ok (.aload_n 0, 1) := by decide +kernel
theorem dX7_keepZeros_7 : decode cX7_keepZeros 7 = .ok (.getfield 22, 3) := by decide +kernel
theorem dX7_keepZeros_10 : decode cX7_keepZeros 10 = .ok (.iconst 0, 1) := by decide +kernel
theorem dX7_keepZeros_11 : decode cX7_keepZeros 11 = .ok (.invokestatic 57, 3) := by decide +kernel
theorem dX7_keepZeros_14 : decode cX7_keepZeros 14 = .ok (.aload_n 0, 1) := by decide +kernel
theorem dX7_keepZeros_15 : decode cX7_keepZeros 15 = .ok (.getfield 26, 3) := by decide +kernel
theorem dX7_keepZeros_18 : decode cX7_keepZeros 18 = .ok (.iconst 0, 1) := by decide +kernel
theorem dX7_keepZeros_19 : decode cX7_keepZeros 19 = .ok (.invokestatic 63, 3) := by decide +kernel
theorem dX7_keepZeros_22 : decode cX7_keepZeros 22 = .ok (.return_, 1) := by decide +kernel
theorem dX7_copyTo_0 : decode cX7_copyTo 0 = .ok (.aload_n 0, 1) := by decide +kernel
theorem dX7_copyTo_1 : decode cX7_copyTo 1 = .ok (.getfield 9, 3) := by decide +kernel
theorem dX7_copyTo_4 : decode cX7_copyTo 4 = .ok (.iconst 3, 1) := by decide +kernel
theorem dX7_copyTo_5 : decode cX7_copyTo 5 = .ok (.if_icmp .ne 21, 3) := by decide +kernel
theorem dX7_copyTo_8 : decode cX7_copyTo 8 = .ok (.aload_n 0, 1) := by decide +kernel
theorem dX7_copyTo_9 : decode cX7_copyTo 9 = .ok (.getfield 22, 3) := by decide +kernel
theorem dX7_copyTo_12 : decode cX7_copyTo 12 = .ok (.iload_n 2, 1) := by decide +kernel
theorem dX7_copyTo_13 : decode cX7_copyTo 13 = .ok (.aload_n 1, 1) := by decide +kernel
theorem dX7_copyTo_14 : decode cX7_copyTo 14 = .ok (.getfield 22, 3) := by decide +kernel
theorem dX7_copyTo_17 : decode cX7_copyTo 17 = .ok (.iload_n 3, 1) := by decide +kernel
theorem dX7_copyTo_18 : decode cX7_copyTo 18 = .ok (.iload 4, 2) := by decide +kernel
theorem dX7_copyTo_20 : decode cX7_copyTo 20 = .ok (.invokestatic 66, 3) := by decide +kernel
theorem dX7_copyTo_23 : decode cX7_copyTo 23 = .ok (.goto 18, 3) := by decide +kernel
theorem dX7_copyTo_26 : decode cX7_copyTo 26 = .ok (.aload_n 0, 1) := by decide +kernel
theorem dX7_copyTo_27 : decode cX7_copyTo 27 = .ok (.getfield 26, 3) := by decide +kernel
theorem dX7_copyTo_30 : decode cX7_copyTo 30 = .ok (.iload_n 2, 1) := by decide +kernel
theorem dX7_copyTo_31 : decode cX7_copyTo 31 = .ok (.aload_n 1, 1) := by decide +kernel
theorem dX7_copyTo_32 : decode cX7_copyTo 32 = .ok (.getfield 26, 3) := by decide +kernel
theorem dX7_copyTo_35 : decode cX7_copyTo 35 = .ok (.iload_n 3, 1) := by decide +kernel
theorem dX7_copyTo_36 : decode cX7_copyTo 36 = .ok (.iload 4, 2) := by decide +kernel
theorem dX7_copyTo_38 : decode cX7_copyTo 38 = .ok (.invokestatic 66, 3) := by decide +kernel
theorem dX7_copyTo_41 : decode cX7_copyTo 41 = .ok (.return_, 1) := by decide +kernel
theorem dX7_become_0 : decode cX7_become 0 = .ok (.aload_n 0, 1) := by decide +kernel
theorem dX7_become_1 : decode cX7_become 1 = .ok (.iload_n 1, 1) := by decide +kernel
theorem dX7_become_2 : decode cX7_become 2 = .ok (.putfield 9, 3) := by decide +kernel
theorem dX7_become_5 : decode cX7_become 5 = .ok (.aload_n 0, 1) := by decide +kernel
theorem dX7_become_6 : decode cX7_become 6 = .ok (.iload_n 2, 1) := by decide +kernel
theorem dX7_become_7 : decode cX7_become 7 = .ok (.putfield 19, 3) := by decide +kernel
theorem dX7_become_10 : decode cX7_become 10 = .ok (.aload_n 0, 1) := by decide +kernel
theorem dX7_become_11 : decode cX7_become 11 = .ok (.aconst_null, 1) := by decide +kernel
theorem dX7_become_12 : decode cX7_become 12 = .ok (.putfield 15, 3) := by decide +kernel
theorem dX7_become_15 : decode cX7_become 15 = .ok (.return_, 1) := by decide +kernel
theorem dX8_init_0 : decode cX8_init 0 = .ok (.aload_n 0, 1) := by decide +kernel
theorem dX8_init_1 : decode cX8_init 1 = .ok (.invokespecial 3, 3) := by decide +kernel
theorem dX8_init_4 : decode cX8_init 4 = .ok (.aload_n 0, 1) := by decide +kernel
theorem dX8_init_5 : decode cX8_init 5 = .ok (.new 9, 3) := by decide +kernel
theorem dX8_init_8 : decode cX8_init 8 = .ok (.dup, 1) := by decide +kernel
theorem dX8_init_9 : decode cX8_init 9 = .ok (.invokespecial 11, 3) := by decide +kernel
theorem dX8_init_12 : decode cX8_init 12 = .ok (.putfield 12, 3) := by decide +kernel
theorem dX8_init_15 : decode cX8_init 15 = .ok (.aload_n 0, 1) := by decide +kernel
theorem dX8_init_16 : decode cX8_init 16 = .ok (.new 16, 3) := by decide +kernel
theorem dX8_init_19 : decode cX8_init 19 = .ok (.dup, 1) := by decide +kernel
theorem dX8_init_20 : decode cX8_init 20 = .ok (.invokespecial 18, 3) := by decide +kernel
theorem dX8_init_23 : decode cX8_init 23 = .ok (.putfield 19, 3) := by decide +kernel
theorem dX8_init_26 : decode cX8_init 26 = .ok (.aload_n 0, 1) := by decide +kernel
theorem dX8_init_27 : decode cX8_init 27 = .ok (.new 23, 3) := by decide +kernel
theorem dX8_init_30 : decode cX8_init 30 = .ok (.dup, 1) := by decide +kernel
theorem dX8_init_31 : decode cX8_init 31 = .ok (.invokespecial 25, 3) := by decide +kernel
theorem dX8_init_34 : decode cX8_init 34 = .ok (.putfield 26, 3) := by decide +kernel
theorem dX8_init_37 : decode cX8_init 37 = .ok (.aload_n 0, 1) := by decide +kernel
theorem dX8_init_38 : decode cX8_init 38 = .ok (.bipush 8, 2) := by decide +kernel
theorem dX8_init_40 : decode cX8_init 40 = .ok (.anewarray 30, 3) := by decide +kernel
theorem dX8_init_43 : decode cX8_init 43 = .ok (.putfield 32, 3) := by decide +kernel
theorem dX8_init_46 : decode cX8_init 46 = .ok (.aload_n 0, 1) := by decide +kernel
theorem dX8_init_47 : decode cX8_init 47 = .ok (.bipush 35, 2) := by decide +kernel
theorem dX8_init_49 : decode cX8_init 49 = .ok (.newarray .int, 2) := by decide +kernel
theorem dX8_init_51 : decode cX8_init 51 = .ok (.putfield 36, 3) := by decide +kernel
theorem dX8_init_54 : decode cX8_init 54 = .ok (.iconst 0, 1) := by decide +kernel
theorem dX8_init_55 : decode cX8_init 55 = .ok (.istore_n 1, 1) := by decide +kernel
theorem dX8_init_56 : decode cX8_init 56 = .ok (.iload_n 1, 1) := by decide +kernel
theorem dX8_init_57 : decode cX8_init 57 = .ok (.bipush 8, 2) := by decide +kernel
theorem dX8_init_59 : decode cX8_init 59 = .ok (.if_icmp .ge 22, 3) := by decide +kernel
theorem dX8_init_62 : decode cX8_init 62 = .ok (.aload_n 0, 1) := by decide +kernel
theorem dX8_init_63 : decode cX8_init 63 = .ok (.getfield 32, 3) := by decide +kernel
theorem dX8_init_66 : decode cX8_init 66 = .ok (.iload_n 1, 1) := by decide +kernel
theorem dX8_init_67 : decode cX8_init 67 = .ok (.new 30, 3) := by decide +kernel
theorem dX8_init_70 : decode cX8_init 70 = .ok (.dup, 1) := by decide +kernel
theorem dX8_init_71 : decode cX8_init 71 = .ok (.invokespecial 40, 3) := by decide +kernel
theorem dX8_init_74 : decode cX8_init 74 = .ok (.aastore, 1) := by decide +kernel
theorem dX8_init_75 : decode cX8_init 75 = .ok (.iinc 1 1, 3) := by decide +kernel
theorem dX8_init_78 : decode cX8_init 78 = .ok (.goto (-22), 3) := by decide +kernel
theorem dX8_init_81 : decode cX8_init 81 = .ok (.return_, 1) := by decide +kernel
theorem dX8_office_0 : decode cX8_office 0 = .ok (.iload_n 1, 1) := by decide +kernel
theorem dX8_office_1 : decode cX8_office 1 = .ok (.iconst 1, 1) := by decide +kernel
theorem dX8_office_2 : decode cX8_office 2 = .ok (.if_icmp .lt 8, 3) := by decide +kernel
theorem dX8_office_5 : decode cX8_office 5 = .ok (.iload_n 1, 1) := by decide +kernel
theorem dX8_office_6 : decode cX8_office 6 = .ok (.iconst 3, 1) := by decide +kernel
theorem dX8_office_7 : decode cX8_office 7 = .ok (.if_icmp .le 5, 3) := by decide +kernel
theorem dX8_office_10 : decode cX8_office 10 = .ok (.iconst (-1), 1) := by decide +kernel
theorem dX8_office_11 : decode cX8_office 11 = .ok (.ireturn, 1) := by decide +kernel
theorem dX8_office_12 : decode cX8_office 12 = .ok (.aload_n 0, 1) := by decide +kernel
theorem dX8_office_13 : decode cX8_office 13 = .ok (.getfield 12, 3) := by decide +kernel
theorem dX8_office_16 : decode cX8_office 16 = .ok (.getfield 41, 3) := by decide +kernel
theorem dX8_office_19 : decode cX8_office 19 = .ok (.bipush 8, 2) := by decide +kernel
theorem dX8_office_21 : decode cX8_office 21 = .ok (.if_icmp .lt 6, 3) := by decide +kernel
theorem dX8_office_24 : decode cX8_office 24 = .ok (.bipush (-2), 2) := by decide +kernel
theorem dX8_office_26 : decode cX8_office 26 = .ok (.ireturn, 1) := by decide +kernel
theorem dX8_office_27 : decode cX8_office 27 = .ok (.aload_n 0, 1) := by decide +kernel
theorem dX8_office_28 : decode cX8_office 28 = .ok (.getfield 12, 3) := by decide +kernel
theorem dX8_office_31 : decode cX8_office 31 = .ok (.new 45, 3) := by decide +kernel
theorem dX8_office_34 : decode cX8_office 34 = .ok (.dup, 1) := by decide +kernel
theorem dX8_office_35 : decode cX8_office 35 = .ok (.iload_n 1, 1) := by decide +kernel
theorem dX8_office_36 : decode cX8_office 36 = .ok (.iload_n 2, 1) := by decide +kernel
theorem dX8_office_37 : decode cX8_office 37 = .ok (.invokespecial 47, 3) := by decide +kernel
theorem dX8_office_40 : decode cX8_office 40 = .ok (.invokevirtual 50, 3) := by decide +kernel
theorem dX8_office_43 : decode cX8_office 43 = .ok (.ireturn, 1) := by decide +kernel
theorem dX8_person_0 : decode cX8_person 0 = .ok (.iload_n 1, 1) := by decide +kernel
theorem dX8_person_1 : decode cX8_person 1 = .ok (.invokestatic 54, 3) := by decide +kernel
theorem dX8_person_4 : decode cX8_person 4 = .ok (.ifCond .eq 11, 3) := by decide +kernel
theorem dX8_person_7 : decode cX8_person 7 = .ok (.iload_n 2, 1) := by decide +kernel
theorem dX8_person_8 : decode cX8_person 8 = .ok (.iload_n 3, 1) := by decide +kernel
theorem dX8_person_9 : decode cX8_person 9 = .ok (.invokestatic 58, 3) := by decide +kernel
theorem dX8_person_12 : decode cX8_person 12 = .ok (.ifCond .ne 5, 3) := by decide +kernel
theorem dX8_person_15 : decode cX8_person 15 = .ok (.iconst (-1), 1) := by decide +kernel
theorem dX8_person_16 : decode cX8_person 16 = .ok (.ireturn, 1) := by decide +kernel
theorem dX8_person_17 : decode cX8_person 17 = .ok (.iload 4, 2) := by decide +kernel
theorem dX8_person_19 : decode cX8_person 19 = .ok (.iconst (-1), 1) := by decide +kernel
theorem dX8_person_20 : decode cX8_person 20 = .ok (.if_icmp .eq 17, 3) := by decide +kernel
theorem dX8_person_23 : decode cX8_person 23 = .ok (.aload_n 0, 1) := by decide +kernel
theorem dX8_person_24 : decode cX8_person 24 = .ok (.getfield 12, 3) := by decide +kernel
theorem dX8_person_27 : decode cX8_person 27 = .ok (.iload 4, 2) := by decide +kernel
theorem dX8_person_29 : decode cX8_person 29 = .ok (.invokevirtual 62, 3) := by decide +kernel
theorem dX8_person_32 : decode cX8_person 32 = .ok (.ifCond .ne 5, 3) := by decide +kernel
theorem dX8_person_35 : decode cX8_person 35 = .ok (.iconst (-1), 1) := by decide +kernel
theorem dX8_person_36 : decode cX8_person 36 = .ok (.ireturn, 1) := by decide +kernel
theorem dX8_person_37 : decode cX8_person 37 = .ok (.aload_n 0, 1) := by decide +kernel
theorem dX8_person_38 : decode cX8_person 38 = .ok (.getfield 12, 3) := by decide +kernel
theorem dX8_person_41 : decode cX8_person 41 = .ok (.getfield 65, 3) := by decide +kernel
theorem dX8_person_44 : decode cX8_person 44 = .ok (.bipush 24, 2) := by decide +kernel
theorem dX8_person_46 : decode cX8_person 46 = .ok (.if_icmp .lt 6, 3) := by decide +kernel
theorem dX8_person_49 : decode cX8_person 49 = .ok (.bipush (-2), 2) := by decide +kernel
theorem dX8_person_51 : decode cX8_person 51 = .ok (.ireturn, 1) := by decide +kernel
theorem dX8_person_52 : decode cX8_person 52 = .ok (.aload_n 0, 1) := by decide +kernel
theorem dX8_person_53 : decode cX8_person 53 = .ok (.getfield 12, 3) := by decide +kernel
theorem dX8_person_56 : decode cX8_person 56 = .ok (.new 68, 3) := by decide +kernel
theorem dX8_person_59 : decode cX8_person 59 = .ok (.dup, 1) := by decide +kernel
theorem dX8_person_60 : decode cX8_person 60 = .ok (.iload_n 1, 1) := by decide +kernel
theorem dX8_person_61 : decode cX8_person 61 = .ok (.iload_n 2, 1) := by decide +kernel
theorem dX8_person_62 : decode cX8_person 62 = .ok (.iload_n 3, 1) := by decide +kernel
theorem dX8_person_63 : decode cX8_person 63 = .ok (.iload 4, 2) := by decide +kernel
theorem dX8_person_65 : decode cX8_person 65 = .ok (.invokespecial 70, 3) := by decide +kernel
theorem dX8_person_68 : decode cX8_person 68 = .ok (.invokevirtual 73, 3) := by decide +kernel
theorem dX8_person_71 : decode cX8_person 71 = .ok (.ireturn, 1) := by decide +kernel
theorem dX8_death_0 : decode cX8_death 0 = .ok (.aload_n 0, 1) := by decide +kernel
theorem dX8_death_1 : decode cX8_death 1 = .ok (.getfield 12, 3) := by decide +kernel
theorem dX8_death_4 : decode cX8_death 4 = .ok (.iload_n 1, 1) := by decide +kernel
theorem dX8_death_5 : decode cX8_death 5 = .ok (.invokevirtual 62, 3) := by decide +kernel
theorem dX8_death_8 : decode cX8_death 8 = .ok (.ifCond .eq 14, 3) := by decide +kernel
theorem dX8_death_11 : decode cX8_death 11 = .ok (.iload_n 2, 1) := by decide +kernel
theorem dX8_death_12 : decode cX8_death 12 = .ok (.ifCond .lt 10, 3) := by decide +kernel
theorem dX8_death_15 : decode cX8_death 15 = .ok (.iload_n 2, 1) := by decide +kernel
theorem dX8_death_16 : decode cX8_death 16 = .ok (.sipush 200, 3) := by decide +kernel
theorem dX8_death_19 : decode cX8_death 19 = .ok (.if_icmp .le 5, 3) := by decide +kernel
theorem dX8_death_22 : decode cX8_death 22 = .ok (.iconst (-1), 1) := by decide +kernel
theorem dX8_death_23 : decode cX8_death 23 = .ok (.ireturn, 1) := by decide +kernel
theorem dX8_death_24 : decode cX8_death 24 = .ok (.aload_n 0, 1) := by decide +kernel
theorem dX8_death_25 : decode cX8_death 25 = .ok (.getfield 12, 3) := by decide +kernel
theorem dX8_death_28 : decode cX8_death 28 = .ok (.getfield 77, 3) := by decide +kernel
theorem dX8_death_31 : decode cX8_death 31 = .ok (.iload_n 1, 1) := by decide +kernel
theorem dX8_death_32 : decode cX8_death 32 = .ok (.aaload, 1) := by decide +kernel
theorem dX8_death_33 : decode cX8_death 33 = .ok (.astore_n 3, 1) := by decide +kernel
theorem dX8_death_34 : decode cX8_death 34 = .ok (.aload_n 3, 1) := by decide +kernel
theorem dX8_death_35 : decode cX8_death 35 = .ok (.getfield 81, 3) := by decide +kernel
theorem dX8_death_38 : decode cX8_death 38 = .ok (.istore 4, 2) := by decide +kernel
theorem dX8_death_40 : decode cX8_death 40 = .ok (.aload_n 3, 1) := by decide +kernel
theorem dX8_death_41 : decode cX8_death 41 = .ok (.iload_n 2, 1) := by decide +kernel
theorem dX8_death_42 : decode cX8_death 42 = .ok (.putfield 81, 3) := by decide +kernel
theorem dX8_death_45 : decode cX8_death 45 = .ok (.iload 4, 2) := by decide +kernel
theorem dX8_death_47 : decode cX8_death 47 = .ok (.ireturn, 1) := by decide +kernel
theorem dX8_exile_0 : decode cX8_exile 0 = .ok (.aload_n 0, 1) := by decide +kernel
theorem dX8_exile_1 : decode cX8_exile 1 = .ok (.getfield 12, 3) := by decide +kernel
theorem dX8_exile_4 : decode cX8_exile 4 = .ok (.iload_n 1, 1) := by decide +kernel
theorem dX8_exile_5 : decode cX8_exile 5 = .ok (.invokevirtual 62, 3) := by decide +kernel
theorem dX8_exile_8 : decode cX8_exile 8 = .ok (.ifCond .eq 17, 3) := by decide +kernel
theorem dX8_exile_11 : decode cX8_exile 11 = .ok (.iload_n 2, 1) := by decide +kernel
theorem dX8_exile_12 : decode cX8_exile 12 = .ok (.invokestatic 84, 3) := by decide +kernel
theorem dX8_exile_15 : decode cX8_exile 15 = .ok (.ifCond .eq 10, 3) := by decide +kernel
theorem dX8_exile_18 : decode cX8_exile 18 = .ok (.iload_n 3, 1) := by decide +kernel
theorem dX8_exile_19 : decode cX8_exile 19 = .ok (.invokestatic 84, 3) := by decide +kernel
theorem dX8_exile_22 : decode cX8_exile 22 = .ok (.ifCond .ne 5, 3) := by decide +kernel
theorem dX8_exile_25 : decode cX8_exile 25 = .ok (.iconst (-1), 1) := by decide +kernel
theorem dX8_exile_26 : decode cX8_exile 26 = .ok (.ireturn, 1) := by decide +kernel
theorem dX8_exile_27 : decode cX8_exile 27 = .ok (.aload_n 0, 1) := by decide +kernel
theorem dX8_exile_28 : decode cX8_exile 28 = .ok (.getfield 12, 3) := by decide +kernel
theorem dX8_exile_31 : decode cX8_exile 31 = .ok (.getfield 77, 3) := by decide +kernel
theorem dX8_exile_34 : decode cX8_exile 34 = .ok (.iload_n 1, 1) := by decide +kernel
theorem dX8_exile_35 : decode cX8_exile 35 = .ok (.aaload, 1) := by decide +kernel
theorem dX8_exile_36 : decode cX8_exile 36 = .ok (.astore 4, 2) := by decide +kernel
theorem dX8_exile_38 : decode cX8_exile 38 = .ok (.aload 4, 2) := by decide +kernel
theorem dX8_exile_40 : decode cX8_exile 40 = .ok (.invokevirtual 87, 3) := by decide +kernel
theorem dX8_exile_43 : decode cX8_exile 43 = .ok (.ifCond .eq 7, 3) := by decide +kernel
theorem dX8_exile_46 : decode cX8_exile 46 = .ok (.iconst 1, 1) := by decide +kernel
theorem dX8_exile_47 : decode cX8_exile 47 = .ok (.goto 4, 3) := by decide +kernel
theorem dX8_exile_50 : decode cX8_exile 50 = .ok (.iconst 0, 1) := by decide +kernel
theorem dX8_exile_51 : decode cX8_exile 51 = .ok (.istore 5, 2) := by decide +kernel
theorem dX8_exile_53 : decode cX8_exile 53 = .ok (.aload 4, 2) := by decide +kernel
theorem dX8_exile_55 : decode cX8_exile 55 = .ok (.iload_n 2, 1) := by decide +kernel
theorem dX8_exile_56 : decode cX8_exile 56 = .ok (.iload_n 3, 1) := by decide +kernel
theorem dX8_exile_57 : decode cX8_exile 57 = .ok (.invokevirtual 91, 3) := by decide +kernel
theorem dX8_exile_60 : decode cX8_exile 60 = .ok (.iload 5, 2) := by decide +kernel
theorem dX8_exile_62 : decode cX8_exile 62 = .ok (.ireturn, 1) := by decide +kernel
theorem dX8_birth_0 : decode cX8_birth 0 = .ok (.aload_n 0, 1) := by decide +kernel
theorem dX8_birth_1 : decode cX8_birth 1 = .ok (.getfield 12, 3) := by decide +kernel
theorem dX8_birth_4 : decode cX8_birth 4 = .ok (.iload_n 1, 1) := by decide +kernel
theorem dX8_birth_5 : decode cX8_birth 5 = .ok (.invokevirtual 62, 3) := by decide +kernel
theorem dX8_birth_8 : decode cX8_birth 8 = .ok (.ifCond .eq 11, 3) := by decide +kernel
theorem dX8_birth_11 : decode cX8_birth 11 = .ok (.iload_n 2, 1) := by decide +kernel
theorem dX8_birth_12 : decode cX8_birth 12 = .ok (.iload_n 3, 1) := by decide +kernel
theorem dX8_birth_13 : decode cX8_birth 13 = .ok (.invokestatic 58, 3) := by decide +kernel
theorem dX8_birth_16 : decode cX8_birth 16 = .ok (.ifCond .ne 5, 3) := by decide +kernel
theorem dX8_birth_19 : decode cX8_birth 19 = .ok (.iconst (-1), 1) := by decide +kernel
theorem dX8_birth_20 : decode cX8_birth 20 = .ok (.ireturn, 1) := by decide +kernel
theorem dX8_birth_21 : decode cX8_birth 21 = .ok (.aload_n 0, 1) := by decide +kernel
theorem dX8_birth_22 : decode cX8_birth 22 = .ok (.getfield 12, 3) := by decide +kernel
theorem dX8_birth_25 : decode cX8_birth 25 = .ok (.getfield 77, 3) := by decide +kernel
theorem dX8_birth_28 : decode cX8_birth 28 = .ok (.iload_n 1, 1) := by decide +kernel
theorem dX8_birth_29 : decode cX8_birth 29 = .ok (.aaload, 1) := by decide +kernel
theorem dX8_birth_30 : decode cX8_birth 30 = .ok (.astore 4, 2) := by decide +kernel
theorem dX8_birth_32 : decode cX8_birth 32 = .ok (.aload 4, 2) := by decide +kernel
theorem dX8_birth_34 : decode cX8_birth 34 = .ok (.getfield 95, 3) := by decide +kernel
theorem dX8_birth_37 : decode cX8_birth 37 = .ok (.iload_n 2, 1) := by decide +kernel
theorem dX8_birth_38 : decode cX8_birth 38 = .ok (.if_icmp .ne 16, 3) := by decide +kernel
theorem dX8_birth_41 : decode cX8_birth 41 = .ok (.aload 4, 2) := by decide +kernel
theorem dX8_birth_43 : decode cX8_birth 43 = .ok (.getfield 98, 3) := by decide +kernel
theorem dX8_birth_46 : decode cX8_birth 46 = .ok (.iload_n 3, 1) := by decide +kernel
theorem dX8_birth_47 : decode cX8_birth 47 = .ok (.if_icmp .ne 7, 3) := by decide +kernel
theorem dX8_birth_50 : decode cX8_birth 50 = .ok (.iconst 1, 1) := by decide +kernel
theorem dX8_birth_51 : decode cX8_birth 51 = .ok (.goto 4, 3) := by decide +kernel
theorem dX8_birth_54 : decode cX8_birth 54 = .ok (.iconst 0, 1) := by decide +kernel
theorem dX8_birth_55 : decode cX8_birth 55 = .ok (.istore 5, 2) := by decide +kernel
theorem dX8_birth_57 : decode cX8_birth 57 = .ok (.aload 4, 2) := by decide +kernel
theorem dX8_birth_59 : decode cX8_birth 59 = .ok (.iload_n 2, 1) := by decide +kernel
theorem dX8_birth_60 : decode cX8_birth 60 = .ok (.putfield 95, 3) := by decide +kernel
theorem dX8_birth_63 : decode cX8_birth 63 = .ok (.aload 4, 2) := by decide +kernel
theorem dX8_birth_65 : decode cX8_birth 65 = .ok (.iload_n 3, 1) := by decide +kernel
theorem dX8_birth_66 : decode cX8_birth 66 = .ok (.putfield 98, 3) := by decide +kernel
theorem dX8_birth_69 : decode cX8_birth 69 = .ok (.iload 5, 2) := by decide +kernel
theorem dX8_birth_71 : decode cX8_birth 71 = .ok (.ifCond .eq 7, 3) := by decide +kernel
theorem dX8_birth_74 : decode cX8_birth 74 = .ok (.iconst 0, 1) := by decide +kernel
theorem dX8_birth_75 : decode cX8_birth 75 = .ok (.goto 4, 3) := by decide +kernel
theorem dX8_birth_78 : decode cX8_birth 78 = .ok (.iconst 1, 1) := by decide +kernel
theorem dX8_birth_79 : decode cX8_birth 79 = .ok (.ireturn, 1) := by decide +kernel
theorem dX8_law_0 : decode cX8_law 0 = .ok (.iload_n 1, 1) := by decide +kernel
theorem dX8_law_1 : decode cX8_law 1 = .ok (.ifCond .lt 32, 3) := by decide +kernel
theorem dX8_law_4 : decode cX8_law 4 = .ok (.iload_n 1, 1) := by decide +kernel
theorem dX8_law_5 : decode cX8_law 5 = .ok (.bipush 10, 2) := by decide +kernel
theorem dX8_law_7 : decode cX8_law 7 = .ok (.idiv, 1) := by decide +kernel
theorem dX8_law_8 : decode cX8_law 8 = .ok (.iconst 5, 1) := by decide +kernel
theorem dX8_law_9 : decode cX8_law 9 = .ok (.if_icmp .gt 24, 3) := by decide +kernel
theorem dX8_law_12 : decode cX8_law 12 = .ok (.iload_n 3, 1) := by decide +kernel
theorem dX8_law_13 : decode cX8_law 13 = .ok (.invokestatic 84, 3) := by decide +kernel
theorem dX8_law_16 : decode cX8_law 16 = .ok (.ifCond .eq 17, 3) := by decide +kernel
theorem dX8_law_19 : decode cX8_law 19 = .ok (.iload 4, 2) := by decide +kernel
theorem dX8_law_21 : decode cX8_law 21 = .ok (.iload_n 3, 1) := by decide +kernel
theorem dX8_law_22 : decode cX8_law 22 = .ok (.if_icmp .le 11, 3) := by decide +kernel
theorem dX8_law_25 : decode cX8_law 25 = .ok (.iload 4, 2) := by decide +kernel
theorem dX8_law_27 : decode cX8_law 27 = .ok (.sipush 200, 3) := by decide +kernel
theorem dX8_law_30 : decode cX8_law 30 = .ok (.if_icmp .le 5, 3) := by decide +kernel
theorem dX8_law_33 : decode cX8_law 33 = .ok (.iconst (-1), 1) := by decide +kernel
theorem dX8_law_34 : decode cX8_law 34 = .ok (.ireturn, 1) := by decide +kernel
theorem dX8_law_35 : decode cX8_law 35 = .ok (.iload_n 1, 1) := by decide +kernel
theorem dX8_law_36 : decode cX8_law 36 = .ok (.bipush 10, 2) := by decide +kernel
theorem dX8_law_38 : decode cX8_law 38 = .ok (.idiv, 1) := by decide +kernel
theorem dX8_law_39 : decode cX8_law 39 = .ok (.istore 5, 2) := by decide +kernel
theorem dX8_law_41 : decode cX8_law 41 = .ok (.iload_n 1, 1) := by decide +kernel
theorem dX8_law_42 : decode cX8_law 42 = .ok (.bipush 10, 2) := by decide +kernel
theorem dX8_law_44 : decode cX8_law 44 = .ok (.irem, 1) := by decide +kernel
theorem dX8_law_45 : decode cX8_law 45 = .ok (.iconst 1, 1) := by decide +kernel
theorem dX8_law_46 : decode cX8_law 46 = .ok (.isub, 1) := by decide +kernel
theorem dX8_law_47 : decode cX8_law 47 = .ok (.istore 6, 2) := by decide +kernel
theorem dX8_law_49 : decode cX8_law 49 = .ok (.iload 6, 2) := by decide +kernel
theorem dX8_law_51 : decode cX8_law 51 = .ok (.iconst (-1), 1) := by decide +kernel
theorem dX8_law_52 : decode cX8_law 52 = .ok (.if_icmp .eq 17, 3) := by decide +kernel
theorem dX8_law_55 : decode cX8_law 55 = .ok (.aload_n 0, 1) := by decide +kernel
theorem dX8_law_56 : decode cX8_law 56 = .ok (.getfield 12, 3) := by decide +kernel
theorem dX8_law_59 : decode cX8_law 59 = .ok (.iload 6, 2) := by decide +kernel
theorem dX8_law_61 : decode cX8_law 61 = .ok (.invokevirtual 101, 3) := by decide +kernel
theorem dX8_law_64 : decode cX8_law 64 = .ok (.ifCond .ne 5, 3) := by decide +kernel
theorem dX8_law_67 : decode cX8_law 67 = .ok (.iconst (-1), 1) := by decide +kernel
theorem dX8_law_68 : decode cX8_law 68 = .ok (.ireturn, 1) := by decide +kernel
theorem dX8_law_69 : decode cX8_law 69 = .ok (.aload_n 0, 1) := by decide +kernel
theorem dX8_law_70 : decode cX8_law 70 = .ok (.getfield 12, 3) := by decide +kernel
theorem dX8_law_73 : decode cX8_law 73 = .ok (.iload 5, 2) := by decide +kernel
theorem dX8_law_75 : decode cX8_law 75 = .ok (.iload_n 2, 1) := by decide +kernel
theorem dX8_law_76 : decode cX8_law 76 = .ok (.invokevirtual 104, 3) := by decide +kernel
theorem dX8_law_79 : decode cX8_law 79 = .ok (.ifCond .ne 5, 3) := by decide +kernel
theorem dX8_law_82 : decode cX8_law 82 = .ok (.iconst (-1), 1) := by decide +kernel
theorem dX8_law_83 : decode cX8_law 83 = .ok (.ireturn, 1) := by decide +kernel
theorem dX8_law_84 : decode cX8_law 84 = .ok (.aload_n 0, 1) := by decide +kernel
theorem dX8_law_85 : decode cX8_law 85 = .ok (.getfield 12, 3) := by decide +kernel
theorem dX8_law_88 : decode cX8_law 88 = .ok (.getfield 107, 3) := by decide +kernel
theorem dX8_law_91 : decode cX8_law 91 = .ok (.bipush 20, 2) := by decide +kernel
theorem dX8_law_93 : decode cX8_law 93 = .ok (.if_icmp .lt 6, 3) := by decide +kernel
theorem dX8_law_96 : decode cX8_law 96 = .ok (.bipush (-2), 2) := by decide +kernel
theorem dX8_law_98 : decode cX8_law 98 = .ok (.ireturn, 1) := by decide +kernel
theorem dX8_law_99 : decode cX8_law 99 = .ok (.aload_n 0, 1) := by decide +kernel
theorem dX8_law_100 : decode cX8_law 100 = .ok (.getfield 12, 3) := by decide +kernel
theorem dX8_law_103 : decode cX8_law 103 = .ok (.new 110, 3) := by decide +kernel
theorem dX8_law_106 : decode cX8_law 106 = .ok (.dup, 1) := by decide +kernel
theorem dX8_law_107 : decode cX8_law 107 = .ok (.aload_n 0, 1) := by decide +kernel
theorem dX8_law_108 : decode cX8_law 108 = .ok (.getfield 12, 3) := by decide +kernel
theorem dX8_law_111 : decode cX8_law 111 = .ok (.getfield 107, 3) := by decide +kernel
theorem dX8_law_114 : decode cX8_law 114 = .ok (.iload 5, 2) := by decide +kernel
theorem dX8_law_116 : decode cX8_law 116 = .ok (.iload 6, 2) := by decide +kernel
theorem dX8_law_118 : decode cX8_law 118 = .ok (.iload_n 2, 1) := by decide +kernel
theorem dX8_law_119 : decode cX8_law 119 = .ok (.iload_n 3, 1) := by decide +kernel
theorem dX8_law_120 : decode cX8_law 120 = .ok (.iload 4, 2) := by decide +kernel
theorem dX8_law_122 : decode cX8_law 122 = .ok (.invokespecial 112, 3) := by decide +kernel
theorem dX8_law_125 : decode cX8_law 125 = .ok (.invokevirtual 115, 3) := by decide +kernel
theorem dX8_law_128 : decode cX8_law 128 = .ok (.ireturn, 1) := by decide +kernel
theorem dX8_repeal_0 : decode cX8_repeal 0 = .ok (.aload_n 0, 1) := by decide +kernel
theorem dX8_repeal_1 : decode cX8_repeal 1 = .ok (.getfield 12, 3) := by decide +kernel
theorem dX8_repeal_4 : decode cX8_repeal 4 = .ok (.iload_n 1, 1) := by decide +kernel
theorem dX8_repeal_5 : decode cX8_repeal 5 = .ok (.invokevirtual 119, 3) := by decide +kernel
theorem dX8_repeal_8 : decode cX8_repeal 8 = .ok (.ifCond .ne 5, 3) := by decide +kernel
theorem dX8_repeal_11 : decode cX8_repeal 11 = .ok (.iconst (-1), 1) := by decide +kernel
theorem dX8_repeal_12 : decode cX8_repeal 12 = .ok (.ireturn, 1) := by decide +kernel
theorem dX8_repeal_13 : decode cX8_repeal 13 = .ok (.aload_n 0, 1) := by decide +kernel
theorem dX8_repeal_14 : decode cX8_repeal 14 = .ok (.getfield 12, 3) := by decide +kernel
theorem dX8_repeal_17 : decode cX8_repeal 17 = .ok (.getfield 122, 3) := by decide +kernel
theorem dX8_repeal_20 : decode cX8_repeal 20 = .ok (.iload_n 1, 1) := by decide +kernel
theorem dX8_repeal_21 : decode cX8_repeal 21 = .ok (.aaload, 1) := by decide +kernel
theorem dX8_repeal_22 : decode cX8_repeal 22 = .ok (.astore_n 3, 1) := by decide +kernel
theorem dX8_repeal_23 : decode cX8_repeal 23 = .ok (.iload_n 2, 1) := by decide +kernel
theorem dX8_repeal_24 : decode cX8_repeal 24 = .ok (.aload_n 3, 1) := by decide +kernel
theorem dX8_repeal_25 : decode cX8_repeal 25 = .ok (.getfield 126, 3) := by decide +kernel
theorem dX8_repeal_28 : decode cX8_repeal 28 = .ok (.if_icmp .le 11, 3) := by decide +kernel
theorem dX8_repeal_31 : decode cX8_repeal 31 = .ok (.iload_n 2, 1) := by decide +kernel
theorem dX8_repeal_32 : decode cX8_repeal 32 = .ok (.aload_n 3, 1) := by decide +kernel
theorem dX8_repeal_33 : decode cX8_repeal 33 = .ok (.getfield 129, 3) := by decide +kernel
theorem dX8_repeal_36 : decode cX8_repeal 36 = .ok (.if_icmp .le 5, 3) := by decide +kernel
theorem dX8_repeal_39 : decode cX8_repeal 39 = .ok (.iconst (-1), 1) := by decide +kernel
theorem dX8_repeal_40 : decode cX8_repeal 40 = .ok (.ireturn, 1) := by decide +kernel
theorem dX8_repeal_41 : decode cX8_repeal 41 = .ok (.aload_n 3, 1) := by decide +kernel
theorem dX8_repeal_42 : decode cX8_repeal 42 = .ok (.getfield 129, 3) := by decide +kernel
theorem dX8_repeal_45 : decode cX8_repeal 45 = .ok (.istore 4, 2) := by decide +kernel
theorem dX8_repeal_47 : decode cX8_repeal 47 = .ok (.aload_n 3, 1) := by decide +kernel
theorem dX8_repeal_48 : decode cX8_repeal 48 = .ok (.iload_n 2, 1) := by decide +kernel
theorem dX8_repeal_49 : decode cX8_repeal 49 = .ok (.putfield 129, 3) := by decide +kernel
theorem dX8_repeal_52 : decode cX8_repeal 52 = .ok (.iload 4, 2) := by decide +kernel
theorem dX8_repeal_54 : decode cX8_repeal 54 = .ok (.ireturn, 1) := by decide +kernel
theorem dX8_stone_0 : decode cX8_stone 0 = .ok (.aload_n 0, 1) := by decide +kernel
theorem dX8_stone_1 : decode cX8_stone 1 = .ok (.getfield 12, 3) := by decide +kernel
theorem dX8_stone_4 : decode cX8_stone 4 = .ok (.iload_n 1, 1) := by decide +kernel
theorem dX8_stone_5 : decode cX8_stone 5 = .ok (.invokevirtual 62, 3) := by decide +kernel
theorem dX8_stone_8 : decode cX8_stone 8 = .ok (.ifCond .eq 21, 3) := by decide +kernel
theorem dX8_stone_11 : decode cX8_stone 11 = .ok (.aload_n 0, 1) := by decide +kernel
theorem dX8_stone_12 : decode cX8_stone 12 = .ok (.getfield 12, 3) := by decide +kernel
theorem dX8_stone_15 : decode cX8_stone 15 = .ok (.iload_n 2, 1) := by decide +kernel
theorem dX8_stone_16 : decode cX8_stone 16 = .ok (.invokevirtual 101, 3) := by decide +kernel
theorem dX8_stone_19 : decode cX8_stone 19 = .ok (.ifCond .eq 10, 3) := by decide +kernel
theorem dX8_stone_22 : decode cX8_stone 22 = .ok (.iload_n 3, 1) := by decide +kernel
theorem dX8_stone_23 : decode cX8_stone 23 = .ok (.invokestatic 84, 3) := by decide +kernel
theorem dX8_stone_26 : decode cX8_stone 26 = .ok (.ifCond .ne 5, 3) := by decide +kernel
theorem dX8_stone_29 : decode cX8_stone 29 = .ok (.iconst (-1), 1) := by decide +kernel
theorem dX8_stone_30 : decode cX8_stone 30 = .ok (.ireturn, 1) := by decide +kernel
theorem dX8_stone_31 : decode cX8_stone 31 = .ok (.aload_n 0, 1) := by decide +kernel
theorem dX8_stone_32 : decode cX8_stone 32 = .ok (.getfield 12, 3) := by decide +kernel
theorem dX8_stone_35 : decode cX8_stone 35 = .ok (.getfield 132, 3) := by decide +kernel
theorem dX8_stone_38 : decode cX8_stone 38 = .ok (.iload_n 2, 1) := by decide +kernel
theorem dX8_stone_39 : decode cX8_stone 39 = .ok (.aaload, 1) := by decide +kernel
theorem dX8_stone_40 : decode cX8_stone 40 = .ok (.iload_n 3, 1) := by decide +kernel
theorem dX8_stone_41 : decode cX8_stone 41 = .ok (.invokevirtual 136, 3) := by decide +kernel
theorem dX8_stone_44 : decode cX8_stone 44 = .ok (.istore 4, 2) := by decide +kernel
theorem dX8_stone_46 : decode cX8_stone 46 = .ok (.iload 4, 2) := by decide +kernel
theorem dX8_stone_48 : decode cX8_stone 48 = .ok (.iconst (-1), 1) := by decide +kernel
theorem dX8_stone_49 : decode cX8_stone 49 = .ok (.if_icmp .eq 21, 3) := by decide +kernel
theorem dX8_stone_52 : decode cX8_stone 52 = .ok (.aload_n 0, 1) := by decide +kernel
theorem dX8_stone_53 : decode cX8_stone 53 = .ok (.getfield 12, 3) := by decide +kernel
theorem dX8_stone_56 : decode cX8_stone 56 = .ok (.getfield 77, 3) := by decide +kernel
theorem dX8_stone_59 : decode cX8_stone 59 = .ok (.iload_n 1, 1) := by decide +kernel
theorem dX8_stone_60 : decode cX8_stone 60 = .ok (.aaload, 1) := by decide +kernel
theorem dX8_stone_61 : decode cX8_stone 61 = .ok (.getfield 140, 3) := by decide +kernel
theorem dX8_stone_64 : decode cX8_stone 64 = .ok (.iload_n 3, 1) := by decide +kernel
theorem dX8_stone_65 : decode cX8_stone 65 = .ok (.baload, 1) := by decide +kernel
theorem dX8_stone_66 : decode cX8_stone 66 = .ok (.iconst (-1), 1) := by decide +kernel
theorem dX8_stone_67 : decode cX8_stone 67 = .ok (.if_icmp .eq 6, 3) := by decide +kernel
theorem dX8_stone_70 : decode cX8_stone 70 = .ok (.bipush (-3), 2) := by decide +kernel
theorem dX8_stone_72 : decode cX8_stone 72 = .ok (.ireturn, 1) := by decide +kernel
theorem dX8_stone_73 : decode cX8_stone 73 = .ok (.aload_n 0, 1) := by decide +kernel
theorem dX8_stone_74 : decode cX8_stone 74 = .ok (.getfield 12, 3) := by decide +kernel
theorem dX8_stone_77 : decode cX8_stone 77 = .ok (.iload_n 1, 1) := by decide +kernel
theorem dX8_stone_78 : decode cX8_stone 78 = .ok (.iload_n 2, 1) := by decide +kernel
theorem dX8_stone_79 : decode cX8_stone 79 = .ok (.iload_n 3, 1) := by decide +kernel
theorem dX8_stone_80 : decode cX8_stone 80 = .ok (.iload 4, 2) := by decide +kernel
theorem dX8_stone_82 : decode cX8_stone 82 = .ok (.invokevirtual 144, 3) := by decide +kernel
theorem dX8_stone_85 : decode cX8_stone 85 = .ok (.iload 4, 2) := by decide +kernel
theorem dX8_stone_87 : decode cX8_stone 87 = .ok (.ireturn, 1) := by decide +kernel
theorem dX8_empty_0 : decode cX8_empty 0 = .ok (.aload_n 0, 1) := by decide +kernel
theorem dX8_empty_1 : decode cX8_empty 1 = .ok (.getfield 12, 3) := by decide +kernel
theorem dX8_empty_4 : decode cX8_empty 4 = .ok (.iload_n 1, 1) := by decide +kernel
theorem dX8_empty_5 : decode cX8_empty 5 = .ok (.iload_n 2, 1) := by decide +kernel
theorem dX8_empty_6 : decode cX8_empty 6 = .ok (.iload_n 3, 1) := by decide +kernel
theorem dX8_empty_7 : decode cX8_empty 7 = .ok (.invokevirtual 147, 3) := by decide +kernel
theorem dX8_empty_10 : decode cX8_empty 10 = .ok (.ifCond .ne 5, 3) := by decide +kernel
theorem dX8_empty_13 : decode cX8_empty 13 = .ok (.iconst (-1), 1) := by decide +kernel
theorem dX8_empty_14 : decode cX8_empty 14 = .ok (.ireturn, 1) := by decide +kernel
theorem dX8_empty_15 : decode cX8_empty 15 = .ok (.aload_n 0, 1) := by decide +kernel
theorem dX8_empty_16 : decode cX8_empty 16 = .ok (.getfield 12, 3) := by decide +kernel
theorem dX8_empty_19 : decode cX8_empty 19 = .ok (.getfield 132, 3) := by decide +kernel
theorem dX8_empty_22 : decode cX8_empty 22 = .ok (.iload_n 1, 1) := by decide +kernel
theorem dX8_empty_23 : decode cX8_empty 23 = .ok (.aaload, 1) := by decide +kernel
theorem dX8_empty_24 : decode cX8_empty 24 = .ok (.iload_n 2, 1) := by decide +kernel
theorem dX8_empty_25 : decode cX8_empty 25 = .ok (.iload_n 3, 1) := by decide +kernel
theorem dX8_empty_26 : decode cX8_empty 26 = .ok (.invokevirtual 151, 3) := by decide +kernel
theorem dX8_empty_29 : decode cX8_empty 29 = .ok (.istore 4, 2) := by decide +kernel
theorem dX8_empty_31 : decode cX8_empty 31 = .ok (.iload 4, 2) := by decide +kernel
theorem dX8_empty_33 : decode cX8_empty 33 = .ok (.iconst (-1), 1) := by decide +kernel
theorem dX8_empty_34 : decode cX8_empty 34 = .ok (.if_icmp .ne 6, 3) := by decide +kernel
theorem dX8_empty_37 : decode cX8_empty 37 = .ok (.bipush (-3), 2) := by decide +kernel
theorem dX8_empty_39 : decode cX8_empty 39 = .ok (.ireturn, 1) := by decide +kernel
theorem dX8_empty_40 : decode cX8_empty 40 = .ok (.aload_n 0, 1) := by decide +kernel
theorem dX8_empty_41 : decode cX8_empty 41 = .ok (.getfield 12, 3) := by decide +kernel
theorem dX8_empty_44 : decode cX8_empty 44 = .ok (.iload 4, 2) := by decide +kernel
theorem dX8_empty_46 : decode cX8_empty 46 = .ok (.iload_n 1, 1) := by decide +kernel
theorem dX8_empty_47 : decode cX8_empty 47 = .ok (.iload_n 2, 1) := by decide +kernel
theorem dX8_empty_48 : decode cX8_empty 48 = .ok (.iload_n 3, 1) := by decide +kernel
theorem dX8_empty_49 : decode cX8_empty 49 = .ok (.invokevirtual 155, 3) := by decide +kernel
theorem dX8_empty_52 : decode cX8_empty 52 = .ok (.iload 4, 2) := by decide +kernel
theorem dX8_empty_54 : decode cX8_empty 54 = .ok (.ireturn, 1) := by decide +kernel
theorem dX8_annul_0 : decode cX8_annul 0 = .ok (.aload_n 0, 1) := by decide +kernel
theorem dX8_annul_1 : decode cX8_annul 1 = .ok (.getfield 12, 3) := by decide +kernel
theorem dX8_annul_4 : decode cX8_annul 4 = .ok (.iload_n 1, 1) := by decide +kernel
theorem dX8_annul_5 : decode cX8_annul 5 = .ok (.iload_n 2, 1) := by decide +kernel
theorem dX8_annul_6 : decode cX8_annul 6 = .ok (.iload_n 3, 1) := by decide +kernel
theorem dX8_annul_7 : decode cX8_annul 7 = .ok (.invokevirtual 147, 3) := by decide +kernel
theorem dX8_annul_10 : decode cX8_annul 10 = .ok (.ifCond .ne 5, 3) := by decide +kernel
theorem dX8_annul_13 : decode cX8_annul 13 = .ok (.iconst (-1), 1) := by decide +kernel
theorem dX8_annul_14 : decode cX8_annul 14 = .ok (.ireturn, 1) := by decide +kernel
theorem dX8_annul_15 : decode cX8_annul 15 = .ok (.aload_n 0, 1) := by decide +kernel
theorem dX8_annul_16 : decode cX8_annul 16 = .ok (.getfield 12, 3) := by decide +kernel
theorem dX8_annul_19 : decode cX8_annul 19 = .ok (.getfield 132, 3) := by decide +kernel
theorem dX8_annul_22 : decode cX8_annul 22 = .ok (.iload_n 1, 1) := by decide +kernel
theorem dX8_annul_23 : decode cX8_annul 23 = .ok (.aaload, 1) := by decide +kernel
theorem dX8_annul_24 : decode cX8_annul 24 = .ok (.iload_n 2, 1) := by decide +kernel
theorem dX8_annul_25 : decode cX8_annul 25 = .ok (.iload_n 3, 1) := by decide +kernel
theorem dX8_annul_26 : decode cX8_annul 26 = .ok (.invokevirtual 151, 3) := by decide +kernel
theorem dX8_annul_29 : decode cX8_annul 29 = .ok (.istore 5, 2) := by decide +kernel
theorem dX8_annul_31 : decode cX8_annul 31 = .ok (.iload 5, 2) := by decide +kernel
theorem dX8_annul_33 : decode cX8_annul 33 = .ok (.iconst (-1), 1) := by decide +kernel
theorem dX8_annul_34 : decode cX8_annul 34 = .ok (.if_icmp .ne 6, 3) := by decide +kernel
theorem dX8_annul_37 : decode cX8_annul 37 = .ok (.bipush (-3), 2) := by decide +kernel
theorem dX8_annul_39 : decode cX8_annul 39 = .ok (.ireturn, 1) := by decide +kernel
theorem dX8_annul_40 : decode cX8_annul 40 = .ok (.aload_n 0, 1) := by decide +kernel
theorem dX8_annul_41 : decode cX8_annul 41 = .ok (.getfield 12, 3) := by decide +kernel
theorem dX8_annul_44 : decode cX8_annul 44 = .ok (.getfield 132, 3) := by decide +kernel
theorem dX8_annul_47 : decode cX8_annul 47 = .ok (.iload_n 1, 1) := by decide +kernel
theorem dX8_annul_48 : decode cX8_annul 48 = .ok (.aaload, 1) := by decide +kernel
theorem dX8_annul_49 : decode cX8_annul 49 = .ok (.iload_n 2, 1) := by decide +kernel
theorem dX8_annul_50 : decode cX8_annul 50 = .ok (.iload_n 3, 1) := by decide +kernel
theorem dX8_annul_51 : decode cX8_annul 51 = .ok (.invokevirtual 158, 3) := by decide +kernel
theorem dX8_annul_54 : decode cX8_annul 54 = .ok (.iload 4, 2) := by decide +kernel
theorem dX8_annul_56 : decode cX8_annul 56 = .ok (.if_icmp .ne 5, 3) := by decide +kernel
theorem dX8_annul_59 : decode cX8_annul 59 = .ok (.iconst 0, 1) := by decide +kernel
theorem dX8_annul_60 : decode cX8_annul 60 = .ok (.ireturn, 1) := by decide +kernel
theorem dX8_annul_61 : decode cX8_annul 61 = .ok (.aload_n 0, 1) := by decide +kernel
theorem dX8_annul_62 : decode cX8_annul 62 = .ok (.getfield 12, 3) := by decide +kernel
theorem dX8_annul_65 : decode cX8_annul 65 = .ok (.iload 5, 2) := by decide +kernel
theorem dX8_annul_67 : decode cX8_annul 67 = .ok (.iload_n 1, 1) := by decide +kernel
theorem dX8_annul_68 : decode cX8_annul 68 = .ok (.iload_n 2, 1) := by decide +kernel
theorem dX8_annul_69 : decode cX8_annul 69 = .ok (.iload_n 3, 1) := by decide +kernel
theorem dX8_annul_70 : decode cX8_annul 70 = .ok (.iload 4, 2) := by decide +kernel
theorem dX8_annul_72 : decode cX8_annul 72 = .ok (.invokevirtual 161, 3) := by decide +kernel
theorem dX8_annul_75 : decode cX8_annul 75 = .ok (.iconst 1, 1) := by decide +kernel
theorem dX8_annul_76 : decode cX8_annul 76 = .ok (.ireturn, 1) := by decide +kernel
theorem dX8_seat_0 : decode cX8_seat 0 = .ok (.aload_n 0, 1) := by decide +kernel
theorem dX8_seat_1 : decode cX8_seat 1 = .ok (.getfield 12, 3) := by decide +kernel
theorem dX8_seat_4 : decode cX8_seat 4 = .ok (.iload_n 1, 1) := by decide +kernel
theorem dX8_seat_5 : decode cX8_seat 5 = .ok (.iload_n 2, 1) := by decide +kernel
theorem dX8_seat_6 : decode cX8_seat 6 = .ok (.iload_n 3, 1) := by decide +kernel
theorem dX8_seat_7 : decode cX8_seat 7 = .ok (.invokevirtual 147, 3) := by decide +kernel
theorem dX8_seat_10 : decode cX8_seat 10 = .ok (.ifCond .ne 5, 3) := by decide +kernel
theorem dX8_seat_13 : decode cX8_seat 13 = .ok (.iconst (-1), 1) := by decide +kernel
theorem dX8_seat_14 : decode cX8_seat 14 = .ok (.ireturn, 1) := by decide +kernel
theorem dX8_seat_15 : decode cX8_seat 15 = .ok (.aload_n 0, 1) := by decide +kernel
theorem dX8_seat_16 : decode cX8_seat 16 = .ok (.getfield 12, 3) := by decide +kernel
theorem dX8_seat_19 : decode cX8_seat 19 = .ok (.getfield 132, 3) := by decide +kernel
theorem dX8_seat_22 : decode cX8_seat 22 = .ok (.iload_n 1, 1) := by decide +kernel
theorem dX8_seat_23 : decode cX8_seat 23 = .ok (.aaload, 1) := by decide +kernel
theorem dX8_seat_24 : decode cX8_seat 24 = .ok (.iload_n 2, 1) := by decide +kernel
theorem dX8_seat_25 : decode cX8_seat 25 = .ok (.iload_n 3, 1) := by decide +kernel
theorem dX8_seat_26 : decode cX8_seat 26 = .ok (.invokevirtual 165, 3) := by decide +kernel
theorem dX8_seat_29 : decode cX8_seat 29 = .ok (.istore 4, 2) := by decide +kernel
theorem dX8_seat_31 : decode cX8_seat 31 = .ok (.iload 4, 2) := by decide +kernel
theorem dX8_seat_33 : decode cX8_seat 33 = .ok (.iconst (-1), 1) := by decide +kernel
theorem dX8_seat_34 : decode cX8_seat 34 = .ok (.if_icmp .ne 8, 3) := by decide +kernel
theorem dX8_seat_37 : decode cX8_seat 37 = .ok (.bipush (-2), 2) := by decide +kernel
theorem dX8_seat_39 : decode cX8_seat 39 = .ok (.goto 5, 3) := by decide +kernel
theorem dX8_seat_42 : decode cX8_seat 42 = .ok (.iload 4, 2) := by decide +kernel
theorem dX8_seat_44 : decode cX8_seat 44 = .ok (.ireturn, 1) := by decide +kernel
theorem dX8_holds_0 : decode cX8_holds 0 = .ok (.aload_n 0, 1) := by decide +kernel
theorem dX8_holds_1 : decode cX8_holds 1 = .ok (.getfield 12, 3) := by decide +kernel
theorem dX8_holds_4 : decode cX8_holds 4 = .ok (.iload_n 1, 1) := by decide +kernel
theorem dX8_holds_5 : decode cX8_holds 5 = .ok (.invokevirtual 62, 3) := by decide +kernel
theorem dX8_holds_8 : decode cX8_holds 8 = .ok (.ifCond .eq 10, 3) := by decide +kernel
theorem dX8_holds_11 : decode cX8_holds 11 = .ok (.iload_n 2, 1) := by decide +kernel
theorem dX8_holds_12 : decode cX8_holds 12 = .ok (.invokestatic 84, 3) := by decide +kernel
theorem dX8_holds_15 : decode cX8_holds 15 = .ok (.ifCond .ne 5, 3) := by decide +kernel
theorem dX8_holds_18 : decode cX8_holds 18 = .ok (.iconst (-1), 1) := by decide +kernel
theorem dX8_holds_19 : decode cX8_holds 19 = .ok (.ireturn, 1) := by decide +kernel
theorem dX8_holds_20 : decode cX8_holds 20 = .ok (.aload_n 0, 1) := by decide +kernel
theorem dX8_holds_21 : decode cX8_holds 21 = .ok (.getfield 12, 3) := by decide +kernel
theorem dX8_holds_24 : decode cX8_holds 24 = .ok (.getfield 77, 3) := by decide +kernel
theorem dX8_holds_27 : decode cX8_holds 27 = .ok (.iload_n 1, 1) := by decide +kernel
theorem dX8_holds_28 : decode cX8_holds 28 = .ok (.aaload, 1) := by decide +kernel
theorem dX8_holds_29 : decode cX8_holds 29 = .ok (.getfield 140, 3) := by decide +kernel
theorem dX8_holds_32 : decode cX8_holds 32 = .ok (.iload_n 2, 1) := by decide +kernel
theorem dX8_holds_33 : decode cX8_holds 33 = .ok (.baload, 1) := by decide +kernel
theorem dX8_holds_34 : decode cX8_holds 34 = .ok (.istore_n 3, 1) := by decide +kernel
theorem dX8_holds_35 : decode cX8_holds 35 = .ok (.iload_n 3, 1) := by decide +kernel
theorem dX8_holds_36 : decode cX8_holds 36 = .ok (.iconst (-1), 1) := by decide +kernel
theorem dX8_holds_37 : decode cX8_holds 37 = .ok (.if_icmp .ne 8, 3) := by decide +kernel
theorem dX8_holds_40 : decode cX8_holds 40 = .ok (.bipush (-2), 2) := by decide +kernel
theorem dX8_holds_42 : decode cX8_holds 42 = .ok (.goto 7, 3) := by decide +kernel
theorem dX8_holds_45 : decode cX8_holds 45 = .ok (.iload_n 3, 1) := by decide +kernel
theorem dX8_holds_46 : decode cX8_holds 46 = .ok (.bipush 100, 2) := by decide +kernel
theorem dX8_holds_48 : decode cX8_holds 48 = .ok (.irem, 1) := by decide +kernel
theorem dX8_holds_49 : decode cX8_holds 49 = .ok (.ireturn, 1) := by decide +kernel
theorem dX8_held_0 : decode cX8_held 0 = .ok (.aload_n 0, 1) := by decide +kernel
theorem dX8_held_1 : decode cX8_held 1 = .ok (.getfield 12, 3) := by decide +kernel
theorem dX8_held_4 : decode cX8_held 4 = .ok (.iload_n 1, 1) := by decide +kernel
theorem dX8_held_5 : decode cX8_held 5 = .ok (.invokevirtual 62, 3) := by decide +kernel
theorem dX8_held_8 : decode cX8_held 8 = .ok (.ifCond .eq 10, 3) := by decide +kernel
theorem dX8_held_11 : decode cX8_held 11 = .ok (.iload_n 3, 1) := by decide +kernel
theorem dX8_held_12 : decode cX8_held 12 = .ok (.invokestatic 84, 3) := by decide +kernel
theorem dX8_held_15 : decode cX8_held 15 = .ok (.ifCond .ne 5, 3) := by decide +kernel
theorem dX8_held_18 : decode cX8_held 18 = .ok (.iconst (-1), 1) := by decide +kernel
theorem dX8_held_19 : decode cX8_held 19 = .ok (.ireturn, 1) := by decide +kernel
theorem dX8_held_20 : decode cX8_held 20 = .ok (.iload_n 2, 1) := by decide +kernel
theorem dX8_held_21 : decode cX8_held 21 = .ok (.iconst (-1), 1) := by decide +kernel
theorem dX8_held_22 : decode cX8_held 22 = .ok (.if_icmp .eq 16, 3) := by decide +kernel
theorem dX8_held_25 : decode cX8_held 25 = .ok (.aload_n 0, 1) := by decide +kernel
theorem dX8_held_26 : decode cX8_held 26 = .ok (.getfield 12, 3) := by decide +kernel
theorem dX8_held_29 : decode cX8_held 29 = .ok (.iload_n 2, 1) := by decide +kernel
theorem dX8_held_30 : decode cX8_held 30 = .ok (.invokevirtual 101, 3) := by decide +kernel
theorem dX8_held_33 : decode cX8_held 33 = .ok (.ifCond .ne 5, 3) := by decide +kernel
theorem dX8_held_36 : decode cX8_held 36 = .ok (.iconst (-1), 1) := by decide +kernel
theorem dX8_held_37 : decode cX8_held 37 = .ok (.ireturn, 1) := by decide +kernel
theorem dX8_held_38 : decode cX8_held 38 = .ok (.aload_n 0, 1) := by decide +kernel
theorem dX8_held_39 : decode cX8_held 39 = .ok (.getfield 12, 3) := by decide +kernel
theorem dX8_held_42 : decode cX8_held 42 = .ok (.getfield 77, 3) := by decide +kernel
theorem dX8_held_45 : decode cX8_held 45 = .ok (.iload_n 1, 1) := by decide +kernel
theorem dX8_held_46 : decode cX8_held 46 = .ok (.aaload, 1) := by decide +kernel
theorem dX8_held_47 : decode cX8_held 47 = .ok (.iload_n 2, 1) := by decide +kernel
theorem dX8_held_48 : decode cX8_held 48 = .ok (.iload_n 3, 1) := by decide +kernel
theorem dX8_held_49 : decode cX8_held 49 = .ok (.invokevirtual 168, 3) := by decide +kernel
theorem dX8_held_52 : decode cX8_held 52 = .ok (.ireturn, 1) := by decide +kernel
theorem dX8_could_0 : decode cX8_could 0 = .ok (.aload_n 0, 1) := by decide +kernel
theorem dX8_could_1 : decode cX8_could 1 = .ok (.getfield 12, 3) := by decide +kernel
theorem dX8_could_4 : decode cX8_could 4 = .ok (.iload_n 1, 1) := by decide +kernel
theorem dX8_could_5 : decode cX8_could 5 = .ok (.invokevirtual 62, 3) := by decide +kernel
theorem dX8_could_8 : decode cX8_could 8 = .ok (.ifCond .eq 21, 3) := by decide +kernel
theorem dX8_could_11 : decode cX8_could 11 = .ok (.aload_n 0, 1) := by decide +kernel
theorem dX8_could_12 : decode cX8_could 12 = .ok (.getfield 12, 3) := by decide +kernel
theorem dX8_could_15 : decode cX8_could 15 = .ok (.iload_n 2, 1) := by decide +kernel
theorem dX8_could_16 : decode cX8_could 16 = .ok (.invokevirtual 101, 3) := by decide +kernel
theorem dX8_could_19 : decode cX8_could 19 = .ok (.ifCond .eq 10, 3) := by decide +kernel
theorem dX8_could_22 : decode cX8_could 22 = .ok (.iload_n 3, 1) := by decide +kernel
theorem dX8_could_23 : decode cX8_could 23 = .ok (.invokestatic 84, 3) := by decide +kernel
theorem dX8_could_26 : decode cX8_could 26 = .ok (.ifCond .ne 5, 3) := by decide +kernel
theorem dX8_could_29 : decode cX8_could 29 = .ok (.iconst (-1), 1) := by decide +kernel
theorem dX8_could_30 : decode cX8_could 30 = .ok (.ireturn, 1) := by decide +kernel
theorem dX8_could_31 : decode cX8_could 31 = .ok (.iload 4, 2) := by decide +kernel
theorem dX8_could_33 : decode cX8_could 33 = .ok (.ifCond .ne 14, 3) := by decide +kernel
theorem dX8_could_36 : decode cX8_could 36 = .ok (.aload_n 0, 1) := by decide +kernel
theorem dX8_could_37 : decode cX8_could 37 = .ok (.getfield 12, 3) := by decide +kernel
theorem dX8_could_40 : decode cX8_could 40 = .ok (.iload_n 1, 1) := by decide +kernel
theorem dX8_could_41 : decode cX8_could 41 = .ok (.iload_n 2, 1) := by decide +kernel
theorem dX8_could_42 : decode cX8_could 42 = .ok (.iload_n 3, 1) := by decide +kernel
theorem dX8_could_43 : decode cX8_could 43 = .ok (.invokevirtual 171, 3) := by decide +kernel
theorem dX8_could_46 : decode cX8_could 46 = .ok (.ireturn, 1) := by decide +kernel
theorem dX8_could_47 : decode cX8_could 47 = .ok (.iload 4, 2) := by decide +kernel
theorem dX8_could_49 : decode cX8_could 49 = .ok (.iconst 1, 1) := by decide +kernel
theorem dX8_could_50 : decode cX8_could 50 = .ok (.if_icmp .ne 17, 3) := by decide +kernel
theorem dX8_could_53 : decode cX8_could 53 = .ok (.aload_n 0, 1) := by decide +kernel
theorem dX8_could_54 : decode cX8_could 54 = .ok (.getfield 12, 3) := by decide +kernel
theorem dX8_could_57 : decode cX8_could 57 = .ok (.iload_n 1, 1) := by decide +kernel
theorem dX8_could_58 : decode cX8_could 58 = .ok (.iload_n 2, 1) := by decide +kernel
theorem dX8_could_59 : decode cX8_could 59 = .ok (.iload_n 3, 1) := by decide +kernel
theorem dX8_could_60 : decode cX8_could 60 = .ok (.iconst 1, 1) := by decide +kernel
theorem dX8_could_61 : decode cX8_could 61 = .ok (.invokevirtual 175, 3) := by decide +kernel
theorem dX8_could_64 : decode cX8_could 64 = .ok (.goto 4, 3) := by decide +kernel
theorem dX8_could_67 : decode cX8_could 67 = .ok (.iconst (-1), 1) := by decide +kernel
theorem dX8_could_68 : decode cX8_could 68 = .ok (.ireturn, 1) := by decide +kernel
theorem dX8_first_0 : decode cX8_first 0 = .ok (.aload_n 0, 1) := by decide +kernel
theorem dX8_first_1 : decode cX8_first 1 = .ok (.getfield 12, 3) := by decide +kernel
theorem dX8_first_4 : decode cX8_first 4 = .ok (.iload_n 1, 1) := by decide +kernel
theorem dX8_first_5 : decode cX8_first 5 = .ok (.invokevirtual 62, 3) := by decide +kernel
theorem dX8_first_8 : decode cX8_first 8 = .ok (.ifCond .eq 21, 3) := by decide +kernel
theorem dX8_first_11 : decode cX8_first 11 = .ok (.aload_n 0, 1) := by decide +kernel
theorem dX8_first_12 : decode cX8_first 12 = .ok (.getfield 12, 3) := by decide +kernel
theorem dX8_first_15 : decode cX8_first 15 = .ok (.iload_n 2, 1) := by decide +kernel
theorem dX8_first_16 : decode cX8_first 16 = .ok (.invokevirtual 101, 3) := by decide +kernel
theorem dX8_first_19 : decode cX8_first 19 = .ok (.ifCond .eq 10, 3) := by decide +kernel
theorem dX8_first_22 : decode cX8_first 22 = .ok (.iload_n 3, 1) := by decide +kernel
theorem dX8_first_23 : decode cX8_first 23 = .ok (.invokestatic 84, 3) := by decide +kernel
theorem dX8_first_26 : decode cX8_first 26 = .ok (.ifCond .ne 5, 3) := by decide +kernel
theorem dX8_first_29 : decode cX8_first 29 = .ok (.iconst (-1), 1) := by decide +kernel
theorem dX8_first_30 : decode cX8_first 30 = .ok (.ireturn, 1) := by decide +kernel
theorem dX8_first_31 : decode cX8_first 31 = .ok (.iload 4, 2) := by decide +kernel
theorem dX8_first_33 : decode cX8_first 33 = .ok (.ifCond .eq 7, 3) := by decide +kernel
theorem dX8_first_36 : decode cX8_first 36 = .ok (.iconst 2, 1) := by decide +kernel
theorem dX8_first_37 : decode cX8_first 37 = .ok (.goto 4, 3) := by decide +kernel
theorem dX8_first_40 : decode cX8_first 40 = .ok (.iconst 1, 1) := by decide +kernel
theorem dX8_first_41 : decode cX8_first 41 = .ok (.istore 5, 2) := by decide +kernel
theorem dX8_first_43 : decode cX8_first 43 = .ok (.iload_n 3, 1) := by decide +kernel
theorem dX8_first_44 : decode cX8_first 44 = .ok (.istore 6, 2) := by decide +kernel
theorem dX8_first_46 : decode cX8_first 46 = .ok (.iload 6, 2) := by decide +kernel
theorem dX8_first_48 : decode cX8_first 48 = .ok (.sipush 200, 3) := by decide +kernel
theorem dX8_first_51 : decode cX8_first 51 = .ok (.if_icmp .ge 28, 3) := by decide +kernel
theorem dX8_first_54 : decode cX8_first 54 = .ok (.aload_n 0, 1) := by decide +kernel
theorem dX8_first_55 : decode cX8_first 55 = .ok (.getfield 12, 3) := by decide +kernel
theorem dX8_first_58 : decode cX8_first 58 = .ok (.iload_n 1, 1) := by decide +kernel
theorem dX8_first_59 : decode cX8_first 59 = .ok (.iload_n 2, 1) := by decide +kernel
theorem dX8_first_60 : decode cX8_first 60 = .ok (.iload 6, 2) := by decide +kernel
theorem dX8_first_62 : decode cX8_first 62 = .ok (.invokevirtual 171, 3) := by decide +kernel
theorem dX8_first_65 : decode cX8_first 65 = .ok (.iload 5, 2) := by decide +kernel
theorem dX8_first_67 : decode cX8_first 67 = .ok (.if_icmp .lt 6, 3) := by decide +kernel
theorem dX8_first_70 : decode cX8_first 70 = .ok (.iload 6, 2) := by decide +kernel
theorem dX8_first_72 : decode cX8_first 72 = .ok (.ireturn, 1) := by decide +kernel
theorem dX8_first_73 : decode cX8_first 73 = .ok (.iinc 6 1, 3) := by decide +kernel
theorem dX8_first_76 : decode cX8_first 76 = .ok (.goto (-30), 3) := by decide +kernel
theorem dX8_first_79 : decode cX8_first 79 = .ok (.bipush (-2), 2) := by decide +kernel
theorem dX8_first_81 : decode cX8_first 81 = .ok (.ireturn, 1) := by decide +kernel
theorem dX8_who_0 : decode cX8_who 0 = .ok (.aload_n 0, 1) := by decide +kernel
theorem dX8_who_1 : decode cX8_who 1 = .ok (.getfield 12, 3) := by decide +kernel
theorem dX8_who_4 : decode cX8_who 4 = .ok (.iload_n 1, 1) := by decide +kernel
theorem dX8_who_5 : decode cX8_who 5 = .ok (.invokevirtual 101, 3) := by decide +kernel
theorem dX8_who_8 : decode cX8_who 8 = .ok (.ifCond .eq 10, 3) := by decide +kernel
theorem dX8_who_11 : decode cX8_who 11 = .ok (.iload_n 2, 1) := by decide +kernel
theorem dX8_who_12 : decode cX8_who 12 = .ok (.invokestatic 84, 3) := by decide +kernel
theorem dX8_who_15 : decode cX8_who 15 = .ok (.ifCond .ne 5, 3) := by decide +kernel
theorem dX8_who_18 : decode cX8_who 18 = .ok (.iconst (-1), 1) := by decide +kernel
theorem dX8_who_19 : decode cX8_who 19 = .ok (.ireturn, 1) := by decide +kernel
theorem dX8_who_20 : decode cX8_who 20 = .ok (.iload_n 3, 1) := by decide +kernel
theorem dX8_who_21 : decode cX8_who 21 = .ok (.ifCond .eq 7, 3) := by decide +kernel
theorem dX8_who_24 : decode cX8_who 24 = .ok (.iconst 2, 1) := by decide +kernel
theorem dX8_who_25 : decode cX8_who 25 = .ok (.goto 4, 3) := by decide +kernel
theorem dX8_who_28 : decode cX8_who 28 = .ok (.iconst 1, 1) := by decide +kernel
theorem dX8_who_29 : decode cX8_who 29 = .ok (.istore 4, 2) := by decide +kernel
theorem dX8_who_31 : decode cX8_who 31 = .ok (.iconst 0, 1) := by decide +kernel
theorem dX8_who_32 : decode cX8_who 32 = .ok (.istore 5, 2) := by decide +kernel
theorem dX8_who_34 : decode cX8_who 34 = .ok (.iconst 0, 1) := by decide +kernel
theorem dX8_who_35 : decode cX8_who 35 = .ok (.istore 6, 2) := by decide +kernel
theorem dX8_who_37 : decode cX8_who 37 = .ok (.iload 6, 2) := by decide +kernel
theorem dX8_who_39 : decode cX8_who 39 = .ok (.aload_n 0, 1) := by decide +kernel
theorem dX8_who_40 : decode cX8_who 40 = .ok (.getfield 12, 3) := by decide +kernel
theorem dX8_who_43 : decode cX8_who 43 = .ok (.getfield 65, 3) := by decide +kernel
theorem dX8_who_46 : decode cX8_who 46 = .ok (.if_icmp .ge 28, 3) := by decide +kernel
theorem dX8_who_49 : decode cX8_who 49 = .ok (.aload_n 0, 1) := by decide +kernel
theorem dX8_who_50 : decode cX8_who 50 = .ok (.getfield 12, 3) := by decide +kernel
theorem dX8_who_53 : decode cX8_who 53 = .ok (.iload 6, 2) := by decide +kernel
theorem dX8_who_55 : decode cX8_who 55 = .ok (.iload_n 1, 1) := by decide +kernel
theorem dX8_who_56 : decode cX8_who 56 = .ok (.iload_n 2, 1) := by decide +kernel
theorem dX8_who_57 : decode cX8_who 57 = .ok (.invokevirtual 171, 3) := by decide +kernel
theorem dX8_who_60 : decode cX8_who 60 = .ok (.iload 4, 2) := by decide +kernel
theorem dX8_who_62 : decode cX8_who 62 = .ok (.if_icmp .lt 6, 3) := by decide +kernel
theorem dX8_who_65 : decode cX8_who 65 = .ok (.iinc 5 1, 3) := by decide +kernel
theorem dX8_who_68 : decode cX8_who 68 = .ok (.iinc 6 1, 3) := by decide +kernel
theorem dX8_who_71 : decode cX8_who 71 = .ok (.goto (-34), 3) := by decide +kernel
theorem dX8_who_74 : decode cX8_who 74 = .ok (.iload 5, 2) := by decide +kernel
theorem dX8_who_76 : decode cX8_who 76 = .ok (.ireturn, 1) := by decide +kernel
theorem dX8_breaches_0 : decode cX8_breaches 0 = .ok (.iconst 0, 1) := by decide +kernel
theorem dX8_breaches_1 : decode cX8_breaches 1 = .ok (.istore_n 1, 1) := by decide +kernel
theorem dX8_breaches_2 : decode cX8_breaches 2 = .ok (.iconst 0, 1) := by decide +kernel
theorem dX8_breaches_3 : decode cX8_breaches 3 = .ok (.istore_n 2, 1) := by decide +kernel
theorem dX8_breaches_4 : decode cX8_breaches 4 = .ok (.iload_n 2, 1) := by decide +kernel
theorem dX8_breaches_5 : decode cX8_breaches 5 = .ok (.sipush 200, 3) := by decide +kernel
theorem dX8_breaches_8 : decode cX8_breaches 8 = .ok (.if_icmp .ge 40, 3) := by decide +kernel
theorem dX8_breaches_11 : decode cX8_breaches 11 = .ok (.iconst 0, 1) := by decide +kernel
theorem dX8_breaches_12 : decode cX8_breaches 12 = .ok (.istore_n 3, 1) := by decide +kernel
theorem dX8_breaches_13 : decode cX8_breaches 13 = .ok (.iload_n 3, 1) := by decide +kernel
theorem dX8_breaches_14 : decode cX8_breaches 14 = .ok (.aload_n 0, 1) := by decide +kernel
theorem dX8_breaches_15 : decode cX8_breaches 15 = .ok (.getfield 12, 3) := by decide +kernel
theorem dX8_breaches_18 : decode cX8_breaches 18 = .ok (.getfield 41, 3) := by decide +kernel
theorem dX8_breaches_21 : decode cX8_breaches 21 = .ok (.if_icmp .ge 21, 3) := by decide +kernel
theorem dX8_breaches_24 : decode cX8_breaches 24 = .ok (.iload_n 1, 1) := by decide +kernel
theorem dX8_breaches_25 : decode cX8_breaches 25 = .ok (.aload_n 0, 1) := by decide +kernel
theorem dX8_breaches_26 : decode cX8_breaches 26 = .ok (.getfield 12, 3) := by decide +kernel
theorem dX8_breaches_29 : decode cX8_breaches 29 = .ok (.iload_n 3, 1) := by decide +kernel
theorem dX8_breaches_30 : decode cX8_breaches 30 = .ok (.iload_n 2, 1) := by decide +kernel
theorem dX8_breaches_31 : decode cX8_breaches 31 = .ok (.invokevirtual 179, 3) := by decide +kernel
theorem dX8_breaches_34 : decode cX8_breaches 34 = .ok (.iadd, 1) := by decide +kernel
theorem dX8_breaches_35 : decode cX8_breaches 35 = .ok (.istore_n 1, 1) := by decide +kernel
theorem dX8_breaches_36 : decode cX8_breaches 36 = .ok (.iinc 3 1, 3) := by decide +kernel
theorem dX8_breaches_39 : decode cX8_breaches 39 = .ok (.goto (-26), 3) := by decide +kernel
theorem dX8_breaches_42 : decode cX8_breaches 42 = .ok (.iinc 2 1, 3) := by decide +kernel
theorem dX8_breaches_45 : decode cX8_breaches 45 = .ok (.goto (-41), 3) := by decide +kernel
theorem dX8_breaches_48 : decode cX8_breaches 48 = .ok (.iload_n 1, 1) := by decide +kernel
theorem dX8_breaches_49 : decode cX8_breaches 49 = .ok (.ireturn, 1) := by decide +kernel
theorem dX8_breach_0 : decode cX8_breach 0 = .ok (.iload_n 1, 1) := by decide +kernel
theorem dX8_breach_1 : decode cX8_breach 1 = .ok (.ifCond .ge 5, 3) := by decide +kernel
theorem dX8_breach_4 : decode cX8_breach 4 = .ok (.iconst (-1), 1) := by decide +kernel
theorem dX8_breach_5 : decode cX8_breach 5 = .ok (.ireturn, 1) := by decide +kernel
theorem dX8_breach_6 : decode cX8_breach 6 = .ok (.iconst 0, 1) := by decide +kernel
theorem dX8_breach_7 : decode cX8_breach 7 = .ok (.istore_n 2, 1) := by decide +kernel
theorem dX8_breach_8 : decode cX8_breach 8 = .ok (.iconst 0, 1) := by decide +kernel
theorem dX8_breach_9 : decode cX8_breach 9 = .ok (.istore_n 3, 1) := by decide +kernel
theorem dX8_breach_10 : decode cX8_breach 10 = .ok (.iload_n 3, 1) := by decide +kernel
theorem dX8_breach_11 : decode cX8_breach 11 = .ok (.sipush 200, 3) := by decide +kernel
theorem dX8_breach_14 : decode cX8_breach 14 = .ok (.if_icmp .ge 57, 3) := by decide +kernel
theorem dX8_breach_17 : decode cX8_breach 17 = .ok (.iconst 0, 1) := by decide +kernel
theorem dX8_breach_18 : decode cX8_breach 18 = .ok (.istore 4, 2) := by decide +kernel
theorem dX8_breach_20 : decode cX8_breach 20 = .ok (.iload 4, 2) := by decide +kernel
theorem dX8_breach_22 : decode cX8_breach 22 = .ok (.aload_n 0, 1) := by decide +kernel
theorem dX8_breach_23 : decode cX8_breach 23 = .ok (.getfield 12, 3) := by decide +kernel
theorem dX8_breach_26 : decode cX8_breach 26 = .ok (.getfield 41, 3) := by decide +kernel
theorem dX8_breach_29 : decode cX8_breach 29 = .ok (.if_icmp .ge 36, 3) := by decide +kernel
theorem dX8_breach_32 : decode cX8_breach 32 = .ok (.iload_n 2, 1) := by decide +kernel
theorem dX8_breach_33 : decode cX8_breach 33 = .ok (.aload_n 0, 1) := by decide +kernel
theorem dX8_breach_34 : decode cX8_breach 34 = .ok (.getfield 12, 3) := by decide +kernel
theorem dX8_breach_37 : decode cX8_breach 37 = .ok (.iload 4, 2) := by decide +kernel
theorem dX8_breach_39 : decode cX8_breach 39 = .ok (.iload_n 3, 1) := by decide +kernel
theorem dX8_breach_40 : decode cX8_breach 40 = .ok (.invokevirtual 179, 3) := by decide +kernel
theorem dX8_breach_43 : decode cX8_breach 43 = .ok (.iadd, 1) := by decide +kernel
theorem dX8_breach_44 : decode cX8_breach 44 = .ok (.istore_n 2, 1) := by decide +kernel
theorem dX8_breach_45 : decode cX8_breach 45 = .ok (.iload_n 2, 1) := by decide +kernel
theorem dX8_breach_46 : decode cX8_breach 46 = .ok (.iload_n 1, 1) := by decide +kernel
theorem dX8_breach_47 : decode cX8_breach 47 = .ok (.if_icmp .le 12, 3) := by decide +kernel
theorem dX8_breach_50 : decode cX8_breach 50 = .ok (.sipush 1000, 3) := by decide +kernel
theorem dX8_breach_53 : decode cX8_breach 53 = .ok (.iload 4, 2) := by decide +kernel
theorem dX8_breach_55 : decode cX8_breach 55 = .ok (.imul, 1) := by decide +kernel
theorem dX8_breach_56 : decode cX8_breach 56 = .ok (.iload_n 3, 1) := by decide +kernel
theorem dX8_breach_57 : decode cX8_breach 57 = .ok (.iadd, 1) := by decide +kernel
theorem dX8_breach_58 : decode cX8_breach 58 = .ok (.ireturn, 1) := by decide +kernel
theorem dX8_breach_59 : decode cX8_breach 59 = .ok (.iinc 4 1, 3) := by decide +kernel
theorem dX8_breach_62 : decode cX8_breach 62 = .ok (.goto (-42), 3) := by decide +kernel
theorem dX8_breach_65 : decode cX8_breach 65 = .ok (.iinc 3 1, 3) := by decide +kernel
theorem dX8_breach_68 : decode cX8_breach 68 = .ok (.goto (-58), 3) := by decide +kernel
theorem dX8_breach_71 : decode cX8_breach 71 = .ok (.bipush (-3), 2) := by decide +kernel
theorem dX8_breach_73 : decode cX8_breach 73 = .ok (.ireturn, 1) := by decide +kernel
theorem dX8_fillings_0 : decode cX8_fillings 0 = .ok (.iload_n 1, 1) := by decide +kernel
theorem dX8_fillings_1 : decode cX8_fillings 1 = .ok (.invokestatic 84, 3) := by decide +kernel
theorem dX8_fillings_4 : decode cX8_fillings 4 = .ok (.ifCond .ne 5, 3) := by decide +kernel
theorem dX8_fillings_7 : decode cX8_fillings 7 = .ok (.iconst (-1), 1) := by decide +kernel
theorem dX8_fillings_8 : decode cX8_fillings 8 = .ok (.ireturn, 1) := by decide +kernel
theorem dX8_fillings_9 : decode cX8_fillings 9 = .ok (.aload_n 0, 1) := by decide +kernel
theorem dX8_fillings_10 : decode cX8_fillings 10 = .ok (.getfield 19, 3) := by decide +kernel
theorem dX8_fillings_13 : decode cX8_fillings 13 = .ok (.aload_n 0, 1) := by decide +kernel
theorem dX8_fillings_14 : decode cX8_fillings 14 = .ok (.getfield 12, 3) := by decide +kernel
theorem dX8_fillings_17 : decode cX8_fillings 17 = .ok (.iload_n 1, 1) := by decide +kernel
theorem dX8_fillings_18 : decode cX8_fillings 18 = .ok (.iconst (-1), 1) := by decide +kernel
theorem dX8_fillings_19 : decode cX8_fillings 19 = .ok (.iconst (-1), 1) := by decide +kernel
theorem dX8_fillings_20 : decode cX8_fillings 20 = .ok (.iconst 0, 1) := by decide +kernel
theorem dX8_fillings_21 : decode cX8_fillings 21 = .ok (.invokevirtual 182, 3) := by decide +kernel
theorem dX8_fillings_24 : decode cX8_fillings 24 = .ok (.aload_n 0, 1) := by decide +kernel
theorem dX8_fillings_25 : decode cX8_fillings 25 = .ok (.getfield 19, 3) := by decide +kernel
theorem dX8_fillings_28 : decode cX8_fillings 28 = .ok (.getfield 186, 3) := by decide +kernel
theorem dX8_fillings_31 : decode cX8_fillings 31 = .ok (.ifCond .eq 8, 3) := by decide +kernel
theorem dX8_fillings_34 : decode cX8_fillings 34 = .ok (.bipush (-8), 2) := by decide +kernel
theorem dX8_fillings_36 : decode cX8_fillings 36 = .ok (.goto 10, 3) := by decide +kernel
theorem dX8_fillings_39 : decode cX8_fillings 39 = .ok (.aload_n 0, 1) := by decide +kernel
theorem dX8_fillings_40 : decode cX8_fillings 40 = .ok (.getfield 19, 3) := by decide +kernel
theorem dX8_fillings_43 : decode cX8_fillings 43 = .ok (.getfield 190, 3) := by decide +kernel
theorem dX8_fillings_46 : decode cX8_fillings 46 = .ok (.ireturn, 1) := by decide +kernel
theorem dX8_fill_0 : decode cX8_fill 0 = .ok (.iload_n 1, 1) := by decide +kernel
theorem dX8_fill_1 : decode cX8_fill 1 = .ok (.invokestatic 84, 3) := by decide +kernel
theorem dX8_fill_4 : decode cX8_fill 4 = .ok (.ifCond .ne 5, 3) := by decide +kernel
theorem dX8_fill_7 : decode cX8_fill 7 = .ok (.iconst (-1), 1) := by decide +kernel
theorem dX8_fill_8 : decode cX8_fill 8 = .ok (.ireturn, 1) := by decide +kernel
theorem dX8_fill_9 : decode cX8_fill 9 = .ok (.aload_n 0, 1) := by decide +kernel
theorem dX8_fill_10 : decode cX8_fill 10 = .ok (.getfield 19, 3) := by decide +kernel
theorem dX8_fill_13 : decode cX8_fill 13 = .ok (.aload_n 0, 1) := by decide +kernel
theorem dX8_fill_14 : decode cX8_fill 14 = .ok (.getfield 12, 3) := by decide +kernel
theorem dX8_fill_17 : decode cX8_fill 17 = .ok (.iload_n 1, 1) := by decide +kernel
theorem dX8_fill_18 : decode cX8_fill 18 = .ok (.iconst (-1), 1) := by decide +kernel
theorem dX8_fill_19 : decode cX8_fill 19 = .ok (.iconst (-1), 1) := by decide +kernel
theorem dX8_fill_20 : decode cX8_fill 20 = .ok (.iconst 1, 1) := by decide +kernel
theorem dX8_fill_21 : decode cX8_fill 21 = .ok (.invokevirtual 182, 3) := by decide +kernel
theorem dX8_fill_24 : decode cX8_fill 24 = .ok (.aload_n 0, 1) := by decide +kernel
theorem dX8_fill_25 : decode cX8_fill 25 = .ok (.getfield 19, 3) := by decide +kernel
theorem dX8_fill_28 : decode cX8_fill 28 = .ok (.getfield 186, 3) := by decide +kernel
theorem dX8_fill_31 : decode cX8_fill 31 = .ok (.ifCond .eq 6, 3) := by decide +kernel
theorem dX8_fill_34 : decode cX8_fill 34 = .ok (.bipush (-8), 2) := by decide +kernel
theorem dX8_fill_36 : decode cX8_fill 36 = .ok (.ireturn, 1) := by decide +kernel
theorem dX8_fill_37 : decode cX8_fill 37 = .ok (.aload_n 0, 1) := by decide +kernel
theorem dX8_fill_38 : decode cX8_fill 38 = .ok (.getfield 19, 3) := by decide +kernel
theorem dX8_fill_41 : decode cX8_fill 41 = .ok (.getfield 190, 3) := by decide +kernel
theorem dX8_fill_44 : decode cX8_fill 44 = .ok (.ifCond .ne 6, 3) := by decide +kernel
theorem dX8_fill_47 : decode cX8_fill 47 = .ok (.bipush (-9), 2) := by decide +kernel
theorem dX8_fill_49 : decode cX8_fill 49 = .ok (.ireturn, 1) := by decide +kernel
theorem dX8_fill_50 : decode cX8_fill 50 = .ok (.aload_n 0, 1) := by decide +kernel
theorem dX8_fill_51 : decode cX8_fill 51 = .ok (.getfield 19, 3) := by decide +kernel
theorem dX8_fill_54 : decode cX8_fill 54 = .ok (.aload_n 0, 1) := by decide +kernel
theorem dX8_fill_55 : decode cX8_fill 55 = .ok (.getfield 12, 3) := by decide +kernel
theorem dX8_fill_58 : decode cX8_fill 58 = .ok (.iload_n 1, 1) := by decide +kernel
theorem dX8_fill_59 : decode cX8_fill 59 = .ok (.invokevirtual 193, 3) := by decide +kernel
theorem dX8_fill_62 : decode cX8_fill 62 = .ok (.aload_n 0, 1) := by decide +kernel
theorem dX8_fill_63 : decode cX8_fill 63 = .ok (.getfield 19, 3) := by decide +kernel
theorem dX8_fill_66 : decode cX8_fill 66 = .ok (.getfield 197, 3) := by decide +kernel
theorem dX8_fill_69 : decode cX8_fill 69 = .ok (.ireturn, 1) := by decide +kernel
theorem dX8_among_0 : decode cX8_among 0 = .ok (.aload_n 0, 1) := by decide +kernel
theorem dX8_among_1 : decode cX8_among 1 = .ok (.getfield 12, 3) := by decide +kernel
theorem dX8_among_4 : decode cX8_among 4 = .ok (.iload_n 1, 1) := by decide +kernel
theorem dX8_among_5 : decode cX8_among 5 = .ok (.invokevirtual 62, 3) := by decide +kernel
theorem dX8_among_8 : decode cX8_among 8 = .ok (.ifCond .eq 21, 3) := by decide +kernel
theorem dX8_among_11 : decode cX8_among 11 = .ok (.aload_n 0, 1) := by decide +kernel
theorem dX8_among_12 : decode cX8_among 12 = .ok (.getfield 12, 3) := by decide +kernel
theorem dX8_among_15 : decode cX8_among 15 = .ok (.iload_n 2, 1) := by decide +kernel
theorem dX8_among_16 : decode cX8_among 16 = .ok (.invokevirtual 101, 3) := by decide +kernel
theorem dX8_among_19 : decode cX8_among 19 = .ok (.ifCond .eq 10, 3) := by decide +kernel
theorem dX8_among_22 : decode cX8_among 22 = .ok (.iload_n 3, 1) := by decide +kernel
theorem dX8_among_23 : decode cX8_among 23 = .ok (.invokestatic 84, 3) := by decide +kernel
theorem dX8_among_26 : decode cX8_among 26 = .ok (.ifCond .ne 5, 3) := by decide +kernel
theorem dX8_among_29 : decode cX8_among 29 = .ok (.iconst (-1), 1) := by decide +kernel
theorem dX8_among_30 : decode cX8_among 30 = .ok (.ireturn, 1) := by decide +kernel
theorem dX8_among_31 : decode cX8_among 31 = .ok (.aload_n 0, 1) := by decide +kernel
theorem dX8_among_32 : decode cX8_among 32 = .ok (.getfield 19, 3) := by decide +kernel
theorem dX8_among_35 : decode cX8_among 35 = .ok (.aload_n 0, 1) := by decide +kernel
theorem dX8_among_36 : decode cX8_among 36 = .ok (.getfield 12, 3) := by decide +kernel
theorem dX8_among_39 : decode cX8_among 39 = .ok (.iload_n 3, 1) := by decide +kernel
theorem dX8_among_40 : decode cX8_among 40 = .ok (.iload_n 1, 1) := by decide +kernel
theorem dX8_among_41 : decode cX8_among 41 = .ok (.iload_n 2, 1) := by decide +kernel
theorem dX8_among_42 : decode cX8_among 42 = .ok (.iconst 0, 1) := by decide +kernel
theorem dX8_among_43 : decode cX8_among 43 = .ok (.invokevirtual 182, 3) := by decide +kernel
theorem dX8_among_46 : decode cX8_among 46 = .ok (.aload_n 0, 1) := by decide +kernel
theorem dX8_among_47 : decode cX8_among 47 = .ok (.getfield 19, 3) := by decide +kernel
theorem dX8_among_50 : decode cX8_among 50 = .ok (.getfield 186, 3) := by decide +kernel
theorem dX8_among_53 : decode cX8_among 53 = .ok (.ifCond .eq 8, 3) := by decide +kernel
theorem dX8_among_56 : decode cX8_among 56 = .ok (.bipush (-8), 2) := by decide +kernel
theorem dX8_among_58 : decode cX8_among 58 = .ok (.goto 10, 3) := by decide +kernel
theorem dX8_among_61 : decode cX8_among 61 = .ok (.aload_n 0, 1) := by decide +kernel
theorem dX8_among_62 : decode cX8_among 62 = .ok (.getfield 19, 3) := by decide +kernel
theorem dX8_among_65 : decode cX8_among 65 = .ok (.getfield 200, 3) := by decide +kernel
theorem dX8_among_68 : decode cX8_among 68 = .ok (.ireturn, 1) := by decide +kernel
theorem dX8_election_0 : decode cX8_election 0 = .ok (.iload_n 1, 1) := by decide +kernel
theorem dX8_election_1 : decode cX8_election 1 = .ok (.iconst 2, 1) := by decide +kernel
theorem dX8_election_2 : decode cX8_election 2 = .ok (.if_icmp .lt 8, 3) := by decide +kernel
theorem dX8_election_5 : decode cX8_election 5 = .ok (.iload_n 1, 1) := by decide +kernel
theorem dX8_election_6 : decode cX8_election 6 = .ok (.iconst 4, 1) := by decide +kernel
theorem dX8_election_7 : decode cX8_election 7 = .ok (.if_icmp .le 5, 3) := by decide +kernel
theorem dX8_election_10 : decode cX8_election 10 = .ok (.iconst (-1), 1) := by decide +kernel
theorem dX8_election_11 : decode cX8_election 11 = .ok (.ireturn, 1) := by decide +kernel
theorem dX8_election_12 : decode cX8_election 12 = .ok (.iload_n 2, 1) := by decide +kernel
theorem dX8_election_13 : decode cX8_election 13 = .ok (.iconst 1, 1) := by decide +kernel
theorem dX8_election_14 : decode cX8_election 14 = .ok (.if_icmp .lt 13, 3) := by decide +kernel
theorem dX8_election_17 : decode cX8_election 17 = .ok (.iload_n 2, 1) := by decide +kernel
theorem dX8_election_18 : decode cX8_election 18 = .ok (.iconst 2, 1) := by decide +kernel
theorem dX8_election_19 : decode cX8_election 19 = .ok (.if_icmp .gt 8, 3) := by decide +kernel
theorem dX8_election_22 : decode cX8_election 22 = .ok (.iload_n 2, 1) := by decide +kernel
theorem dX8_election_23 : decode cX8_election 23 = .ok (.iload_n 1, 1) := by decide +kernel
theorem dX8_election_24 : decode cX8_election 24 = .ok (.if_icmp .lt 5, 3) := by decide +kernel
theorem dX8_election_27 : decode cX8_election 27 = .ok (.iconst (-1), 1) := by decide +kernel
theorem dX8_election_28 : decode cX8_election 28 = .ok (.ireturn, 1) := by decide +kernel
theorem dX8_election_29 : decode cX8_election 29 = .ok (.aload_n 0, 1) := by decide +kernel
theorem dX8_election_30 : decode cX8_election 30 = .ok (.getfield 26, 3) := by decide +kernel
theorem dX8_election_33 : decode cX8_election 33 = .ok (.getfield 203, 3) := by decide +kernel
theorem dX8_election_36 : decode cX8_election 36 = .ok (.istore_n 3, 1) := by decide +kernel
theorem dX8_election_37 : decode cX8_election 37 = .ok (.aload_n 0, 1) := by decide +kernel
theorem dX8_election_38 : decode cX8_election 38 = .ok (.getfield 26, 3) := by decide +kernel
theorem dX8_election_41 : decode cX8_election 41 = .ok (.iload_n 1, 1) := by decide +kernel
theorem dX8_election_42 : decode cX8_election 42 = .ok (.iload_n 2, 1) := by decide +kernel
theorem dX8_election_43 : decode cX8_election 43 = .ok (.invokevirtual 206, 3) := by decide +kernel
theorem dX8_election_46 : decode cX8_election 46 = .ok (.iload_n 3, 1) := by decide +kernel
theorem dX8_election_47 : decode cX8_election 47 = .ok (.ireturn, 1) := by decide +kernel
theorem dX8_vote_0 : decode cX8_vote 0 = .ok (.iload_n 1, 1) := by decide +kernel
theorem dX8_vote_1 : decode cX8_vote 1 = .ok (.ifCond .lt 20, 3) := by decide +kernel
theorem dX8_vote_4 : decode cX8_vote 4 = .ok (.iload_n 1, 1) := by decide +kernel
theorem dX8_vote_5 : decode cX8_vote 5 = .ok (.bipush 35, 2) := by decide +kernel
theorem dX8_vote_7 : decode cX8_vote 7 = .ok (.if_icmp .ge 14, 3) := by decide +kernel
theorem dX8_vote_10 : decode cX8_vote 10 = .ok (.aload_n 0, 1) := by decide +kernel
theorem dX8_vote_11 : decode cX8_vote 11 = .ok (.getfield 26, 3) := by decide +kernel
theorem dX8_vote_14 : decode cX8_vote 14 = .ok (.iload_n 2, 1) := by decide +kernel
theorem dX8_vote_15 : decode cX8_vote 15 = .ok (.invokevirtual 209, 3) := by decide +kernel
theorem dX8_vote_18 : decode cX8_vote 18 = .ok (.ifCond .ne 5, 3) := by decide +kernel
theorem dX8_vote_21 : decode cX8_vote 21 = .ok (.iconst (-1), 1) := by decide +kernel
theorem dX8_vote_22 : decode cX8_vote 22 = .ok (.ireturn, 1) := by decide +kernel
theorem dX8_vote_23 : decode cX8_vote 23 = .ok (.aload_n 0, 1) := by decide +kernel
theorem dX8_vote_24 : decode cX8_vote 24 = .ok (.getfield 26, 3) := by decide +kernel
theorem dX8_vote_27 : decode cX8_vote 27 = .ok (.iload_n 1, 1) := by decide +kernel
theorem dX8_vote_28 : decode cX8_vote 28 = .ok (.iload_n 2, 1) := by decide +kernel
theorem dX8_vote_29 : decode cX8_vote 29 = .ok (.invokevirtual 212, 3) := by decide +kernel
theorem dX8_vote_32 : decode cX8_vote 32 = .ok (.ifCond .eq 7, 3) := by decide +kernel
theorem dX8_vote_35 : decode cX8_vote 35 = .ok (.iconst 1, 1) := by decide +kernel
theorem dX8_vote_36 : decode cX8_vote 36 = .ok (.goto 4, 3) := by decide +kernel
theorem dX8_vote_39 : decode cX8_vote 39 = .ok (.iconst 0, 1) := by decide +kernel
theorem dX8_vote_40 : decode cX8_vote 40 = .ok (.ireturn, 1) := by decide +kernel
theorem dX8_elected_0 : decode cX8_elected 0 = .ok (.lload_n 1, 1) := by decide +kernel
theorem dX8_elected_1 : decode cX8_elected 1 = .ok (.lconst 0, 1) := by decide +kernel
theorem dX8_elected_2 : decode cX8_elected 2 = .ok (.lcmp, 1) := by decide +kernel
theorem dX8_elected_3 : decode cX8_elected 3 = .ok (.ifCond .lt 29, 3) := by decide +kernel
theorem dX8_elected_6 : decode cX8_elected 6 = .ok (.iload_n 3, 1) := by decide +kernel
theorem dX8_elected_7 : decode cX8_elected 7 = .ok (.ifCond .lt 25, 3) := by decide +kernel
theorem dX8_elected_10 : decode cX8_elected 10 = .ok (.iload_n 3, 1) := by decide +kernel
theorem dX8_elected_11 : decode cX8_elected 11 = .ok (.aload_n 0, 1) := by decide +kernel
theorem dX8_elected_12 : decode cX8_elected 12 = .ok (.getfield 26, 3) := by decide +kernel
theorem dX8_elected_15 : decode cX8_elected 15 = .ok (.getfield 215, 3) := by decide +kernel
theorem dX8_elected_18 : decode cX8_elected 18 = .ok (.if_icmp .ge 14, 3) := by decide +kernel
theorem dX8_elected_21 : decode cX8_elected 21 = .ok (.iload 4, 2) := by decide +kernel
theorem dX8_elected_23 : decode cX8_elected 23 = .ok (.ifCond .lt 9, 3) := by decide +kernel
theorem dX8_elected_26 : decode cX8_elected 26 = .ok (.iload 4, 2) := by decide +kernel
theorem dX8_elected_28 : decode cX8_elected 28 = .ok (.iconst 1, 1) := by decide +kernel
theorem dX8_elected_29 : decode cX8_elected 29 = .ok (.if_icmp .le 5, 3) := by decide +kernel
theorem dX8_elected_32 : decode cX8_elected 32 = .ok (.iconst (-1), 1) := by decide +kernel
theorem dX8_elected_33 : decode cX8_elected 33 = .ok (.ireturn, 1) := by decide +kernel
theorem dX8_elected_34 : decode cX8_elected 34 = .ok (.aload_n 0, 1) := by decide +kernel
theorem dX8_elected_35 : decode cX8_elected 35 = .ok (.getfield 26, 3) := by decide +kernel
theorem dX8_elected_38 : decode cX8_elected 38 = .ok (.lload_n 1, 1) := by decide +kernel
theorem dX8_elected_39 : decode cX8_elected 39 = .ok (.invokevirtual 218, 3) := by decide +kernel
theorem dX8_elected_42 : decode cX8_elected 42 = .ok (.iload 4, 2) := by decide +kernel
theorem dX8_elected_44 : decode cX8_elected 44 = .ok (.ifCond .ne 15, 3) := by decide +kernel
theorem dX8_elected_47 : decode cX8_elected 47 = .ok (.aload_n 0, 1) := by decide +kernel
theorem dX8_elected_48 : decode cX8_elected 48 = .ok (.getfield 26, 3) := by decide +kernel
theorem dX8_elected_51 : decode cX8_elected 51 = .ok (.getfield 222, 3) := by decide +kernel
theorem dX8_elected_54 : decode cX8_elected 54 = .ok (.iload_n 3, 1) := by decide +kernel
theorem dX8_elected_55 : decode cX8_elected 55 = .ok (.iaload, 1) := by decide +kernel
theorem dX8_elected_56 : decode cX8_elected 56 = .ok (.goto 12, 3) := by decide +kernel
theorem dX8_elected_59 : decode cX8_elected 59 = .ok (.aload_n 0, 1) := by decide +kernel
theorem dX8_elected_60 : decode cX8_elected 60 = .ok (.getfield 26, 3) := by decide +kernel
theorem dX8_elected_63 : decode cX8_elected 63 = .ok (.getfield 225, 3) := by decide +kernel
theorem dX8_elected_66 : decode cX8_elected 66 = .ok (.iload_n 3, 1) := by decide +kernel
theorem dX8_elected_67 : decode cX8_elected 67 = .ok (.iaload, 1) := by decide +kernel
theorem dX8_elected_68 : decode cX8_elected 68 = .ok (.ireturn, 1) := by decide +kernel
theorem dX8_sure_0 : decode cX8_sure 0 = .ok (.lload_n 1, 1) := by decide +kernel
theorem dX8_sure_1 : decode cX8_sure 1 = .ok (.lconst 0, 1) := by decide +kernel
theorem dX8_sure_2 : decode cX8_sure 2 = .ok (.lcmp, 1) := by decide +kernel
theorem dX8_sure_3 : decode cX8_sure 3 = .ok (.ifCond .ge 7, 3) := by decide +kernel
theorem dX8_sure_6 : decode cX8_sure 6 = .ok (.iconst (-1), 1) := by decide +kernel
theorem dX8_sure_7 : decode cX8_sure 7 = .ok (.goto 11, 3) := by decide +kernel
theorem dX8_sure_10 : decode cX8_sure 10 = .ok (.aload_n 0, 1) := by decide +kernel
theorem dX8_sure_11 : decode cX8_sure 11 = .ok (.getfield 26, 3) := by decide +kernel
theorem dX8_sure_14 : decode cX8_sure 14 = .ok (.lload_n 1, 1) := by decide +kernel
theorem dX8_sure_15 : decode cX8_sure 15 = .ok (.invokevirtual 228, 3) := by decide +kernel
theorem dX8_sure_18 : decode cX8_sure 18 = .ok (.ireturn, 1) := by decide +kernel
theorem dX8_drawn_0 : decode cX8_drawn 0 = .ok (.iload_n 1, 1) := by decide +kernel
theorem dX8_drawn_1 : decode cX8_drawn 1 = .ok (.iconst 1, 1) := by decide +kernel
theorem dX8_drawn_2 : decode cX8_drawn 2 = .ok (.if_icmp .lt 26, 3) := by decide +kernel
theorem dX8_drawn_5 : decode cX8_drawn 5 = .ok (.iload_n 1, 1) := by decide +kernel
theorem dX8_drawn_6 : decode cX8_drawn 6 = .ok (.bipush 35, 2) := by decide +kernel
theorem dX8_drawn_8 : decode cX8_drawn 8 = .ok (.if_icmp .gt 20, 3) := by decide +kernel
theorem dX8_drawn_11 : decode cX8_drawn 11 = .ok (.lload_n 2, 1) := by decide +kernel
theorem dX8_drawn_12 : decode cX8_drawn 12 = .ok (.lconst 0, 1) := by decide +kernel
theorem dX8_drawn_13 : decode cX8_drawn 13 = .ok (.lcmp, 1) := by decide +kernel
theorem dX8_drawn_14 : decode cX8_drawn 14 = .ok (.ifCond .lt 14, 3) := by decide +kernel
theorem dX8_drawn_17 : decode cX8_drawn 17 = .ok (.iload 4, 2) := by decide +kernel
theorem dX8_drawn_19 : decode cX8_drawn 19 = .ok (.ifCond .lt 9, 3) := by decide +kernel
theorem dX8_drawn_22 : decode cX8_drawn 22 = .ok (.iload 4, 2) := by decide +kernel
theorem dX8_drawn_24 : decode cX8_drawn 24 = .ok (.iload_n 1, 1) := by decide +kernel
theorem dX8_drawn_25 : decode cX8_drawn 25 = .ok (.if_icmp .lt 5, 3) := by decide +kernel
theorem dX8_drawn_28 : decode cX8_drawn 28 = .ok (.iconst (-1), 1) := by decide +kernel
theorem dX8_drawn_29 : decode cX8_drawn 29 = .ok (.ireturn, 1) := by decide +kernel
theorem dX8_drawn_30 : decode cX8_drawn 30 = .ok (.aload_n 0, 1) := by decide +kernel
theorem dX8_drawn_31 : decode cX8_drawn 31 = .ok (.getfield 36, 3) := by decide +kernel
theorem dX8_drawn_34 : decode cX8_drawn 34 = .ok (.iload_n 1, 1) := by decide +kernel
theorem dX8_drawn_35 : decode cX8_drawn 35 = .ok (.lload_n 2, 1) := by decide +kernel
theorem dX8_drawn_36 : decode cX8_drawn 36 = .ok (.invokestatic 232, 3) := by decide +kernel
theorem dX8_drawn_39 : decode cX8_drawn 39 = .ok (.aload_n 0, 1) := by decide +kernel
theorem dX8_drawn_40 : decode cX8_drawn 40 = .ok (.getfield 36, 3) := by decide +kernel
theorem dX8_drawn_43 : decode cX8_drawn 43 = .ok (.iload 4, 2) := by decide +kernel
theorem dX8_drawn_45 : decode cX8_drawn 45 = .ok (.iaload, 1) := by decide +kernel
theorem dX8_drawn_46 : decode cX8_drawn 46 = .ok (.ireturn, 1) := by decide +kernel
theorem dX8_province_0 : decode cX8_province 0 = .ok (.aload_n 0, 1) := by decide +kernel
theorem dX8_province_1 : decode cX8_province 1 = .ok (.getfield 12, 3) := by decide +kernel
theorem dX8_province_4 : decode cX8_province 4 = .ok (.iload_n 1, 1) := by decide +kernel
theorem dX8_province_5 : decode cX8_province 5 = .ok (.iload_n 2, 1) := by decide +kernel
theorem dX8_province_6 : decode cX8_province 6 = .ok (.iload_n 3, 1) := by decide +kernel
theorem dX8_province_7 : decode cX8_province 7 = .ok (.invokevirtual 147, 3) := by decide +kernel
theorem dX8_province_10 : decode cX8_province 10 = .ok (.ifCond .eq 23, 3) := by decide +kernel
theorem dX8_province_13 : decode cX8_province 13 = .ok (.iload 4, 2) := by decide +kernel
theorem dX8_province_15 : decode cX8_province 15 = .ok (.iconst 1, 1) := by decide +kernel
theorem dX8_province_16 : decode cX8_province 16 = .ok (.if_icmp .lt 17, 3) := by decide +kernel
theorem dX8_province_19 : decode cX8_province 19 = .ok (.iload 4, 2) := by decide +kernel
theorem dX8_province_21 : decode cX8_province 21 = .ok (.bipush 9, 2) := by decide +kernel
theorem dX8_province_23 : decode cX8_province 23 = .ok (.if_icmp .gt 10, 3) := by decide +kernel
theorem dX8_province_26 : decode cX8_province 26 = .ok (.lload 5, 2) := by decide +kernel
theorem dX8_province_28 : decode cX8_province 28 = .ok (.lconst 0, 1) := by decide +kernel
theorem dX8_province_29 : decode cX8_province 29 = .ok (.lcmp, 1) := by decide +kernel
theorem dX8_province_30 : decode cX8_province 30 = .ok (.ifCond .ge 5, 3) := by decide +kernel
theorem dX8_province_33 : decode cX8_province 33 = .ok (.iconst (-1), 1) := by decide +kernel
theorem dX8_province_34 : decode cX8_province 34 = .ok (.ireturn, 1) := by decide +kernel
theorem dX8_province_35 : decode cX8_province 35 = .ok (.aload_n 0, 1) := by decide +kernel
theorem dX8_province_36 : decode cX8_province 36 = .ok (.getfield 12, 3) := by decide +kernel
theorem dX8_province_39 : decode cX8_province 39 = .ok (.getfield 132, 3) := by decide +kernel
theorem dX8_province_42 : decode cX8_province 42 = .ok (.iload_n 1, 1) := by decide +kernel
theorem dX8_province_43 : decode cX8_province 43 = .ok (.aaload, 1) := by decide +kernel
theorem dX8_province_44 : decode cX8_province 44 = .ok (.astore 7, 2) := by decide +kernel
theorem dX8_province_46 : decode cX8_province 46 = .ok (.aload 7, 2) := by decide +kernel
theorem dX8_province_48 : decode cX8_province 48 = .ok (.iload_n 2, 1) := by decide +kernel
theorem dX8_province_49 : decode cX8_province 49 = .ok (.iload_n 3, 1) := by decide +kernel
theorem dX8_province_50 : decode cX8_province 50 = .ok (.invokevirtual 151, 3) := by decide +kernel
theorem dX8_province_53 : decode cX8_province 53 = .ok (.iconst (-1), 1) := by decide +kernel
theorem dX8_province_54 : decode cX8_province 54 = .ok (.if_icmp .ne 6, 3) := by decide +kernel
theorem dX8_province_57 : decode cX8_province 57 = .ok (.bipush (-3), 2) := by decide +kernel
theorem dX8_province_59 : decode cX8_province 59 = .ok (.ireturn, 1) := by decide +kernel
theorem dX8_province_60 : decode cX8_province 60 = .ok (.aload 7, 2) := by decide +kernel
theorem dX8_province_62 : decode cX8_province 62 = .ok (.iload_n 2, 1) := by decide +kernel
theorem dX8_province_63 : decode cX8_province 63 = .ok (.iload_n 3, 1) := by decide +kernel
theorem dX8_province_64 : decode cX8_province 64 = .ok (.invokevirtual 236, 3) := by decide +kernel
theorem dX8_province_67 : decode cX8_province 67 = .ok (.istore 8, 2) := by decide +kernel
theorem dX8_province_69 : decode cX8_province 69 = .ok (.iload 8, 2) := by decide +kernel
theorem dX8_province_71 : decode cX8_province 71 = .ok (.iload 4, 2) := by decide +kernel
theorem dX8_province_73 : decode cX8_province 73 = .ok (.if_icmp .lt 6, 3) := by decide +kernel
theorem dX8_province_76 : decode cX8_province 76 = .ok (.bipush (-2), 2) := by decide +kernel
theorem dX8_province_78 : decode cX8_province 78 = .ok (.ireturn, 1) := by decide +kernel
theorem dX8_province_79 : decode cX8_province 79 = .ok (.aload_n 0, 1) := by decide +kernel
theorem dX8_province_80 : decode cX8_province 80 = .ok (.getfield 36, 3) := by decide +kernel
theorem dX8_province_83 : decode cX8_province 83 = .ok (.iload 4, 2) := by decide +kernel
theorem dX8_province_85 : decode cX8_province 85 = .ok (.lload 5, 2) := by decide +kernel
theorem dX8_province_87 : decode cX8_province 87 = .ok (.invokestatic 232, 3) := by decide +kernel
theorem dX8_province_90 : decode cX8_province 90 = .ok (.aload_n 0, 1) := by decide +kernel
theorem dX8_province_91 : decode cX8_province 91 = .ok (.getfield 36, 3) := by decide +kernel
theorem dX8_province_94 : decode cX8_province 94 = .ok (.iload 8, 2) := by decide +kernel
theorem dX8_province_96 : decode cX8_province 96 = .ok (.iaload, 1) := by decide +kernel
theorem dX8_province_97 : decode cX8_province 97 = .ok (.ireturn, 1) := by decide +kernel
theorem dX8_count_0 : decode cX8_count 0 = .ok (.iload_n 1, 1) := by decide +kernel
theorem dX8_count_1 : decode cX8_count 1 = .ok (.tableswitch 87 0 5 #[39, 47, 55, 63, 71, 79], 39) := by decide +kernel
theorem dX8_count_40 : decode cX8_count 40 = .ok (.aload_n 0, 1) := by decide +kernel
theorem dX8_count_41 : decode cX8_count 41 = .ok (.getfield 12, 3) := by decide +kernel
theorem dX8_count_44 : decode cX8_count 44 = .ok (.getfield 41, 3) := by decide +kernel
theorem dX8_count_47 : decode cX8_count 47 = .ok (.ireturn, 1) := by decide +kernel
theorem dX8_count_48 : decode cX8_count 48 = .ok (.aload_n 0, 1) := by decide +kernel
theorem dX8_count_49 : decode cX8_count 49 = .ok (.getfield 12, 3) := by decide +kernel
theorem dX8_count_52 : decode cX8_count 52 = .ok (.getfield 65, 3) := by decide +kernel
theorem dX8_count_55 : decode cX8_count 55 = .ok (.ireturn, 1) := by decide +kernel
theorem dX8_count_56 : decode cX8_count 56 = .ok (.aload_n 0, 1) := by decide +kernel
theorem dX8_count_57 : decode cX8_count 57 = .ok (.getfield 12, 3) := by decide +kernel
theorem dX8_count_60 : decode cX8_count 60 = .ok (.getfield 107, 3) := by decide +kernel
theorem dX8_count_63 : decode cX8_count 63 = .ok (.ireturn, 1) := by decide +kernel
theorem dX8_count_64 : decode cX8_count 64 = .ok (.aload_n 0, 1) := by decide +kernel
theorem dX8_count_65 : decode cX8_count 65 = .ok (.getfield 12, 3) := by decide +kernel
theorem dX8_count_68 : decode cX8_count 68 = .ok (.getfield 239, 3) := by decide +kernel
theorem dX8_count_71 : decode cX8_count 71 = .ok (.ireturn, 1) := by decide +kernel
theorem dX8_count_72 : decode cX8_count 72 = .ok (.aload_n 0, 1) := by decide +kernel
theorem dX8_count_73 : decode cX8_count 73 = .ok (.getfield 12, 3) := by decide +kernel
theorem dX8_count_76 : decode cX8_count 76 = .ok (.getfield 242, 3) := by decide +kernel
theorem dX8_count_79 : decode cX8_count 79 = .ok (.ireturn, 1) := by decide +kernel
theorem dX8_count_80 : decode cX8_count 80 = .ok (.aload_n 0, 1) := by decide +kernel
theorem dX8_count_81 : decode cX8_count 81 = .ok (.getfield 26, 3) := by decide +kernel
theorem dX8_count_84 : decode cX8_count 84 = .ok (.getfield 203, 3) := by decide +kernel
theorem dX8_count_87 : decode cX8_count 87 = .ok (.ireturn, 1) := by decide +kernel
theorem dX8_count_88 : decode cX8_count 88 = .ok (.iconst (-1), 1) := by decide +kernel
theorem dX8_count_89 : decode cX8_count 89 = .ok (.ireturn, 1) := by decide +kernel
theorem dX8_keep_0 : decode cX8_keep 0 = .ok (.iload_n 1, 1) := by decide +kernel
theorem dX8_keep_1 : decode cX8_keep 1 = .ok (.invokestatic 245, 3) := by decide +kernel
theorem dX8_keep_4 : decode cX8_keep 4 = .ok (.ifCond .ne 5, 3) := by decide +kernel
theorem dX8_keep_7 : decode cX8_keep 7 = .ok (.iconst (-1), 1) := by decide +kernel
theorem dX8_keep_8 : decode cX8_keep 8 = .ok (.ireturn, 1) := by decide +kernel
theorem dX8_keep_9 : decode cX8_keep 9 = .ok (.aload_n 0, 1) := by decide +kernel
theorem dX8_keep_10 : decode cX8_keep 10 = .ok (.getfield 32, 3) := by decide +kernel
theorem dX8_keep_13 : decode cX8_keep 13 = .ok (.iload_n 1, 1) := by decide +kernel
theorem dX8_keep_14 : decode cX8_keep 14 = .ok (.aaload, 1) := by decide +kernel
theorem dX8_keep_15 : decode cX8_keep 15 = .ok (.astore 4, 2) := by decide +kernel
theorem dX8_keep_17 : decode cX8_keep 17 = .ok (.iload_n 2, 1) := by decide +kernel
theorem dX8_keep_18 : decode cX8_keep 18 = .ok (.ifCond .ne 11, 3) := by decide +kernel
theorem dX8_keep_21 : decode cX8_keep 21 = .ok (.aload 4, 2) := by decide +kernel
theorem dX8_keep_23 : decode cX8_keep 23 = .ok (.invokevirtual 248, 3) := by decide +kernel
theorem dX8_keep_26 : decode cX8_keep 26 = .ok (.goto 104, 3) := by decide +kernel
theorem dX8_keep_29 : decode cX8_keep 29 = .ok (.iload_n 2, 1) := by decide +kernel
theorem dX8_keep_30 : decode cX8_keep 30 = .ok (.iconst 1, 1) := by decide +kernel
theorem dX8_keep_31 : decode cX8_keep 31 = .ok (.if_icmp .ne 31, 3) := by decide +kernel
theorem dX8_keep_34 : decode cX8_keep 34 = .ok (.aload_n 0, 1) := by decide +kernel
theorem dX8_keep_35 : decode cX8_keep 35 = .ok (.getfield 12, 3) := by decide +kernel
theorem dX8_keep_38 : decode cX8_keep 38 = .ok (.iload_n 3, 1) := by decide +kernel
theorem dX8_keep_39 : decode cX8_keep 39 = .ok (.invokevirtual 119, 3) := by decide +kernel
theorem dX8_keep_42 : decode cX8_keep 42 = .ok (.ifCond .eq 20, 3) := by decide +kernel
theorem dX8_keep_45 : decode cX8_keep 45 = .ok (.aload 4, 2) := by decide +kernel
theorem dX8_keep_47 : decode cX8_keep 47 = .ok (.aload_n 0, 1) := by decide +kernel
theorem dX8_keep_48 : decode cX8_keep 48 = .ok (.getfield 12, 3) := by decide +kernel
theorem dX8_keep_51 : decode cX8_keep 51 = .ok (.getfield 122, 3) := by decide +kernel
theorem dX8_keep_54 : decode cX8_keep 54 = .ok (.iload_n 3, 1) := by decide +kernel
theorem dX8_keep_55 : decode cX8_keep 55 = .ok (.aaload, 1) := by decide +kernel
theorem dX8_keep_56 : decode cX8_keep 56 = .ok (.invokevirtual 251, 3) := by decide +kernel
theorem dX8_keep_59 : decode cX8_keep 59 = .ok (.goto 71, 3) := by decide +kernel
theorem dX8_keep_62 : decode cX8_keep 62 = .ok (.iload_n 2, 1) := by decide +kernel
theorem dX8_keep_63 : decode cX8_keep 63 = .ok (.iconst 3, 1) := by decide +kernel
theorem dX8_keep_64 : decode cX8_keep 64 = .ok (.if_icmp .ne 31, 3) := by decide +kernel
theorem dX8_keep_67 : decode cX8_keep 67 = .ok (.aload_n 0, 1) := by decide +kernel
theorem dX8_keep_68 : decode cX8_keep 68 = .ok (.getfield 12, 3) := by decide +kernel
theorem dX8_keep_71 : decode cX8_keep 71 = .ok (.iload_n 3, 1) := by decide +kernel
theorem dX8_keep_72 : decode cX8_keep 72 = .ok (.invokevirtual 101, 3) := by decide +kernel
theorem dX8_keep_75 : decode cX8_keep 75 = .ok (.ifCond .eq 20, 3) := by decide +kernel
theorem dX8_keep_78 : decode cX8_keep 78 = .ok (.aload 4, 2) := by decide +kernel
theorem dX8_keep_80 : decode cX8_keep 80 = .ok (.aload_n 0, 1) := by decide +kernel
theorem dX8_keep_81 : decode cX8_keep 81 = .ok (.getfield 12, 3) := by decide +kernel
theorem dX8_keep_84 : decode cX8_keep 84 = .ok (.getfield 132, 3) := by decide +kernel
theorem dX8_keep_87 : decode cX8_keep 87 = .ok (.iload_n 3, 1) := by decide +kernel
theorem dX8_keep_88 : decode cX8_keep 88 = .ok (.aaload, 1) := by decide +kernel
theorem dX8_keep_89 : decode cX8_keep 89 = .ok (.invokevirtual 255, 3) := by decide +kernel
theorem dX8_keep_92 : decode cX8_keep 92 = .ok (.goto 38, 3) := by decide +kernel
theorem dX8_keep_95 : decode cX8_keep 95 = .ok (.iload_n 2, 1) := by decide +kernel
theorem dX8_keep_96 : decode cX8_keep 96 = .ok (.iconst 4, 1) := by decide +kernel
theorem dX8_keep_97 : decode cX8_keep 97 = .ok (.if_icmp .ne 31, 3) := by decide +kernel
theorem dX8_keep_100 : decode cX8_keep 100 = .ok (.aload_n 0, 1) := by decide +kernel
theorem dX8_keep_101 : decode cX8_keep 101 = .ok (.getfield 12, 3) := by decide +kernel
theorem dX8_keep_104 : decode cX8_keep 104 = .ok (.iload_n 3, 1) := by decide +kernel
theorem dX8_keep_105 : decode cX8_keep 105 = .ok (.invokevirtual 62, 3) := by decide +kernel
theorem dX8_keep_108 : decode cX8_keep 108 = .ok (.ifCond .eq 20, 3) := by decide +kernel
theorem dX8_keep_111 : decode cX8_keep 111 = .ok (.aload 4, 2) := by decide +kernel
theorem dX8_keep_113 : decode cX8_keep 113 = .ok (.aload_n 0, 1) := by decide +kernel
theorem dX8_keep_114 : decode cX8_keep 114 = .ok (.getfield 12, 3) := by decide +kernel
theorem dX8_keep_117 : decode cX8_keep 117 = .ok (.getfield 77, 3) := by decide +kernel
theorem dX8_keep_120 : decode cX8_keep 120 = .ok (.iload_n 3, 1) := by decide +kernel
theorem dX8_keep_121 : decode cX8_keep 121 = .ok (.aaload, 1) := by decide +kernel
theorem dX8_keep_122 : decode cX8_keep 122 = .ok (.invokevirtual 259, 3) := by decide +kernel
theorem dX8_keep_125 : decode cX8_keep 125 = .ok (.goto 5, 3) := by decide +kernel
theorem dX8_keep_128 : decode cX8_keep 128 = .ok (.iconst (-1), 1) := by decide +kernel
theorem dX8_keep_129 : decode cX8_keep 129 = .ok (.ireturn, 1) := by decide +kernel
theorem dX8_keep_130 : decode cX8_keep 130 = .ok (.iconst 0, 1) := by decide +kernel
theorem dX8_keep_131 : decode cX8_keep 131 = .ok (.ireturn, 1) := by decide +kernel
theorem dX8_make_0 : decode cX8_make 0 = .ok (.iload_n 1, 1) := by decide +kernel
theorem dX8_make_1 : decode cX8_make 1 = .ok (.invokestatic 245, 3) := by decide +kernel
theorem dX8_make_4 : decode cX8_make 4 = .ok (.ifCond .eq 19, 3) := by decide +kernel
theorem dX8_make_7 : decode cX8_make 7 = .ok (.iload_n 2, 1) := by decide +kernel
theorem dX8_make_8 : decode cX8_make 8 = .ok (.iconst 3, 1) := by decide +kernel
theorem dX8_make_9 : decode cX8_make 9 = .ok (.if_icmp .eq 8, 3) := by decide +kernel
theorem dX8_make_12 : decode cX8_make 12 = .ok (.iload_n 2, 1) := by decide +kernel
theorem dX8_make_13 : decode cX8_make 13 = .ok (.iconst 4, 1) := by decide +kernel
theorem dX8_make_14 : decode cX8_make 14 = .ok (.if_icmp .ne 9, 3) := by decide +kernel
theorem dX8_make_17 : decode cX8_make 17 = .ok (.iload_n 3, 1) := by decide +kernel
theorem dX8_make_18 : decode cX8_make 18 = .ok (.bipush 60, 2) := by decide +kernel
theorem dX8_make_20 : decode cX8_make 20 = .ok (.if_icmp .le 5, 3) := by decide +kernel
theorem dX8_make_23 : decode cX8_make 23 = .ok (.iconst (-1), 1) := by decide +kernel
theorem dX8_make_24 : decode cX8_make 24 = .ok (.ireturn, 1) := by decide +kernel
theorem dX8_make_25 : decode cX8_make 25 = .ok (.iload_n 3, 1) := by decide +kernel
theorem dX8_make_26 : decode cX8_make 26 = .ok (.ifCond .ge 6, 3) := by decide +kernel
theorem dX8_make_29 : decode cX8_make 29 = .ok (.bipush (-14), 2) := by decide +kernel
theorem dX8_make_31 : decode cX8_make 31 = .ok (.ireturn, 1) := by decide +kernel
theorem dX8_make_32 : decode cX8_make 32 = .ok (.aload_n 0, 1) := by decide +kernel
theorem dX8_make_33 : decode cX8_make 33 = .ok (.getfield 32, 3) := by decide +kernel
theorem dX8_make_36 : decode cX8_make 36 = .ok (.iload_n 1, 1) := by decide +kernel
theorem dX8_make_37 : decode cX8_make 37 = .ok (.aaload, 1) := by decide +kernel
theorem dX8_make_38 : decode cX8_make 38 = .ok (.iload_n 2, 1) := by decide +kernel
theorem dX8_make_39 : decode cX8_make 39 = .ok (.iload_n 3, 1) := by decide +kernel
theorem dX8_make_40 : decode cX8_make 40 = .ok (.invokevirtual 263, 3) := by decide +kernel
theorem dX8_make_43 : decode cX8_make 43 = .ok (.iconst 0, 1) := by decide +kernel
theorem dX8_make_44 : decode cX8_make 44 = .ok (.ireturn, 1) := by decide +kernel
theorem dX8_element_0 : decode cX8_element 0 = .ok (.iload_n 1, 1) := by decide +kernel
theorem dX8_element_1 : decode cX8_element 1 = .ok (.invokestatic 245, 3) := by decide +kernel
theorem dX8_element_4 : decode cX8_element 4 = .ok (.ifCond .ne 14, 3) := by decide +kernel
theorem dX8_element_7 : decode cX8_element 7 = .ok (.new 266, 3) := by decide +kernel
theorem dX8_element_10 : decode cX8_element 10 = .ok (.dup, 1) := by decide +kernel
theorem dX8_element_11 : decode cX8_element 11 = .ok (.ldc_w 268, 3) := by decide +kernel
theorem dX8_element_14 : decode cX8_element 14 = .ok (.invokespecial 270, 3) := by decide +kernel
theorem dX8_element_17 : decode cX8_element 17 = .ok (.athrow, 1) := by decide +kernel
theorem dX8_element_18 : decode cX8_element 18 = .ok (.aload_n 0, 1) := by decide +kernel
theorem dX8_element_19 : decode cX8_element 19 = .ok (.getfield 32, 3) := by decide +kernel
theorem dX8_element_22 : decode cX8_element 22 = .ok (.iload_n 1, 1) := by decide +kernel
theorem dX8_element_23 : decode cX8_element 23 = .ok (.aaload, 1) := by decide +kernel
theorem dX8_element_24 : decode cX8_element 24 = .ok (.astore_n 3, 1) := by decide +kernel
theorem dX8_element_25 : decode cX8_element 25 = .ok (.aload_n 3, 1) := by decide +kernel
theorem dX8_element_26 : decode cX8_element 26 = .ok (.invokevirtual 273, 3) := by decide +kernel
theorem dX8_element_29 : decode cX8_element 29 = .ok (.ifCond .ne 14, 3) := by decide +kernel
theorem dX8_element_32 : decode cX8_element 32 = .ok (.new 276, 3) := by decide +kernel
theorem dX8_element_35 : decode cX8_element 35 = .ok (.dup, 1) := by decide +kernel
theorem dX8_element_36 : decode cX8_element 36 = .ok (.ldc_w 278, 3) := by decide +kernel
theorem dX8_element_39 : decode cX8_element 39 = .ok (.invokespecial 280, 3) := by decide +kernel
theorem dX8_element_42 : decode cX8_element 42 = .ok (.athrow, 1) := by decide +kernel
theorem dX8_element_43 : decode cX8_element 43 = .ok (.iload_n 2, 1) := by decide +kernel
theorem dX8_element_44 : decode cX8_element 44 = .ok (.ifCond .lt 11, 3) := by decide +kernel
theorem dX8_element_47 : decode cX8_element 47 = .ok (.iload_n 2, 1) := by decide +kernel
theorem dX8_element_48 : decode cX8_element 48 = .ok (.aload_n 3, 1) := by decide +kernel
theorem dX8_element_49 : decode cX8_element 49 = .ok (.getfield 281, 3) := by decide +kernel
theorem dX8_element_52 : decode cX8_element 52 = .ok (.if_icmp .lt 14, 3) := by decide +kernel
theorem dX8_element_55 : decode cX8_element 55 = .ok (.new 276, 3) := by decide +kernel
theorem dX8_element_58 : decode cX8_element 58 = .ok (.dup, 1) := by decide +kernel
theorem dX8_element_59 : decode cX8_element 59 = .ok (.ldc_w 284, 3) := by decide +kernel
theorem dX8_element_62 : decode cX8_element 62 = .ok (.invokespecial 280, 3) := by decide +kernel
theorem dX8_element_65 : decode cX8_element 65 = .ok (.athrow, 1) := by decide +kernel
theorem dX8_element_66 : decode cX8_element 66 = .ok (.aload_n 3, 1) := by decide +kernel
theorem dX8_element_67 : decode cX8_element 67 = .ok (.iload_n 2, 1) := by decide +kernel
theorem dX8_element_68 : decode cX8_element 68 = .ok (.invokevirtual 286, 3) := by decide +kernel
theorem dX8_element_71 : decode cX8_element 71 = .ok (.lreturn, 1) := by decide +kernel
theorem dX8_copy_0 : decode cX8_copy 0 = .ok (.iload_n 1, 1) := by decide +kernel
theorem dX8_copy_1 : decode cX8_copy 1 = .ok (.invokestatic 245, 3) := by decide +kernel
theorem dX8_copy_4 : decode cX8_copy 4 = .ok (.ifCond .eq 10, 3) := by decide +kernel
theorem dX8_copy_7 : decode cX8_copy 7 = .ok (.iload_n 3, 1) := by decide +kernel
theorem dX8_copy_8 : decode cX8_copy 8 = .ok (.invokestatic 245, 3) := by decide +kernel
theorem dX8_copy_11 : decode cX8_copy 11 = .ok (.ifCond .ne 5, 3) := by decide +kernel
theorem dX8_copy_14 : decode cX8_copy 14 = .ok (.iconst (-1), 1) := by decide +kernel
theorem dX8_copy_15 : decode cX8_copy 15 = .ok (.ireturn, 1) := by decide +kernel
theorem dX8_copy_16 : decode cX8_copy 16 = .ok (.aload_n 0, 1) := by decide +kernel
theorem dX8_copy_17 : decode cX8_copy 17 = .ok (.getfield 32, 3) := by decide +kernel
theorem dX8_copy_20 : decode cX8_copy 20 = .ok (.iload_n 1, 1) := by decide +kernel
theorem dX8_copy_21 : decode cX8_copy 21 = .ok (.aaload, 1) := by decide +kernel
theorem dX8_copy_22 : decode cX8_copy 22 = .ok (.astore 6, 2) := by decide +kernel
theorem dX8_copy_24 : decode cX8_copy 24 = .ok (.aload_n 0, 1) := by decide +kernel
theorem dX8_copy_25 : decode cX8_copy 25 = .ok (.getfield 32, 3) := by decide +kernel
theorem dX8_copy_28 : decode cX8_copy 28 = .ok (.iload_n 3, 1) := by decide +kernel
theorem dX8_copy_29 : decode cX8_copy 29 = .ok (.aaload, 1) := by decide +kernel
theorem dX8_copy_30 : decode cX8_copy 30 = .ok (.astore 7, 2) := by decide +kernel
theorem dX8_copy_32 : decode cX8_copy 32 = .ok (.aload 6, 2) := by decide +kernel
theorem dX8_copy_34 : decode cX8_copy 34 = .ok (.getfield 290, 3) := by decide +kernel
theorem dX8_copy_37 : decode cX8_copy 37 = .ok (.ifCond .eq 11, 3) := by decide +kernel
theorem dX8_copy_40 : decode cX8_copy 40 = .ok (.aload 7, 2) := by decide +kernel
theorem dX8_copy_42 : decode cX8_copy 42 = .ok (.getfield 290, 3) := by decide +kernel
theorem dX8_copy_45 : decode cX8_copy 45 = .ok (.ifCond .ne 6, 3) := by decide +kernel
theorem dX8_copy_48 : decode cX8_copy 48 = .ok (.bipush (-11), 2) := by decide +kernel
theorem dX8_copy_50 : decode cX8_copy 50 = .ok (.ireturn, 1) := by decide +kernel
theorem dX8_copy_51 : decode cX8_copy 51 = .ok (.aload 6, 2) := by decide +kernel
theorem dX8_copy_53 : decode cX8_copy 53 = .ok (.invokevirtual 273, 3) := by decide +kernel
theorem dX8_copy_56 : decode cX8_copy 56 = .ok (.ifCond .eq 16, 3) := by decide +kernel
theorem dX8_copy_59 : decode cX8_copy 59 = .ok (.aload 6, 2) := by decide +kernel
theorem dX8_copy_61 : decode cX8_copy 61 = .ok (.getfield 290, 3) := by decide +kernel
theorem dX8_copy_64 : decode cX8_copy 64 = .ok (.aload 7, 2) := by decide +kernel
theorem dX8_copy_66 : decode cX8_copy 66 = .ok (.getfield 290, 3) := by decide +kernel
theorem dX8_copy_69 : decode cX8_copy 69 = .ok (.if_icmp .eq 6, 3) := by decide +kernel
theorem dX8_copy_72 : decode cX8_copy 72 = .ok (.bipush (-12), 2) := by decide +kernel
theorem dX8_copy_74 : decode cX8_copy 74 = .ok (.ireturn, 1) := by decide +kernel
theorem dX8_copy_75 : decode cX8_copy 75 = .ok (.aload 6, 2) := by decide +kernel
theorem dX8_copy_77 : decode cX8_copy 77 = .ok (.iload_n 2, 1) := by decide +kernel
theorem dX8_copy_78 : decode cX8_copy 78 = .ok (.iload 5, 2) := by decide +kernel
theorem dX8_copy_80 : decode cX8_copy 80 = .ok (.invokevirtual 293, 3) := by decide +kernel
theorem dX8_copy_83 : decode cX8_copy 83 = .ok (.ifCond .eq 15, 3) := by decide +kernel
theorem dX8_copy_86 : decode cX8_copy 86 = .ok (.aload 7, 2) := by decide +kernel
theorem dX8_copy_88 : decode cX8_copy 88 = .ok (.iload 4, 2) := by decide +kernel
theorem dX8_copy_90 : decode cX8_copy 90 = .ok (.iload 5, 2) := by decide +kernel
theorem dX8_copy_92 : decode cX8_copy 92 = .ok (.invokevirtual 293, 3) := by decide +kernel
theorem dX8_copy_95 : decode cX8_copy 95 = .ok (.ifCond .ne 6, 3) := by decide +kernel
theorem dX8_copy_98 : decode cX8_copy 98 = .ok (.bipush (-13), 2) := by decide +kernel
theorem dX8_copy_100 : decode cX8_copy 100 = .ok (.ireturn, 1) := by decide +kernel
theorem dX8_copy_101 : decode cX8_copy 101 = .ok (.aload 6, 2) := by decide +kernel
theorem dX8_copy_103 : decode cX8_copy 103 = .ok (.aload 7, 2) := by decide +kernel
theorem dX8_copy_105 : decode cX8_copy 105 = .ok (.iload_n 2, 1) := by decide +kernel
theorem dX8_copy_106 : decode cX8_copy 106 = .ok (.iload 4, 2) := by decide +kernel
theorem dX8_copy_108 : decode cX8_copy 108 = .ok (.iload 5, 2) := by decide +kernel
theorem dX8_copy_110 : decode cX8_copy 110 = .ok (.invokevirtual 296, 3) := by decide +kernel
theorem dX8_copy_113 : decode cX8_copy 113 = .ok (.iload 5, 2) := by decide +kernel
theorem dX8_copy_115 : decode cX8_copy 115 = .ok (.ireturn, 1) := by decide +kernel
theorem dX8_weight_0 : decode cX8_weight 0 = .ok (.aload_n 0, 1) := by decide +kernel
theorem dX8_weight_1 : decode cX8_weight 1 = .ok (.iload_n 1, 1) := by decide +kernel
theorem dX8_weight_2 : decode cX8_weight 2 = .ok (.invokevirtual 300, 3) := by decide +kernel
theorem dX8_weight_5 : decode cX8_weight 5 = .ok (.istore_n 2, 1) := by decide +kernel
theorem dX8_weight_6 : decode cX8_weight 6 = .ok (.iload_n 2, 1) := by decide +kernel
theorem dX8_weight_7 : decode cX8_weight 7 = .ok (.ifCond .eq 7, 3) := by decide +kernel
theorem dX8_weight_10 : decode cX8_weight 10 = .ok (.iload_n 2, 1) := by decide +kernel
theorem dX8_weight_11 : decode cX8_weight 11 = .ok (.goto 15, 3) := by decide +kernel
theorem dX8_weight_14 : decode cX8_weight 14 = .ok (.aload_n 0, 1) := by decide +kernel
theorem dX8_weight_15 : decode cX8_weight 15 = .ok (.getfield 32, 3) := by decide +kernel
theorem dX8_weight_18 : decode cX8_weight 18 = .ok (.iload_n 1, 1) := by decide +kernel
theorem dX8_weight_19 : decode cX8_weight 19 = .ok (.aaload, 1) := by decide +kernel
theorem dX8_weight_20 : decode cX8_weight 20 = .ok (.getfield 303, 3) := by decide +kernel
theorem dX8_weight_23 : decode cX8_weight 23 = .ok (.invokevirtual 307, 3) := by decide +kernel
theorem dX8_weight_26 : decode cX8_weight 26 = .ok (.ireturn, 1) := by decide +kernel
theorem dX8_toss_0 : decode cX8_toss 0 = .ok (.aload_n 0, 1) := by decide +kernel
theorem dX8_toss_1 : decode cX8_toss 1 = .ok (.iload_n 1, 1) := by decide +kernel
theorem dX8_toss_2 : decode cX8_toss 2 = .ok (.invokevirtual 300, 3) := by decide +kernel
theorem dX8_toss_5 : decode cX8_toss 5 = .ok (.istore_n 2, 1) := by decide +kernel
theorem dX8_toss_6 : decode cX8_toss 6 = .ok (.iload_n 2, 1) := by decide +kernel
theorem dX8_toss_7 : decode cX8_toss 7 = .ok (.ifCond .eq 5, 3) := by decide +kernel
theorem dX8_toss_10 : decode cX8_toss 10 = .ok (.iload_n 2, 1) := by decide +kernel
theorem dX8_toss_11 : decode cX8_toss 11 = .ok (.ireturn, 1) := by decide +kernel
theorem dX8_toss_12 : decode cX8_toss 12 = .ok (.aload_n 0, 1) := by decide +kernel
theorem dX8_toss_13 : decode cX8_toss 13 = .ok (.getfield 32, 3) := by decide +kernel
theorem dX8_toss_16 : decode cX8_toss 16 = .ok (.iload_n 1, 1) := by decide +kernel
theorem dX8_toss_17 : decode cX8_toss 17 = .ok (.aaload, 1) := by decide +kernel
theorem dX8_toss_18 : decode cX8_toss 18 = .ok (.getfield 303, 3) := by decide +kernel
theorem dX8_toss_21 : decode cX8_toss 21 = .ok (.astore_n 3, 1) := by decide +kernel
theorem dX8_toss_22 : decode cX8_toss 22 = .ok (.aload_n 3, 1) := by decide +kernel
theorem dX8_toss_23 : decode cX8_toss 23 = .ok (.invokevirtual 311, 3) := by decide +kernel
theorem dX8_toss_26 : decode cX8_toss 26 = .ok (.goto 10, 3) := by decide +kernel
theorem dX8_toss_29 : decode cX8_toss 29 = .ok (.astore 4, 2) := by decide +kernel
theorem dX8_toss_31 : decode cX8_toss 31 = .ok (.aload_n 3, 1) := by decide +kernel
theorem dX8_toss_32 : decode cX8_toss 32 = .ok (.getfield 314, 3) := by decide +kernel
theorem dX8_toss_35 : decode cX8_toss 35 = .ok (.ireturn, 1) := by decide +kernel
theorem dX8_toss_36 : decode cX8_toss 36 = .ok (.bipush (-15), 2) := by decide +kernel
theorem dX8_toss_38 : decode cX8_toss 38 = .ok (.ireturn, 1) := by decide +kernel
theorem dX8_refusalOfLaw_0 : decode cX8_refusalOfLaw 0 = .ok (.iload_n 1, 1) := by decide +kernel
theorem dX8_refusalOfLaw_1 : decode cX8_refusalOfLaw 1 = .ok (.invokestatic 245, 3) := by decide +kernel
theorem dX8_refusalOfLaw_4 : decode cX8_refusalOfLaw 4 = .ok (.ifCond .ne 5, 3) := by decide +kernel
theorem dX8_refusalOfLaw_7 : decode cX8_refusalOfLaw 7 = .ok (.iconst (-1), 1) := by decide +kernel
theorem dX8_refusalOfLaw_8 : decode cX8_refusalOfLaw 8 = .ok (.ireturn, 1) := by decide +kernel
theorem dX8_refusalOfLaw_9 : decode cX8_refusalOfLaw 9 = .ok (.aload_n 0, 1) := by decide +kernel
theorem dX8_refusalOfLaw_10 : decode cX8_refusalOfLaw 10 = .ok (.getfield 32, 3) := by decide +kernel
theorem dX8_refusalOfLaw_13 : decode cX8_refusalOfLaw 13 = .ok (.iload_n 1, 1) := by decide +kernel
theorem dX8_refusalOfLaw_14 : decode cX8_refusalOfLaw 14 = .ok (.aaload, 1) := by decide +kernel
theorem dX8_refusalOfLaw_15 : decode cX8_refusalOfLaw 15 = .ok (.getfield 290, 3) := by decide +kernel
theorem dX8_refusalOfLaw_18 : decode cX8_refusalOfLaw 18 = .ok (.ifCond .ne 6, 3) := by decide +kernel
theorem dX8_refusalOfLaw_21 : decode cX8_refusalOfLaw 21 = .ok (.bipush (-11), 2) := by decide +kernel
theorem dX8_refusalOfLaw_23 : decode cX8_refusalOfLaw 23 = .ok (.ireturn, 1) := by decide +kernel
theorem dX8_refusalOfLaw_24 : decode cX8_refusalOfLaw 24 = .ok (.aload_n 0, 1) := by decide +kernel
theorem dX8_refusalOfLaw_25 : decode cX8_refusalOfLaw 25 = .ok (.getfield 32, 3) := by decide +kernel
theorem dX8_refusalOfLaw_28 : decode cX8_refusalOfLaw 28 = .ok (.iload_n 1, 1) := by decide +kernel
theorem dX8_refusalOfLaw_29 : decode cX8_refusalOfLaw 29 = .ok (.aaload, 1) := by decide +kernel
theorem dX8_refusalOfLaw_30 : decode cX8_refusalOfLaw 30 = .ok (.getfield 303, 3) := by decide +kernel
theorem dX8_refusalOfLaw_33 : decode cX8_refusalOfLaw 33 = .ok (.ifnonnull 8, 3) := by decide +kernel
theorem dX8_refusalOfLaw_36 : decode cX8_refusalOfLaw 36 = .ok (.bipush (-12), 2) := by decide +kernel
theorem dX8_refusalOfLaw_38 : decode cX8_refusalOfLaw 38 = .ok (.goto 4, 3) := by decide +kernel
theorem dX8_refusalOfLaw_41 : decode cX8_refusalOfLaw 41 = .ok (.iconst 0, 1) := by decide +kernel
theorem dX8_refusalOfLaw_42 : decode cX8_refusalOfLaw 42 = .ok (.ireturn, 1) := by decide +kernel
theorem dX8_isYear_0 : decode cX8_isYear 0 = .ok (.iload_n 0, 1) := by decide +kernel
theorem dX8_isYear_1 : decode cX8_isYear 1 = .ok (.ifCond .lt 14, 3) := by decide +kernel
theorem dX8_isYear_4 : decode cX8_isYear 4 = .ok (.iload_n 0, 1) := by decide +kernel
theorem dX8_isYear_5 : decode cX8_isYear 5 = .ok (.sipush 200, 3) := by decide +kernel
theorem dX8_isYear_8 : decode cX8_isYear 8 = .ok (.if_icmp .ge 7, 3) := by decide +kernel
theorem dX8_isYear_11 : decode cX8_isYear 11 = .ok (.iconst 1, 1) := by decide +kernel
theorem dX8_isYear_12 : decode cX8_isYear 12 = .ok (.goto 4, 3) := by decide +kernel
theorem dX8_isYear_15 : decode cX8_isYear 15 = .ok (.iconst 0, 1) := by decide +kernel
theorem dX8_isYear_16 : decode cX8_isYear 16 = .ok (.ireturn, 1) := by decide +kernel
theorem dX8_isOrder_0 : decode cX8_isOrder 0 = .ok (.iload_n 0, 1) := by decide +kernel
theorem dX8_isOrder_1 : decode cX8_isOrder 1 = .ok (.ifCond .eq 8, 3) := by decide +kernel
theorem dX8_isOrder_4 : decode cX8_isOrder 4 = .ok (.iload_n 0, 1) := by decide +kernel
theorem dX8_isOrder_5 : decode cX8_isOrder 5 = .ok (.iconst 1, 1) := by decide +kernel
theorem dX8_isOrder_6 : decode cX8_isOrder 6 = .ok (.if_icmp .ne 7, 3) := by decide +kernel
theorem dX8_isOrder_9 : decode cX8_isOrder 9 = .ok (.iconst 1, 1) := by decide +kernel
theorem dX8_isOrder_10 : decode cX8_isOrder 10 = .ok (.goto 4, 3) := by decide +kernel
theorem dX8_isOrder_13 : decode cX8_isOrder 13 = .ok (.iconst 0, 1) := by decide +kernel
theorem dX8_isOrder_14 : decode cX8_isOrder 14 = .ok (.ireturn, 1) := by decide +kernel
theorem dX8_isBirth_0 : decode cX8_isBirth 0 = .ok (.iload_n 0, 1) := by decide +kernel
theorem dX8_isBirth_1 : decode cX8_isBirth 1 = .ok (.bipush (-50), 2) := by decide +kernel
theorem dX8_isBirth_3 : decode cX8_isBirth 3 = .ok (.if_icmp .lt 19, 3) := by decide +kernel
theorem dX8_isBirth_6 : decode cX8_isBirth 6 = .ok (.iload_n 0, 1) := by decide +kernel
theorem dX8_isBirth_7 : decode cX8_isBirth 7 = .ok (.iload_n 1, 1) := by decide +kernel
theorem dX8_isBirth_8 : decode cX8_isBirth 8 = .ok (.if_icmp .gt 14, 3) := by decide +kernel
theorem dX8_isBirth_11 : decode cX8_isBirth 11 = .ok (.iload_n 1, 1) := by decide +kernel
theorem dX8_isBirth_12 : decode cX8_isBirth 12 = .ok (.sipush 200, 3) := by decide +kernel
theorem dX8_isBirth_15 : decode cX8_isBirth 15 = .ok (.if_icmp .ge 7, 3) := by decide +kernel
theorem dX8_isBirth_18 : decode cX8_isBirth 18 = .ok (.iconst 1, 1) := by decide +kernel
theorem dX8_isBirth_19 : decode cX8_isBirth 19 = .ok (.goto 4, 3) := by decide +kernel
theorem dX8_isBirth_22 : decode cX8_isBirth 22 = .ok (.iconst 0, 1) := by decide +kernel
theorem dX8_isBirth_23 : decode cX8_isBirth 23 = .ok (.ireturn, 1) := by decide +kernel
theorem dX8_isShelf_0 : decode cX8_isShelf 0 = .ok (.iload_n 0, 1) := by decide +kernel
theorem dX8_isShelf_1 : decode cX8_isShelf 1 = .ok (.ifCond .lt 13, 3) := by decide +kernel
theorem dX8_isShelf_4 : decode cX8_isShelf 4 = .ok (.iload_n 0, 1) := by decide +kernel
theorem dX8_isShelf_5 : decode cX8_isShelf 5 = .ok (.bipush 8, 2) := by decide +kernel
theorem dX8_isShelf_7 : decode cX8_isShelf 7 = .ok (.if_icmp .ge 7, 3) := by decide +kernel
theorem dX8_isShelf_10 : decode cX8_isShelf 10 = .ok (.iconst 1, 1) := by decide +kernel
theorem dX8_isShelf_11 : decode cX8_isShelf 11 = .ok (.goto 4, 3) := by decide +kernel
theorem dX8_isShelf_14 : decode cX8_isShelf 14 = .ok (.iconst 0, 1) := by decide +kernel
theorem dX8_isShelf_15 : decode cX8_isShelf 15 = .ok (.ireturn, 1) := by decide +kernel
theorem dX8_draw_0 : decode cX8_draw 0 = .ok (.iconst 0, 1) := by decide +kernel
theorem dX8_draw_1 : decode cX8_draw 1 = .ok (.istore 4, 2) := by decide +kernel
theorem dX8_draw_3 : decode cX8_draw 3 = .ok (.iload 4, 2) := by decide +kernel
theorem dX8_draw_5 : decode cX8_draw 5 = .ok (.iload_n 1, 1) := by decide +kernel
theorem dX8_draw_6 : decode cX8_draw 6 = .ok (.if_icmp .ge 15, 3) := by decide +kernel
theorem dX8_draw_9 : decode cX8_draw 9 = .ok (.aload_n 0, 1) := by decide +kernel
theorem dX8_draw_10 : decode cX8_draw 10 = .ok (.iload 4, 2) := by decide +kernel
theorem dX8_draw_12 : decode cX8_draw 12 = .ok (.iload 4, 2) := by decide +kernel
theorem dX8_draw_14 : decode cX8_draw 14 = .ok (.iastore, 1) := by decide +kernel
theorem dX8_draw_15 : decode cX8_draw 15 = .ok (.iinc 4 1, 3) := by decide +kernel
theorem dX8_draw_18 : decode cX8_draw 18 = .ok (.goto (-15), 3) := by decide +kernel
theorem dX8_draw_21 : decode cX8_draw 21 = .ok (.lload_n 2, 1) := by decide +kernel
theorem dX8_draw_22 : decode cX8_draw 22 = .ok (.lstore 4, 2) := by decide +kernel
theorem dX8_draw_24 : decode cX8_draw 24 = .ok (.iconst 0, 1) := by decide +kernel
theorem dX8_draw_25 : decode cX8_draw 25 = .ok (.istore 6, 2) := by decide +kernel
theorem dX8_draw_27 : decode cX8_draw 27 = .ok (.iload 6, 2) := by decide +kernel
theorem dX8_draw_29 : decode cX8_draw 29 = .ok (.iload_n 1, 1) := by decide +kernel
theorem dX8_draw_30 : decode cX8_draw 30 = .ok (.if_icmp .ge 74, 3) := by decide +kernel
theorem dX8_draw_33 : decode cX8_draw 33 = .ok (.iload_n 1, 1) := by decide +kernel
theorem dX8_draw_34 : decode cX8_draw 34 = .ok (.iload 6, 2) := by decide +kernel
theorem dX8_draw_36 : decode cX8_draw 36 = .ok (.isub, 1) := by decide +kernel
theorem dX8_draw_37 : decode cX8_draw 37 = .ok (.istore 7, 2) := by decide +kernel
theorem dX8_draw_39 : decode cX8_draw 39 = .ok (.iload 6, 2) := by decide +kernel
theorem dX8_draw_41 : decode cX8_draw 41 = .ok (.lload 4, 2) := by decide +kernel
theorem dX8_draw_43 : decode cX8_draw 43 = .ok (.iload 7, 2) := by decide +kernel
theorem dX8_draw_45 : decode cX8_draw 45 = .ok (.i2l, 1) := by decide +kernel
theorem dX8_draw_46 : decode cX8_draw 46 = .ok (.lrem, 1) := by decide +kernel
theorem dX8_draw_47 : decode cX8_draw 47 = .ok (.l2i, 1) := by decide +kernel
theorem dX8_draw_48 : decode cX8_draw 48 = .ok (.iadd, 1) := by decide +kernel
theorem dX8_draw_49 : decode cX8_draw 49 = .ok (.istore 8, 2) := by decide +kernel
theorem dX8_draw_51 : decode cX8_draw 51 = .ok (.lload 4, 2) := by decide +kernel
theorem dX8_draw_53 : decode cX8_draw 53 = .ok (.iload 7, 2) := by decide +kernel
theorem dX8_draw_55 : decode cX8_draw 55 = .ok (.i2l, 1) := by decide +kernel
theorem dX8_draw_56 : decode cX8_draw 56 = .ok (.ldiv, 1) := by decide +kernel
theorem dX8_draw_57 : decode cX8_draw 57 = .ok (.lstore 4, 2) := by decide +kernel
theorem dX8_draw_59 : decode cX8_draw 59 = .ok (.aload_n 0, 1) := by decide +kernel
theorem dX8_draw_60 : decode cX8_draw 60 = .ok (.iload 8, 2) := by decide +kernel
theorem dX8_draw_62 : decode cX8_draw 62 = .ok (.iaload, 1) := by decide +kernel
theorem dX8_draw_63 : decode cX8_draw 63 = .ok (.istore 9, 2) := by decide +kernel
theorem dX8_draw_65 : decode cX8_draw 65 = .ok (.iload 8, 2) := by decide +kernel
theorem dX8_draw_67 : decode cX8_draw 67 = .ok (.istore 10, 2) := by decide +kernel
theorem dX8_draw_69 : decode cX8_draw 69 = .ok (.iload 10, 2) := by decide +kernel
theorem dX8_draw_71 : decode cX8_draw 71 = .ok (.iload 6, 2) := by decide +kernel
theorem dX8_draw_73 : decode cX8_draw 73 = .ok (.if_icmp .le 19, 3) := by decide +kernel
theorem dX8_draw_76 : decode cX8_draw 76 = .ok (.aload_n 0, 1) := by decide +kernel
theorem dX8_draw_77 : decode cX8_draw 77 = .ok (.iload 10, 2) := by decide +kernel
theorem dX8_draw_79 : decode cX8_draw 79 = .ok (.aload_n 0, 1) := by decide +kernel
theorem dX8_draw_80 : decode cX8_draw 80 = .ok (.iload 10, 2) := by decide +kernel
theorem dX8_draw_82 : decode cX8_draw 82 = .ok (.iconst 1, 1) := by decide +kernel
theorem dX8_draw_83 : decode cX8_draw 83 = .ok (.isub, 1) := by decide +kernel
theorem dX8_draw_84 : decode cX8_draw 84 = .ok (.iaload, 1) := by decide +kernel
theorem dX8_draw_85 : decode cX8_draw 85 = .ok (.iastore, 1) := by decide +kernel
theorem dX8_draw_86 : decode cX8_draw 86 = .ok (.iinc 10 (-1), 3) := by decide +kernel
theorem dX8_draw_89 : decode cX8_draw 89 = .ok (.goto (-20), 3) := by decide +kernel
theorem dX8_draw_92 : decode cX8_draw 92 = .ok (.aload_n 0, 1) := by decide +kernel
theorem dX8_draw_93 : decode cX8_draw 93 = .ok (.iload 6, 2) := by decide +kernel
theorem dX8_draw_95 : decode cX8_draw 95 = .ok (.iload 9, 2) := by decide +kernel
theorem dX8_draw_97 : decode cX8_draw 97 = .ok (.iastore, 1) := by decide +kernel
theorem dX8_draw_98 : decode cX8_draw 98 = .ok (.iinc 6 1, 3) := by decide +kernel
theorem dX8_draw_101 : decode cX8_draw 101 = .ok (.goto (-74), 3) := by decide +kernel
theorem dX8_draw_104 : decode cX8_draw 104 = .ok (.return_, 1) := by decide +kernel
theorem dJ6_bitCount_0f7a4_0 : decode cJ6_bitCount_0f7a4 0 = .ok (.iload_n 0, 1) := by decide +kernel
theorem dJ6_bitCount_0f7a4_1 : decode cJ6_bitCount_0f7a4 1 = .ok (.iload_n 0, 1) := by decide +kernel
theorem dJ6_bitCount_0f7a4_2 : decode cJ6_bitCount_0f7a4 2 = .ok (.iconst 1, 1) := by decide +kernel
theorem dJ6_bitCount_0f7a4_3 : decode cJ6_bitCount_0f7a4 3 = .ok (.iushr, 1) := by decide +kernel
theorem dJ6_bitCount_0f7a4_4 : decode cJ6_bitCount_0f7a4 4 = .ok (.ldc_w 265, 3) := by decide +kernel
theorem dJ6_bitCount_0f7a4_7 : decode cJ6_bitCount_0f7a4 7 = .ok (.iand, 1) := by decide +kernel
theorem dJ6_bitCount_0f7a4_8 : decode cJ6_bitCount_0f7a4 8 = .ok (.isub, 1) := by decide +kernel
theorem dJ6_bitCount_0f7a4_9 : decode cJ6_bitCount_0f7a4 9 = .ok (.istore_n 0, 1) := by decide +kernel
theorem dJ6_bitCount_0f7a4_10 : decode cJ6_bitCount_0f7a4 10 = .ok (.iload_n 0, 1) := by decide +kernel
theorem dJ6_bitCount_0f7a4_11 : decode cJ6_bitCount_0f7a4 11 = .ok (.ldc_w 266, 3) := by decide +kernel
theorem dJ6_bitCount_0f7a4_14 : decode cJ6_bitCount_0f7a4 14 = .ok (.iand, 1) := by decide +kernel
theorem dJ6_bitCount_0f7a4_15 : decode cJ6_bitCount_0f7a4 15 = .ok (.iload_n 0, 1) := by decide +kernel
theorem dJ6_bitCount_0f7a4_16 : decode cJ6_bitCount_0f7a4 16 = .ok (.iconst 2, 1) := by decide +kernel
theorem dJ6_bitCount_0f7a4_17 : decode cJ6_bitCount_0f7a4 17 = .ok (.iushr, 1) := by decide +kernel
theorem dJ6_bitCount_0f7a4_18 : decode cJ6_bitCount_0f7a4 18 = .ok (.ldc_w 266, 3) := by decide +kernel
theorem dJ6_bitCount_0f7a4_21 : decode cJ6_bitCount_0f7a4 21 = .ok (.iand, 1) := by decide +kernel
theorem dJ6_bitCount_0f7a4_22 : decode cJ6_bitCount_0f7a4 22 = .ok (.iadd, 1) := by decide +kernel
theorem dJ6_bitCount_0f7a4_23 : decode cJ6_bitCount_0f7a4 23 = .ok (.istore_n 0, 1) := by decide +kernel
theorem dJ6_bitCount_0f7a4_24 : decode cJ6_bitCount_0f7a4 24 = .ok (.iload_n 0, 1) := by decide +kernel
theorem dJ6_bitCount_0f7a4_25 : decode cJ6_bitCount_0f7a4 25 = .ok (.iload_n 0, 1) := by decide +kernel
theorem dJ6_bitCount_0f7a4_26 : decode cJ6_bitCount_0f7a4 26 = .ok (.iconst 4, 1) := by decide +kernel
theorem dJ6_bitCount_0f7a4_27 : decode cJ6_bitCount_0f7a4 27 = .ok (.iushr, 1) := by decide +kernel
theorem dJ6_bitCount_0f7a4_28 : decode cJ6_bitCount_0f7a4 28 = .ok (.iadd, 1) := by decide +kernel
theorem dJ6_bitCount_0f7a4_29 : decode cJ6_bitCount_0f7a4 29 = .ok (.ldc_w 267, 3) := by decide +kernel
theorem dJ6_bitCount_0f7a4_32 : decode cJ6_bitCount_0f7a4 32 = .ok (.iand, 1) := by decide +kernel
theorem dJ6_bitCount_0f7a4_33 : decode cJ6_bitCount_0f7a4 33 = .ok (.istore_n 0, 1) := by decide +kernel
theorem dJ6_bitCount_0f7a4_34 : decode cJ6_bitCount_0f7a4 34 = .ok (.iload_n 0, 1) := by decide +kernel
theorem dJ6_bitCount_0f7a4_35 : decode cJ6_bitCount_0f7a4 35 = .ok (.iload_n 0, 1) := by decide +kernel
theorem dJ6_bitCount_0f7a4_36 : decode cJ6_bitCount_0f7a4 36 = .ok (.bipush 8, 2) := by decide +kernel
theorem dJ6_bitCount_0f7a4_38 : decode cJ6_bitCount_0f7a4 38 = .ok (.iushr, 1) := by decide +kernel
theorem dJ6_bitCount_0f7a4_39 : decode cJ6_bitCount_0f7a4 39 = .ok (.iadd, 1) := by decide +kernel
theorem dJ6_bitCount_0f7a4_40 : decode cJ6_bitCount_0f7a4 40 = .ok (.istore_n 0, 1) := by decide +kernel
theorem dJ6_bitCount_0f7a4_41 : decode cJ6_bitCount_0f7a4 41 = .ok (.iload_n 0, 1) := by decide +kernel
theorem dJ6_bitCount_0f7a4_42 : decode cJ6_bitCount_0f7a4 42 = .ok (.iload_n 0, 1) := by decide +kernel
theorem dJ6_bitCount_0f7a4_43 : decode cJ6_bitCount_0f7a4 43 = .ok (.bipush 16, 2) := by decide +kernel
theorem dJ6_bitCount_0f7a4_45 : decode cJ6_bitCount_0f7a4 45 = .ok (.iushr, 1) := by decide +kernel
theorem dJ6_bitCount_0f7a4_46 : decode cJ6_bitCount_0f7a4 46 = .ok (.iadd, 1) := by decide +kernel
theorem dJ6_bitCount_0f7a4_47 : decode cJ6_bitCount_0f7a4 47 = .ok (.istore_n 0, 1) := by decide +kernel
theorem dJ6_bitCount_0f7a4_48 : decode cJ6_bitCount_0f7a4 48 = .ok (.iload_n 0, 1) := by decide +kernel
theorem dJ6_bitCount_0f7a4_49 : decode cJ6_bitCount_0f7a4 49 = .ok (.bipush 63, 2) := by decide +kernel
theorem dJ6_bitCount_0f7a4_51 : decode cJ6_bitCount_0f7a4 51 = .ok (.iand, 1) := by decide +kernel
theorem dJ6_bitCount_0f7a4_52 : decode cJ6_bitCount_0f7a4 52 = .ok (.ireturn, 1) := by decide +kernel
theorem dJ7_fill_53178_0 : decode cJ7_fill_53178 0 = .ok (.iconst 0, 1) := by decide +kernel
theorem dJ7_fill_53178_1 : decode cJ7_fill_53178 1 = .ok (.istore_n 2, 1) := by decide +kernel
theorem dJ7_fill_53178_2 : decode cJ7_fill_53178 2 = .ok (.aload_n 0, 1) := by decide +kernel
theorem dJ7_fill_53178_3 : decode cJ7_fill_53178 3 = .ok (.arraylength, 1) := by decide +kernel
theorem dJ7_fill_53178_4 : decode cJ7_fill_53178 4 = .ok (.istore_n 3, 1) := by decide +kernel
theorem dJ7_fill_53178_5 : decode cJ7_fill_53178 5 = .ok (.iload_n 2, 1) := by decide +kernel
theorem dJ7_fill_53178_6 : decode cJ7_fill_53178 6 = .ok (.iload_n 3, 1) := by decide +kernel
theorem dJ7_fill_53178_7 : decode cJ7_fill_53178 7 = .ok (.if_icmp .ge 13, 3) := by decide +kernel
theorem dJ7_fill_53178_10 : decode cJ7_fill_53178 10 = .ok (.aload_n 0, 1) := by decide +kernel
theorem dJ7_fill_53178_11 : decode cJ7_fill_53178 11 = .ok (.iload_n 2, 1) := by decide +kernel
theorem dJ7_fill_53178_12 : decode cJ7_fill_53178 12 = .ok (.iload_n 1, 1) := by decide +kernel
theorem dJ7_fill_53178_13 : decode cJ7_fill_53178 13 = .ok (.iastore, 1) := by decide +kernel
theorem dJ7_fill_53178_14 : decode cJ7_fill_53178 14 = .ok (.iinc 2 1, 3) := by decide +kernel
theorem dJ7_fill_53178_17 : decode cJ7_fill_53178 17 = .ok (.goto (-12), 3) := by decide +kernel
theorem dJ7_fill_53178_20 : decode cJ7_fill_53178 20 = .ok (.return_, 1) := by decide +kernel
theorem dJ7_fill_031fb_0 : decode cJ7_fill_031fb 0 = .ok (.iconst 0, 1) := by decide +kernel
theorem dJ7_fill_031fb_1 : decode cJ7_fill_031fb 1 = .ok (.istore_n 2, 1) := by decide +kernel
theorem dJ7_fill_031fb_2 : decode cJ7_fill_031fb 2 = .ok (.aload_n 0, 1) := by decide +kernel
theorem dJ7_fill_031fb_3 : decode cJ7_fill_031fb 3 = .ok (.arraylength, 1) := by decide +kernel
theorem dJ7_fill_031fb_4 : decode cJ7_fill_031fb 4 = .ok (.istore_n 3, 1) := by decide +kernel
theorem dJ7_fill_031fb_5 : decode cJ7_fill_031fb 5 = .ok (.iload_n 2, 1) := by decide +kernel
theorem dJ7_fill_031fb_6 : decode cJ7_fill_031fb 6 = .ok (.iload_n 3, 1) := by decide +kernel
theorem dJ7_fill_031fb_7 : decode cJ7_fill_031fb 7 = .ok (.if_icmp .ge 13, 3) := by decide +kernel
theorem dJ7_fill_031fb_10 : decode cJ7_fill_031fb 10 = .ok (.aload_n 0, 1) := by decide +kernel
theorem dJ7_fill_031fb_11 : decode cJ7_fill_031fb 11 = .ok (.iload_n 2, 1) := by decide +kernel
theorem dJ7_fill_031fb_12 : decode cJ7_fill_031fb 12 = .ok (.iload_n 1, 1) := by decide +kernel
theorem dJ7_fill_031fb_13 : decode cJ7_fill_031fb 13 = .ok (.bastore, 1) := by decide +kernel
theorem dJ7_fill_031fb_14 : decode cJ7_fill_031fb 14 = .ok (.iinc 2 1, 3) := by decide +kernel
theorem dJ7_fill_031fb_17 : decode cJ7_fill_031fb 17 = .ok (.goto (-12), 3) := by decide +kernel
theorem dJ7_fill_031fb_20 : decode cJ7_fill_031fb 20 = .ok (.return_, 1) := by decide +kernel
