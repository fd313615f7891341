/-! printed: decode rows of the class -/
theorem dX0_init_0 : decode cX0_init 0 = .ok (.aload_n 0, 1) := by decide +kernel
theorem dX0_init_1 : decode cX0_init 1 = .ok (.invokespecial 3, 3) := by decide +kernel
theorem dX0_init_4 : decode cX0_init 4 = .ok (.return_, 1) := by decide +kernel
theorem dX0_begin_0 : decode cX0_begin 0 = .ok (.aload_n 0, 1) := by decide +kernel
theorem dX0_begin_1 : decode cX0_begin 1 = .ok (.iload_n 1, 1) := by decide +kernel
theorem dX0_begin_2 : decode cX0_begin 2 = .ok (.putfield 9, 3) := by decide +kernel
theorem dX0_begin_5 : decode cX0_begin 5 = .ok (.aload_n 0, 1) := by decide +kernel
theorem dX0_begin_6 : decode cX0_begin 6 = .ok (.iload_n 2, 1) := by decide +kernel
theorem dX0_begin_7 : decode cX0_begin 7 = .ok (.putfield 15, 3) := by decide +kernel
theorem dX0_begin_10 : decode cX0_begin 10 = .ok (.aload_n 0, 1) := by decide +kernel
theorem dX0_begin_11 : decode cX0_begin 11 = .ok (.iconst 3, 1) := by decide +kernel
theorem dX0_begin_12 : decode cX0_begin 12 = .ok (.putfield 18, 3) := by decide +kernel
theorem dX0_begin_15 : decode cX0_begin 15 = .ok (.aload_n 0, 1) := by decide +kernel
theorem dX0_begin_16 : decode cX0_begin 16 = .ok (.iconst 0, 1) := by decide +kernel
theorem dX0_begin_17 : decode cX0_begin 17 = .ok (.putfield 21, 3) := by decide +kernel
theorem dX0_begin_20 : decode cX0_begin 20 = .ok (.aload_n 0, 1) := by decide +kernel
theorem dX0_begin_21 : decode cX0_begin 21 = .ok (.iconst 0, 1) := by decide +kernel
theorem dX0_begin_22 : decode cX0_begin 22 = .ok (.putfield 24, 3) := by decide +kernel
theorem dX0_begin_25 : decode cX0_begin 25 = .ok (.aload_n 0, 1) := by decide +kernel
theorem dX0_begin_26 : decode cX0_begin 26 = .ok (.iconst 0, 1) := by decide +kernel
theorem dX0_begin_27 : decode cX0_begin 27 = .ok (.putfield 27, 3) := by decide +kernel
theorem dX0_begin_30 : decode cX0_begin 30 = .ok (.aload_n 0, 1) := by decide +kernel
theorem dX0_begin_31 : decode cX0_begin 31 = .ok (.iconst 0, 1) := by decide +kernel
theorem dX0_begin_32 : decode cX0_begin 32 = .ok (.putfield 30, 3) := by decide +kernel
theorem dX0_begin_35 : decode cX0_begin 35 = .ok (.return_, 1) := by decide +kernel
theorem dX0_copyFrom_0 : decode cX0_copyFrom 0 = .ok (.aload_n 0, 1) := by decide +kernel
theorem dX0_copyFrom_1 : decode cX0_copyFrom 1 = .ok (.aload_n 1, 1) := by decide +kernel
theorem dX0_copyFrom_2 : decode cX0_copyFrom 2 = .ok (.getfield 9, 3) := by decide +kernel
theorem dX0_copyFrom_5 : decode cX0_copyFrom 5 = .ok (.putfield 9, 3) := by decide +kernel
theorem dX0_copyFrom_8 : decode cX0_copyFrom 8 = .ok (.aload_n 0, 1) := by decide +kernel
theorem dX0_copyFrom_9 : decode cX0_copyFrom 9 = .ok (.aload_n 1, 1) := by decide +kernel
theorem dX0_copyFrom_10 : decode cX0_copyFrom 10 = .ok (.getfield 15, 3) := by decide +kernel
theorem dX0_copyFrom_13 : decode cX0_copyFrom 13 = .ok (.putfield 15, 3) := by decide +kernel
theorem dX0_copyFrom_16 : decode cX0_copyFrom 16 = .ok (.aload_n 0, 1) := by decide +kernel
theorem dX0_copyFrom_17 : decode cX0_copyFrom 17 = .ok (.aload_n 1, 1) := by decide +kernel
theorem dX0_copyFrom_18 : decode cX0_copyFrom 18 = .ok (.getfield 18, 3) := by decide +kernel
theorem dX0_copyFrom_21 : decode cX0_copyFrom 21 = .ok (.putfield 18, 3) := by decide +kernel
theorem dX0_copyFrom_24 : decode cX0_copyFrom 24 = .ok (.aload_n 0, 1) := by decide +kernel
theorem dX0_copyFrom_25 : decode cX0_copyFrom 25 = .ok (.aload_n 1, 1) := by decide +kernel
theorem dX0_copyFrom_26 : decode cX0_copyFrom 26 = .ok (.getfield 21, 3) := by decide +kernel
theorem dX0_copyFrom_29 : decode cX0_copyFrom 29 = .ok (.putfield 21, 3) := by decide +kernel
theorem dX0_copyFrom_32 : decode cX0_copyFrom 32 = .ok (.aload_n 0, 1) := by decide +kernel
theorem dX0_copyFrom_33 : decode cX0_copyFrom 33 = .ok (.aload_n 1, 1) := by decide +kernel
theorem dX0_copyFrom_34 : decode cX0_copyFrom 34 = .ok (.getfield 24, 3) := by decide +kernel
theorem dX0_copyFrom_37 : decode cX0_copyFrom 37 = .ok (.putfield 24, 3) := by decide +kernel
theorem dX0_copyFrom_40 : decode cX0_copyFrom 40 = .ok (.aload_n 0, 1) := by decide +kernel
theorem dX0_copyFrom_41 : decode cX0_copyFrom 41 = .ok (.aload_n 1, 1) := by decide +kernel
theorem dX0_copyFrom_42 : decode cX0_copyFrom 42 = .ok (.getfield 27, 3) := by decide +kernel
theorem dX0_copyFrom_45 : decode cX0_copyFrom 45 = .ok (.putfield 27, 3) := by decide +kernel
theorem dX0_copyFrom_48 : decode cX0_copyFrom 48 = .ok (.aload_n 0, 1) := by decide +kernel
theorem dX0_copyFrom_49 : decode cX0_copyFrom 49 = .ok (.aload_n 1, 1) := by decide +kernel
theorem dX0_copyFrom_50 : decode cX0_copyFrom 50 = .ok (.getfield 30, 3) := by decide +kernel
theorem dX0_copyFrom_53 : decode cX0_copyFrom 53 = .ok (.putfield 30, 3) := by decide +kernel
theorem dX0_copyFrom_56 : decode cX0_copyFrom 56 = .ok (.return_, 1) := by decide +kernel
theorem dX0_told_0 : decode cX0_told 0 = .ok (.iload_n 1, 1) := by decide +kernel
theorem dX0_told_1 : decode cX0_told 1 = .ok (.tableswitch 105 0 9 #[55, 60, 65, 70, 75, 80, 85, 90, 95, 100], 55) := by decide +kernel
theorem dX0_told_56 : decode cX0_told 56 = .ok (.aload_n 0, 1) := by decide +kernel
theorem dX0_told_57 : decode cX0_told 57 = .ok (.getfield 9, 3) := by decide +kernel
theorem dX0_told_60 : decode cX0_told 60 = .ok (.ireturn, 1) := by decide +kernel
theorem dX0_told_61 : decode cX0_told 61 = .ok (.aload_n 0, 1) := by decide +kernel
theorem dX0_told_62 : decode cX0_told 62 = .ok (.getfield 15, 3) := by decide +kernel
theorem dX0_told_65 : decode cX0_told 65 = .ok (.ireturn, 1) := by decide +kernel
theorem dX0_told_66 : decode cX0_told 66 = .ok (.aload_n 0, 1) := by decide +kernel
theorem dX0_told_67 : decode cX0_told 67 = .ok (.getfield 18, 3) := by decide +kernel
theorem dX0_told_70 : decode cX0_told 70 = .ok (.ireturn, 1) := by decide +kernel
theorem dX0_told_71 : decode cX0_told 71 = .ok (.aload_n 0, 1) := by decide +kernel
theorem dX0_told_72 : decode cX0_told 72 = .ok (.getfield 21, 3) := by decide +kernel
theorem dX0_told_75 : decode cX0_told 75 = .ok (.ireturn, 1) := by decide +kernel
theorem dX0_told_76 : decode cX0_told 76 = .ok (.aload_n 0, 1) := by decide +kernel
theorem dX0_told_77 : decode cX0_told 77 = .ok (.getfield 24, 3) := by decide +kernel
theorem dX0_told_80 : decode cX0_told 80 = .ok (.ireturn, 1) := by decide +kernel
theorem dX0_told_81 : decode cX0_told 81 = .ok (.aload_n 0, 1) := by decide +kernel
theorem dX0_told_82 : decode cX0_told 82 = .ok (.getfield 27, 3) := by decide +kernel
theorem dX0_told_85 : decode cX0_told 85 = .ok (.ireturn, 1) := by decide +kernel
theorem dX0_told_86 : decode cX0_told 86 = .ok (.aload_n 0, 1) := by decide +kernel
theorem dX0_told_87 : decode cX0_told 87 = .ok (.getfield 30, 3) := by decide +kernel
theorem dX0_told_90 : decode cX0_told 90 = .ok (.ireturn, 1) := by decide +kernel
theorem dX0_told_91 : decode cX0_told 91 = .ok (.aload_n 0, 1) := by decide +kernel
theorem dX0_told_92 : decode cX0_told 92 = .ok (.invokevirtual 33, 3) := by decide +kernel
theorem dX0_told_95 : decode cX0_told 95 = .ok (.ireturn, 1) := by decide +kernel
theorem dX0_told_96 : decode cX0_told 96 = .ok (.aload_n 0, 1) := by decide +kernel
theorem dX0_told_97 : decode cX0_told 97 = .ok (.invokevirtual 37, 3) := by decide +kernel
theorem dX0_told_100 : decode cX0_told 100 = .ok (.ireturn, 1) := by decide +kernel
theorem dX0_told_101 : decode cX0_told 101 = .ok (.aload_n 0, 1) := by decide +kernel
theorem dX0_told_102 : decode cX0_told 102 = .ok (.invokevirtual 40, 3) := by decide +kernel
theorem dX0_told_105 : decode cX0_told 105 = .ok (.ireturn, 1) := by decide +kernel
theorem dX0_told_106 : decode cX0_told 106 = .ok (.aload_n 0, 1) := by decide +kernel
theorem dX0_told_107 : decode cX0_told 107 = .ok (.invokevirtual 43, 3) := by decide +kernel
theorem dX0_told_110 : decode cX0_told 110 = .ok (.ireturn, 1) := by decide +kernel
theorem dX0_become_0 : decode cX0_become 0 = .ok (.iload_n 1, 1) := by decide +kernel
theorem dX0_become_1 : decode cX0_become 1 = .ok (.tableswitch 99 0 6 #[43, 51, 59, 67, 75, 83, 91], 43) := by decide +kernel
theorem dX0_become_44 : decode cX0_become 44 = .ok (.aload_n 0, 1) := by decide +kernel
theorem dX0_become_45 : decode cX0_become 45 = .ok (.iload_n 2, 1) := by decide +kernel
theorem dX0_become_46 : decode cX0_become 46 = .ok (.putfield 9, 3) := by decide +kernel
theorem dX0_become_49 : decode cX0_become 49 = .ok (.goto 51, 3) := by decide +kernel
theorem dX0_become_52 : decode cX0_become 52 = .ok (.aload_n 0, 1) := by decide +kernel
theorem dX0_become_53 : decode cX0_become 53 = .ok (.iload_n 2, 1) := by decide +kernel
theorem dX0_become_54 : decode cX0_become 54 = .ok (.putfield 15, 3) := by decide +kernel
theorem dX0_become_57 : decode cX0_become 57 = .ok (.goto 43, 3) := by decide +kernel
theorem dX0_become_60 : decode cX0_become 60 = .ok (.aload_n 0, 1) := by decide +kernel
theorem dX0_become_61 : decode cX0_become 61 = .ok (.iload_n 2, 1) := by decide +kernel
theorem dX0_become_62 : decode cX0_become 62 = .ok (.putfield 18, 3) := by decide +kernel
theorem dX0_become_65 : decode cX0_become 65 = .ok (.goto 35, 3) := by decide +kernel
theorem dX0_become_68 : decode cX0_become 68 = .ok (.aload_n 0, 1) := by decide +kernel
theorem dX0_become_69 : decode cX0_become 69 = .ok (.iload_n 2, 1) := by decide +kernel
theorem dX0_become_70 : decode cX0_become 70 = .ok (.putfield 21, 3) := by decide +kernel
theorem dX0_become_73 : decode cX0_become 73 = .ok (.goto 27, 3) := by decide +kernel
theorem dX0_become_76 : decode cX0_become 76 = .ok (.aload_n 0, 1) := by decide +kernel
theorem dX0_become_77 : decode cX0_become 77 = .ok (.iload_n 2, 1) := by decide +kernel
theorem dX0_become_78 : decode cX0_become 78 = .ok (.putfield 24, 3) := by decide +kernel
theorem dX0_become_81 : decode cX0_become 81 = .ok (.goto 19, 3) := by decide +kernel
theorem dX0_become_84 : decode cX0_become 84 = .ok (.aload_n 0, 1) := by decide +kernel
theorem dX0_become_85 : decode cX0_become 85 = .ok (.iload_n 2, 1) := by decide +kernel
theorem dX0_become_86 : decode cX0_become 86 = .ok (.putfield 27, 3) := by decide +kernel
theorem dX0_become_89 : decode cX0_become 89 = .ok (.goto 11, 3) := by decide +kernel
theorem dX0_become_92 : decode cX0_become 92 = .ok (.aload_n 0, 1) := by decide +kernel
theorem dX0_become_93 : decode cX0_become 93 = .ok (.iload_n 2, 1) := by decide +kernel
theorem dX0_become_94 : decode cX0_become 94 = .ok (.putfield 30, 3) := by decide +kernel
theorem dX0_become_97 : decode cX0_become 97 = .ok (.goto 3, 3) := by decide +kernel
theorem dX0_become_100 : decode cX0_become 100 = .ok (.return_, 1) := by decide +kernel
theorem dX0_isA_0 : decode cX0_isA 0 = .ok (.aload_n 0, 1) := by decide +kernel
theorem dX0_isA_1 : decode cX0_isA 1 = .ok (.getfield 9, 3) := by decide +kernel
theorem dX0_isA_4 : decode cX0_isA 4 = .ok (.istore_n 2, 1) := by decide +kernel
theorem dX0_isA_5 : decode cX0_isA 5 = .ok (.iconst 0, 1) := by decide +kernel
theorem dX0_isA_6 : decode cX0_isA 6 = .ok (.istore_n 3, 1) := by decide +kernel
theorem dX0_isA_7 : decode cX0_isA 7 = .ok (.iload_n 3, 1) := by decide +kernel
theorem dX0_isA_8 : decode cX0_isA 8 = .ok (.bipush 7, 2) := by decide +kernel
theorem dX0_isA_10 : decode cX0_isA 10 = .ok (.if_icmp .ge 22, 3) := by decide +kernel
theorem dX0_isA_13 : decode cX0_isA 13 = .ok (.iload_n 2, 1) := by decide +kernel
theorem dX0_isA_14 : decode cX0_isA 14 = .ok (.iload_n 1, 1) := by decide +kernel
theorem dX0_isA_15 : decode cX0_isA 15 = .ok (.if_icmp .ne 5, 3) := by decide +kernel
theorem dX0_isA_18 : decode cX0_isA 18 = .ok (.iconst 1, 1) := by decide +kernel
theorem dX0_isA_19 : decode cX0_isA 19 = .ok (.ireturn, 1) := by decide +kernel
theorem dX0_isA_20 : decode cX0_isA 20 = .ok (.getstatic 46, 3) := by decide +kernel
theorem dX0_isA_23 : decode cX0_isA 23 = .ok (.iload_n 2, 1) := by decide +kernel
theorem dX0_isA_24 : decode cX0_isA 24 = .ok (.iaload, 1) := by decide +kernel
theorem dX0_isA_25 : decode cX0_isA 25 = .ok (.istore_n 2, 1) := by decide +kernel
theorem dX0_isA_26 : decode cX0_isA 26 = .ok (.iinc 3 1, 3) := by decide +kernel
theorem dX0_isA_29 : decode cX0_isA 29 = .ok (.goto (-22), 3) := by decide +kernel
theorem dX0_isA_32 : decode cX0_isA 32 = .ok (.iconst 0, 1) := by decide +kernel
theorem dX0_isA_33 : decode cX0_isA 33 = .ok (.ireturn, 1) := by decide +kernel
theorem dX0_hasPart_0 : decode cX0_hasPart 0 = .ok (.aload_n 0, 1) := by decide +kernel
theorem dX0_hasPart_1 : decode cX0_hasPart 1 = .ok (.getfield 18, 3) := by decide +kernel
theorem dX0_hasPart_4 : decode cX0_hasPart 4 = .ok (.iload_n 1, 1) := by decide +kernel
theorem dX0_hasPart_5 : decode cX0_hasPart 5 = .ok (.ishr, 1) := by decide +kernel
theorem dX0_hasPart_6 : decode cX0_hasPart 6 = .ok (.iconst 1, 1) := by decide +kernel
theorem dX0_hasPart_7 : decode cX0_hasPart 7 = .ok (.iand, 1) := by decide +kernel
theorem dX0_hasPart_8 : decode cX0_hasPart 8 = .ok (.iconst 1, 1) := by decide +kernel
theorem dX0_hasPart_9 : decode cX0_hasPart 9 = .ok (.if_icmp .ne 7, 3) := by decide +kernel
theorem dX0_hasPart_12 : decode cX0_hasPart 12 = .ok (.iconst 1, 1) := by decide +kernel
theorem dX0_hasPart_13 : decode cX0_hasPart 13 = .ok (.goto 4, 3) := by decide +kernel
theorem dX0_hasPart_16 : decode cX0_hasPart 16 = .ok (.iconst 0, 1) := by decide +kernel
theorem dX0_hasPart_17 : decode cX0_hasPart 17 = .ok (.ireturn, 1) := by decide +kernel
theorem dX0_receive_0 : decode cX0_receive 0 = .ok (.aload_n 0, 1) := by decide +kernel
theorem dX0_receive_1 : decode cX0_receive 1 = .ok (.dup, 1) := by decide +kernel
theorem dX0_receive_2 : decode cX0_receive 2 = .ok (.getfield 18, 3) := by decide +kernel
theorem dX0_receive_5 : decode cX0_receive 5 = .ok (.iconst 1, 1) := by decide +kernel
theorem dX0_receive_6 : decode cX0_receive 6 = .ok (.iload_n 1, 1) := by decide +kernel
theorem dX0_receive_7 : decode cX0_receive 7 = .ok (.ishl, 1) := by decide +kernel
theorem dX0_receive_8 : decode cX0_receive 8 = .ok (.ior, 1) := by decide +kernel
theorem dX0_receive_9 : decode cX0_receive 9 = .ok (.putfield 18, 3) := by decide +kernel
theorem dX0_receive_12 : decode cX0_receive 12 = .ok (.return_, 1) := by decide +kernel
theorem dX0_greatestPart_0 : decode cX0_greatestPart 0 = .ok (.bipush 11, 2) := by decide +kernel
theorem dX0_greatestPart_2 : decode cX0_greatestPart 2 = .ok (.istore_n 1, 1) := by decide +kernel
theorem dX0_greatestPart_3 : decode cX0_greatestPart 3 = .ok (.iload_n 1, 1) := by decide +kernel
theorem dX0_greatestPart_4 : decode cX0_greatestPart 4 = .ok (.ifCond .le 19, 3) := by decide +kernel
theorem dX0_greatestPart_7 : decode cX0_greatestPart 7 = .ok (.aload_n 0, 1) := by decide +kernel
theorem dX0_greatestPart_8 : decode cX0_greatestPart 8 = .ok (.iload_n 1, 1) := by decide +kernel
theorem dX0_greatestPart_9 : decode cX0_greatestPart 9 = .ok (.invokevirtual 50, 3) := by decide +kernel
theorem dX0_greatestPart_12 : decode cX0_greatestPart 12 = .ok (.ifCond .eq 5, 3) := by decide +kernel
theorem dX0_greatestPart_15 : decode cX0_greatestPart 15 = .ok (.iload_n 1, 1) := by decide +kernel
theorem dX0_greatestPart_16 : decode cX0_greatestPart 16 = .ok (.ireturn, 1) := by decide +kernel
theorem dX0_greatestPart_17 : decode cX0_greatestPart 17 = .ok (.iinc 1 (-1), 3) := by decide +kernel
theorem dX0_greatestPart_20 : decode cX0_greatestPart 20 = .ok (.goto (-17), 3) := by decide +kernel
theorem dX0_greatestPart_23 : decode cX0_greatestPart 23 = .ok (.iconst 0, 1) := by decide +kernel
theorem dX0_greatestPart_24 : decode cX0_greatestPart 24 = .ok (.ireturn, 1) := by decide +kernel
theorem dX0_takes_0 : decode cX0_takes 0 = .ok (.aload_n 0, 1) := by decide +kernel
theorem dX0_takes_1 : decode cX0_takes 1 = .ok (.iload_n 1, 1) := by decide +kernel
theorem dX0_takes_2 : decode cX0_takes 2 = .ok (.invokevirtual 50, 3) := by decide +kernel
theorem dX0_takes_5 : decode cX0_takes 5 = .ok (.ifCond .eq 5, 3) := by decide +kernel
theorem dX0_takes_8 : decode cX0_takes 8 = .ok (.iconst 0, 1) := by decide +kernel
theorem dX0_takes_9 : decode cX0_takes 9 = .ok (.ireturn, 1) := by decide +kernel
theorem dX0_takes_10 : decode cX0_takes 10 = .ok (.iload_n 1, 1) := by decide +kernel
theorem dX0_takes_11 : decode cX0_takes 11 = .ok (.ifCond .le 17, 3) := by decide +kernel
theorem dX0_takes_14 : decode cX0_takes 14 = .ok (.aload_n 0, 1) := by decide +kernel
theorem dX0_takes_15 : decode cX0_takes 15 = .ok (.iload_n 1, 1) := by decide +kernel
theorem dX0_takes_16 : decode cX0_takes 16 = .ok (.iconst 1, 1) := by decide +kernel
theorem dX0_takes_17 : decode cX0_takes 17 = .ok (.isub, 1) := by decide +kernel
theorem dX0_takes_18 : decode cX0_takes 18 = .ok (.invokevirtual 50, 3) := by decide +kernel
theorem dX0_takes_21 : decode cX0_takes 21 = .ok (.ifCond .eq 7, 3) := by decide +kernel
theorem dX0_takes_24 : decode cX0_takes 24 = .ok (.iconst 1, 1) := by decide +kernel
theorem dX0_takes_25 : decode cX0_takes 25 = .ok (.goto 4, 3) := by decide +kernel
theorem dX0_takes_28 : decode cX0_takes 28 = .ok (.iconst 0, 1) := by decide +kernel
theorem dX0_takes_29 : decode cX0_takes 29 = .ok (.istore_n 2, 1) := by decide +kernel
theorem dX0_takes_30 : decode cX0_takes 30 = .ok (.iload_n 2, 1) := by decide +kernel
theorem dX0_takes_31 : decode cX0_takes 31 = .ok (.ifCond .ne 9, 3) := by decide +kernel
theorem dX0_takes_34 : decode cX0_takes 34 = .ok (.iload_n 1, 1) := by decide +kernel
theorem dX0_takes_35 : decode cX0_takes 35 = .ok (.iconst 2, 1) := by decide +kernel
theorem dX0_takes_36 : decode cX0_takes 36 = .ok (.irem, 1) := by decide +kernel
theorem dX0_takes_37 : decode cX0_takes 37 = .ok (.ifCond .ne 7, 3) := by decide +kernel
theorem dX0_takes_40 : decode cX0_takes 40 = .ok (.iconst 1, 1) := by decide +kernel
theorem dX0_takes_41 : decode cX0_takes 41 = .ok (.goto 4, 3) := by decide +kernel
theorem dX0_takes_44 : decode cX0_takes 44 = .ok (.iconst 0, 1) := by decide +kernel
theorem dX0_takes_45 : decode cX0_takes 45 = .ok (.istore_n 3, 1) := by decide +kernel
theorem dX0_takes_46 : decode cX0_takes 46 = .ok (.iload_n 2, 1) := by decide +kernel
theorem dX0_takes_47 : decode cX0_takes 47 = .ok (.ifCond .eq 12, 3) := by decide +kernel
theorem dX0_takes_50 : decode cX0_takes 50 = .ok (.iload_n 1, 1) := by decide +kernel
theorem dX0_takes_51 : decode cX0_takes 51 = .ok (.iconst 5, 1) := by decide +kernel
theorem dX0_takes_52 : decode cX0_takes 52 = .ok (.if_icmp .eq 7, 3) := by decide +kernel
theorem dX0_takes_55 : decode cX0_takes 55 = .ok (.iconst 1, 1) := by decide +kernel
theorem dX0_takes_56 : decode cX0_takes 56 = .ok (.goto 4, 3) := by decide +kernel
theorem dX0_takes_59 : decode cX0_takes 59 = .ok (.iconst 0, 1) := by decide +kernel
theorem dX0_takes_60 : decode cX0_takes 60 = .ok (.istore 4, 2) := by decide +kernel
theorem dX0_takes_62 : decode cX0_takes 62 = .ok (.aload_n 0, 1) := by decide +kernel
theorem dX0_takes_63 : decode cX0_takes 63 = .ok (.getfield 9, 3) := by decide +kernel
theorem dX0_takes_66 : decode cX0_takes 66 = .ok (.tableswitch 94 1 6 #[38, 40, 43, 59, 61, 78], 38) := by decide +kernel
theorem dX0_takes_104 : decode cX0_takes 104 = .ok (.iload_n 3, 1) := by decide +kernel
theorem dX0_takes_105 : decode cX0_takes 105 = .ok (.ireturn, 1) := by decide +kernel
theorem dX0_takes_106 : decode cX0_takes 106 = .ok (.iload 4, 2) := by decide +kernel
theorem dX0_takes_108 : decode cX0_takes 108 = .ok (.ireturn, 1) := by decide +kernel
theorem dX0_takes_109 : decode cX0_takes 109 = .ok (.iload 4, 2) := by decide +kernel
theorem dX0_takes_111 : decode cX0_takes 111 = .ok (.ifCond .ne 8, 3) := by decide +kernel
theorem dX0_takes_114 : decode cX0_takes 114 = .ok (.iload_n 1, 1) := by decide +kernel
theorem dX0_takes_115 : decode cX0_takes 115 = .ok (.iconst 3, 1) := by decide +kernel
theorem dX0_takes_116 : decode cX0_takes 116 = .ok (.if_icmp .ne 7, 3) := by decide +kernel
theorem dX0_takes_119 : decode cX0_takes 119 = .ok (.iconst 1, 1) := by decide +kernel
theorem dX0_takes_120 : decode cX0_takes 120 = .ok (.goto 4, 3) := by decide +kernel
theorem dX0_takes_123 : decode cX0_takes 123 = .ok (.iconst 0, 1) := by decide +kernel
theorem dX0_takes_124 : decode cX0_takes 124 = .ok (.ireturn, 1) := by decide +kernel
theorem dX0_takes_125 : decode cX0_takes 125 = .ok (.iconst 1, 1) := by decide +kernel
theorem dX0_takes_126 : decode cX0_takes 126 = .ok (.ireturn, 1) := by decide +kernel
theorem dX0_takes_127 : decode cX0_takes 127 = .ok (.iload_n 1, 1) := by decide +kernel
theorem dX0_takes_128 : decode cX0_takes 128 = .ok (.iconst 2, 1) := by decide +kernel
theorem dX0_takes_129 : decode cX0_takes 129 = .ok (.if_icmp .lt 13, 3) := by decide +kernel
theorem dX0_takes_132 : decode cX0_takes 132 = .ok (.iload_n 1, 1) := by decide +kernel
theorem dX0_takes_133 : decode cX0_takes 133 = .ok (.bipush 7, 2) := by decide +kernel
theorem dX0_takes_135 : decode cX0_takes 135 = .ok (.if_icmp .gt 7, 3) := by decide +kernel
theorem dX0_takes_138 : decode cX0_takes 138 = .ok (.iconst 1, 1) := by decide +kernel
theorem dX0_takes_139 : decode cX0_takes 139 = .ok (.goto 4, 3) := by decide +kernel
theorem dX0_takes_142 : decode cX0_takes 142 = .ok (.iconst 0, 1) := by decide +kernel
theorem dX0_takes_143 : decode cX0_takes 143 = .ok (.ireturn, 1) := by decide +kernel
theorem dX0_takes_144 : decode cX0_takes 144 = .ok (.iload_n 3, 1) := by decide +kernel
theorem dX0_takes_145 : decode cX0_takes 145 = .ok (.ifCond .eq 13, 3) := by decide +kernel
theorem dX0_takes_148 : decode cX0_takes 148 = .ok (.iload_n 1, 1) := by decide +kernel
theorem dX0_takes_149 : decode cX0_takes 149 = .ok (.bipush 6, 2) := by decide +kernel
theorem dX0_takes_151 : decode cX0_takes 151 = .ok (.if_icmp .gt 7, 3) := by decide +kernel
theorem dX0_takes_154 : decode cX0_takes 154 = .ok (.iconst 1, 1) := by decide +kernel
theorem dX0_takes_155 : decode cX0_takes 155 = .ok (.goto 4, 3) := by decide +kernel
theorem dX0_takes_158 : decode cX0_takes 158 = .ok (.iconst 0, 1) := by decide +kernel
theorem dX0_takes_159 : decode cX0_takes 159 = .ok (.ireturn, 1) := by decide +kernel
theorem dX0_takes_160 : decode cX0_takes 160 = .ok (.iload_n 2, 1) := by decide +kernel
theorem dX0_takes_161 : decode cX0_takes 161 = .ok (.ireturn, 1) := by decide +kernel
theorem dX0_yearnsMore_0 : decode cX0_yearnsMore 0 = .ok (.bipush 12, 2) := by decide +kernel
theorem dX0_yearnsMore_2 : decode cX0_yearnsMore 2 = .ok (.aload_n 0, 1) := by decide +kernel
theorem dX0_yearnsMore_3 : decode cX0_yearnsMore 3 = .ok (.getfield 18, 3) := by decide +kernel
theorem dX0_yearnsMore_6 : decode cX0_yearnsMore 6 = .ok (.invokestatic 54, 3) := by decide +kernel
theorem dX0_yearnsMore_9 : decode cX0_yearnsMore 9 = .ok (.isub, 1) := by decide +kernel
theorem dX0_yearnsMore_10 : decode cX0_yearnsMore 10 = .ok (.iconst 3, 1) := by decide +kernel
theorem dX0_yearnsMore_11 : decode cX0_yearnsMore 11 = .ok (.idiv, 1) := by decide +kernel
theorem dX0_yearnsMore_12 : decode cX0_yearnsMore 12 = .ok (.istore_n 1, 1) := by decide +kernel
theorem dX0_yearnsMore_13 : decode cX0_yearnsMore 13 = .ok (.iload_n 1, 1) := by decide +kernel
theorem dX0_yearnsMore_14 : decode cX0_yearnsMore 14 = .ok (.iconst 1, 1) := by decide +kernel
theorem dX0_yearnsMore_15 : decode cX0_yearnsMore 15 = .ok (.iadd, 1) := by decide +kernel
theorem dX0_yearnsMore_16 : decode cX0_yearnsMore 16 = .ok (.istore_n 2, 1) := by decide +kernel
theorem dX0_yearnsMore_17 : decode cX0_yearnsMore 17 = .ok (.aload_n 0, 1) := by decide +kernel
theorem dX0_yearnsMore_18 : decode cX0_yearnsMore 18 = .ok (.bipush 8, 2) := by decide +kernel
theorem dX0_yearnsMore_20 : decode cX0_yearnsMore 20 = .ok (.invokevirtual 50, 3) := by decide +kernel
theorem dX0_yearnsMore_23 : decode cX0_yearnsMore 23 = .ok (.ifCond .eq 7, 3) := by decide +kernel
theorem dX0_yearnsMore_26 : decode cX0_yearnsMore 26 = .ok (.iconst 0, 1) := by decide +kernel
theorem dX0_yearnsMore_27 : decode cX0_yearnsMore 27 = .ok (.goto 4, 3) := by decide +kernel
theorem dX0_yearnsMore_30 : decode cX0_yearnsMore 30 = .ok (.iload_n 1, 1) := by decide +kernel
theorem dX0_yearnsMore_31 : decode cX0_yearnsMore 31 = .ok (.istore_n 3, 1) := by decide +kernel
theorem dX0_yearnsMore_32 : decode cX0_yearnsMore 32 = .ok (.iload_n 3, 1) := by decide +kernel
theorem dX0_yearnsMore_33 : decode cX0_yearnsMore 33 = .ok (.iconst 1, 1) := by decide +kernel
theorem dX0_yearnsMore_34 : decode cX0_yearnsMore 34 = .ok (.iadd, 1) := by decide +kernel
theorem dX0_yearnsMore_35 : decode cX0_yearnsMore 35 = .ok (.istore 4, 2) := by decide +kernel
theorem dX0_yearnsMore_37 : decode cX0_yearnsMore 37 = .ok (.aload_n 0, 1) := by decide +kernel
theorem dX0_yearnsMore_38 : decode cX0_yearnsMore 38 = .ok (.getfield 9, 3) := by decide +kernel
theorem dX0_yearnsMore_41 : decode cX0_yearnsMore 41 = .ok (.tableswitch 70 1 6 #[39, 41, 43, 46, 64, 66], 39) := by decide +kernel
theorem dX0_yearnsMore_80 : decode cX0_yearnsMore 80 = .ok (.iload_n 2, 1) := by decide +kernel
theorem dX0_yearnsMore_81 : decode cX0_yearnsMore 81 = .ok (.ireturn, 1) := by decide +kernel
theorem dX0_yearnsMore_82 : decode cX0_yearnsMore 82 = .ok (.iload_n 3, 1) := by decide +kernel
theorem dX0_yearnsMore_83 : decode cX0_yearnsMore 83 = .ok (.ireturn, 1) := by decide +kernel
theorem dX0_yearnsMore_84 : decode cX0_yearnsMore 84 = .ok (.iload 4, 2) := by decide +kernel
theorem dX0_yearnsMore_86 : decode cX0_yearnsMore 86 = .ok (.ireturn, 1) := by decide +kernel
theorem dX0_yearnsMore_87 : decode cX0_yearnsMore 87 = .ok (.iconst 0, 1) := by decide +kernel
theorem dX0_yearnsMore_88 : decode cX0_yearnsMore 88 = .ok (.iload 4, 2) := by decide +kernel
theorem dX0_yearnsMore_90 : decode cX0_yearnsMore 90 = .ok (.aload_n 0, 1) := by decide +kernel
theorem dX0_yearnsMore_91 : decode cX0_yearnsMore 91 = .ok (.getfield 18, 3) := by decide +kernel
theorem dX0_yearnsMore_94 : decode cX0_yearnsMore 94 = .ok (.bipush 24, 2) := by decide +kernel
theorem dX0_yearnsMore_96 : decode cX0_yearnsMore 96 = .ok (.iand, 1) := by decide +kernel
theorem dX0_yearnsMore_97 : decode cX0_yearnsMore 97 = .ok (.invokestatic 54, 3) := by decide +kernel
theorem dX0_yearnsMore_100 : decode cX0_yearnsMore 100 = .ok (.isub, 1) := by decide +kernel
theorem dX0_yearnsMore_101 : decode cX0_yearnsMore 101 = .ok (.invokestatic 60, 3) := by decide +kernel
theorem dX0_yearnsMore_104 : decode cX0_yearnsMore 104 = .ok (.ireturn, 1) := by decide +kernel
theorem dX0_yearnsMore_105 : decode cX0_yearnsMore 105 = .ok (.iconst 1, 1) := by decide +kernel
theorem dX0_yearnsMore_106 : decode cX0_yearnsMore 106 = .ok (.ireturn, 1) := by decide +kernel
theorem dX0_yearnsMore_107 : decode cX0_yearnsMore 107 = .ok (.iconst 2, 1) := by decide +kernel
theorem dX0_yearnsMore_108 : decode cX0_yearnsMore 108 = .ok (.iload_n 2, 1) := by decide +kernel
theorem dX0_yearnsMore_109 : decode cX0_yearnsMore 109 = .ok (.imul, 1) := by decide +kernel
theorem dX0_yearnsMore_110 : decode cX0_yearnsMore 110 = .ok (.ireturn, 1) := by decide +kernel
theorem dX0_yearnsMore_111 : decode cX0_yearnsMore 111 = .ok (.iload_n 1, 1) := by decide +kernel
theorem dX0_yearnsMore_112 : decode cX0_yearnsMore 112 = .ok (.ireturn, 1) := by decide +kernel
theorem dX0_leavesWith_0 : decode cX0_leavesWith 0 = .ok (.bipush 50, 2) := by decide +kernel
theorem dX0_leavesWith_2 : decode cX0_leavesWith 2 = .ok (.istore_n 1, 1) := by decide +kernel
theorem dX0_leavesWith_3 : decode cX0_leavesWith 3 = .ok (.iload_n 1, 1) := by decide +kernel
theorem dX0_leavesWith_4 : decode cX0_leavesWith 4 = .ok (.bipush 10, 2) := by decide +kernel
theorem dX0_leavesWith_6 : decode cX0_leavesWith 6 = .ok (.isub, 1) := by decide +kernel
theorem dX0_leavesWith_7 : decode cX0_leavesWith 7 = .ok (.istore_n 2, 1) := by decide +kernel
theorem dX0_leavesWith_8 : decode cX0_leavesWith 8 = .ok (.iload_n 1, 1) := by decide +kernel
theorem dX0_leavesWith_9 : decode cX0_leavesWith 9 = .ok (.bipush 30, 2) := by decide +kernel
theorem dX0_leavesWith_11 : decode cX0_leavesWith 11 = .ok (.iadd, 1) := by decide +kernel
theorem dX0_leavesWith_12 : decode cX0_leavesWith 12 = .ok (.istore_n 3, 1) := by decide +kernel
theorem dX0_leavesWith_13 : decode cX0_leavesWith 13 = .ok (.aload_n 0, 1) := by decide +kernel
theorem dX0_leavesWith_14 : decode cX0_leavesWith 14 = .ok (.getfield 9, 3) := by decide +kernel
theorem dX0_leavesWith_17 : decode cX0_leavesWith 17 = .ok (.tableswitch 54 1 6 #[39, 41, 43, 45, 49, 52], 39) := by decide +kernel
theorem dX0_leavesWith_56 : decode cX0_leavesWith 56 = .ok (.iload_n 2, 1) := by decide +kernel
theorem dX0_leavesWith_57 : decode cX0_leavesWith 57 = .ok (.ireturn, 1) := by decide +kernel
theorem dX0_leavesWith_58 : decode cX0_leavesWith 58 = .ok (.iload_n 3, 1) := by decide +kernel
theorem dX0_leavesWith_59 : decode cX0_leavesWith 59 = .ok (.ireturn, 1) := by decide +kernel
theorem dX0_leavesWith_60 : decode cX0_leavesWith 60 = .ok (.iload_n 3, 1) := by decide +kernel
theorem dX0_leavesWith_61 : decode cX0_leavesWith 61 = .ok (.ireturn, 1) := by decide +kernel
theorem dX0_leavesWith_62 : decode cX0_leavesWith 62 = .ok (.iload_n 3, 1) := by decide +kernel
theorem dX0_leavesWith_63 : decode cX0_leavesWith 63 = .ok (.iconst 2, 1) := by decide +kernel
theorem dX0_leavesWith_64 : decode cX0_leavesWith 64 = .ok (.idiv, 1) := by decide +kernel
theorem dX0_leavesWith_65 : decode cX0_leavesWith 65 = .ok (.ireturn, 1) := by decide +kernel
theorem dX0_leavesWith_66 : decode cX0_leavesWith 66 = .ok (.bipush 99, 2) := by decide +kernel
theorem dX0_leavesWith_68 : decode cX0_leavesWith 68 = .ok (.ireturn, 1) := by decide +kernel
theorem dX0_leavesWith_69 : decode cX0_leavesWith 69 = .ok (.iload_n 2, 1) := by decide +kernel
theorem dX0_leavesWith_70 : decode cX0_leavesWith 70 = .ok (.ireturn, 1) := by decide +kernel
theorem dX0_leavesWith_71 : decode cX0_leavesWith 71 = .ok (.iload_n 1, 1) := by decide +kernel
theorem dX0_leavesWith_72 : decode cX0_leavesWith 72 = .ok (.ireturn, 1) := by decide +kernel
theorem dX0_stepsInADay_0 : decode cX0_stepsInADay 0 = .ok (.iconst 1, 1) := by decide +kernel
theorem dX0_stepsInADay_1 : decode cX0_stepsInADay 1 = .ok (.istore_n 1, 1) := by decide +kernel
theorem dX0_stepsInADay_2 : decode cX0_stepsInADay 2 = .ok (.iconst 2, 1) := by decide +kernel
theorem dX0_stepsInADay_3 : decode cX0_stepsInADay 3 = .ok (.iload_n 1, 1) := by decide +kernel
theorem dX0_stepsInADay_4 : decode cX0_stepsInADay 4 = .ok (.imul, 1) := by decide +kernel
theorem dX0_stepsInADay_5 : decode cX0_stepsInADay 5 = .ok (.istore_n 2, 1) := by decide +kernel
theorem dX0_stepsInADay_6 : decode cX0_stepsInADay 6 = .ok (.iload_n 1, 1) := by decide +kernel
theorem dX0_stepsInADay_7 : decode cX0_stepsInADay 7 = .ok (.iconst 1, 1) := by decide +kernel
theorem dX0_stepsInADay_8 : decode cX0_stepsInADay 8 = .ok (.iadd, 1) := by decide +kernel
theorem dX0_stepsInADay_9 : decode cX0_stepsInADay 9 = .ok (.istore_n 3, 1) := by decide +kernel
theorem dX0_stepsInADay_10 : decode cX0_stepsInADay 10 = .ok (.aload_n 0, 1) := by decide +kernel
theorem dX0_stepsInADay_11 : decode cX0_stepsInADay 11 = .ok (.getfield 9, 3) := by decide +kernel
theorem dX0_stepsInADay_14 : decode cX0_stepsInADay 14 = .ok (.tableswitch 65 1 6 #[38, 40, 42, 44, 46, 48], 38) := by decide +kernel
theorem dX0_stepsInADay_52 : decode cX0_stepsInADay 52 = .ok (.iload_n 2, 1) := by decide +kernel
theorem dX0_stepsInADay_53 : decode cX0_stepsInADay 53 = .ok (.ireturn, 1) := by decide +kernel
theorem dX0_stepsInADay_54 : decode cX0_stepsInADay 54 = .ok (.iload_n 1, 1) := by decide +kernel
theorem dX0_stepsInADay_55 : decode cX0_stepsInADay 55 = .ok (.ireturn, 1) := by decide +kernel
theorem dX0_stepsInADay_56 : decode cX0_stepsInADay 56 = .ok (.iload_n 3, 1) := by decide +kernel
theorem dX0_stepsInADay_57 : decode cX0_stepsInADay 57 = .ok (.ireturn, 1) := by decide +kernel
theorem dX0_stepsInADay_58 : decode cX0_stepsInADay 58 = .ok (.iload_n 3, 1) := by decide +kernel
theorem dX0_stepsInADay_59 : decode cX0_stepsInADay 59 = .ok (.ireturn, 1) := by decide +kernel
theorem dX0_stepsInADay_60 : decode cX0_stepsInADay 60 = .ok (.iconst 5, 1) := by decide +kernel
theorem dX0_stepsInADay_61 : decode cX0_stepsInADay 61 = .ok (.ireturn, 1) := by decide +kernel
theorem dX0_stepsInADay_62 : decode cX0_stepsInADay 62 = .ok (.iload_n 2, 1) := by decide +kernel
theorem dX0_stepsInADay_63 : decode cX0_stepsInADay 63 = .ok (.aload_n 0, 1) := by decide +kernel
theorem dX0_stepsInADay_64 : decode cX0_stepsInADay 64 = .ok (.bipush 10, 2) := by decide +kernel
theorem dX0_stepsInADay_66 : decode cX0_stepsInADay 66 = .ok (.invokevirtual 50, 3) := by decide +kernel
theorem dX0_stepsInADay_69 : decode cX0_stepsInADay 69 = .ok (.ifCond .eq 7, 3) := by decide +kernel
theorem dX0_stepsInADay_72 : decode cX0_stepsInADay 72 = .ok (.iconst 1, 1) := by decide +kernel
theorem dX0_stepsInADay_73 : decode cX0_stepsInADay 73 = .ok (.goto 4, 3) := by decide +kernel
theorem dX0_stepsInADay_76 : decode cX0_stepsInADay 76 = .ok (.iconst 0, 1) := by decide +kernel
theorem dX0_stepsInADay_77 : decode cX0_stepsInADay 77 = .ok (.iadd, 1) := by decide +kernel
theorem dX0_stepsInADay_78 : decode cX0_stepsInADay 78 = .ok (.ireturn, 1) := by decide +kernel
theorem dX0_stepsInADay_79 : decode cX0_stepsInADay 79 = .ok (.iload_n 1, 1) := by decide +kernel
theorem dX0_stepsInADay_80 : decode cX0_stepsInADay 80 = .ok (.ireturn, 1) := by decide +kernel
theorem dX0_says_0 : decode cX0_says 0 = .ok (.bipush 10, 2) := by decide +kernel
theorem dX0_says_2 : decode cX0_says 2 = .ok (.aload_n 0, 1) := by decide +kernel
theorem dX0_says_3 : decode cX0_says 3 = .ok (.getfield 18, 3) := by decide +kernel
theorem dX0_says_6 : decode cX0_says 6 = .ok (.invokestatic 54, 3) := by decide +kernel
theorem dX0_says_9 : decode cX0_says 9 = .ok (.imul, 1) := by decide +kernel
theorem dX0_says_10 : decode cX0_says 10 = .ok (.istore_n 1, 1) := by decide +kernel
theorem dX0_says_11 : decode cX0_says 11 = .ok (.iload_n 1, 1) := by decide +kernel
theorem dX0_says_12 : decode cX0_says 12 = .ok (.aload_n 0, 1) := by decide +kernel
theorem dX0_says_13 : decode cX0_says 13 = .ok (.invokevirtual 66, 3) := by decide +kernel
theorem dX0_says_16 : decode cX0_says 16 = .ok (.iadd, 1) := by decide +kernel
theorem dX0_says_17 : decode cX0_says 17 = .ok (.istore_n 2, 1) := by decide +kernel
theorem dX0_says_18 : decode cX0_says 18 = .ok (.iconst 0, 1) := by decide +kernel
theorem dX0_says_19 : decode cX0_says 19 = .ok (.iload_n 1, 1) := by decide +kernel
theorem dX0_says_20 : decode cX0_says 20 = .ok (.aload_n 0, 1) := by decide +kernel
theorem dX0_says_21 : decode cX0_says 21 = .ok (.getfield 24, 3) := by decide +kernel
theorem dX0_says_24 : decode cX0_says 24 = .ok (.isub, 1) := by decide +kernel
theorem dX0_says_25 : decode cX0_says 25 = .ok (.invokestatic 60, 3) := by decide +kernel
theorem dX0_says_28 : decode cX0_says 28 = .ok (.istore_n 3, 1) := by decide +kernel
theorem dX0_says_29 : decode cX0_says 29 = .ok (.iload_n 3, 1) := by decide +kernel
theorem dX0_says_30 : decode cX0_says 30 = .ok (.bipush 7, 2) := by decide +kernel
theorem dX0_says_32 : decode cX0_says 32 = .ok (.aload_n 0, 1) := by decide +kernel
theorem dX0_says_33 : decode cX0_says 33 = .ok (.getfield 18, 3) := by decide +kernel
theorem dX0_says_36 : decode cX0_says 36 = .ok (.bipush 24, 2) := by decide +kernel
theorem dX0_says_38 : decode cX0_says 38 = .ok (.iand, 1) := by decide +kernel
theorem dX0_says_39 : decode cX0_says 39 = .ok (.invokestatic 54, 3) := by decide +kernel
theorem dX0_says_42 : decode cX0_says 42 = .ok (.imul, 1) := by decide +kernel
theorem dX0_says_43 : decode cX0_says 43 = .ok (.iadd, 1) := by decide +kernel
theorem dX0_says_44 : decode cX0_says 44 = .ok (.istore 4, 2) := by decide +kernel
theorem dX0_says_46 : decode cX0_says 46 = .ok (.aload_n 0, 1) := by decide +kernel
theorem dX0_says_47 : decode cX0_says 47 = .ok (.getfield 9, 3) := by decide +kernel
theorem dX0_says_50 : decode cX0_says 50 = .ok (.tableswitch 74 1 6 #[38, 40, 42, 45, 56, 70], 38) := by decide +kernel
theorem dX0_says_88 : decode cX0_says 88 = .ok (.iload_n 2, 1) := by decide +kernel
theorem dX0_says_89 : decode cX0_says 89 = .ok (.ireturn, 1) := by decide +kernel
theorem dX0_says_90 : decode cX0_says 90 = .ok (.iload_n 3, 1) := by decide +kernel
theorem dX0_says_91 : decode cX0_says 91 = .ok (.ireturn, 1) := by decide +kernel
theorem dX0_says_92 : decode cX0_says 92 = .ok (.iload 4, 2) := by decide +kernel
theorem dX0_says_94 : decode cX0_says 94 = .ok (.ireturn, 1) := by decide +kernel
theorem dX0_says_95 : decode cX0_says 95 = .ok (.iload 4, 2) := by decide +kernel
theorem dX0_says_97 : decode cX0_says 97 = .ok (.aload_n 0, 1) := by decide +kernel
theorem dX0_says_98 : decode cX0_says 98 = .ok (.getfield 15, 3) := by decide +kernel
theorem dX0_says_101 : decode cX0_says 101 = .ok (.bipush 10, 2) := by decide +kernel
theorem dX0_says_103 : decode cX0_says 103 = .ok (.irem, 1) := by decide +kernel
theorem dX0_says_104 : decode cX0_says 104 = .ok (.iadd, 1) := by decide +kernel
theorem dX0_says_105 : decode cX0_says 105 = .ok (.ireturn, 1) := by decide +kernel
theorem dX0_says_106 : decode cX0_says 106 = .ok (.aload_n 0, 1) := by decide +kernel
theorem dX0_says_107 : decode cX0_says 107 = .ok (.iconst 0, 1) := by decide +kernel
theorem dX0_says_108 : decode cX0_says 108 = .ok (.invokevirtual 50, 3) := by decide +kernel
theorem dX0_says_111 : decode cX0_says 111 = .ok (.ifCond .eq 7, 3) := by decide +kernel
theorem dX0_says_114 : decode cX0_says 114 = .ok (.iload_n 1, 1) := by decide +kernel
theorem dX0_says_115 : decode cX0_says 115 = .ok (.goto 4, 3) := by decide +kernel
theorem dX0_says_118 : decode cX0_says 118 = .ok (.iconst 0, 1) := by decide +kernel
theorem dX0_says_119 : decode cX0_says 119 = .ok (.ireturn, 1) := by decide +kernel
theorem dX0_says_120 : decode cX0_says 120 = .ok (.iconst 3, 1) := by decide +kernel
theorem dX0_says_121 : decode cX0_says 121 = .ok (.iload_n 2, 1) := by decide +kernel
theorem dX0_says_122 : decode cX0_says 122 = .ok (.imul, 1) := by decide +kernel
theorem dX0_says_123 : decode cX0_says 123 = .ok (.ireturn, 1) := by decide +kernel
theorem dX0_says_124 : decode cX0_says 124 = .ok (.iload_n 1, 1) := by decide +kernel
theorem dX0_says_125 : decode cX0_says 125 = .ok (.ireturn, 1) := by decide +kernel
theorem dX0_wouldWalk_0 : decode cX0_wouldWalk 0 = .ok (.aload_n 0, 1) := by decide +kernel
theorem dX0_wouldWalk_1 : decode cX0_wouldWalk 1 = .ok (.getfield 24, 3) := by decide +kernel
theorem dX0_wouldWalk_4 : decode cX0_wouldWalk 4 = .ok (.aload_n 0, 1) := by decide +kernel
theorem dX0_wouldWalk_5 : decode cX0_wouldWalk 5 = .ok (.invokevirtual 37, 3) := by decide +kernel
theorem dX0_wouldWalk_8 : decode cX0_wouldWalk 8 = .ok (.if_icmp .lt 30, 3) := by decide +kernel
theorem dX0_wouldWalk_11 : decode cX0_wouldWalk 11 = .ok (.aload_n 0, 1) := by decide +kernel
theorem dX0_wouldWalk_12 : decode cX0_wouldWalk 12 = .ok (.bipush 11, 2) := by decide +kernel
theorem dX0_wouldWalk_14 : decode cX0_wouldWalk 14 = .ok (.invokevirtual 50, 3) := by decide +kernel
theorem dX0_wouldWalk_17 : decode cX0_wouldWalk 17 = .ok (.ifCond .eq 21, 3) := by decide +kernel
theorem dX0_wouldWalk_20 : decode cX0_wouldWalk 20 = .ok (.aload_n 0, 1) := by decide +kernel
theorem dX0_wouldWalk_21 : decode cX0_wouldWalk 21 = .ok (.getfield 27, 3) := by decide +kernel
theorem dX0_wouldWalk_24 : decode cX0_wouldWalk 24 = .ok (.ifCond .ne 14, 3) := by decide +kernel
theorem dX0_wouldWalk_27 : decode cX0_wouldWalk 27 = .ok (.aload_n 0, 1) := by decide +kernel
theorem dX0_wouldWalk_28 : decode cX0_wouldWalk 28 = .ok (.getfield 30, 3) := by decide +kernel
theorem dX0_wouldWalk_31 : decode cX0_wouldWalk 31 = .ok (.ifCond .ne 7, 3) := by decide +kernel
theorem dX0_wouldWalk_34 : decode cX0_wouldWalk 34 = .ok (.iconst 1, 1) := by decide +kernel
theorem dX0_wouldWalk_35 : decode cX0_wouldWalk 35 = .ok (.goto 4, 3) := by decide +kernel
theorem dX0_wouldWalk_38 : decode cX0_wouldWalk 38 = .ok (.iconst 0, 1) := by decide +kernel
theorem dX0_wouldWalk_39 : decode cX0_wouldWalk 39 = .ok (.ireturn, 1) := by decide +kernel
theorem dX0_yearn_0 : decode cX0_yearn 0 = .ok (.aload_n 0, 1) := by decide +kernel
theorem dX0_yearn_1 : decode cX0_yearn 1 = .ok (.bipush 99, 2) := by decide +kernel
theorem dX0_yearn_3 : decode cX0_yearn 3 = .ok (.aload_n 0, 1) := by decide +kernel
theorem dX0_yearn_4 : decode cX0_yearn 4 = .ok (.getfield 24, 3) := by decide +kernel
theorem dX0_yearn_7 : decode cX0_yearn 7 = .ok (.iload_n 1, 1) := by decide +kernel
theorem dX0_yearn_8 : decode cX0_yearn 8 = .ok (.iadd, 1) := by decide +kernel
theorem dX0_yearn_9 : decode cX0_yearn 9 = .ok (.invokestatic 69, 3) := by decide +kernel
theorem dX0_yearn_12 : decode cX0_yearn 12 = .ok (.putfield 24, 3) := by decide +kernel
theorem dX0_yearn_15 : decode cX0_yearn 15 = .ok (.return_, 1) := by decide +kernel
theorem dX0_pathUpTo_0 : decode cX0_pathUpTo 0 = .ok (.iconst 0, 1) := by decide +kernel
theorem dX0_pathUpTo_1 : decode cX0_pathUpTo 1 = .ok (.istore_n 2, 1) := by decide +kernel
theorem dX0_pathUpTo_2 : decode cX0_pathUpTo 2 = .ok (.iload_n 1, 1) := by decide +kernel
theorem dX0_pathUpTo_3 : decode cX0_pathUpTo 3 = .ok (.istore_n 3, 1) := by decide +kernel
theorem dX0_pathUpTo_4 : decode cX0_pathUpTo 4 = .ok (.iload_n 3, 1) := by decide +kernel
theorem dX0_pathUpTo_5 : decode cX0_pathUpTo 5 = .ok (.ifCond .lt 39, 3) := by decide +kernel
theorem dX0_pathUpTo_8 : decode cX0_pathUpTo 8 = .ok (.iload_n 2, 1) := by decide +kernel
theorem dX0_pathUpTo_9 : decode cX0_pathUpTo 9 = .ok (.iconst 1, 1) := by decide +kernel
theorem dX0_pathUpTo_10 : decode cX0_pathUpTo 10 = .ok (.iload_n 3, 1) := by decide +kernel
theorem dX0_pathUpTo_11 : decode cX0_pathUpTo 11 = .ok (.ishl, 1) := by decide +kernel
theorem dX0_pathUpTo_12 : decode cX0_pathUpTo 12 = .ok (.ior, 1) := by decide +kernel
theorem dX0_pathUpTo_13 : decode cX0_pathUpTo 13 = .ok (.istore_n 2, 1) := by decide +kernel
theorem dX0_pathUpTo_14 : decode cX0_pathUpTo 14 = .ok (.aload_n 0, 1) := by decide +kernel
theorem dX0_pathUpTo_15 : decode cX0_pathUpTo 15 = .ok (.iload_n 3, 1) := by decide +kernel
theorem dX0_pathUpTo_16 : decode cX0_pathUpTo 16 = .ok (.invokevirtual 72, 3) := by decide +kernel
theorem dX0_pathUpTo_19 : decode cX0_pathUpTo 19 = .ok (.ifCond .eq 5, 3) := by decide +kernel
theorem dX0_pathUpTo_22 : decode cX0_pathUpTo 22 = .ok (.iload_n 2, 1) := by decide +kernel
theorem dX0_pathUpTo_23 : decode cX0_pathUpTo 23 = .ok (.ireturn, 1) := by decide +kernel
theorem dX0_pathUpTo_24 : decode cX0_pathUpTo 24 = .ok (.iload_n 3, 1) := by decide +kernel
theorem dX0_pathUpTo_25 : decode cX0_pathUpTo 25 = .ok (.ifCond .eq 11, 3) := by decide +kernel
theorem dX0_pathUpTo_28 : decode cX0_pathUpTo 28 = .ok (.aload_n 0, 1) := by decide +kernel
theorem dX0_pathUpTo_29 : decode cX0_pathUpTo 29 = .ok (.iload_n 3, 1) := by decide +kernel
theorem dX0_pathUpTo_30 : decode cX0_pathUpTo 30 = .ok (.invokevirtual 75, 3) := by decide +kernel
theorem dX0_pathUpTo_33 : decode cX0_pathUpTo 33 = .ok (.ifCond .ne 5, 3) := by decide +kernel
theorem dX0_pathUpTo_36 : decode cX0_pathUpTo 36 = .ok (.iconst 0, 1) := by decide +kernel
theorem dX0_pathUpTo_37 : decode cX0_pathUpTo 37 = .ok (.ireturn, 1) := by decide +kernel
theorem dX0_pathUpTo_38 : decode cX0_pathUpTo 38 = .ok (.iinc 3 (-1), 3) := by decide +kernel
theorem dX0_pathUpTo_41 : decode cX0_pathUpTo 41 = .ok (.goto (-37), 3) := by decide +kernel
theorem dX0_pathUpTo_44 : decode cX0_pathUpTo 44 = .ok (.iconst 0, 1) := by decide +kernel
theorem dX0_pathUpTo_45 : decode cX0_pathUpTo 45 = .ok (.ireturn, 1) := by decide +kernel
theorem dX0_takesBehind_0 : decode cX0_takesBehind 0 = .ok (.aload_n 0, 1) := by decide +kernel
theorem dX0_takesBehind_1 : decode cX0_takesBehind 1 = .ok (.getfield 18, 3) := by decide +kernel
theorem dX0_takesBehind_4 : decode cX0_takesBehind 4 = .ok (.istore_n 2, 1) := by decide +kernel
theorem dX0_takesBehind_5 : decode cX0_takesBehind 5 = .ok (.aload_n 0, 1) := by decide +kernel
theorem dX0_takesBehind_6 : decode cX0_takesBehind 6 = .ok (.iload_n 1, 1) := by decide +kernel
theorem dX0_takesBehind_7 : decode cX0_takesBehind 7 = .ok (.iconst 1, 1) := by decide +kernel
theorem dX0_takesBehind_8 : decode cX0_takesBehind 8 = .ok (.isub, 1) := by decide +kernel
theorem dX0_takesBehind_9 : decode cX0_takesBehind 9 = .ok (.invokevirtual 78, 3) := by decide +kernel
theorem dX0_takesBehind_12 : decode cX0_takesBehind 12 = .ok (.aload_n 0, 1) := by decide +kernel
theorem dX0_takesBehind_13 : decode cX0_takesBehind 13 = .ok (.iload_n 1, 1) := by decide +kernel
theorem dX0_takesBehind_14 : decode cX0_takesBehind 14 = .ok (.invokevirtual 72, 3) := by decide +kernel
theorem dX0_takesBehind_17 : decode cX0_takesBehind 17 = .ok (.istore_n 3, 1) := by decide +kernel
theorem dX0_takesBehind_18 : decode cX0_takesBehind 18 = .ok (.aload_n 0, 1) := by decide +kernel
theorem dX0_takesBehind_19 : decode cX0_takesBehind 19 = .ok (.iload_n 2, 1) := by decide +kernel
theorem dX0_takesBehind_20 : decode cX0_takesBehind 20 = .ok (.putfield 18, 3) := by decide +kernel
theorem dX0_takesBehind_23 : decode cX0_takesBehind 23 = .ok (.iload_n 3, 1) := by decide +kernel
theorem dX0_takesBehind_24 : decode cX0_takesBehind 24 = .ok (.ireturn, 1) := by decide +kernel
theorem dX1_init_0 : decode cX1_init 0 = .ok (.aload_n 0, 1) := by decide +kernel
theorem dX1_init_1 : decode cX1_init 1 = .ok (.invokespecial 3, 3) := by decide +kernel
theorem dX1_init_4 : decode cX1_init 4 = .ok (.aload_n 0, 1) := by decide +kernel
theorem dX1_init_5 : decode cX1_init 5 = .ok (.iconst 0, 1) := by decide +kernel
theorem dX1_init_6 : decode cX1_init 6 = .ok (.putfield 9, 3) := by decide +kernel
theorem dX1_init_9 : decode cX1_init 9 = .ok (.aload_n 0, 1) := by decide +kernel
theorem dX1_init_10 : decode cX1_init 10 = .ok (.iconst 0, 1) := by decide +kernel
theorem dX1_init_11 : decode cX1_init 11 = .ok (.putfield 15, 3) := by decide +kernel
theorem dX1_init_14 : decode cX1_init 14 = .ok (.aload_n 0, 1) := by decide +kernel
theorem dX1_init_15 : decode cX1_init 15 = .ok (.iconst 1, 1) := by decide +kernel
theorem dX1_init_16 : decode cX1_init 16 = .ok (.putfield 18, 3) := by decide +kernel
theorem dX1_init_19 : decode cX1_init 19 = .ok (.aload_n 0, 1) := by decide +kernel
theorem dX1_init_20 : decode cX1_init 20 = .ok (.iconst 0, 1) := by decide +kernel
theorem dX1_init_21 : decode cX1_init 21 = .ok (.putfield 21, 3) := by decide +kernel
theorem dX1_init_24 : decode cX1_init 24 = .ok (.aload_n 0, 1) := by decide +kernel
theorem dX1_init_25 : decode cX1_init 25 = .ok (.bipush 6, 2) := by decide +kernel
theorem dX1_init_27 : decode cX1_init 27 = .ok (.newarray .int, 2) := by decide +kernel
theorem dX1_init_29 : decode cX1_init 29 = .ok (.putfield 24, 3) := by decide +kernel
theorem dX1_init_32 : decode cX1_init 32 = .ok (.aload_n 0, 1) := by decide +kernel
theorem dX1_init_33 : decode cX1_init 33 = .ok (.bipush 12, 2) := by decide +kernel
theorem dX1_init_35 : decode cX1_init 35 = .ok (.newarray .int, 2) := by decide +kernel
theorem dX1_init_37 : decode cX1_init 37 = .ok (.putfield 28, 3) := by decide +kernel
theorem dX1_init_40 : decode cX1_init 40 = .ok (.aload_n 0, 1) := by decide +kernel
theorem dX1_init_41 : decode cX1_init 41 = .ok (.bipush 10, 2) := by decide +kernel
theorem dX1_init_43 : decode cX1_init 43 = .ok (.newarray .int, 2) := by decide +kernel
theorem dX1_init_45 : decode cX1_init 45 = .ok (.putfield 31, 3) := by decide +kernel
theorem dX1_init_48 : decode cX1_init 48 = .ok (.aload_n 0, 1) := by decide +kernel
theorem dX1_init_49 : decode cX1_init 49 = .ok (.bipush 8, 2) := by decide +kernel
theorem dX1_init_51 : decode cX1_init 51 = .ok (.anewarray 34, 3) := by decide +kernel
theorem dX1_init_54 : decode cX1_init 54 = .ok (.putfield 36, 3) := by decide +kernel
theorem dX1_init_57 : decode cX1_init 57 = .ok (.iconst 0, 1) := by decide +kernel
theorem dX1_init_58 : decode cX1_init 58 = .ok (.istore_n 1, 1) := by decide +kernel
theorem dX1_init_59 : decode cX1_init 59 = .ok (.iload_n 1, 1) := by decide +kernel
theorem dX1_init_60 : decode cX1_init 60 = .ok (.bipush 6, 2) := by decide +kernel
theorem dX1_init_62 : decode cX1_init 62 = .ok (.if_icmp .ge 17, 3) := by decide +kernel
theorem dX1_init_65 : decode cX1_init 65 = .ok (.aload_n 0, 1) := by decide +kernel
theorem dX1_init_66 : decode cX1_init 66 = .ok (.getfield 24, 3) := by decide +kernel
theorem dX1_init_69 : decode cX1_init 69 = .ok (.iload_n 1, 1) := by decide +kernel
theorem dX1_init_70 : decode cX1_init 70 = .ok (.bipush 12, 2) := by decide +kernel
theorem dX1_init_72 : decode cX1_init 72 = .ok (.iastore, 1) := by decide +kernel
theorem dX1_init_73 : decode cX1_init 73 = .ok (.iinc 1 1, 3) := by decide +kernel
theorem dX1_init_76 : decode cX1_init 76 = .ok (.goto (-17), 3) := by decide +kernel
theorem dX1_init_79 : decode cX1_init 79 = .ok (.iconst 0, 1) := by decide +kernel
theorem dX1_init_80 : decode cX1_init 80 = .ok (.istore_n 1, 1) := by decide +kernel
theorem dX1_init_81 : decode cX1_init 81 = .ok (.iload_n 1, 1) := by decide +kernel
theorem dX1_init_82 : decode cX1_init 82 = .ok (.bipush 10, 2) := by decide +kernel
theorem dX1_init_84 : decode cX1_init 84 = .ok (.if_icmp .ge 16, 3) := by decide +kernel
theorem dX1_init_87 : decode cX1_init 87 = .ok (.aload_n 0, 1) := by decide +kernel
theorem dX1_init_88 : decode cX1_init 88 = .ok (.getfield 31, 3) := by decide +kernel
theorem dX1_init_91 : decode cX1_init 91 = .ok (.iload_n 1, 1) := by decide +kernel
theorem dX1_init_92 : decode cX1_init 92 = .ok (.iconst (-1), 1) := by decide +kernel
theorem dX1_init_93 : decode cX1_init 93 = .ok (.iastore, 1) := by decide +kernel
theorem dX1_init_94 : decode cX1_init 94 = .ok (.iinc 1 1, 3) := by decide +kernel
theorem dX1_init_97 : decode cX1_init 97 = .ok (.goto (-16), 3) := by decide +kernel
theorem dX1_init_100 : decode cX1_init 100 = .ok (.iconst 0, 1) := by decide +kernel
theorem dX1_init_101 : decode cX1_init 101 = .ok (.istore_n 1, 1) := by decide +kernel
theorem dX1_init_102 : decode cX1_init 102 = .ok (.iload_n 1, 1) := by decide +kernel
theorem dX1_init_103 : decode cX1_init 103 = .ok (.bipush 8, 2) := by decide +kernel
theorem dX1_init_105 : decode cX1_init 105 = .ok (.if_icmp .ge 22, 3) := by decide +kernel
theorem dX1_init_108 : decode cX1_init 108 = .ok (.aload_n 0, 1) := by decide +kernel
theorem dX1_init_109 : decode cX1_init 109 = .ok (.getfield 36, 3) := by decide +kernel
theorem dX1_init_112 : decode cX1_init 112 = .ok (.iload_n 1, 1) := by decide +kernel
theorem dX1_init_113 : decode cX1_init 113 = .ok (.new 34, 3) := by decide +kernel
theorem dX1_init_116 : decode cX1_init 116 = .ok (.dup, 1) := by decide +kernel
theorem dX1_init_117 : decode cX1_init 117 = .ok (.invokespecial 40, 3) := by decide +kernel
theorem dX1_init_120 : decode cX1_init 120 = .ok (.aastore, 1) := by decide +kernel
theorem dX1_init_121 : decode cX1_init 121 = .ok (.iinc 1 1, 3) := by decide +kernel
theorem dX1_init_124 : decode cX1_init 124 = .ok (.goto (-22), 3) := by decide +kernel
theorem dX1_init_127 : decode cX1_init 127 = .ok (.return_, 1) := by decide +kernel
theorem dX1_copyFrom_0 : decode cX1_copyFrom 0 = .ok (.aload_n 0, 1) := by decide +kernel
theorem dX1_copyFrom_1 : decode cX1_copyFrom 1 = .ok (.aload_n 1, 1) := by decide +kernel
theorem dX1_copyFrom_2 : decode cX1_copyFrom 2 = .ok (.getfield 9, 3) := by decide +kernel
theorem dX1_copyFrom_5 : decode cX1_copyFrom 5 = .ok (.putfield 9, 3) := by decide +kernel
theorem dX1_copyFrom_8 : decode cX1_copyFrom 8 = .ok (.aload_n 0, 1) := by decide +kernel
theorem dX1_copyFrom_9 : decode cX1_copyFrom 9 = .ok (.aload_n 1, 1) := by decide +kernel
theorem dX1_copyFrom_10 : decode cX1_copyFrom 10 = .ok (.getfield 15, 3) := by decide +kernel
theorem dX1_copyFrom_13 : decode cX1_copyFrom 13 = .ok (.putfield 15, 3) := by decide +kernel
theorem dX1_copyFrom_16 : decode cX1_copyFrom 16 = .ok (.aload_n 0, 1) := by decide +kernel
theorem dX1_copyFrom_17 : decode cX1_copyFrom 17 = .ok (.aload_n 1, 1) := by decide +kernel
theorem dX1_copyFrom_18 : decode cX1_copyFrom 18 = .ok (.getfield 18, 3) := by decide +kernel
theorem dX1_copyFrom_21 : decode cX1_copyFrom 21 = .ok (.putfield 18, 3) := by decide +kernel
theorem dX1_copyFrom_24 : decode cX1_copyFrom 24 = .ok (.aload_n 0, 1) := by decide +kernel
theorem dX1_copyFrom_25 : decode cX1_copyFrom 25 = .ok (.aload_n 1, 1) := by decide +kernel
theorem dX1_copyFrom_26 : decode cX1_copyFrom 26 = .ok (.getfield 21, 3) := by decide +kernel
theorem dX1_copyFrom_29 : decode cX1_copyFrom 29 = .ok (.putfield 21, 3) := by decide +kernel
theorem dX1_copyFrom_32 : decode cX1_copyFrom 32 = .ok (.aload_n 1, 1) := by decide +kernel
theorem dX1_copyFrom_33 : decode cX1_copyFrom 33 = .ok (.getfield 24, 3) := by decide +kernel
theorem dX1_copyFrom_36 : decode cX1_copyFrom 36 = .ok (.iconst 0, 1) := by decide +kernel
theorem dX1_copyFrom_37 : decode cX1_copyFrom 37 = .ok (.aload_n 0, 1) := by decide +kernel
theorem dX1_copyFrom_38 : decode cX1_copyFrom 38 = .ok (.getfield 24, 3) := by decide +kernel
theorem dX1_copyFrom_41 : decode cX1_copyFrom 41 = .ok (.iconst 0, 1) := by decide +kernel
theorem dX1_copyFrom_42 : decode cX1_copyFrom 42 = .ok (.bipush 6, 2) := by decide +kernel
theorem dX1_copyFrom_44 : decode cX1_copyFrom 44 = .ok (.invokestatic 41, 3) := by decide +kernel
theorem dX1_copyFrom_47 : decode cX1_copyFrom 47 = .ok (.aload_n 1, 1) := by decide +kernel
theorem dX1_copyFrom_48 : decode cX1_copyFrom 48 = .ok (.getfield 28, 3) := by decide +kernel
theorem dX1_copyFrom_51 : decode cX1_copyFrom 51 = .ok (.iconst 0, 1) := by decide +kernel
theorem dX1_copyFrom_52 : decode cX1_copyFrom 52 = .ok (.aload_n 0, 1) := by decide +kernel
theorem dX1_copyFrom_53 : decode cX1_copyFrom 53 = .ok (.getfield 28, 3) := by decide +kernel
theorem dX1_copyFrom_56 : decode cX1_copyFrom 56 = .ok (.iconst 0, 1) := by decide +kernel
theorem dX1_copyFrom_57 : decode cX1_copyFrom 57 = .ok (.bipush 12, 2) := by decide +kernel
theorem dX1_copyFrom_59 : decode cX1_copyFrom 59 = .ok (.invokestatic 41, 3) := by decide +kernel
theorem dX1_copyFrom_62 : decode cX1_copyFrom 62 = .ok (.aload_n 1, 1) := by decide +kernel
theorem dX1_copyFrom_63 : decode cX1_copyFrom 63 = .ok (.getfield 31, 3) := by decide +kernel
theorem dX1_copyFrom_66 : decode cX1_copyFrom 66 = .ok (.iconst 0, 1) := by decide +kernel
theorem dX1_copyFrom_67 : decode cX1_copyFrom 67 = .ok (.aload_n 0, 1) := by decide +kernel
theorem dX1_copyFrom_68 : decode cX1_copyFrom 68 = .ok (.getfield 31, 3) := by decide +kernel
theorem dX1_copyFrom_71 : decode cX1_copyFrom 71 = .ok (.iconst 0, 1) := by decide +kernel
theorem dX1_copyFrom_72 : decode cX1_copyFrom 72 = .ok (.bipush 10, 2) := by decide +kernel
theorem dX1_copyFrom_74 : decode cX1_copyFrom 74 = .ok (.invokestatic 41, 3) := by decide +kernel
theorem dX1_copyFrom_77 : decode cX1_copyFrom 77 = .ok (.iconst 0, 1) := by decide +kernel
theorem dX1_copyFrom_78 : decode cX1_copyFrom 78 = .ok (.istore_n 2, 1) := by decide +kernel
theorem dX1_copyFrom_79 : decode cX1_copyFrom 79 = .ok (.iload_n 2, 1) := by decide +kernel
theorem dX1_copyFrom_80 : decode cX1_copyFrom 80 = .ok (.aload_n 0, 1) := by decide +kernel
theorem dX1_copyFrom_81 : decode cX1_copyFrom 81 = .ok (.getfield 21, 3) := by decide +kernel
theorem dX1_copyFrom_84 : decode cX1_copyFrom 84 = .ok (.if_icmp .ge 24, 3) := by decide +kernel
theorem dX1_copyFrom_87 : decode cX1_copyFrom 87 = .ok (.aload_n 0, 1) := by decide +kernel
theorem dX1_copyFrom_88 : decode cX1_copyFrom 88 = .ok (.getfield 36, 3) := by decide +kernel
theorem dX1_copyFrom_91 : decode cX1_copyFrom 91 = .ok (.iload_n 2, 1) := by decide +kernel
theorem dX1_copyFrom_92 : decode cX1_copyFrom 92 = .ok (.aaload, 1) := by decide +kernel
theorem dX1_copyFrom_93 : decode cX1_copyFrom 93 = .ok (.aload_n 1, 1) := by decide +kernel
theorem dX1_copyFrom_94 : decode cX1_copyFrom 94 = .ok (.getfield 36, 3) := by decide +kernel
theorem dX1_copyFrom_97 : decode cX1_copyFrom 97 = .ok (.iload_n 2, 1) := by decide +kernel
theorem dX1_copyFrom_98 : decode cX1_copyFrom 98 = .ok (.aaload, 1) := by decide +kernel
theorem dX1_copyFrom_99 : decode cX1_copyFrom 99 = .ok (.invokevirtual 47, 3) := by decide +kernel
theorem dX1_copyFrom_102 : decode cX1_copyFrom 102 = .ok (.iinc 2 1, 3) := by decide +kernel
theorem dX1_copyFrom_105 : decode cX1_copyFrom 105 = .ok (.goto (-26), 3) := by decide +kernel
theorem dX1_copyFrom_108 : decode cX1_copyFrom 108 = .ok (.return_, 1) := by decide +kernel
theorem dX1_addBust_0 : decode cX1_addBust 0 = .ok (.aload_n 0, 1) := by decide +kernel
theorem dX1_addBust_1 : decode cX1_addBust 1 = .ok (.getfield 21, 3) := by decide +kernel
theorem dX1_addBust_4 : decode cX1_addBust 4 = .ok (.bipush 8, 2) := by decide +kernel
theorem dX1_addBust_6 : decode cX1_addBust 6 = .ok (.if_icmp .lt 5, 3) := by decide +kernel
theorem dX1_addBust_9 : decode cX1_addBust 9 = .ok (.iconst (-1), 1) := by decide +kernel
theorem dX1_addBust_10 : decode cX1_addBust 10 = .ok (.ireturn, 1) := by decide +kernel
theorem dX1_addBust_11 : decode cX1_addBust 11 = .ok (.aload_n 0, 1) := by decide +kernel
theorem dX1_addBust_12 : decode cX1_addBust 12 = .ok (.getfield 36, 3) := by decide +kernel
theorem dX1_addBust_15 : decode cX1_addBust 15 = .ok (.aload_n 0, 1) := by decide +kernel
theorem dX1_addBust_16 : decode cX1_addBust 16 = .ok (.getfield 21, 3) := by decide +kernel
theorem dX1_addBust_19 : decode cX1_addBust 19 = .ok (.aaload, 1) := by decide +kernel
theorem dX1_addBust_20 : decode cX1_addBust 20 = .ok (.iload_n 1, 1) := by decide +kernel
theorem dX1_addBust_21 : decode cX1_addBust 21 = .ok (.iload_n 2, 1) := by decide +kernel
theorem dX1_addBust_22 : decode cX1_addBust 22 = .ok (.invokevirtual 51, 3) := by decide +kernel
theorem dX1_addBust_25 : decode cX1_addBust 25 = .ok (.aload_n 0, 1) := by decide +kernel
theorem dX1_addBust_26 : decode cX1_addBust 26 = .ok (.dup, 1) := by decide +kernel
theorem dX1_addBust_27 : decode cX1_addBust 27 = .ok (.getfield 21, 3) := by decide +kernel
theorem dX1_addBust_30 : decode cX1_addBust 30 = .ok (.iconst 1, 1) := by decide +kernel
theorem dX1_addBust_31 : decode cX1_addBust 31 = .ok (.iadd, 1) := by decide +kernel
theorem dX1_addBust_32 : decode cX1_addBust 32 = .ok (.putfield 21, 3) := by decide +kernel
theorem dX1_addBust_35 : decode cX1_addBust 35 = .ok (.aload_n 0, 1) := by decide +kernel
theorem dX1_addBust_36 : decode cX1_addBust 36 = .ok (.getfield 21, 3) := by decide +kernel
theorem dX1_addBust_39 : decode cX1_addBust 39 = .ok (.iconst 1, 1) := by decide +kernel
theorem dX1_addBust_40 : decode cX1_addBust 40 = .ok (.isub, 1) := by decide +kernel
theorem dX1_addBust_41 : decode cX1_addBust 41 = .ok (.ireturn, 1) := by decide +kernel
theorem dX1_heirOf_0 : decode cX1_heirOf 0 = .ok (.iconst (-1), 1) := by decide +kernel
theorem dX1_heirOf_1 : decode cX1_heirOf 1 = .ok (.istore_n 2, 1) := by decide +kernel
theorem dX1_heirOf_2 : decode cX1_heirOf 2 = .ok (.iconst 0, 1) := by decide +kernel
theorem dX1_heirOf_3 : decode cX1_heirOf 3 = .ok (.istore_n 3, 1) := by decide +kernel
theorem dX1_heirOf_4 : decode cX1_heirOf 4 = .ok (.iload_n 3, 1) := by decide +kernel
theorem dX1_heirOf_5 : decode cX1_heirOf 5 = .ok (.aload_n 0, 1) := by decide +kernel
theorem dX1_heirOf_6 : decode cX1_heirOf 6 = .ok (.getfield 21, 3) := by decide +kernel
theorem dX1_heirOf_9 : decode cX1_heirOf 9 = .ok (.if_icmp .ge 73, 3) := by decide +kernel
theorem dX1_heirOf_12 : decode cX1_heirOf 12 = .ok (.iload_n 2, 1) := by decide +kernel
theorem dX1_heirOf_13 : decode cX1_heirOf 13 = .ok (.ifCond .lt 24, 3) := by decide +kernel
theorem dX1_heirOf_16 : decode cX1_heirOf 16 = .ok (.aload_n 0, 1) := by decide +kernel
theorem dX1_heirOf_17 : decode cX1_heirOf 17 = .ok (.getfield 36, 3) := by decide +kernel
theorem dX1_heirOf_20 : decode cX1_heirOf 20 = .ok (.iload_n 3, 1) := by decide +kernel
theorem dX1_heirOf_21 : decode cX1_heirOf 21 = .ok (.aaload, 1) := by decide +kernel
theorem dX1_heirOf_22 : decode cX1_heirOf 22 = .ok (.getfield 55, 3) := by decide +kernel
theorem dX1_heirOf_25 : decode cX1_heirOf 25 = .ok (.aload_n 0, 1) := by decide +kernel
theorem dX1_heirOf_26 : decode cX1_heirOf 26 = .ok (.getfield 36, 3) := by decide +kernel
theorem dX1_heirOf_29 : decode cX1_heirOf 29 = .ok (.iload_n 2, 1) := by decide +kernel
theorem dX1_heirOf_30 : decode cX1_heirOf 30 = .ok (.aaload, 1) := by decide +kernel
theorem dX1_heirOf_31 : decode cX1_heirOf 31 = .ok (.getfield 55, 3) := by decide +kernel
theorem dX1_heirOf_34 : decode cX1_heirOf 34 = .ok (.if_icmp .ge 7, 3) := by decide +kernel
theorem dX1_heirOf_37 : decode cX1_heirOf 37 = .ok (.iconst 1, 1) := by decide +kernel
theorem dX1_heirOf_38 : decode cX1_heirOf 38 = .ok (.goto 4, 3) := by decide +kernel
theorem dX1_heirOf_41 : decode cX1_heirOf 41 = .ok (.iconst 0, 1) := by decide +kernel
theorem dX1_heirOf_42 : decode cX1_heirOf 42 = .ok (.istore 4, 2) := by decide +kernel
theorem dX1_heirOf_44 : decode cX1_heirOf 44 = .ok (.iload 4, 2) := by decide +kernel
theorem dX1_heirOf_46 : decode cX1_heirOf 46 = .ok (.ifCond .eq 30, 3) := by decide +kernel
theorem dX1_heirOf_49 : decode cX1_heirOf 49 = .ok (.aload_n 0, 1) := by decide +kernel
theorem dX1_heirOf_50 : decode cX1_heirOf 50 = .ok (.getfield 36, 3) := by decide +kernel
theorem dX1_heirOf_53 : decode cX1_heirOf 53 = .ok (.iload_n 3, 1) := by decide +kernel
theorem dX1_heirOf_54 : decode cX1_heirOf 54 = .ok (.aaload, 1) := by decide +kernel
theorem dX1_heirOf_55 : decode cX1_heirOf 55 = .ok (.getfield 58, 3) := by decide +kernel
theorem dX1_heirOf_58 : decode cX1_heirOf 58 = .ok (.ifCond .ne 18, 3) := by decide +kernel
theorem dX1_heirOf_61 : decode cX1_heirOf 61 = .ok (.aload_n 0, 1) := by decide +kernel
theorem dX1_heirOf_62 : decode cX1_heirOf 62 = .ok (.getfield 36, 3) := by decide +kernel
theorem dX1_heirOf_65 : decode cX1_heirOf 65 = .ok (.iload_n 3, 1) := by decide +kernel
theorem dX1_heirOf_66 : decode cX1_heirOf 66 = .ok (.aaload, 1) := by decide +kernel
theorem dX1_heirOf_67 : decode cX1_heirOf 67 = .ok (.iload_n 1, 1) := by decide +kernel
theorem dX1_heirOf_68 : decode cX1_heirOf 68 = .ok (.invokevirtual 61, 3) := by decide +kernel
theorem dX1_heirOf_71 : decode cX1_heirOf 71 = .ok (.ifCond .eq 5, 3) := by decide +kernel
theorem dX1_heirOf_74 : decode cX1_heirOf 74 = .ok (.iload_n 3, 1) := by decide +kernel
theorem dX1_heirOf_75 : decode cX1_heirOf 75 = .ok (.istore_n 2, 1) := by decide +kernel
theorem dX1_heirOf_76 : decode cX1_heirOf 76 = .ok (.iinc 3 1, 3) := by decide +kernel
theorem dX1_heirOf_79 : decode cX1_heirOf 79 = .ok (.goto (-75), 3) := by decide +kernel
theorem dX1_heirOf_82 : decode cX1_heirOf 82 = .ok (.iload_n 2, 1) := by decide +kernel
theorem dX1_heirOf_83 : decode cX1_heirOf 83 = .ok (.ireturn, 1) := by decide +kernel
theorem dX1_placeToday_0 : decode cX1_placeToday 0 = .ok (.aload_n 0, 1) := by decide +kernel
theorem dX1_placeToday_1 : decode cX1_placeToday 1 = .ok (.getfield 9, 3) := by decide +kernel
theorem dX1_placeToday_4 : decode cX1_placeToday 4 = .ok (.bipush 6, 2) := by decide +kernel
theorem dX1_placeToday_6 : decode cX1_placeToday 6 = .ok (.irem, 1) := by decide +kernel
theorem dX1_placeToday_7 : decode cX1_placeToday 7 = .ok (.ireturn, 1) := by decide +kernel
theorem dX1_passDays_0 : decode cX1_passDays 0 = .ok (.iconst 0, 1) := by decide +kernel
theorem dX1_passDays_1 : decode cX1_passDays 1 = .ok (.istore_n 2, 1) := by decide +kernel
theorem dX1_passDays_2 : decode cX1_passDays 2 = .ok (.iload_n 2, 1) := by decide +kernel
theorem dX1_passDays_3 : decode cX1_passDays 3 = .ok (.iload_n 1, 1) := by decide +kernel
theorem dX1_passDays_4 : decode cX1_passDays 4 = .ok (.if_icmp .ge 13, 3) := by decide +kernel
theorem dX1_passDays_7 : decode cX1_passDays 7 = .ok (.aload_n 0, 1) := by decide +kernel
theorem dX1_passDays_8 : decode cX1_passDays 8 = .ok (.invokevirtual 65, 3) := by decide +kernel
theorem dX1_passDays_11 : decode cX1_passDays 11 = .ok (.iinc 2 1, 3) := by decide +kernel
theorem dX1_passDays_14 : decode cX1_passDays 14 = .ok (.goto (-12), 3) := by decide +kernel
theorem dX1_passDays_17 : decode cX1_passDays 17 = .ok (.return_, 1) := by decide +kernel
theorem dX1_passDay_0 : decode cX1_passDay 0 = .ok (.aload_n 0, 1) := by decide +kernel
theorem dX1_passDay_1 : decode cX1_passDay 1 = .ok (.getfield 24, 3) := by decide +kernel
theorem dX1_passDay_4 : decode cX1_passDay 4 = .ok (.aload_n 0, 1) := by decide +kernel
theorem dX1_passDay_5 : decode cX1_passDay 5 = .ok (.invokevirtual 68, 3) := by decide +kernel
theorem dX1_passDay_8 : decode cX1_passDay 8 = .ok (.iaload, 1) := by decide +kernel
theorem dX1_passDay_9 : decode cX1_passDay 9 = .ok (.istore_n 1, 1) := by decide +kernel
theorem dX1_passDay_10 : decode cX1_passDay 10 = .ok (.iload_n 1, 1) := by decide +kernel
theorem dX1_passDay_11 : decode cX1_passDay 11 = .ok (.bipush 12, 2) := by decide +kernel
theorem dX1_passDay_13 : decode cX1_passDay 13 = .ok (.if_icmp .ge 13, 3) := by decide +kernel
theorem dX1_passDay_16 : decode cX1_passDay 16 = .ok (.aload_n 0, 1) := by decide +kernel
theorem dX1_passDay_17 : decode cX1_passDay 17 = .ok (.iload_n 1, 1) := by decide +kernel
theorem dX1_passDay_18 : decode cX1_passDay 18 = .ok (.aload_n 0, 1) := by decide +kernel
theorem dX1_passDay_19 : decode cX1_passDay 19 = .ok (.iload_n 1, 1) := by decide +kernel
theorem dX1_passDay_20 : decode cX1_passDay 20 = .ok (.invokevirtual 72, 3) := by decide +kernel
theorem dX1_passDay_23 : decode cX1_passDay 23 = .ok (.invokevirtual 76, 3) := by decide +kernel
theorem dX1_passDay_26 : decode cX1_passDay 26 = .ok (.iconst 0, 1) := by decide +kernel
theorem dX1_passDay_27 : decode cX1_passDay 27 = .ok (.istore_n 2, 1) := by decide +kernel
theorem dX1_passDay_28 : decode cX1_passDay 28 = .ok (.iload_n 2, 1) := by decide +kernel
theorem dX1_passDay_29 : decode cX1_passDay 29 = .ok (.aload_n 0, 1) := by decide +kernel
theorem dX1_passDay_30 : decode cX1_passDay 30 = .ok (.getfield 21, 3) := by decide +kernel
theorem dX1_passDay_33 : decode cX1_passDay 33 = .ok (.if_icmp .ge 31, 3) := by decide +kernel
theorem dX1_passDay_36 : decode cX1_passDay 36 = .ok (.aload_n 0, 1) := by decide +kernel
theorem dX1_passDay_37 : decode cX1_passDay 37 = .ok (.getfield 36, 3) := by decide +kernel
theorem dX1_passDay_40 : decode cX1_passDay 40 = .ok (.iload_n 2, 1) := by decide +kernel
theorem dX1_passDay_41 : decode cX1_passDay 41 = .ok (.aaload, 1) := by decide +kernel
theorem dX1_passDay_42 : decode cX1_passDay 42 = .ok (.getfield 58, 3) := by decide +kernel
theorem dX1_passDay_45 : decode cX1_passDay 45 = .ok (.ifCond .ne 13, 3) := by decide +kernel
theorem dX1_passDay_48 : decode cX1_passDay 48 = .ok (.aload_n 0, 1) := by decide +kernel
theorem dX1_passDay_49 : decode cX1_passDay 49 = .ok (.aload_n 0, 1) := by decide +kernel
theorem dX1_passDay_50 : decode cX1_passDay 50 = .ok (.getfield 36, 3) := by decide +kernel
theorem dX1_passDay_53 : decode cX1_passDay 53 = .ok (.iload_n 2, 1) := by decide +kernel
theorem dX1_passDay_54 : decode cX1_passDay 54 = .ok (.aaload, 1) := by decide +kernel
theorem dX1_passDay_55 : decode cX1_passDay 55 = .ok (.invokevirtual 79, 3) := by decide +kernel
theorem dX1_passDay_58 : decode cX1_passDay 58 = .ok (.iinc 2 1, 3) := by decide +kernel
theorem dX1_passDay_61 : decode cX1_passDay 61 = .ok (.goto (-33), 3) := by decide +kernel
theorem dX1_passDay_64 : decode cX1_passDay 64 = .ok (.aload_n 0, 1) := by decide +kernel
theorem dX1_passDay_65 : decode cX1_passDay 65 = .ok (.ldc 82, 2) := by decide +kernel
theorem dX1_passDay_67 : decode cX1_passDay 67 = .ok (.aload_n 0, 1) := by decide +kernel
theorem dX1_passDay_68 : decode cX1_passDay 68 = .ok (.getfield 9, 3) := by decide +kernel
theorem dX1_passDay_71 : decode cX1_passDay 71 = .ok (.iconst 1, 1) := by decide +kernel
theorem dX1_passDay_72 : decode cX1_passDay 72 = .ok (.iadd, 1) := by decide +kernel
theorem dX1_passDay_73 : decode cX1_passDay 73 = .ok (.invokestatic 83, 3) := by decide +kernel
theorem dX1_passDay_76 : decode cX1_passDay 76 = .ok (.putfield 9, 3) := by decide +kernel
theorem dX1_passDay_79 : decode cX1_passDay 79 = .ok (.return_, 1) := by decide +kernel
theorem dX1_bequeath_0 : decode cX1_bequeath 0 = .ok (.iload_n 2, 1) := by decide +kernel
theorem dX1_bequeath_1 : decode cX1_bequeath 1 = .ok (.ifCond .lt 16, 3) := by decide +kernel
theorem dX1_bequeath_4 : decode cX1_bequeath 4 = .ok (.aload_n 0, 1) := by decide +kernel
theorem dX1_bequeath_5 : decode cX1_bequeath 5 = .ok (.getfield 36, 3) := by decide +kernel
theorem dX1_bequeath_8 : decode cX1_bequeath 8 = .ok (.iload_n 2, 1) := by decide +kernel
theorem dX1_bequeath_9 : decode cX1_bequeath 9 = .ok (.aaload, 1) := by decide +kernel
theorem dX1_bequeath_10 : decode cX1_bequeath 10 = .ok (.iload_n 1, 1) := by decide +kernel
theorem dX1_bequeath_11 : decode cX1_bequeath 11 = .ok (.invokevirtual 89, 3) := by decide +kernel
theorem dX1_bequeath_14 : decode cX1_bequeath 14 = .ok (.goto 22, 3) := by decide +kernel
theorem dX1_bequeath_17 : decode cX1_bequeath 17 = .ok (.aload_n 0, 1) := by decide +kernel
theorem dX1_bequeath_18 : decode cX1_bequeath 18 = .ok (.getfield 28, 3) := by decide +kernel
theorem dX1_bequeath_21 : decode cX1_bequeath 21 = .ok (.iload_n 1, 1) := by decide +kernel
theorem dX1_bequeath_22 : decode cX1_bequeath 22 = .ok (.bipush 99, 2) := by decide +kernel
theorem dX1_bequeath_24 : decode cX1_bequeath 24 = .ok (.aload_n 0, 1) := by decide +kernel
theorem dX1_bequeath_25 : decode cX1_bequeath 25 = .ok (.getfield 28, 3) := by decide +kernel
theorem dX1_bequeath_28 : decode cX1_bequeath 28 = .ok (.iload_n 1, 1) := by decide +kernel
theorem dX1_bequeath_29 : decode cX1_bequeath 29 = .ok (.iaload, 1) := by decide +kernel
theorem dX1_bequeath_30 : decode cX1_bequeath 30 = .ok (.iconst 1, 1) := by decide +kernel
theorem dX1_bequeath_31 : decode cX1_bequeath 31 = .ok (.iadd, 1) := by decide +kernel
theorem dX1_bequeath_32 : decode cX1_bequeath 32 = .ok (.invokestatic 83, 3) := by decide +kernel
theorem dX1_bequeath_35 : decode cX1_bequeath 35 = .ok (.iastore, 1) := by decide +kernel
theorem dX1_bequeath_36 : decode cX1_bequeath 36 = .ok (.return_, 1) := by decide +kernel
theorem dX1_passDayOf_0 : decode cX1_passDayOf 0 = .ok (.aload_n 1, 1) := by decide +kernel
theorem dX1_passDayOf_1 : decode cX1_passDayOf 1 = .ok (.aload_n 1, 1) := by decide +kernel
theorem dX1_passDayOf_2 : decode cX1_passDayOf 2 = .ok (.invokevirtual 93, 3) := by decide +kernel
theorem dX1_passDayOf_5 : decode cX1_passDayOf 5 = .ok (.invokevirtual 96, 3) := by decide +kernel
theorem dX1_passDayOf_8 : decode cX1_passDayOf 8 = .ok (.aload_n 1, 1) := by decide +kernel
theorem dX1_passDayOf_9 : decode cX1_passDayOf 9 = .ok (.invokevirtual 99, 3) := by decide +kernel
theorem dX1_passDayOf_12 : decode cX1_passDayOf 12 = .ok (.ifCond .ne 4, 3) := by decide +kernel
theorem dX1_passDayOf_15 : decode cX1_passDayOf 15 = .ok (.return_, 1) := by decide +kernel
theorem dX1_passDayOf_16 : decode cX1_passDayOf 16 = .ok (.aload_n 1, 1) := by decide +kernel
theorem dX1_passDayOf_17 : decode cX1_passDayOf 17 = .ok (.bipush 15, 2) := by decide +kernel
theorem dX1_passDayOf_19 : decode cX1_passDayOf 19 = .ok (.aload_n 1, 1) := by decide +kernel
theorem dX1_passDayOf_20 : decode cX1_passDayOf 20 = .ok (.getfield 103, 3) := by decide +kernel
theorem dX1_passDayOf_23 : decode cX1_passDayOf 23 = .ok (.aload_n 1, 1) := by decide +kernel
theorem dX1_passDayOf_24 : decode cX1_passDayOf 24 = .ok (.invokevirtual 106, 3) := by decide +kernel
theorem dX1_passDayOf_27 : decode cX1_passDayOf 27 = .ok (.iadd, 1) := by decide +kernel
theorem dX1_passDayOf_28 : decode cX1_passDayOf 28 = .ok (.invokestatic 83, 3) := by decide +kernel
theorem dX1_passDayOf_31 : decode cX1_passDayOf 31 = .ok (.putfield 103, 3) := by decide +kernel
theorem dX1_passDayOf_34 : decode cX1_passDayOf 34 = .ok (.aload_n 1, 1) := by decide +kernel
theorem dX1_passDayOf_35 : decode cX1_passDayOf 35 = .ok (.getfield 103, 3) := by decide +kernel
theorem dX1_passDayOf_38 : decode cX1_passDayOf 38 = .ok (.bipush 15, 2) := by decide +kernel
theorem dX1_passDayOf_40 : decode cX1_passDayOf 40 = .ok (.if_icmp .ne 24, 3) := by decide +kernel
theorem dX1_passDayOf_43 : decode cX1_passDayOf 43 = .ok (.aload_n 1, 1) := by decide +kernel
theorem dX1_passDayOf_44 : decode cX1_passDayOf 44 = .ok (.iconst 1, 1) := by decide +kernel
theorem dX1_passDayOf_45 : decode cX1_passDayOf 45 = .ok (.putfield 58, 3) := by decide +kernel
theorem dX1_passDayOf_48 : decode cX1_passDayOf 48 = .ok (.aload_n 0, 1) := by decide +kernel
theorem dX1_passDayOf_49 : decode cX1_passDayOf 49 = .ok (.sipush 9999, 3) := by decide +kernel
theorem dX1_passDayOf_52 : decode cX1_passDayOf 52 = .ok (.aload_n 0, 1) := by decide +kernel
theorem dX1_passDayOf_53 : decode cX1_passDayOf 53 = .ok (.getfield 15, 3) := by decide +kernel
theorem dX1_passDayOf_56 : decode cX1_passDayOf 56 = .ok (.iconst 1, 1) := by decide +kernel
theorem dX1_passDayOf_57 : decode cX1_passDayOf 57 = .ok (.iadd, 1) := by decide +kernel
theorem dX1_passDayOf_58 : decode cX1_passDayOf 58 = .ok (.invokestatic 83, 3) := by decide +kernel
theorem dX1_passDayOf_61 : decode cX1_passDayOf 61 = .ok (.putfield 15, 3) := by decide +kernel
theorem dX1_passDayOf_64 : decode cX1_passDayOf 64 = .ok (.return_, 1) := by decide +kernel
theorem dX1_draw_0 : decode cX1_draw 0 = .ok (.aload_n 0, 1) := by decide +kernel
theorem dX1_draw_1 : decode cX1_draw 1 = .ok (.aload_n 0, 1) := by decide +kernel
theorem dX1_draw_2 : decode cX1_draw 2 = .ok (.getfield 18, 3) := by decide +kernel
theorem dX1_draw_5 : decode cX1_draw 5 = .ok (.ldc 109, 2) := by decide +kernel
theorem dX1_draw_7 : decode cX1_draw 7 = .ok (.imul, 1) := by decide +kernel
theorem dX1_draw_8 : decode cX1_draw 8 = .ok (.sipush 12345, 3) := by decide +kernel
theorem dX1_draw_11 : decode cX1_draw 11 = .ok (.iadd, 1) := by decide +kernel
theorem dX1_draw_12 : decode cX1_draw 12 = .ok (.putfield 18, 3) := by decide +kernel
theorem dX1_draw_15 : decode cX1_draw 15 = .ok (.aload_n 0, 1) := by decide +kernel
theorem dX1_draw_16 : decode cX1_draw 16 = .ok (.getfield 18, 3) := by decide +kernel
theorem dX1_draw_19 : decode cX1_draw 19 = .ok (.bipush 8, 2) := by decide +kernel
theorem dX1_draw_21 : decode cX1_draw 21 = .ok (.iushr, 1) := by decide +kernel
theorem dX1_draw_22 : decode cX1_draw 22 = .ok (.ireturn, 1) := by decide +kernel
theorem dX1_passDayByDraws_0 : decode cX1_passDayByDraws 0 = .ok (.aload_n 0, 1) := by decide +kernel
theorem dX1_passDayByDraws_1 : decode cX1_passDayByDraws 1 = .ok (.invokevirtual 110, 3) := by decide +kernel
theorem dX1_passDayByDraws_4 : decode cX1_passDayByDraws 4 = .ok (.bipush 13, 2) := by decide +kernel
theorem dX1_passDayByDraws_6 : decode cX1_passDayByDraws 6 = .ok (.irem, 1) := by decide +kernel
theorem dX1_passDayByDraws_7 : decode cX1_passDayByDraws 7 = .ok (.istore_n 1, 1) := by decide +kernel
theorem dX1_passDayByDraws_8 : decode cX1_passDayByDraws 8 = .ok (.aload_n 0, 1) := by decide +kernel
theorem dX1_passDayByDraws_9 : decode cX1_passDayByDraws 9 = .ok (.invokevirtual 110, 3) := by decide +kernel
theorem dX1_passDayByDraws_12 : decode cX1_passDayByDraws 12 = .ok (.bipush 8, 2) := by decide +kernel
theorem dX1_passDayByDraws_14 : decode cX1_passDayByDraws 14 = .ok (.irem, 1) := by decide +kernel
theorem dX1_passDayByDraws_15 : decode cX1_passDayByDraws 15 = .ok (.istore_n 2, 1) := by decide +kernel
theorem dX1_passDayByDraws_16 : decode cX1_passDayByDraws 16 = .ok (.aload_n 0, 1) := by decide +kernel
theorem dX1_passDayByDraws_17 : decode cX1_passDayByDraws 17 = .ok (.getfield 24, 3) := by decide +kernel
theorem dX1_passDayByDraws_20 : decode cX1_passDayByDraws 20 = .ok (.aload_n 0, 1) := by decide +kernel
theorem dX1_passDayByDraws_21 : decode cX1_passDayByDraws 21 = .ok (.invokevirtual 68, 3) := by decide +kernel
theorem dX1_passDayByDraws_24 : decode cX1_passDayByDraws 24 = .ok (.iload_n 1, 1) := by decide +kernel
theorem dX1_passDayByDraws_25 : decode cX1_passDayByDraws 25 = .ok (.iastore, 1) := by decide +kernel
theorem dX1_passDayByDraws_26 : decode cX1_passDayByDraws 26 = .ok (.iload_n 2, 1) := by decide +kernel
theorem dX1_passDayByDraws_27 : decode cX1_passDayByDraws 27 = .ok (.aload_n 0, 1) := by decide +kernel
theorem dX1_passDayByDraws_28 : decode cX1_passDayByDraws 28 = .ok (.getfield 21, 3) := by decide +kernel
theorem dX1_passDayByDraws_31 : decode cX1_passDayByDraws 31 = .ok (.if_icmp .ge 14, 3) := by decide +kernel
theorem dX1_passDayByDraws_34 : decode cX1_passDayByDraws 34 = .ok (.aload_n 0, 1) := by decide +kernel
theorem dX1_passDayByDraws_35 : decode cX1_passDayByDraws 35 = .ok (.getfield 36, 3) := by decide +kernel
theorem dX1_passDayByDraws_38 : decode cX1_passDayByDraws 38 = .ok (.iload_n 2, 1) := by decide +kernel
theorem dX1_passDayByDraws_39 : decode cX1_passDayByDraws 39 = .ok (.aaload, 1) := by decide +kernel
theorem dX1_passDayByDraws_40 : decode cX1_passDayByDraws 40 = .ok (.bipush 10, 2) := by decide +kernel
theorem dX1_passDayByDraws_42 : decode cX1_passDayByDraws 42 = .ok (.invokevirtual 96, 3) := by decide +kernel
theorem dX1_passDayByDraws_45 : decode cX1_passDayByDraws 45 = .ok (.aload_n 0, 1) := by decide +kernel
theorem dX1_passDayByDraws_46 : decode cX1_passDayByDraws 46 = .ok (.invokevirtual 65, 3) := by decide +kernel
theorem dX1_passDayByDraws_49 : decode cX1_passDayByDraws 49 = .ok (.return_, 1) := by decide +kernel
theorem dX1_storedTogether_0 : decode cX1_storedTogether 0 = .ok (.iconst 0, 1) := by decide +kernel
theorem dX1_storedTogether_1 : decode cX1_storedTogether 1 = .ok (.istore_n 1, 1) := by decide +kernel
theorem dX1_storedTogether_2 : decode cX1_storedTogether 2 = .ok (.iconst 0, 1) := by decide +kernel
theorem dX1_storedTogether_3 : decode cX1_storedTogether 3 = .ok (.istore_n 2, 1) := by decide +kernel
theorem dX1_storedTogether_4 : decode cX1_storedTogether 4 = .ok (.iload_n 2, 1) := by decide +kernel
theorem dX1_storedTogether_5 : decode cX1_storedTogether 5 = .ok (.bipush 12, 2) := by decide +kernel
theorem dX1_storedTogether_7 : decode cX1_storedTogether 7 = .ok (.if_icmp .ge 18, 3) := by decide +kernel
theorem dX1_storedTogether_10 : decode cX1_storedTogether 10 = .ok (.iload_n 1, 1) := by decide +kernel
theorem dX1_storedTogether_11 : decode cX1_storedTogether 11 = .ok (.aload_n 0, 1) := by decide +kernel
theorem dX1_storedTogether_12 : decode cX1_storedTogether 12 = .ok (.getfield 28, 3) := by decide +kernel
theorem dX1_storedTogether_15 : decode cX1_storedTogether 15 = .ok (.iload_n 2, 1) := by decide +kernel
theorem dX1_storedTogether_16 : decode cX1_storedTogether 16 = .ok (.iaload, 1) := by decide +kernel
theorem dX1_storedTogether_17 : decode cX1_storedTogether 17 = .ok (.iadd, 1) := by decide +kernel
theorem dX1_storedTogether_18 : decode cX1_storedTogether 18 = .ok (.istore_n 1, 1) := by decide +kernel
theorem dX1_storedTogether_19 : decode cX1_storedTogether 19 = .ok (.iinc 2 1, 3) := by decide +kernel
theorem dX1_storedTogether_22 : decode cX1_storedTogether 22 = .ok (.goto (-18), 3) := by decide +kernel
theorem dX1_storedTogether_25 : decode cX1_storedTogether 25 = .ok (.iload_n 1, 1) := by decide +kernel
theorem dX1_storedTogether_26 : decode cX1_storedTogether 26 = .ok (.ireturn, 1) := by decide +kernel
theorem dX1_completeBusts_0 : decode cX1_completeBusts 0 = .ok (.iconst 0, 1) := by decide +kernel
theorem dX1_completeBusts_1 : decode cX1_completeBusts 1 = .ok (.istore_n 1, 1) := by decide +kernel
theorem dX1_completeBusts_2 : decode cX1_completeBusts 2 = .ok (.iconst 0, 1) := by decide +kernel
theorem dX1_completeBusts_3 : decode cX1_completeBusts 3 = .ok (.istore_n 2, 1) := by decide +kernel
theorem dX1_completeBusts_4 : decode cX1_completeBusts 4 = .ok (.iload_n 2, 1) := by decide +kernel
theorem dX1_completeBusts_5 : decode cX1_completeBusts 5 = .ok (.aload_n 0, 1) := by decide +kernel
theorem dX1_completeBusts_6 : decode cX1_completeBusts 6 = .ok (.getfield 21, 3) := by decide +kernel
theorem dX1_completeBusts_9 : decode cX1_completeBusts 9 = .ok (.if_icmp .ge 42, 3) := by decide +kernel
theorem dX1_completeBusts_12 : decode cX1_completeBusts 12 = .ok (.aload_n 0, 1) := by decide +kernel
theorem dX1_completeBusts_13 : decode cX1_completeBusts 13 = .ok (.getfield 36, 3) := by decide +kernel
theorem dX1_completeBusts_16 : decode cX1_completeBusts 16 = .ok (.iload_n 2, 1) := by decide +kernel
theorem dX1_completeBusts_17 : decode cX1_completeBusts 17 = .ok (.aaload, 1) := by decide +kernel
theorem dX1_completeBusts_18 : decode cX1_completeBusts 18 = .ok (.getfield 58, 3) := by decide +kernel
theorem dX1_completeBusts_21 : decode cX1_completeBusts 21 = .ok (.ifCond .ne 24, 3) := by decide +kernel
theorem dX1_completeBusts_24 : decode cX1_completeBusts 24 = .ok (.aload_n 0, 1) := by decide +kernel
theorem dX1_completeBusts_25 : decode cX1_completeBusts 25 = .ok (.getfield 36, 3) := by decide +kernel
theorem dX1_completeBusts_28 : decode cX1_completeBusts 28 = .ok (.iload_n 2, 1) := by decide +kernel
theorem dX1_completeBusts_29 : decode cX1_completeBusts 29 = .ok (.aaload, 1) := by decide +kernel
theorem dX1_completeBusts_30 : decode cX1_completeBusts 30 = .ok (.getfield 113, 3) := by decide +kernel
theorem dX1_completeBusts_33 : decode cX1_completeBusts 33 = .ok (.sipush 4095, 3) := by decide +kernel
theorem dX1_completeBusts_36 : decode cX1_completeBusts 36 = .ok (.if_icmp .ne 9, 3) := by decide +kernel
theorem dX1_completeBusts_39 : decode cX1_completeBusts 39 = .ok (.iload_n 1, 1) := by decide +kernel
theorem dX1_completeBusts_40 : decode cX1_completeBusts 40 = .ok (.iconst 1, 1) := by decide +kernel
theorem dX1_completeBusts_41 : decode cX1_completeBusts 41 = .ok (.iload_n 2, 1) := by decide +kernel
theorem dX1_completeBusts_42 : decode cX1_completeBusts 42 = .ok (.ishl, 1) := by decide +kernel
theorem dX1_completeBusts_43 : decode cX1_completeBusts 43 = .ok (.ior, 1) := by decide +kernel
theorem dX1_completeBusts_44 : decode cX1_completeBusts 44 = .ok (.istore_n 1, 1) := by decide +kernel
theorem dX1_completeBusts_45 : decode cX1_completeBusts 45 = .ok (.iinc 2 1, 3) := by decide +kernel
theorem dX1_completeBusts_48 : decode cX1_completeBusts 48 = .ok (.goto (-44), 3) := by decide +kernel
theorem dX1_completeBusts_51 : decode cX1_completeBusts 51 = .ok (.iload_n 1, 1) := by decide +kernel
theorem dX1_completeBusts_52 : decode cX1_completeBusts 52 = .ok (.ireturn, 1) := by decide +kernel
theorem dX1_walkers_0 : decode cX1_walkers 0 = .ok (.iconst 0, 1) := by decide +kernel
theorem dX1_walkers_1 : decode cX1_walkers 1 = .ok (.istore_n 1, 1) := by decide +kernel
theorem dX1_walkers_2 : decode cX1_walkers 2 = .ok (.iconst 0, 1) := by decide +kernel
theorem dX1_walkers_3 : decode cX1_walkers 3 = .ok (.istore_n 2, 1) := by decide +kernel
theorem dX1_walkers_4 : decode cX1_walkers 4 = .ok (.iload_n 2, 1) := by decide +kernel
theorem dX1_walkers_5 : decode cX1_walkers 5 = .ok (.aload_n 0, 1) := by decide +kernel
theorem dX1_walkers_6 : decode cX1_walkers 6 = .ok (.getfield 21, 3) := by decide +kernel
theorem dX1_walkers_9 : decode cX1_walkers 9 = .ok (.if_icmp .ge 27, 3) := by decide +kernel
theorem dX1_walkers_12 : decode cX1_walkers 12 = .ok (.aload_n 0, 1) := by decide +kernel
theorem dX1_walkers_13 : decode cX1_walkers 13 = .ok (.getfield 36, 3) := by decide +kernel
theorem dX1_walkers_16 : decode cX1_walkers 16 = .ok (.iload_n 2, 1) := by decide +kernel
theorem dX1_walkers_17 : decode cX1_walkers 17 = .ok (.aaload, 1) := by decide +kernel
theorem dX1_walkers_18 : decode cX1_walkers 18 = .ok (.invokevirtual 99, 3) := by decide +kernel
theorem dX1_walkers_21 : decode cX1_walkers 21 = .ok (.ifCond .eq 9, 3) := by decide +kernel
theorem dX1_walkers_24 : decode cX1_walkers 24 = .ok (.iload_n 1, 1) := by decide +kernel
theorem dX1_walkers_25 : decode cX1_walkers 25 = .ok (.iconst 1, 1) := by decide +kernel
theorem dX1_walkers_26 : decode cX1_walkers 26 = .ok (.iload_n 2, 1) := by decide +kernel
theorem dX1_walkers_27 : decode cX1_walkers 27 = .ok (.ishl, 1) := by decide +kernel
theorem dX1_walkers_28 : decode cX1_walkers 28 = .ok (.ior, 1) := by decide +kernel
theorem dX1_walkers_29 : decode cX1_walkers 29 = .ok (.istore_n 1, 1) := by decide +kernel
theorem dX1_walkers_30 : decode cX1_walkers 30 = .ok (.iinc 2 1, 3) := by decide +kernel
theorem dX1_walkers_33 : decode cX1_walkers 33 = .ok (.goto (-29), 3) := by decide +kernel
theorem dX1_walkers_36 : decode cX1_walkers 36 = .ok (.iload_n 1, 1) := by decide +kernel
theorem dX1_walkers_37 : decode cX1_walkers 37 = .ok (.ireturn, 1) := by decide +kernel
theorem dX1_loudest_0 : decode cX1_loudest 0 = .ok (.iconst (-1), 1) := by decide +kernel
theorem dX1_loudest_1 : decode cX1_loudest 1 = .ok (.istore_n 1, 1) := by decide +kernel
theorem dX1_loudest_2 : decode cX1_loudest 2 = .ok (.iconst 0, 1) := by decide +kernel
theorem dX1_loudest_3 : decode cX1_loudest 3 = .ok (.istore_n 2, 1) := by decide +kernel
theorem dX1_loudest_4 : decode cX1_loudest 4 = .ok (.iload_n 2, 1) := by decide +kernel
theorem dX1_loudest_5 : decode cX1_loudest 5 = .ok (.aload_n 0, 1) := by decide +kernel
theorem dX1_loudest_6 : decode cX1_loudest 6 = .ok (.getfield 21, 3) := by decide +kernel
theorem dX1_loudest_9 : decode cX1_loudest 9 = .ok (.if_icmp .ge 58, 3) := by decide +kernel
theorem dX1_loudest_12 : decode cX1_loudest 12 = .ok (.iload_n 1, 1) := by decide +kernel
theorem dX1_loudest_13 : decode cX1_loudest 13 = .ok (.ifCond .lt 24, 3) := by decide +kernel
theorem dX1_loudest_16 : decode cX1_loudest 16 = .ok (.aload_n 0, 1) := by decide +kernel
theorem dX1_loudest_17 : decode cX1_loudest 17 = .ok (.getfield 36, 3) := by decide +kernel
theorem dX1_loudest_20 : decode cX1_loudest 20 = .ok (.iload_n 2, 1) := by decide +kernel
theorem dX1_loudest_21 : decode cX1_loudest 21 = .ok (.aaload, 1) := by decide +kernel
theorem dX1_loudest_22 : decode cX1_loudest 22 = .ok (.invokevirtual 116, 3) := by decide +kernel
theorem dX1_loudest_25 : decode cX1_loudest 25 = .ok (.aload_n 0, 1) := by decide +kernel
theorem dX1_loudest_26 : decode cX1_loudest 26 = .ok (.getfield 36, 3) := by decide +kernel
theorem dX1_loudest_29 : decode cX1_loudest 29 = .ok (.iload_n 1, 1) := by decide +kernel
theorem dX1_loudest_30 : decode cX1_loudest 30 = .ok (.aaload, 1) := by decide +kernel
theorem dX1_loudest_31 : decode cX1_loudest 31 = .ok (.invokevirtual 116, 3) := by decide +kernel
theorem dX1_loudest_34 : decode cX1_loudest 34 = .ok (.if_icmp .le 7, 3) := by decide +kernel
theorem dX1_loudest_37 : decode cX1_loudest 37 = .ok (.iconst 1, 1) := by decide +kernel
theorem dX1_loudest_38 : decode cX1_loudest 38 = .ok (.goto 4, 3) := by decide +kernel
theorem dX1_loudest_41 : decode cX1_loudest 41 = .ok (.iconst 0, 1) := by decide +kernel
theorem dX1_loudest_42 : decode cX1_loudest 42 = .ok (.istore_n 3, 1) := by decide +kernel
theorem dX1_loudest_43 : decode cX1_loudest 43 = .ok (.iload_n 3, 1) := by decide +kernel
theorem dX1_loudest_44 : decode cX1_loudest 44 = .ok (.ifCond .eq 17, 3) := by decide +kernel
theorem dX1_loudest_47 : decode cX1_loudest 47 = .ok (.aload_n 0, 1) := by decide +kernel
theorem dX1_loudest_48 : decode cX1_loudest 48 = .ok (.getfield 36, 3) := by decide +kernel
theorem dX1_loudest_51 : decode cX1_loudest 51 = .ok (.iload_n 2, 1) := by decide +kernel
theorem dX1_loudest_52 : decode cX1_loudest 52 = .ok (.aaload, 1) := by decide +kernel
theorem dX1_loudest_53 : decode cX1_loudest 53 = .ok (.getfield 58, 3) := by decide +kernel
theorem dX1_loudest_56 : decode cX1_loudest 56 = .ok (.ifCond .ne 5, 3) := by decide +kernel
theorem dX1_loudest_59 : decode cX1_loudest 59 = .ok (.iload_n 2, 1) := by decide +kernel
theorem dX1_loudest_60 : decode cX1_loudest 60 = .ok (.istore_n 1, 1) := by decide +kernel
theorem dX1_loudest_61 : decode cX1_loudest 61 = .ok (.iinc 2 1, 3) := by decide +kernel
theorem dX1_loudest_64 : decode cX1_loudest 64 = .ok (.goto (-60), 3) := by decide +kernel
theorem dX1_loudest_67 : decode cX1_loudest 67 = .ok (.iload_n 1, 1) := by decide +kernel
theorem dX1_loudest_68 : decode cX1_loudest 68 = .ok (.ireturn, 1) := by decide +kernel
theorem dX1_yearningTogether_0 : decode cX1_yearningTogether 0 = .ok (.iconst 0, 1) := by decide +kernel
theorem dX1_yearningTogether_1 : decode cX1_yearningTogether 1 = .ok (.istore_n 1, 1) := by decide +kernel
theorem dX1_yearningTogether_2 : decode cX1_yearningTogether 2 = .ok (.iconst 0, 1) := by decide +kernel
theorem dX1_yearningTogether_3 : decode cX1_yearningTogether 3 = .ok (.istore_n 2, 1) := by decide +kernel
theorem dX1_yearningTogether_4 : decode cX1_yearningTogether 4 = .ok (.iload_n 2, 1) := by decide +kernel
theorem dX1_yearningTogether_5 : decode cX1_yearningTogether 5 = .ok (.aload_n 0, 1) := by decide +kernel
theorem dX1_yearningTogether_6 : decode cX1_yearningTogether 6 = .ok (.getfield 21, 3) := by decide +kernel
theorem dX1_yearningTogether_9 : decode cX1_yearningTogether 9 = .ok (.if_icmp .ge 33, 3) := by decide +kernel
theorem dX1_yearningTogether_12 : decode cX1_yearningTogether 12 = .ok (.aload_n 0, 1) := by decide +kernel
theorem dX1_yearningTogether_13 : decode cX1_yearningTogether 13 = .ok (.getfield 36, 3) := by decide +kernel
theorem dX1_yearningTogether_16 : decode cX1_yearningTogether 16 = .ok (.iload_n 2, 1) := by decide +kernel
theorem dX1_yearningTogether_17 : decode cX1_yearningTogether 17 = .ok (.aaload, 1) := by decide +kernel
theorem dX1_yearningTogether_18 : decode cX1_yearningTogether 18 = .ok (.getfield 58, 3) := by decide +kernel
theorem dX1_yearningTogether_21 : decode cX1_yearningTogether 21 = .ok (.ifCond .ne 15, 3) := by decide +kernel
theorem dX1_yearningTogether_24 : decode cX1_yearningTogether 24 = .ok (.iload_n 1, 1) := by decide +kernel
theorem dX1_yearningTogether_25 : decode cX1_yearningTogether 25 = .ok (.aload_n 0, 1) := by decide +kernel
theorem dX1_yearningTogether_26 : decode cX1_yearningTogether 26 = .ok (.getfield 36, 3) := by decide +kernel
theorem dX1_yearningTogether_29 : decode cX1_yearningTogether 29 = .ok (.iload_n 2, 1) := by decide +kernel
theorem dX1_yearningTogether_30 : decode cX1_yearningTogether 30 = .ok (.aaload, 1) := by decide +kernel
theorem dX1_yearningTogether_31 : decode cX1_yearningTogether 31 = .ok (.getfield 119, 3) := by decide +kernel
theorem dX1_yearningTogether_34 : decode cX1_yearningTogether 34 = .ok (.iadd, 1) := by decide +kernel
theorem dX1_yearningTogether_35 : decode cX1_yearningTogether 35 = .ok (.istore_n 1, 1) := by decide +kernel
theorem dX1_yearningTogether_36 : decode cX1_yearningTogether 36 = .ok (.iinc 2 1, 3) := by decide +kernel
theorem dX1_yearningTogether_39 : decode cX1_yearningTogether 39 = .ok (.goto (-35), 3) := by decide +kernel
theorem dX1_yearningTogether_42 : decode cX1_yearningTogether 42 = .ok (.iload_n 1, 1) := by decide +kernel
theorem dX1_yearningTogether_43 : decode cX1_yearningTogether 43 = .ok (.ireturn, 1) := by decide +kernel
theorem dX1_goneBusts_0 : decode cX1_goneBusts 0 = .ok (.iconst 0, 1) := by decide +kernel
theorem dX1_goneBusts_1 : decode cX1_goneBusts 1 = .ok (.istore_n 1, 1) := by decide +kernel
theorem dX1_goneBusts_2 : decode cX1_goneBusts 2 = .ok (.iconst 0, 1) := by decide +kernel
theorem dX1_goneBusts_3 : decode cX1_goneBusts 3 = .ok (.istore_n 2, 1) := by decide +kernel
theorem dX1_goneBusts_4 : decode cX1_goneBusts 4 = .ok (.iload_n 2, 1) := by decide +kernel
theorem dX1_goneBusts_5 : decode cX1_goneBusts 5 = .ok (.aload_n 0, 1) := by decide +kernel
theorem dX1_goneBusts_6 : decode cX1_goneBusts 6 = .ok (.getfield 21, 3) := by decide +kernel
theorem dX1_goneBusts_9 : decode cX1_goneBusts 9 = .ok (.if_icmp .ge 28, 3) := by decide +kernel
theorem dX1_goneBusts_12 : decode cX1_goneBusts 12 = .ok (.aload_n 0, 1) := by decide +kernel
theorem dX1_goneBusts_13 : decode cX1_goneBusts 13 = .ok (.getfield 36, 3) := by decide +kernel
theorem dX1_goneBusts_16 : decode cX1_goneBusts 16 = .ok (.iload_n 2, 1) := by decide +kernel
theorem dX1_goneBusts_17 : decode cX1_goneBusts 17 = .ok (.aaload, 1) := by decide +kernel
theorem dX1_goneBusts_18 : decode cX1_goneBusts 18 = .ok (.getfield 58, 3) := by decide +kernel
theorem dX1_goneBusts_21 : decode cX1_goneBusts 21 = .ok (.iconst 1, 1) := by decide +kernel
theorem dX1_goneBusts_22 : decode cX1_goneBusts 22 = .ok (.if_icmp .ne 9, 3) := by decide +kernel
theorem dX1_goneBusts_25 : decode cX1_goneBusts 25 = .ok (.iload_n 1, 1) := by decide +kernel
theorem dX1_goneBusts_26 : decode cX1_goneBusts 26 = .ok (.iconst 1, 1) := by decide +kernel
theorem dX1_goneBusts_27 : decode cX1_goneBusts 27 = .ok (.iload_n 2, 1) := by decide +kernel
theorem dX1_goneBusts_28 : decode cX1_goneBusts 28 = .ok (.ishl, 1) := by decide +kernel
theorem dX1_goneBusts_29 : decode cX1_goneBusts 29 = .ok (.ior, 1) := by decide +kernel
theorem dX1_goneBusts_30 : decode cX1_goneBusts 30 = .ok (.istore_n 1, 1) := by decide +kernel
theorem dX1_goneBusts_31 : decode cX1_goneBusts 31 = .ok (.iinc 2 1, 3) := by decide +kernel
theorem dX1_goneBusts_34 : decode cX1_goneBusts 34 = .ok (.goto (-30), 3) := by decide +kernel
theorem dX1_goneBusts_37 : decode cX1_goneBusts 37 = .ok (.iload_n 1, 1) := by decide +kernel
theorem dX1_goneBusts_38 : decode cX1_goneBusts 38 = .ok (.ireturn, 1) := by decide +kernel
theorem dX1_spotsTaken_0 : decode cX1_spotsTaken 0 = .ok (.iconst 0, 1) := by decide +kernel
theorem dX1_spotsTaken_1 : decode cX1_spotsTaken 1 = .ok (.istore_n 1, 1) := by decide +kernel
theorem dX1_spotsTaken_2 : decode cX1_spotsTaken 2 = .ok (.iconst 0, 1) := by decide +kernel
theorem dX1_spotsTaken_3 : decode cX1_spotsTaken 3 = .ok (.istore_n 2, 1) := by decide +kernel
theorem dX1_spotsTaken_4 : decode cX1_spotsTaken 4 = .ok (.iload_n 2, 1) := by decide +kernel
theorem dX1_spotsTaken_5 : decode cX1_spotsTaken 5 = .ok (.bipush 10, 2) := by decide +kernel
theorem dX1_spotsTaken_7 : decode cX1_spotsTaken 7 = .ok (.if_icmp .ge 21, 3) := by decide +kernel
theorem dX1_spotsTaken_10 : decode cX1_spotsTaken 10 = .ok (.aload_n 0, 1) := by decide +kernel
theorem dX1_spotsTaken_11 : decode cX1_spotsTaken 11 = .ok (.getfield 31, 3) := by decide +kernel
theorem dX1_spotsTaken_14 : decode cX1_spotsTaken 14 = .ok (.iload_n 2, 1) := by decide +kernel
theorem dX1_spotsTaken_15 : decode cX1_spotsTaken 15 = .ok (.iaload, 1) := by decide +kernel
theorem dX1_spotsTaken_16 : decode cX1_spotsTaken 16 = .ok (.ifCond .lt 6, 3) := by decide +kernel
theorem dX1_spotsTaken_19 : decode cX1_spotsTaken 19 = .ok (.iinc 1 1, 3) := by decide +kernel
theorem dX1_spotsTaken_22 : decode cX1_spotsTaken 22 = .ok (.iinc 2 1, 3) := by decide +kernel
theorem dX1_spotsTaken_25 : decode cX1_spotsTaken 25 = .ok (.goto (-21), 3) := by decide +kernel
theorem dX1_spotsTaken_28 : decode cX1_spotsTaken 28 = .ok (.iload_n 1, 1) := by decide +kernel
theorem dX1_spotsTaken_29 : decode cX1_spotsTaken 29 = .ok (.ireturn, 1) := by decide +kernel
theorem dX1_mayDifferAt_0 : decode cX1_mayDifferAt 0 = .ok (.iload_n 2, 1) := by decide +kernel
theorem dX1_mayDifferAt_1 : decode cX1_mayDifferAt 1 = .ok (.sipush 999, 3) := by decide +kernel
theorem dX1_mayDifferAt_4 : decode cX1_mayDifferAt 4 = .ok (.if_icmp .ne 5, 3) := by decide +kernel
theorem dX1_mayDifferAt_7 : decode cX1_mayDifferAt 7 = .ok (.iconst 1, 1) := by decide +kernel
theorem dX1_mayDifferAt_8 : decode cX1_mayDifferAt 8 = .ok (.ireturn, 1) := by decide +kernel
theorem dX1_mayDifferAt_9 : decode cX1_mayDifferAt 9 = .ok (.iconst 0, 1) := by decide +kernel
theorem dX1_mayDifferAt_10 : decode cX1_mayDifferAt 10 = .ok (.istore_n 3, 1) := by decide +kernel
theorem dX1_mayDifferAt_11 : decode cX1_mayDifferAt 11 = .ok (.iload_n 3, 1) := by decide +kernel
theorem dX1_mayDifferAt_12 : decode cX1_mayDifferAt 12 = .ok (.aload_n 0, 1) := by decide +kernel
theorem dX1_mayDifferAt_13 : decode cX1_mayDifferAt 13 = .ok (.getfield 21, 3) := by decide +kernel
theorem dX1_mayDifferAt_16 : decode cX1_mayDifferAt 16 = .ok (.if_icmp .ge 44, 3) := by decide +kernel
theorem dX1_mayDifferAt_19 : decode cX1_mayDifferAt 19 = .ok (.iload_n 3, 1) := by decide +kernel
theorem dX1_mayDifferAt_20 : decode cX1_mayDifferAt 20 = .ok (.iload_n 1, 1) := by decide +kernel
theorem dX1_mayDifferAt_21 : decode cX1_mayDifferAt 21 = .ok (.if_icmp .eq 33, 3) := by decide +kernel
theorem dX1_mayDifferAt_24 : decode cX1_mayDifferAt 24 = .ok (.aload_n 0, 1) := by decide +kernel
theorem dX1_mayDifferAt_25 : decode cX1_mayDifferAt 25 = .ok (.getfield 36, 3) := by decide +kernel
theorem dX1_mayDifferAt_28 : decode cX1_mayDifferAt 28 = .ok (.iload_n 3, 1) := by decide +kernel
theorem dX1_mayDifferAt_29 : decode cX1_mayDifferAt 29 = .ok (.aaload, 1) := by decide +kernel
theorem dX1_mayDifferAt_30 : decode cX1_mayDifferAt 30 = .ok (.getfield 55, 3) := by decide +kernel
theorem dX1_mayDifferAt_33 : decode cX1_mayDifferAt 33 = .ok (.iload_n 2, 1) := by decide +kernel
theorem dX1_mayDifferAt_34 : decode cX1_mayDifferAt 34 = .ok (.if_icmp .eq 18, 3) := by decide +kernel
theorem dX1_mayDifferAt_37 : decode cX1_mayDifferAt 37 = .ok (.aload_n 0, 1) := by decide +kernel
theorem dX1_mayDifferAt_38 : decode cX1_mayDifferAt 38 = .ok (.getfield 36, 3) := by decide +kernel
theorem dX1_mayDifferAt_41 : decode cX1_mayDifferAt 41 = .ok (.iload_n 3, 1) := by decide +kernel
theorem dX1_mayDifferAt_42 : decode cX1_mayDifferAt 42 = .ok (.aaload, 1) := by decide +kernel
theorem dX1_mayDifferAt_43 : decode cX1_mayDifferAt 43 = .ok (.getfield 55, 3) := by decide +kernel
theorem dX1_mayDifferAt_46 : decode cX1_mayDifferAt 46 = .ok (.iload_n 2, 1) := by decide +kernel
theorem dX1_mayDifferAt_47 : decode cX1_mayDifferAt 47 = .ok (.iconst 1, 1) := by decide +kernel
theorem dX1_mayDifferAt_48 : decode cX1_mayDifferAt 48 = .ok (.iadd, 1) := by decide +kernel
theorem dX1_mayDifferAt_49 : decode cX1_mayDifferAt 49 = .ok (.if_icmp .ne 5, 3) := by decide +kernel
theorem dX1_mayDifferAt_52 : decode cX1_mayDifferAt 52 = .ok (.iconst 1, 1) := by decide +kernel
theorem dX1_mayDifferAt_53 : decode cX1_mayDifferAt 53 = .ok (.ireturn, 1) := by decide +kernel
theorem dX1_mayDifferAt_54 : decode cX1_mayDifferAt 54 = .ok (.iinc 3 1, 3) := by decide +kernel
theorem dX1_mayDifferAt_57 : decode cX1_mayDifferAt 57 = .ok (.goto (-46), 3) := by decide +kernel
theorem dX1_mayDifferAt_60 : decode cX1_mayDifferAt 60 = .ok (.iconst 0, 1) := by decide +kernel
theorem dX1_mayDifferAt_61 : decode cX1_mayDifferAt 61 = .ok (.ireturn, 1) := by decide +kernel
theorem dX2_init_0 : decode cX2_init 0 = .ok (.aload_n 0, 1) := by decide +kernel
theorem dX2_init_1 : decode cX2_init 1 = .ok (.invokespecial 3, 3) := by decide +kernel
theorem dX2_init_4 : decode cX2_init 4 = .ok (.aload_n 0, 1) := by decide +kernel
theorem dX2_init_5 : decode cX2_init 5 = .ok (.iconst 0, 1) := by decide +kernel
theorem dX2_init_6 : decode cX2_init 6 = .ok (.putfield 9, 3) := by decide +kernel
theorem dX2_init_9 : decode cX2_init 9 = .ok (.aload_n 0, 1) := by decide +kernel
theorem dX2_init_10 : decode cX2_init 10 = .ok (.iconst 0, 1) := by decide +kernel
theorem dX2_init_11 : decode cX2_init 11 = .ok (.putfield 15, 3) := by decide +kernel
theorem dX2_init_14 : decode cX2_init 14 = .ok (.aload_n 0, 1) := by decide +kernel
theorem dX2_init_15 : decode cX2_init 15 = .ok (.bipush 40, 2) := by decide +kernel
theorem dX2_init_17 : decode cX2_init 17 = .ok (.newarray .int, 2) := by decide +kernel
theorem dX2_init_19 : decode cX2_init 19 = .ok (.putfield 18, 3) := by decide +kernel
theorem dX2_init_22 : decode cX2_init 22 = .ok (.return_, 1) := by decide +kernel
theorem dX2_isMissing_0 : decode cX2_isMissing 0 = .ok (.aload_n 0, 1) := by decide +kernel
theorem dX2_isMissing_1 : decode cX2_isMissing 1 = .ok (.getfield 9, 3) := by decide +kernel
theorem dX2_isMissing_4 : decode cX2_isMissing 4 = .ok (.ifCond .ne 7, 3) := by decide +kernel
theorem dX2_isMissing_7 : decode cX2_isMissing 7 = .ok (.iconst 1, 1) := by decide +kernel
theorem dX2_isMissing_8 : decode cX2_isMissing 8 = .ok (.goto 4, 3) := by decide +kernel
theorem dX2_isMissing_11 : decode cX2_isMissing 11 = .ok (.iconst 0, 1) := by decide +kernel
theorem dX2_isMissing_12 : decode cX2_isMissing 12 = .ok (.ireturn, 1) := by decide +kernel
theorem dX2_begin_0 : decode cX2_begin 0 = .ok (.aload_n 0, 1) := by decide +kernel
theorem dX2_begin_1 : decode cX2_begin 1 = .ok (.iload_n 1, 1) := by decide +kernel
theorem dX2_begin_2 : decode cX2_begin 2 = .ok (.putfield 9, 3) := by decide +kernel
theorem dX2_begin_5 : decode cX2_begin 5 = .ok (.aload_n 0, 1) := by decide +kernel
theorem dX2_begin_6 : decode cX2_begin 6 = .ok (.iload_n 1, 1) := by decide +kernel
theorem dX2_begin_7 : decode cX2_begin 7 = .ok (.ifCond .ne 7, 3) := by decide +kernel
theorem dX2_begin_10 : decode cX2_begin 10 = .ok (.iconst 0, 1) := by decide +kernel
theorem dX2_begin_11 : decode cX2_begin 11 = .ok (.goto 4, 3) := by decide +kernel
theorem dX2_begin_14 : decode cX2_begin 14 = .ok (.iload_n 2, 1) := by decide +kernel
theorem dX2_begin_15 : decode cX2_begin 15 = .ok (.putfield 15, 3) := by decide +kernel
theorem dX2_begin_18 : decode cX2_begin 18 = .ok (.iconst 0, 1) := by decide +kernel
theorem dX2_begin_19 : decode cX2_begin 19 = .ok (.istore_n 3, 1) := by decide +kernel
theorem dX2_begin_20 : decode cX2_begin 20 = .ok (.iload_n 3, 1) := by decide +kernel
theorem dX2_begin_21 : decode cX2_begin 21 = .ok (.bipush 40, 2) := by decide +kernel
theorem dX2_begin_23 : decode cX2_begin 23 = .ok (.if_icmp .ge 16, 3) := by decide +kernel
theorem dX2_begin_26 : decode cX2_begin 26 = .ok (.aload_n 0, 1) := by decide +kernel
theorem dX2_begin_27 : decode cX2_begin 27 = .ok (.getfield 18, 3) := by decide +kernel
theorem dX2_begin_30 : decode cX2_begin 30 = .ok (.iload_n 3, 1) := by decide +kernel
theorem dX2_begin_31 : decode cX2_begin 31 = .ok (.iconst 0, 1) := by decide +kernel
theorem dX2_begin_32 : decode cX2_begin 32 = .ok (.iastore, 1) := by decide +kernel
theorem dX2_begin_33 : decode cX2_begin 33 = .ok (.iinc 3 1, 3) := by decide +kernel
theorem dX2_begin_36 : decode cX2_begin 36 = .ok (.goto (-16), 3) := by decide +kernel
theorem dX2_begin_39 : decode cX2_begin 39 = .ok (.return_, 1) := by decide +kernel
theorem dX2_put_0 : decode cX2_put 0 = .ok (.aload_n 0, 1) := by decide +kernel
theorem dX2_put_1 : decode cX2_put 1 = .ok (.getfield 9, 3) := by decide +kernel
theorem dX2_put_4 : decode cX2_put 4 = .ok (.bipush 8, 2) := by decide +kernel
theorem dX2_put_6 : decode cX2_put 6 = .ok (.if_icmp .ne 14, 3) := by decide +kernel
theorem dX2_put_9 : decode cX2_put 9 = .ok (.aload_n 0, 1) := by decide +kernel
theorem dX2_put_10 : decode cX2_put 10 = .ok (.getfield 18, 3) := by decide +kernel
theorem dX2_put_13 : decode cX2_put 13 = .ok (.iload_n 1, 1) := by decide +kernel
theorem dX2_put_14 : decode cX2_put 14 = .ok (.iload_n 2, 1) := by decide +kernel
theorem dX2_put_15 : decode cX2_put 15 = .ok (.i2b, 1) := by decide +kernel
theorem dX2_put_16 : decode cX2_put 16 = .ok (.iastore, 1) := by decide +kernel
theorem dX2_put_17 : decode cX2_put 17 = .ok (.goto 30, 3) := by decide +kernel
theorem dX2_put_20 : decode cX2_put 20 = .ok (.aload_n 0, 1) := by decide +kernel
theorem dX2_put_21 : decode cX2_put 21 = .ok (.getfield 9, 3) := by decide +kernel
theorem dX2_put_24 : decode cX2_put 24 = .ok (.bipush 16, 2) := by decide +kernel
theorem dX2_put_26 : decode cX2_put 26 = .ok (.if_icmp .ne 14, 3) := by decide +kernel
theorem dX2_put_29 : decode cX2_put 29 = .ok (.aload_n 0, 1) := by decide +kernel
theorem dX2_put_30 : decode cX2_put 30 = .ok (.getfield 18, 3) := by decide +kernel
theorem dX2_put_33 : decode cX2_put 33 = .ok (.iload_n 1, 1) := by decide +kernel
theorem dX2_put_34 : decode cX2_put 34 = .ok (.iload_n 2, 1) := by decide +kernel
theorem dX2_put_35 : decode cX2_put 35 = .ok (.i2s, 1) := by decide +kernel
theorem dX2_put_36 : decode cX2_put 36 = .ok (.iastore, 1) := by decide +kernel
theorem dX2_put_37 : decode cX2_put 37 = .ok (.goto 10, 3) := by decide +kernel
theorem dX2_put_40 : decode cX2_put 40 = .ok (.aload_n 0, 1) := by decide +kernel
theorem dX2_put_41 : decode cX2_put 41 = .ok (.getfield 18, 3) := by decide +kernel
theorem dX2_put_44 : decode cX2_put 44 = .ok (.iload_n 1, 1) := by decide +kernel
theorem dX2_put_45 : decode cX2_put 45 = .ok (.iload_n 2, 1) := by decide +kernel
theorem dX2_put_46 : decode cX2_put 46 = .ok (.iastore, 1) := by decide +kernel
theorem dX2_put_47 : decode cX2_put 47 = .ok (.return_, 1) := by decide +kernel
theorem dX2_spans_0 : decode cX2_spans 0 = .ok (.iload_n 1, 1) := by decide +kernel
theorem dX2_spans_1 : decode cX2_spans 1 = .ok (.ifCond .lt 29, 3) := by decide +kernel
theorem dX2_spans_4 : decode cX2_spans 4 = .ok (.iload_n 2, 1) := by decide +kernel
theorem dX2_spans_5 : decode cX2_spans 5 = .ok (.ifCond .lt 25, 3) := by decide +kernel
theorem dX2_spans_8 : decode cX2_spans 8 = .ok (.iload_n 2, 1) := by decide +kernel
theorem dX2_spans_9 : decode cX2_spans 9 = .ok (.aload_n 0, 1) := by decide +kernel
theorem dX2_spans_10 : decode cX2_spans 10 = .ok (.getfield 15, 3) := by decide +kernel
theorem dX2_spans_13 : decode cX2_spans 13 = .ok (.if_icmp .gt 17, 3) := by decide +kernel
theorem dX2_spans_16 : decode cX2_spans 16 = .ok (.iload_n 1, 1) := by decide +kernel
theorem dX2_spans_17 : decode cX2_spans 17 = .ok (.aload_n 0, 1) := by decide +kernel
theorem dX2_spans_18 : decode cX2_spans 18 = .ok (.getfield 15, 3) := by decide +kernel
theorem dX2_spans_21 : decode cX2_spans 21 = .ok (.iload_n 2, 1) := by decide +kernel
theorem dX2_spans_22 : decode cX2_spans 22 = .ok (.isub, 1) := by decide +kernel
theorem dX2_spans_23 : decode cX2_spans 23 = .ok (.if_icmp .gt 7, 3) := by decide +kernel
theorem dX2_spans_26 : decode cX2_spans 26 = .ok (.iconst 1, 1) := by decide +kernel
theorem dX2_spans_27 : decode cX2_spans 27 = .ok (.goto 4, 3) := by decide +kernel
theorem dX2_spans_30 : decode cX2_spans 30 = .ok (.iconst 0, 1) := by decide +kernel
theorem dX2_spans_31 : decode cX2_spans 31 = .ok (.ireturn, 1) := by decide +kernel
theorem dX3_init_0 : decode cX3_init 0 = .ok (.aload_n 0, 1) := by decide +kernel
theorem dX3_init_1 : decode cX3_init 1 = .ok (.invokespecial 3, 3) := by decide +kernel
theorem dX3_init_4 : decode cX3_init 4 = .ok (.aload_n 0, 1) := by decide +kernel
theorem dX3_init_5 : decode cX3_init 5 = .ok (.bipush 120, 2) := by decide +kernel
theorem dX3_init_7 : decode cX3_init 7 = .ok (.newarray .int, 2) := by decide +kernel
theorem dX3_init_9 : decode cX3_init 9 = .ok (.putfield 9, 3) := by decide +kernel
theorem dX3_init_12 : decode cX3_init 12 = .ok (.aload_n 0, 1) := by decide +kernel
theorem dX3_init_13 : decode cX3_init 13 = .ok (.iconst 0, 1) := by decide +kernel
theorem dX3_init_14 : decode cX3_init 14 = .ok (.putfield 15, 3) := by decide +kernel
theorem dX3_init_17 : decode cX3_init 17 = .ok (.aload_n 0, 1) := by decide +kernel
theorem dX3_init_18 : decode cX3_init 18 = .ok (.iconst 0, 1) := by decide +kernel
theorem dX3_init_19 : decode cX3_init 19 = .ok (.putfield 19, 3) := by decide +kernel
theorem dX3_init_22 : decode cX3_init 22 = .ok (.aload_n 0, 1) := by decide +kernel
theorem dX3_init_23 : decode cX3_init 23 = .ok (.iconst 0, 1) := by decide +kernel
theorem dX3_init_24 : decode cX3_init 24 = .ok (.putfield 22, 3) := by decide +kernel
theorem dX3_init_27 : decode cX3_init 27 = .ok (.aload_n 0, 1) := by decide +kernel
theorem dX3_init_28 : decode cX3_init 28 = .ok (.iconst 0, 1) := by decide +kernel
theorem dX3_init_29 : decode cX3_init 29 = .ok (.putfield 25, 3) := by decide +kernel
theorem dX3_init_32 : decode cX3_init 32 = .ok (.aload_n 0, 1) := by decide +kernel
theorem dX3_init_33 : decode cX3_init 33 = .ok (.iconst 0, 1) := by decide +kernel
theorem dX3_init_34 : decode cX3_init 34 = .ok (.putfield 28, 3) := by decide +kernel
theorem dX3_init_37 : decode cX3_init 37 = .ok (.return_, 1) := by decide +kernel
theorem dX3_append_0 : decode cX3_append 0 = .ok (.aload_n 0, 1) := by decide +kernel
theorem dX3_append_1 : decode cX3_append 1 = .ok (.getfield 15, 3) := by decide +kernel
theorem dX3_append_4 : decode cX3_append 4 = .ok (.bipush 120, 2) := by decide +kernel
theorem dX3_append_6 : decode cX3_append 6 = .ok (.if_icmp .ge 23, 3) := by decide +kernel
theorem dX3_append_9 : decode cX3_append 9 = .ok (.aload_n 0, 1) := by decide +kernel
theorem dX3_append_10 : decode cX3_append 10 = .ok (.getfield 9, 3) := by decide +kernel
theorem dX3_append_13 : decode cX3_append 13 = .ok (.aload_n 0, 1) := by decide +kernel
theorem dX3_append_14 : decode cX3_append 14 = .ok (.getfield 15, 3) := by decide +kernel
theorem dX3_append_17 : decode cX3_append 17 = .ok (.iload_n 1, 1) := by decide +kernel
theorem dX3_append_18 : decode cX3_append 18 = .ok (.iastore, 1) := by decide +kernel
theorem dX3_append_19 : decode cX3_append 19 = .ok (.aload_n 0, 1) := by decide +kernel
theorem dX3_append_20 : decode cX3_append 20 = .ok (.dup, 1) := by decide +kernel
theorem dX3_append_21 : decode cX3_append 21 = .ok (.getfield 15, 3) := by decide +kernel
theorem dX3_append_24 : decode cX3_append 24 = .ok (.iconst 1, 1) := by decide +kernel
theorem dX3_append_25 : decode cX3_append 25 = .ok (.iadd, 1) := by decide +kernel
theorem dX3_append_26 : decode cX3_append 26 = .ok (.putfield 15, 3) := by decide +kernel
theorem dX3_append_29 : decode cX3_append 29 = .ok (.return_, 1) := by decide +kernel
theorem dX3_rewind_0 : decode cX3_rewind 0 = .ok (.aload_n 0, 1) := by decide +kernel
theorem dX3_rewind_1 : decode cX3_rewind 1 = .ok (.iconst 0, 1) := by decide +kernel
theorem dX3_rewind_2 : decode cX3_rewind 2 = .ok (.putfield 25, 3) := by decide +kernel
theorem dX3_rewind_5 : decode cX3_rewind 5 = .ok (.aload_n 0, 1) := by decide +kernel
theorem dX3_rewind_6 : decode cX3_rewind 6 = .ok (.invokevirtual 31, 3) := by decide +kernel
theorem dX3_rewind_9 : decode cX3_rewind 9 = .ok (.return_, 1) := by decide +kernel
theorem dX3_readToken_0 : decode cX3_readToken 0 = .ok (.aload_n 0, 1) := by decide +kernel
theorem dX3_readToken_1 : decode cX3_readToken 1 = .ok (.aload_n 0, 1) := by decide +kernel
theorem dX3_readToken_2 : decode cX3_readToken 2 = .ok (.getfield 25, 3) := by decide +kernel
theorem dX3_readToken_5 : decode cX3_readToken 5 = .ok (.putfield 22, 3) := by decide +kernel
theorem dX3_readToken_8 : decode cX3_readToken 8 = .ok (.aload_n 0, 1) := by decide +kernel
theorem dX3_readToken_9 : decode cX3_readToken 9 = .ok (.getfield 22, 3) := by decide +kernel
theorem dX3_readToken_12 : decode cX3_readToken 12 = .ok (.aload_n 0, 1) := by decide +kernel
theorem dX3_readToken_13 : decode cX3_readToken 13 = .ok (.getfield 15, 3) := by decide +kernel
theorem dX3_readToken_16 : decode cX3_readToken 16 = .ok (.if_icmp .ge 30, 3) := by decide +kernel
theorem dX3_readToken_19 : decode cX3_readToken 19 = .ok (.aload_n 0, 1) := by decide +kernel
theorem dX3_readToken_20 : decode cX3_readToken 20 = .ok (.getfield 9, 3) := by decide +kernel
theorem dX3_readToken_23 : decode cX3_readToken 23 = .ok (.aload_n 0, 1) := by decide +kernel
theorem dX3_readToken_24 : decode cX3_readToken 24 = .ok (.getfield 22, 3) := by decide +kernel
theorem dX3_readToken_27 : decode cX3_readToken 27 = .ok (.iaload, 1) := by decide +kernel
theorem dX3_readToken_28 : decode cX3_readToken 28 = .ok (.bipush 32, 2) := by decide +kernel
theorem dX3_readToken_30 : decode cX3_readToken 30 = .ok (.if_icmp .ne 16, 3) := by decide +kernel
theorem dX3_readToken_33 : decode cX3_readToken 33 = .ok (.aload_n 0, 1) := by decide +kernel
theorem dX3_readToken_34 : decode cX3_readToken 34 = .ok (.dup, 1) := by decide +kernel
theorem dX3_readToken_35 : decode cX3_readToken 35 = .ok (.getfield 22, 3) := by decide +kernel
theorem dX3_readToken_38 : decode cX3_readToken 38 = .ok (.iconst 1, 1) := by decide +kernel
theorem dX3_readToken_39 : decode cX3_readToken 39 = .ok (.iadd, 1) := by decide +kernel
theorem dX3_readToken_40 : decode cX3_readToken 40 = .ok (.putfield 22, 3) := by decide +kernel
theorem dX3_readToken_43 : decode cX3_readToken 43 = .ok (.goto (-35), 3) := by decide +kernel
theorem dX3_readToken_46 : decode cX3_readToken 46 = .ok (.aload_n 0, 1) := by decide +kernel
theorem dX3_readToken_47 : decode cX3_readToken 47 = .ok (.aload_n 0, 1) := by decide +kernel
theorem dX3_readToken_48 : decode cX3_readToken 48 = .ok (.getfield 22, 3) := by decide +kernel
theorem dX3_readToken_51 : decode cX3_readToken 51 = .ok (.putfield 25, 3) := by decide +kernel
theorem dX3_readToken_54 : decode cX3_readToken 54 = .ok (.aload_n 0, 1) := by decide +kernel
theorem dX3_readToken_55 : decode cX3_readToken 55 = .ok (.getfield 22, 3) := by decide +kernel
theorem dX3_readToken_58 : decode cX3_readToken 58 = .ok (.aload_n 0, 1) := by decide +kernel
theorem dX3_readToken_59 : decode cX3_readToken 59 = .ok (.getfield 15, 3) := by decide +kernel
theorem dX3_readToken_62 : decode cX3_readToken 62 = .ok (.if_icmp .lt 11, 3) := by decide +kernel
theorem dX3_readToken_65 : decode cX3_readToken 65 = .ok (.aload_n 0, 1) := by decide +kernel
theorem dX3_readToken_66 : decode cX3_readToken 66 = .ok (.iconst 0, 1) := by decide +kernel
theorem dX3_readToken_67 : decode cX3_readToken 67 = .ok (.putfield 19, 3) := by decide +kernel
theorem dX3_readToken_70 : decode cX3_readToken 70 = .ok (.goto 173, 3) := by decide +kernel
theorem dX3_readToken_73 : decode cX3_readToken 73 = .ok (.aload_n 0, 1) := by decide +kernel
theorem dX3_readToken_74 : decode cX3_readToken 74 = .ok (.aload_n 0, 1) := by decide +kernel
theorem dX3_readToken_75 : decode cX3_readToken 75 = .ok (.getfield 22, 3) := by decide +kernel
theorem dX3_readToken_78 : decode cX3_readToken 78 = .ok (.invokevirtual 34, 3) := by decide +kernel
theorem dX3_readToken_81 : decode cX3_readToken 81 = .ok (.ifCond .eq 43, 3) := by decide +kernel
theorem dX3_readToken_84 : decode cX3_readToken 84 = .ok (.aload_n 0, 1) := by decide +kernel
theorem dX3_readToken_85 : decode cX3_readToken 85 = .ok (.iconst 1, 1) := by decide +kernel
theorem dX3_readToken_86 : decode cX3_readToken 86 = .ok (.putfield 19, 3) := by decide +kernel
theorem dX3_readToken_89 : decode cX3_readToken 89 = .ok (.aload_n 0, 1) := by decide +kernel
theorem dX3_readToken_90 : decode cX3_readToken 90 = .ok (.getfield 25, 3) := by decide +kernel
theorem dX3_readToken_93 : decode cX3_readToken 93 = .ok (.aload_n 0, 1) := by decide +kernel
theorem dX3_readToken_94 : decode cX3_readToken 94 = .ok (.getfield 15, 3) := by decide +kernel
theorem dX3_readToken_97 : decode cX3_readToken 97 = .ok (.if_icmp .ge 146, 3) := by decide +kernel
theorem dX3_readToken_100 : decode cX3_readToken 100 = .ok (.aload_n 0, 1) := by decide +kernel
theorem dX3_readToken_101 : decode cX3_readToken 101 = .ok (.aload_n 0, 1) := by decide +kernel
theorem dX3_readToken_102 : decode cX3_readToken 102 = .ok (.getfield 25, 3) := by decide +kernel
theorem dX3_readToken_105 : decode cX3_readToken 105 = .ok (.invokevirtual 34, 3) := by decide +kernel
theorem dX3_readToken_108 : decode cX3_readToken 108 = .ok (.ifCond .eq 135, 3) := by decide +kernel
theorem dX3_readToken_111 : decode cX3_readToken 111 = .ok (.aload_n 0, 1) := by decide +kernel
theorem dX3_readToken_112 : decode cX3_readToken 112 = .ok (.dup, 1) := by decide +kernel
theorem dX3_readToken_113 : decode cX3_readToken 113 = .ok (.getfield 25, 3) := by decide +kernel
theorem dX3_readToken_116 : decode cX3_readToken 116 = .ok (.iconst 1, 1) := by decide +kernel
theorem dX3_readToken_117 : decode cX3_readToken 117 = .ok (.iadd, 1) := by decide +kernel
theorem dX3_readToken_118 : decode cX3_readToken 118 = .ok (.putfield 25, 3) := by decide +kernel
theorem dX3_readToken_121 : decode cX3_readToken 121 = .ok (.goto (-32), 3) := by decide +kernel
theorem dX3_readToken_124 : decode cX3_readToken 124 = .ok (.aload_n 0, 1) := by decide +kernel
theorem dX3_readToken_125 : decode cX3_readToken 125 = .ok (.aload_n 0, 1) := by decide +kernel
theorem dX3_readToken_126 : decode cX3_readToken 126 = .ok (.getfield 22, 3) := by decide +kernel
theorem dX3_readToken_129 : decode cX3_readToken 129 = .ok (.invokevirtual 38, 3) := by decide +kernel
theorem dX3_readToken_132 : decode cX3_readToken 132 = .ok (.ifCond .eq 78, 3) := by decide +kernel
theorem dX3_readToken_135 : decode cX3_readToken 135 = .ok (.aload_n 0, 1) := by decide +kernel
theorem dX3_readToken_136 : decode cX3_readToken 136 = .ok (.iconst 2, 1) := by decide +kernel
theorem dX3_readToken_137 : decode cX3_readToken 137 = .ok (.putfield 19, 3) := by decide +kernel
theorem dX3_readToken_140 : decode cX3_readToken 140 = .ok (.aload_n 0, 1) := by decide +kernel
theorem dX3_readToken_141 : decode cX3_readToken 141 = .ok (.iconst 0, 1) := by decide +kernel
theorem dX3_readToken_142 : decode cX3_readToken 142 = .ok (.putfield 28, 3) := by decide +kernel
theorem dX3_readToken_145 : decode cX3_readToken 145 = .ok (.aload_n 0, 1) := by decide +kernel
theorem dX3_readToken_146 : decode cX3_readToken 146 = .ok (.getfield 25, 3) := by decide +kernel
theorem dX3_readToken_149 : decode cX3_readToken 149 = .ok (.aload_n 0, 1) := by decide +kernel
theorem dX3_readToken_150 : decode cX3_readToken 150 = .ok (.getfield 15, 3) := by decide +kernel
theorem dX3_readToken_153 : decode cX3_readToken 153 = .ok (.if_icmp .ge 90, 3) := by decide +kernel
theorem dX3_readToken_156 : decode cX3_readToken 156 = .ok (.aload_n 0, 1) := by decide +kernel
theorem dX3_readToken_157 : decode cX3_readToken 157 = .ok (.aload_n 0, 1) := by decide +kernel
theorem dX3_readToken_158 : decode cX3_readToken 158 = .ok (.getfield 25, 3) := by decide +kernel
theorem dX3_readToken_161 : decode cX3_readToken 161 = .ok (.invokevirtual 38, 3) := by decide +kernel
theorem dX3_readToken_164 : decode cX3_readToken 164 = .ok (.ifCond .eq 79, 3) := by decide +kernel
theorem dX3_readToken_167 : decode cX3_readToken 167 = .ok (.aload_n 0, 1) := by decide +kernel
theorem dX3_readToken_168 : decode cX3_readToken 168 = .ok (.sipush 10000, 3) := by decide +kernel
theorem dX3_readToken_171 : decode cX3_readToken 171 = .ok (.bipush 10, 2) := by decide +kernel
theorem dX3_readToken_173 : decode cX3_readToken 173 = .ok (.aload_n 0, 1) := by decide +kernel
theorem dX3_readToken_174 : decode cX3_readToken 174 = .ok (.getfield 28, 3) := by decide +kernel
theorem dX3_readToken_177 : decode cX3_readToken 177 = .ok (.imul, 1) := by decide +kernel
theorem dX3_readToken_178 : decode cX3_readToken 178 = .ok (.aload_n 0, 1) := by decide +kernel
theorem dX3_readToken_179 : decode cX3_readToken 179 = .ok (.getfield 9, 3) := by decide +kernel
theorem dX3_readToken_182 : decode cX3_readToken 182 = .ok (.aload_n 0, 1) := by decide +kernel
theorem dX3_readToken_183 : decode cX3_readToken 183 = .ok (.getfield 25, 3) := by decide +kernel
theorem dX3_readToken_186 : decode cX3_readToken 186 = .ok (.iaload, 1) := by decide +kernel
theorem dX3_readToken_187 : decode cX3_readToken 187 = .ok (.iadd, 1) := by decide +kernel
theorem dX3_readToken_188 : decode cX3_readToken 188 = .ok (.bipush 48, 2) := by decide +kernel
theorem dX3_readToken_190 : decode cX3_readToken 190 = .ok (.isub, 1) := by decide +kernel
theorem dX3_readToken_191 : decode cX3_readToken 191 = .ok (.invokestatic 41, 3) := by decide +kernel
theorem dX3_readToken_194 : decode cX3_readToken 194 = .ok (.putfield 28, 3) := by decide +kernel
theorem dX3_readToken_197 : decode cX3_readToken 197 = .ok (.aload_n 0, 1) := by decide +kernel
theorem dX3_readToken_198 : decode cX3_readToken 198 = .ok (.dup, 1) := by decide +kernel
theorem dX3_readToken_199 : decode cX3_readToken 199 = .ok (.getfield 25, 3) := by decide +kernel
theorem dX3_readToken_202 : decode cX3_readToken 202 = .ok (.iconst 1, 1) := by decide +kernel
theorem dX3_readToken_203 : decode cX3_readToken 203 = .ok (.iadd, 1) := by decide +kernel
theorem dX3_readToken_204 : decode cX3_readToken 204 = .ok (.putfield 25, 3) := by decide +kernel
theorem dX3_readToken_207 : decode cX3_readToken 207 = .ok (.goto (-62), 3) := by decide +kernel
theorem dX3_readToken_210 : decode cX3_readToken 210 = .ok (.aload_n 0, 1) := by decide +kernel
theorem dX3_readToken_211 : decode cX3_readToken 211 = .ok (.aload_n 0, 1) := by decide +kernel
theorem dX3_readToken_212 : decode cX3_readToken 212 = .ok (.getfield 9, 3) := by decide +kernel
theorem dX3_readToken_215 : decode cX3_readToken 215 = .ok (.aload_n 0, 1) := by decide +kernel
theorem dX3_readToken_216 : decode cX3_readToken 216 = .ok (.getfield 22, 3) := by decide +kernel
theorem dX3_readToken_219 : decode cX3_readToken 219 = .ok (.iaload, 1) := by decide +kernel
theorem dX3_readToken_220 : decode cX3_readToken 220 = .ok (.bipush 59, 2) := by decide +kernel
theorem dX3_readToken_222 : decode cX3_readToken 222 = .ok (.if_icmp .ne 7, 3) := by decide +kernel
theorem dX3_readToken_225 : decode cX3_readToken 225 = .ok (.iconst 3, 1) := by decide +kernel
theorem dX3_readToken_226 : decode cX3_readToken 226 = .ok (.goto 4, 3) := by decide +kernel
theorem dX3_readToken_229 : decode cX3_readToken 229 = .ok (.iconst 4, 1) := by decide +kernel
theorem dX3_readToken_230 : decode cX3_readToken 230 = .ok (.putfield 19, 3) := by decide +kernel
theorem dX3_readToken_233 : decode cX3_readToken 233 = .ok (.aload_n 0, 1) := by decide +kernel
theorem dX3_readToken_234 : decode cX3_readToken 234 = .ok (.aload_n 0, 1) := by decide +kernel
theorem dX3_readToken_235 : decode cX3_readToken 235 = .ok (.getfield 22, 3) := by decide +kernel
theorem dX3_readToken_238 : decode cX3_readToken 238 = .ok (.iconst 1, 1) := by decide +kernel
theorem dX3_readToken_239 : decode cX3_readToken 239 = .ok (.iadd, 1) := by decide +kernel
theorem dX3_readToken_240 : decode cX3_readToken 240 = .ok (.putfield 25, 3) := by decide +kernel
theorem dX3_readToken_243 : decode cX3_readToken 243 = .ok (.return_, 1) := by decide +kernel
theorem dX3_isLetter_0 : decode cX3_isLetter 0 = .ok (.aload_n 0, 1) := by decide +kernel
theorem dX3_isLetter_1 : decode cX3_isLetter 1 = .ok (.getfield 9, 3) := by decide +kernel
theorem dX3_isLetter_4 : decode cX3_isLetter 4 = .ok (.iload_n 1, 1) := by decide +kernel
theorem dX3_isLetter_5 : decode cX3_isLetter 5 = .ok (.iaload, 1) := by decide +kernel
theorem dX3_isLetter_6 : decode cX3_isLetter 6 = .ok (.bipush 97, 2) := by decide +kernel
theorem dX3_isLetter_8 : decode cX3_isLetter 8 = .ok (.if_icmp .lt 18, 3) := by decide +kernel
theorem dX3_isLetter_11 : decode cX3_isLetter 11 = .ok (.aload_n 0, 1) := by decide +kernel
theorem dX3_isLetter_12 : decode cX3_isLetter 12 = .ok (.getfield 9, 3) := by decide +kernel
theorem dX3_isLetter_15 : decode cX3_isLetter 15 = .ok (.iload_n 1, 1) := by decide +kernel
theorem dX3_isLetter_16 : decode cX3_isLetter 16 = .ok (.iaload, 1) := by decide +kernel
theorem dX3_isLetter_17 : decode cX3_isLetter 17 = .ok (.bipush 122, 2) := by decide +kernel
theorem dX3_isLetter_19 : decode cX3_isLetter 19 = .ok (.if_icmp .gt 7, 3) := by decide +kernel
theorem dX3_isLetter_22 : decode cX3_isLetter 22 = .ok (.iconst 1, 1) := by decide +kernel
theorem dX3_isLetter_23 : decode cX3_isLetter 23 = .ok (.goto 4, 3) := by decide +kernel
theorem dX3_isLetter_26 : decode cX3_isLetter 26 = .ok (.iconst 0, 1) := by decide +kernel
theorem dX3_isLetter_27 : decode cX3_isLetter 27 = .ok (.ireturn, 1) := by decide +kernel
theorem dX3_isDigit_0 : decode cX3_isDigit 0 = .ok (.aload_n 0, 1) := by decide +kernel
theorem dX3_isDigit_1 : decode cX3_isDigit 1 = .ok (.getfield 9, 3) := by decide +kernel
theorem dX3_isDigit_4 : decode cX3_isDigit 4 = .ok (.iload_n 1, 1) := by decide +kernel
theorem dX3_isDigit_5 : decode cX3_isDigit 5 = .ok (.iaload, 1) := by decide +kernel
theorem dX3_isDigit_6 : decode cX3_isDigit 6 = .ok (.bipush 48, 2) := by decide +kernel
theorem dX3_isDigit_8 : decode cX3_isDigit 8 = .ok (.if_icmp .lt 18, 3) := by decide +kernel
theorem dX3_isDigit_11 : decode cX3_isDigit 11 = .ok (.aload_n 0, 1) := by decide +kernel
theorem dX3_isDigit_12 : decode cX3_isDigit 12 = .ok (.getfield 9, 3) := by decide +kernel
theorem dX3_isDigit_15 : decode cX3_isDigit 15 = .ok (.iload_n 1, 1) := by decide +kernel
theorem dX3_isDigit_16 : decode cX3_isDigit 16 = .ok (.iaload, 1) := by decide +kernel
theorem dX3_isDigit_17 : decode cX3_isDigit 17 = .ok (.bipush 57, 2) := by decide +kernel
theorem dX3_isDigit_19 : decode cX3_isDigit 19 = .ok (.if_icmp .gt 7, 3) := by decide +kernel
theorem dX3_isDigit_22 : decode cX3_isDigit 22 = .ok (.iconst 1, 1) := by decide +kernel
theorem dX3_isDigit_23 : decode cX3_isDigit 23 = .ok (.goto 4, 3) := by decide +kernel
theorem dX3_isDigit_26 : decode cX3_isDigit 26 = .ok (.iconst 0, 1) := by decide +kernel
theorem dX3_isDigit_27 : decode cX3_isDigit 27 = .ok (.ireturn, 1) := by decide +kernel
theorem dX3_isNumber_0 : decode cX3_isNumber 0 = .ok (.aload_n 0, 1) := by decide +kernel
theorem dX3_isNumber_1 : decode cX3_isNumber 1 = .ok (.getfield 19, 3) := by decide +kernel
theorem dX3_isNumber_4 : decode cX3_isNumber 4 = .ok (.iconst 2, 1) := by decide +kernel
theorem dX3_isNumber_5 : decode cX3_isNumber 5 = .ok (.if_icmp .ne 15, 3) := by decide +kernel
theorem dX3_isNumber_8 : decode cX3_isNumber 8 = .ok (.aload_n 0, 1) := by decide +kernel
theorem dX3_isNumber_9 : decode cX3_isNumber 9 = .ok (.getfield 28, 3) := by decide +kernel
theorem dX3_isNumber_12 : decode cX3_isNumber 12 = .ok (.iload_n 1, 1) := by decide +kernel
theorem dX3_isNumber_13 : decode cX3_isNumber 13 = .ok (.if_icmp .gt 7, 3) := by decide +kernel
theorem dX3_isNumber_16 : decode cX3_isNumber 16 = .ok (.iconst 1, 1) := by decide +kernel
theorem dX3_isNumber_17 : decode cX3_isNumber 17 = .ok (.goto 4, 3) := by decide +kernel
theorem dX3_isNumber_20 : decode cX3_isNumber 20 = .ok (.iconst 0, 1) := by decide +kernel
theorem dX3_isNumber_21 : decode cX3_isNumber 21 = .ok (.ireturn, 1) := by decide +kernel
theorem dX3_isWord_0 : decode cX3_isWord 0 = .ok (.aload_n 0, 1) := by decide +kernel
theorem dX3_isWord_1 : decode cX3_isWord 1 = .ok (.getfield 19, 3) := by decide +kernel
theorem dX3_isWord_4 : decode cX3_isWord 4 = .ok (.iconst 1, 1) := by decide +kernel
theorem dX3_isWord_5 : decode cX3_isWord 5 = .ok (.if_icmp .ne 19, 3) := by decide +kernel
theorem dX3_isWord_8 : decode cX3_isWord 8 = .ok (.aload_n 0, 1) := by decide +kernel
theorem dX3_isWord_9 : decode cX3_isWord 9 = .ok (.getfield 25, 3) := by decide +kernel
theorem dX3_isWord_12 : decode cX3_isWord 12 = .ok (.aload_n 0, 1) := by decide +kernel
theorem dX3_isWord_13 : decode cX3_isWord 13 = .ok (.getfield 22, 3) := by decide +kernel
theorem dX3_isWord_16 : decode cX3_isWord 16 = .ok (.isub, 1) := by decide +kernel
theorem dX3_isWord_17 : decode cX3_isWord 17 = .ok (.aload_n 1, 1) := by decide +kernel
theorem dX3_isWord_18 : decode cX3_isWord 18 = .ok (.invokevirtual 47, 3) := by decide +kernel
theorem dX3_isWord_21 : decode cX3_isWord 21 = .ok (.if_icmp .eq 5, 3) := by decide +kernel
theorem dX3_isWord_24 : decode cX3_isWord 24 = .ok (.iconst 0, 1) := by decide +kernel
theorem dX3_isWord_25 : decode cX3_isWord 25 = .ok (.ireturn, 1) := by decide +kernel
theorem dX3_isWord_26 : decode cX3_isWord 26 = .ok (.iconst 0, 1) := by decide +kernel
theorem dX3_isWord_27 : decode cX3_isWord 27 = .ok (.istore_n 2, 1) := by decide +kernel
theorem dX3_isWord_28 : decode cX3_isWord 28 = .ok (.iload_n 2, 1) := by decide +kernel
theorem dX3_isWord_29 : decode cX3_isWord 29 = .ok (.aload_n 1, 1) := by decide +kernel
theorem dX3_isWord_30 : decode cX3_isWord 30 = .ok (.invokevirtual 47, 3) := by decide +kernel
theorem dX3_isWord_33 : decode cX3_isWord 33 = .ok (.if_icmp .ge 30, 3) := by decide +kernel
theorem dX3_isWord_36 : decode cX3_isWord 36 = .ok (.aload_n 0, 1) := by decide +kernel
theorem dX3_isWord_37 : decode cX3_isWord 37 = .ok (.getfield 9, 3) := by decide +kernel
theorem dX3_isWord_40 : decode cX3_isWord 40 = .ok (.aload_n 0, 1) := by decide +kernel
theorem dX3_isWord_41 : decode cX3_isWord 41 = .ok (.getfield 22, 3) := by decide +kernel
theorem dX3_isWord_44 : decode cX3_isWord 44 = .ok (.iload_n 2, 1) := by decide +kernel
theorem dX3_isWord_45 : decode cX3_isWord 45 = .ok (.iadd, 1) := by decide +kernel
theorem dX3_isWord_46 : decode cX3_isWord 46 = .ok (.iaload, 1) := by decide +kernel
theorem dX3_isWord_47 : decode cX3_isWord 47 = .ok (.aload_n 1, 1) := by decide +kernel
theorem dX3_isWord_48 : decode cX3_isWord 48 = .ok (.iload_n 2, 1) := by decide +kernel
theorem dX3_isWord_49 : decode cX3_isWord 49 = .ok (.invokevirtual 52, 3) := by decide +kernel
theorem dX3_isWord_52 : decode cX3_isWord 52 = .ok (.if_icmp .eq 5, 3) := by decide +kernel
theorem dX3_isWord_55 : decode cX3_isWord 55 = .ok (.iconst 0, 1) := by decide +kernel
theorem dX3_isWord_56 : decode cX3_isWord 56 = .ok (.ireturn, 1) := by decide +kernel
theorem dX3_isWord_57 : decode cX3_isWord 57 = .ok (.iinc 2 1, 3) := by decide +kernel
theorem dX3_isWord_60 : decode cX3_isWord 60 = .ok (.goto (-32), 3) := by decide +kernel
theorem dX3_isWord_63 : decode cX3_isWord 63 = .ok (.iconst 1, 1) := by decide +kernel
theorem dX3_isWord_64 : decode cX3_isWord 64 = .ok (.ireturn, 1) := by decide +kernel
theorem dX4_init_0 : decode cX4_init 0 = .ok (.aload_n 0, 1) := by decide +kernel
theorem dX4_init_1 : decode cX4_init 1 = .ok (.invokespecial 3, 3) := by decide +kernel
theorem dX4_init_4 : decode cX4_init 4 = .ok (.aload_n 0, 1) := by decide +kernel
theorem dX4_init_5 : decode cX4_init 5 = .ok (.iconst 0, 1) := by decide +kernel
theorem dX4_init_6 : decode cX4_init 6 = .ok (.putfield 9, 3) := by decide +kernel
theorem dX4_init_9 : decode cX4_init 9 = .ok (.aload_n 0, 1) := by decide +kernel
theorem dX4_init_10 : decode cX4_init 10 = .ok (.iconst 0, 1) := by decide +kernel
theorem dX4_init_11 : decode cX4_init 11 = .ok (.putfield 15, 3) := by decide +kernel
theorem dX4_init_14 : decode cX4_init 14 = .ok (.aload_n 0, 1) := by decide +kernel
theorem dX4_init_15 : decode cX4_init 15 = .ok (.aload_n 1, 1) := by decide +kernel
theorem dX4_init_16 : decode cX4_init 16 = .ok (.putfield 18, 3) := by decide +kernel
theorem dX4_init_19 : decode cX4_init 19 = .ok (.aload_n 0, 1) := by decide +kernel
theorem dX4_init_20 : decode cX4_init 20 = .ok (.aload_n 2, 1) := by decide +kernel
theorem dX4_init_21 : decode cX4_init 21 = .ok (.putfield 22, 3) := by decide +kernel
theorem dX4_init_24 : decode cX4_init 24 = .ok (.return_, 1) := by decide +kernel
theorem dX4_readText_0 : decode cX4_readText 0 = .ok (.aload_n 0, 1) := by decide +kernel
theorem dX4_readText_1 : decode cX4_readText 1 = .ok (.getfield 18, 3) := by decide +kernel
theorem dX4_readText_4 : decode cX4_readText 4 = .ok (.invokevirtual 26, 3) := by decide +kernel
theorem dX4_readText_7 : decode cX4_readText 7 = .ok (.iconst 1, 1) := by decide +kernel
theorem dX4_readText_8 : decode cX4_readText 8 = .ok (.istore_n 1, 1) := by decide +kernel
theorem dX4_readText_9 : decode cX4_readText 9 = .ok (.iload_n 1, 1) := by decide +kernel
theorem dX4_readText_10 : decode cX4_readText 10 = .ok (.bipush 120, 2) := by decide +kernel
theorem dX4_readText_12 : decode cX4_readText 12 = .ok (.if_icmp .gt 52, 3) := by decide +kernel
theorem dX4_readText_15 : decode cX4_readText 15 = .ok (.aload_n 0, 1) := by decide +kernel
theorem dX4_readText_16 : decode cX4_readText 16 = .ok (.invokevirtual 31, 3) := by decide +kernel
theorem dX4_readText_19 : decode cX4_readText 19 = .ok (.ifCond .ne 6, 3) := by decide +kernel
theorem dX4_readText_22 : decode cX4_readText 22 = .ok (.goto 42, 3) := by decide +kernel
theorem dX4_readText_25 : decode cX4_readText 25 = .ok (.aload_n 0, 1) := by decide +kernel
theorem dX4_readText_26 : decode cX4_readText 26 = .ok (.getfield 18, 3) := by decide +kernel
theorem dX4_readText_29 : decode cX4_readText 29 = .ok (.getfield 35, 3) := by decide +kernel
theorem dX4_readText_32 : decode cX4_readText 32 = .ok (.ifCond .ne 5, 3) := by decide +kernel
theorem dX4_readText_35 : decode cX4_readText 35 = .ok (.iload_n 1, 1) := by decide +kernel
theorem dX4_readText_36 : decode cX4_readText 36 = .ok (.ireturn, 1) := by decide +kernel
theorem dX4_readText_37 : decode cX4_readText 37 = .ok (.aload_n 0, 1) := by decide +kernel
theorem dX4_readText_38 : decode cX4_readText 38 = .ok (.getfield 18, 3) := by decide +kernel
theorem dX4_readText_41 : decode cX4_readText 41 = .ok (.getfield 35, 3) := by decide +kernel
theorem dX4_readText_44 : decode cX4_readText 44 = .ok (.iconst 3, 1) := by decide +kernel
theorem dX4_readText_45 : decode cX4_readText 45 = .ok (.if_icmp .eq 6, 3) := by decide +kernel
theorem dX4_readText_48 : decode cX4_readText 48 = .ok (.goto 16, 3) := by decide +kernel
theorem dX4_readText_51 : decode cX4_readText 51 = .ok (.aload_n 0, 1) := by decide +kernel
theorem dX4_readText_52 : decode cX4_readText 52 = .ok (.getfield 18, 3) := by decide +kernel
theorem dX4_readText_55 : decode cX4_readText 55 = .ok (.invokevirtual 38, 3) := by decide +kernel
theorem dX4_readText_58 : decode cX4_readText 58 = .ok (.iinc 1 1, 3) := by decide +kernel
theorem dX4_readText_61 : decode cX4_readText 61 = .ok (.goto (-52), 3) := by decide +kernel
theorem dX4_readText_64 : decode cX4_readText 64 = .ok (.iconst (-1), 1) := by decide +kernel
theorem dX4_readText_65 : decode cX4_readText 65 = .ok (.aload_n 0, 1) := by decide +kernel
theorem dX4_readText_66 : decode cX4_readText 66 = .ok (.getfield 18, 3) := by decide +kernel
theorem dX4_readText_69 : decode cX4_readText 69 = .ok (.getfield 41, 3) := by decide +kernel
theorem dX4_readText_72 : decode cX4_readText 72 = .ok (.isub, 1) := by decide +kernel
theorem dX4_readText_73 : decode cX4_readText 73 = .ok (.ireturn, 1) := by decide +kernel
theorem dX4_readItem_0 : decode cX4_readItem 0 = .ok (.aload_n 0, 1) := by decide +kernel
theorem dX4_readItem_1 : decode cX4_readItem 1 = .ok (.getfield 18, 3) := by decide +kernel
theorem dX4_readItem_4 : decode cX4_readItem 4 = .ok (.ldc 44, 2) := by decide +kernel
theorem dX4_readItem_6 : decode cX4_readItem 6 = .ok (.invokevirtual 46, 3) := by decide +kernel
theorem dX4_readItem_9 : decode cX4_readItem 9 = .ok (.ifCond .eq 8, 3) := by decide +kernel
theorem dX4_readItem_12 : decode cX4_readItem 12 = .ok (.aload_n 0, 1) := by decide +kernel
theorem dX4_readItem_13 : decode cX4_readItem 13 = .ok (.invokevirtual 50, 3) := by decide +kernel
theorem dX4_readItem_16 : decode cX4_readItem 16 = .ok (.ireturn, 1) := by decide +kernel
theorem dX4_readItem_17 : decode cX4_readItem 17 = .ok (.aload_n 0, 1) := by decide +kernel
theorem dX4_readItem_18 : decode cX4_readItem 18 = .ok (.getfield 18, 3) := by decide +kernel
theorem dX4_readItem_21 : decode cX4_readItem 21 = .ok (.ldc 53, 2) := by decide +kernel
theorem dX4_readItem_23 : decode cX4_readItem 23 = .ok (.invokevirtual 46, 3) := by decide +kernel
theorem dX4_readItem_26 : decode cX4_readItem 26 = .ok (.ifCond .eq 8, 3) := by decide +kernel
theorem dX4_readItem_29 : decode cX4_readItem 29 = .ok (.aload_n 0, 1) := by decide +kernel
theorem dX4_readItem_30 : decode cX4_readItem 30 = .ok (.invokevirtual 55, 3) := by decide +kernel
theorem dX4_readItem_33 : decode cX4_readItem 33 = .ok (.ireturn, 1) := by decide +kernel
theorem dX4_readItem_34 : decode cX4_readItem 34 = .ok (.iconst 0, 1) := by decide +kernel
theorem dX4_readItem_35 : decode cX4_readItem 35 = .ok (.istore_n 1, 1) := by decide +kernel
theorem dX4_readItem_36 : decode cX4_readItem 36 = .ok (.iload_n 1, 1) := by decide +kernel
theorem dX4_readItem_37 : decode cX4_readItem 37 = .ok (.bipush 7, 2) := by decide +kernel
theorem dX4_readItem_39 : decode cX4_readItem 39 = .ok (.if_icmp .ge 29, 3) := by decide +kernel
theorem dX4_readItem_42 : decode cX4_readItem 42 = .ok (.aload_n 0, 1) := by decide +kernel
theorem dX4_readItem_43 : decode cX4_readItem 43 = .ok (.getfield 18, 3) := by decide +kernel
theorem dX4_readItem_46 : decode cX4_readItem 46 = .ok (.iload_n 1, 1) := by decide +kernel
theorem dX4_readItem_47 : decode cX4_readItem 47 = .ok (.invokestatic 58, 3) := by decide +kernel
theorem dX4_readItem_50 : decode cX4_readItem 50 = .ok (.invokevirtual 46, 3) := by decide +kernel
theorem dX4_readItem_53 : decode cX4_readItem 53 = .ok (.ifCond .eq 9, 3) := by decide +kernel
theorem dX4_readItem_56 : decode cX4_readItem 56 = .ok (.aload_n 0, 1) := by decide +kernel
theorem dX4_readItem_57 : decode cX4_readItem 57 = .ok (.iload_n 1, 1) := by decide +kernel
theorem dX4_readItem_58 : decode cX4_readItem 58 = .ok (.invokevirtual 62, 3) := by decide +kernel
theorem dX4_readItem_61 : decode cX4_readItem 61 = .ok (.ireturn, 1) := by decide +kernel
theorem dX4_readItem_62 : decode cX4_readItem 62 = .ok (.iinc 1 1, 3) := by decide +kernel
theorem dX4_readItem_65 : decode cX4_readItem 65 = .ok (.goto (-29), 3) := by decide +kernel
theorem dX4_readItem_68 : decode cX4_readItem 68 = .ok (.iconst 0, 1) := by decide +kernel
theorem dX4_readItem_69 : decode cX4_readItem 69 = .ok (.ireturn, 1) := by decide +kernel
theorem dX4_wordOf_0 : decode cX4_wordOf 0 = .ok (.iload_n 0, 1) := by decide +kernel
theorem dX4_wordOf_1 : decode cX4_wordOf 1 = .ok (.tableswitch 57 1 6 #[39, 42, 45, 48, 51, 54], 39) := by decide +kernel
theorem dX4_wordOf_40 : decode cX4_wordOf 40 = .ok (.ldc 66, 2) := by decide +kernel
theorem dX4_wordOf_42 : decode cX4_wordOf 42 = .ok (.areturn, 1) := by decide +kernel
theorem dX4_wordOf_43 : decode cX4_wordOf 43 = .ok (.ldc 68, 2) := by decide +kernel
theorem dX4_wordOf_45 : decode cX4_wordOf 45 = .ok (.areturn, 1) := by decide +kernel
theorem dX4_wordOf_46 : decode cX4_wordOf 46 = .ok (.ldc 70, 2) := by decide +kernel
theorem dX4_wordOf_48 : decode cX4_wordOf 48 = .ok (.areturn, 1) := by decide +kernel
theorem dX4_wordOf_49 : decode cX4_wordOf 49 = .ok (.ldc 72, 2) := by decide +kernel
theorem dX4_wordOf_51 : decode cX4_wordOf 51 = .ok (.areturn, 1) := by decide +kernel
theorem dX4_wordOf_52 : decode cX4_wordOf 52 = .ok (.ldc 74, 2) := by decide +kernel
theorem dX4_wordOf_54 : decode cX4_wordOf 54 = .ok (.areturn, 1) := by decide +kernel
theorem dX4_wordOf_55 : decode cX4_wordOf 55 = .ok (.ldc 76, 2) := by decide +kernel
theorem dX4_wordOf_57 : decode cX4_wordOf 57 = .ok (.areturn, 1) := by decide +kernel
theorem dX4_wordOf_58 : decode cX4_wordOf 58 = .ok (.ldc 78, 2) := by decide +kernel
theorem dX4_wordOf_60 : decode cX4_wordOf 60 = .ok (.areturn, 1) := by decide +kernel
theorem dX4_readBequest_0 : decode cX4_readBequest 0 = .ok (.aload_n 0, 1) := by decide +kernel
theorem dX4_readBequest_1 : decode cX4_readBequest 1 = .ok (.iconst 5, 1) := by decide +kernel
theorem dX4_readBequest_2 : decode cX4_readBequest 2 = .ok (.bipush 12, 2) := by decide +kernel
theorem dX4_readBequest_4 : decode cX4_readBequest 4 = .ok (.invokevirtual 80, 3) := by decide +kernel
theorem dX4_readBequest_7 : decode cX4_readBequest 7 = .ok (.ifCond .ne 5, 3) := by decide +kernel
theorem dX4_readBequest_10 : decode cX4_readBequest 10 = .ok (.iconst 0, 1) := by decide +kernel
theorem dX4_readBequest_11 : decode cX4_readBequest 11 = .ok (.ireturn, 1) := by decide +kernel
theorem dX4_readBequest_12 : decode cX4_readBequest 12 = .ok (.aload_n 0, 1) := by decide +kernel
theorem dX4_readBequest_13 : decode cX4_readBequest 13 = .ok (.getfield 22, 3) := by decide +kernel
theorem dX4_readBequest_16 : decode cX4_readBequest 16 = .ok (.getfield 84, 3) := by decide +kernel
theorem dX4_readBequest_19 : decode cX4_readBequest 19 = .ok (.aload_n 0, 1) := by decide +kernel
theorem dX4_readBequest_20 : decode cX4_readBequest 20 = .ok (.getfield 9, 3) := by decide +kernel
theorem dX4_readBequest_23 : decode cX4_readBequest 23 = .ok (.aload_n 0, 1) := by decide +kernel
theorem dX4_readBequest_24 : decode cX4_readBequest 24 = .ok (.getfield 15, 3) := by decide +kernel
theorem dX4_readBequest_27 : decode cX4_readBequest 27 = .ok (.iastore, 1) := by decide +kernel
theorem dX4_readBequest_28 : decode cX4_readBequest 28 = .ok (.iconst 1, 1) := by decide +kernel
theorem dX4_readBequest_29 : decode cX4_readBequest 29 = .ok (.ireturn, 1) := by decide +kernel
theorem dX4_readStore_0 : decode cX4_readStore 0 = .ok (.aload_n 0, 1) := by decide +kernel
theorem dX4_readStore_1 : decode cX4_readStore 1 = .ok (.bipush 11, 2) := by decide +kernel
theorem dX4_readStore_3 : decode cX4_readStore 3 = .ok (.bipush 99, 2) := by decide +kernel
theorem dX4_readStore_5 : decode cX4_readStore 5 = .ok (.invokevirtual 80, 3) := by decide +kernel
theorem dX4_readStore_8 : decode cX4_readStore 8 = .ok (.ifCond .ne 5, 3) := by decide +kernel
theorem dX4_readStore_11 : decode cX4_readStore 11 = .ok (.iconst 0, 1) := by decide +kernel
theorem dX4_readStore_12 : decode cX4_readStore 12 = .ok (.ireturn, 1) := by decide +kernel
theorem dX4_readStore_13 : decode cX4_readStore 13 = .ok (.aload_n 0, 1) := by decide +kernel
theorem dX4_readStore_14 : decode cX4_readStore 14 = .ok (.getfield 22, 3) := by decide +kernel
theorem dX4_readStore_17 : decode cX4_readStore 17 = .ok (.getfield 90, 3) := by decide +kernel
theorem dX4_readStore_20 : decode cX4_readStore 20 = .ok (.aload_n 0, 1) := by decide +kernel
theorem dX4_readStore_21 : decode cX4_readStore 21 = .ok (.getfield 9, 3) := by decide +kernel
theorem dX4_readStore_24 : decode cX4_readStore 24 = .ok (.aload_n 0, 1) := by decide +kernel
theorem dX4_readStore_25 : decode cX4_readStore 25 = .ok (.getfield 15, 3) := by decide +kernel
theorem dX4_readStore_28 : decode cX4_readStore 28 = .ok (.iastore, 1) := by decide +kernel
theorem dX4_readStore_29 : decode cX4_readStore 29 = .ok (.iconst 1, 1) := by decide +kernel
theorem dX4_readStore_30 : decode cX4_readStore 30 = .ok (.ireturn, 1) := by decide +kernel
theorem dX4_readTwoNumbers_0 : decode cX4_readTwoNumbers 0 = .ok (.aload_n 0, 1) := by decide +kernel
theorem dX4_readTwoNumbers_1 : decode cX4_readTwoNumbers 1 = .ok (.getfield 18, 3) := by decide +kernel
theorem dX4_readTwoNumbers_4 : decode cX4_readTwoNumbers 4 = .ok (.invokevirtual 38, 3) := by decide +kernel
theorem dX4_readTwoNumbers_7 : decode cX4_readTwoNumbers 7 = .ok (.aload_n 0, 1) := by decide +kernel
theorem dX4_readTwoNumbers_8 : decode cX4_readTwoNumbers 8 = .ok (.getfield 18, 3) := by decide +kernel
theorem dX4_readTwoNumbers_11 : decode cX4_readTwoNumbers 11 = .ok (.iload_n 1, 1) := by decide +kernel
theorem dX4_readTwoNumbers_12 : decode cX4_readTwoNumbers 12 = .ok (.invokevirtual 92, 3) := by decide +kernel
theorem dX4_readTwoNumbers_15 : decode cX4_readTwoNumbers 15 = .ok (.ifCond .ne 5, 3) := by decide +kernel
theorem dX4_readTwoNumbers_18 : decode cX4_readTwoNumbers 18 = .ok (.iconst 0, 1) := by decide +kernel
theorem dX4_readTwoNumbers_19 : decode cX4_readTwoNumbers 19 = .ok (.ireturn, 1) := by decide +kernel
theorem dX4_readTwoNumbers_20 : decode cX4_readTwoNumbers 20 = .ok (.aload_n 0, 1) := by decide +kernel
theorem dX4_readTwoNumbers_21 : decode cX4_readTwoNumbers 21 = .ok (.aload_n 0, 1) := by decide +kernel
theorem dX4_readTwoNumbers_22 : decode cX4_readTwoNumbers 22 = .ok (.getfield 18, 3) := by decide +kernel
theorem dX4_readTwoNumbers_25 : decode cX4_readTwoNumbers 25 = .ok (.getfield 95, 3) := by decide +kernel
theorem dX4_readTwoNumbers_28 : decode cX4_readTwoNumbers 28 = .ok (.putfield 9, 3) := by decide +kernel
theorem dX4_readTwoNumbers_31 : decode cX4_readTwoNumbers 31 = .ok (.aload_n 0, 1) := by decide +kernel
theorem dX4_readTwoNumbers_32 : decode cX4_readTwoNumbers 32 = .ok (.getfield 18, 3) := by decide +kernel
theorem dX4_readTwoNumbers_35 : decode cX4_readTwoNumbers 35 = .ok (.invokevirtual 38, 3) := by decide +kernel
theorem dX4_readTwoNumbers_38 : decode cX4_readTwoNumbers 38 = .ok (.aload_n 0, 1) := by decide +kernel
theorem dX4_readTwoNumbers_39 : decode cX4_readTwoNumbers 39 = .ok (.getfield 18, 3) := by decide +kernel
theorem dX4_readTwoNumbers_42 : decode cX4_readTwoNumbers 42 = .ok (.iload_n 2, 1) := by decide +kernel
theorem dX4_readTwoNumbers_43 : decode cX4_readTwoNumbers 43 = .ok (.invokevirtual 92, 3) := by decide +kernel
theorem dX4_readTwoNumbers_46 : decode cX4_readTwoNumbers 46 = .ok (.ifCond .ne 5, 3) := by decide +kernel
theorem dX4_readTwoNumbers_49 : decode cX4_readTwoNumbers 49 = .ok (.iconst 0, 1) := by decide +kernel
theorem dX4_readTwoNumbers_50 : decode cX4_readTwoNumbers 50 = .ok (.ireturn, 1) := by decide +kernel
theorem dX4_readTwoNumbers_51 : decode cX4_readTwoNumbers 51 = .ok (.aload_n 0, 1) := by decide +kernel
theorem dX4_readTwoNumbers_52 : decode cX4_readTwoNumbers 52 = .ok (.aload_n 0, 1) := by decide +kernel
theorem dX4_readTwoNumbers_53 : decode cX4_readTwoNumbers 53 = .ok (.getfield 18, 3) := by decide +kernel
theorem dX4_readTwoNumbers_56 : decode cX4_readTwoNumbers 56 = .ok (.getfield 95, 3) := by decide +kernel
theorem dX4_readTwoNumbers_59 : decode cX4_readTwoNumbers 59 = .ok (.putfield 15, 3) := by decide +kernel
theorem dX4_readTwoNumbers_62 : decode cX4_readTwoNumbers 62 = .ok (.aload_n 0, 1) := by decide +kernel
theorem dX4_readTwoNumbers_63 : decode cX4_readTwoNumbers 63 = .ok (.getfield 18, 3) := by decide +kernel
theorem dX4_readTwoNumbers_66 : decode cX4_readTwoNumbers 66 = .ok (.invokevirtual 38, 3) := by decide +kernel
theorem dX4_readTwoNumbers_69 : decode cX4_readTwoNumbers 69 = .ok (.iconst 1, 1) := by decide +kernel
theorem dX4_readTwoNumbers_70 : decode cX4_readTwoNumbers 70 = .ok (.ireturn, 1) := by decide +kernel
theorem dX4_readBust_0 : decode cX4_readBust 0 = .ok (.aload_n 0, 1) := by decide +kernel
theorem dX4_readBust_1 : decode cX4_readBust 1 = .ok (.getfield 22, 3) := by decide +kernel
theorem dX4_readBust_4 : decode cX4_readBust 4 = .ok (.iload_n 1, 1) := by decide +kernel
theorem dX4_readBust_5 : decode cX4_readBust 5 = .ok (.iconst 0, 1) := by decide +kernel
theorem dX4_readBust_6 : decode cX4_readBust 6 = .ok (.invokevirtual 98, 3) := by decide +kernel
theorem dX4_readBust_9 : decode cX4_readBust 9 = .ok (.istore_n 2, 1) := by decide +kernel
theorem dX4_readBust_10 : decode cX4_readBust 10 = .ok (.iload_n 2, 1) := by decide +kernel
theorem dX4_readBust_11 : decode cX4_readBust 11 = .ok (.ifCond .ge 5, 3) := by decide +kernel
theorem dX4_readBust_14 : decode cX4_readBust 14 = .ok (.iconst 0, 1) := by decide +kernel
theorem dX4_readBust_15 : decode cX4_readBust 15 = .ok (.ireturn, 1) := by decide +kernel
theorem dX4_readBust_16 : decode cX4_readBust 16 = .ok (.aload_n 0, 1) := by decide +kernel
theorem dX4_readBust_17 : decode cX4_readBust 17 = .ok (.getfield 22, 3) := by decide +kernel
theorem dX4_readBust_20 : decode cX4_readBust 20 = .ok (.getfield 102, 3) := by decide +kernel
theorem dX4_readBust_23 : decode cX4_readBust 23 = .ok (.iload_n 2, 1) := by decide +kernel
theorem dX4_readBust_24 : decode cX4_readBust 24 = .ok (.aaload, 1) := by decide +kernel
theorem dX4_readBust_25 : decode cX4_readBust 25 = .ok (.astore_n 3, 1) := by decide +kernel
theorem dX4_readBust_26 : decode cX4_readBust 26 = .ok (.aload_n 0, 1) := by decide +kernel
theorem dX4_readBust_27 : decode cX4_readBust 27 = .ok (.getfield 18, 3) := by decide +kernel
theorem dX4_readBust_30 : decode cX4_readBust 30 = .ok (.invokevirtual 38, 3) := by decide +kernel
theorem dX4_readBust_33 : decode cX4_readBust 33 = .ok (.aload_n 0, 1) := by decide +kernel
theorem dX4_readBust_34 : decode cX4_readBust 34 = .ok (.getfield 18, 3) := by decide +kernel
theorem dX4_readBust_37 : decode cX4_readBust 37 = .ok (.sipush 999, 3) := by decide +kernel
theorem dX4_readBust_40 : decode cX4_readBust 40 = .ok (.invokevirtual 92, 3) := by decide +kernel
theorem dX4_readBust_43 : decode cX4_readBust 43 = .ok (.ifCond .ne 5, 3) := by decide +kernel
theorem dX4_readBust_46 : decode cX4_readBust 46 = .ok (.iconst 0, 1) := by decide +kernel
theorem dX4_readBust_47 : decode cX4_readBust 47 = .ok (.ireturn, 1) := by decide +kernel
theorem dX4_readBust_48 : decode cX4_readBust 48 = .ok (.aload_n 3, 1) := by decide +kernel
theorem dX4_readBust_49 : decode cX4_readBust 49 = .ok (.aload_n 0, 1) := by decide +kernel
theorem dX4_readBust_50 : decode cX4_readBust 50 = .ok (.getfield 18, 3) := by decide +kernel
theorem dX4_readBust_53 : decode cX4_readBust 53 = .ok (.getfield 95, 3) := by decide +kernel
theorem dX4_readBust_56 : decode cX4_readBust 56 = .ok (.putfield 106, 3) := by decide +kernel
theorem dX4_readBust_59 : decode cX4_readBust 59 = .ok (.aload_n 0, 1) := by decide +kernel
theorem dX4_readBust_60 : decode cX4_readBust 60 = .ok (.getfield 18, 3) := by decide +kernel
theorem dX4_readBust_63 : decode cX4_readBust 63 = .ok (.invokevirtual 38, 3) := by decide +kernel
theorem dX4_readBust_66 : decode cX4_readBust 66 = .ok (.aload_n 0, 1) := by decide +kernel
theorem dX4_readBust_67 : decode cX4_readBust 67 = .ok (.aload_n 3, 1) := by decide +kernel
theorem dX4_readBust_68 : decode cX4_readBust 68 = .ok (.ldc 111, 2) := by decide +kernel
theorem dX4_readBust_70 : decode cX4_readBust 70 = .ok (.iconst 2, 1) := by decide +kernel
theorem dX4_readBust_71 : decode cX4_readBust 71 = .ok (.invokevirtual 113, 3) := by decide +kernel
theorem dX4_readBust_74 : decode cX4_readBust 74 = .ok (.ifCond .eq 26, 3) := by decide +kernel
theorem dX4_readBust_77 : decode cX4_readBust 77 = .ok (.aload_n 0, 1) := by decide +kernel
theorem dX4_readBust_78 : decode cX4_readBust 78 = .ok (.aload_n 3, 1) := by decide +kernel
theorem dX4_readBust_79 : decode cX4_readBust 79 = .ok (.ldc 117, 2) := by decide +kernel
theorem dX4_readBust_81 : decode cX4_readBust 81 = .ok (.iconst 3, 1) := by decide +kernel
theorem dX4_readBust_82 : decode cX4_readBust 82 = .ok (.invokevirtual 113, 3) := by decide +kernel
theorem dX4_readBust_85 : decode cX4_readBust 85 = .ok (.ifCond .eq 15, 3) := by decide +kernel
theorem dX4_readBust_88 : decode cX4_readBust 88 = .ok (.aload_n 0, 1) := by decide +kernel
theorem dX4_readBust_89 : decode cX4_readBust 89 = .ok (.aload_n 3, 1) := by decide +kernel
theorem dX4_readBust_90 : decode cX4_readBust 90 = .ok (.invokevirtual 119, 3) := by decide +kernel
theorem dX4_readBust_93 : decode cX4_readBust 93 = .ok (.ifCond .eq 7, 3) := by decide +kernel
theorem dX4_readBust_96 : decode cX4_readBust 96 = .ok (.iconst 1, 1) := by decide +kernel
theorem dX4_readBust_97 : decode cX4_readBust 97 = .ok (.goto 4, 3) := by decide +kernel
theorem dX4_readBust_100 : decode cX4_readBust 100 = .ok (.iconst 0, 1) := by decide +kernel
theorem dX4_readBust_101 : decode cX4_readBust 101 = .ok (.ireturn, 1) := by decide +kernel
theorem dX4_readMore_0 : decode cX4_readMore 0 = .ok (.aload_n 0, 1) := by decide +kernel
theorem dX4_readMore_1 : decode cX4_readMore 1 = .ok (.getfield 18, 3) := by decide +kernel
theorem dX4_readMore_4 : decode cX4_readMore 4 = .ok (.aload_n 2, 1) := by decide +kernel
theorem dX4_readMore_5 : decode cX4_readMore 5 = .ok (.invokevirtual 46, 3) := by decide +kernel
theorem dX4_readMore_8 : decode cX4_readMore 8 = .ok (.ifCond .ne 5, 3) := by decide +kernel
theorem dX4_readMore_11 : decode cX4_readMore 11 = .ok (.iconst 1, 1) := by decide +kernel
theorem dX4_readMore_12 : decode cX4_readMore 12 = .ok (.ireturn, 1) := by decide +kernel
theorem dX4_readMore_13 : decode cX4_readMore 13 = .ok (.aload_n 0, 1) := by decide +kernel
theorem dX4_readMore_14 : decode cX4_readMore 14 = .ok (.getfield 18, 3) := by decide +kernel
theorem dX4_readMore_17 : decode cX4_readMore 17 = .ok (.invokevirtual 38, 3) := by decide +kernel
theorem dX4_readMore_20 : decode cX4_readMore 20 = .ok (.aload_n 0, 1) := by decide +kernel
theorem dX4_readMore_21 : decode cX4_readMore 21 = .ok (.getfield 18, 3) := by decide +kernel
theorem dX4_readMore_24 : decode cX4_readMore 24 = .ok (.getstatic 123, 3) := by decide +kernel
theorem dX4_readMore_27 : decode cX4_readMore 27 = .ok (.iload_n 3, 1) := by decide +kernel
theorem dX4_readMore_28 : decode cX4_readMore 28 = .ok (.iaload, 1) := by decide +kernel
theorem dX4_readMore_29 : decode cX4_readMore 29 = .ok (.invokevirtual 92, 3) := by decide +kernel
theorem dX4_readMore_32 : decode cX4_readMore 32 = .ok (.ifCond .ne 5, 3) := by decide +kernel
theorem dX4_readMore_35 : decode cX4_readMore 35 = .ok (.iconst 0, 1) := by decide +kernel
theorem dX4_readMore_36 : decode cX4_readMore 36 = .ok (.ireturn, 1) := by decide +kernel
theorem dX4_readMore_37 : decode cX4_readMore 37 = .ok (.aload_n 1, 1) := by decide +kernel
theorem dX4_readMore_38 : decode cX4_readMore 38 = .ok (.iload_n 3, 1) := by decide +kernel
theorem dX4_readMore_39 : decode cX4_readMore 39 = .ok (.aload_n 0, 1) := by decide +kernel
theorem dX4_readMore_40 : decode cX4_readMore 40 = .ok (.getfield 18, 3) := by decide +kernel
theorem dX4_readMore_43 : decode cX4_readMore 43 = .ok (.getfield 95, 3) := by decide +kernel
theorem dX4_readMore_46 : decode cX4_readMore 46 = .ok (.invokevirtual 126, 3) := by decide +kernel
theorem dX4_readMore_49 : decode cX4_readMore 49 = .ok (.aload_n 0, 1) := by decide +kernel
theorem dX4_readMore_50 : decode cX4_readMore 50 = .ok (.getfield 18, 3) := by decide +kernel
theorem dX4_readMore_53 : decode cX4_readMore 53 = .ok (.invokevirtual 38, 3) := by decide +kernel
theorem dX4_readMore_56 : decode cX4_readMore 56 = .ok (.iconst 1, 1) := by decide +kernel
theorem dX4_readMore_57 : decode cX4_readMore 57 = .ok (.ireturn, 1) := by decide +kernel
theorem dX4_readSeal_0 : decode cX4_readSeal 0 = .ok (.aload_n 0, 1) := by decide +kernel
theorem dX4_readSeal_1 : decode cX4_readSeal 1 = .ok (.getfield 18, 3) := by decide +kernel
theorem dX4_readSeal_4 : decode cX4_readSeal 4 = .ok (.ldc 130, 2) := by decide +kernel
theorem dX4_readSeal_6 : decode cX4_readSeal 6 = .ok (.invokevirtual 46, 3) := by decide +kernel
theorem dX4_readSeal_9 : decode cX4_readSeal 9 = .ok (.ifCond .eq 15, 3) := by decide +kernel
theorem dX4_readSeal_12 : decode cX4_readSeal 12 = .ok (.aload_n 1, 1) := by decide +kernel
theorem dX4_readSeal_13 : decode cX4_readSeal 13 = .ok (.iconst 1, 1) := by decide +kernel
theorem dX4_readSeal_14 : decode cX4_readSeal 14 = .ok (.putfield 132, 3) := by decide +kernel
theorem dX4_readSeal_17 : decode cX4_readSeal 17 = .ok (.aload_n 0, 1) := by decide +kernel
theorem dX4_readSeal_18 : decode cX4_readSeal 18 = .ok (.getfield 18, 3) := by decide +kernel
theorem dX4_readSeal_21 : decode cX4_readSeal 21 = .ok (.invokevirtual 38, 3) := by decide +kernel
theorem dX4_readSeal_24 : decode cX4_readSeal 24 = .ok (.iconst 1, 1) := by decide +kernel
theorem dX4_readSeal_25 : decode cX4_readSeal 25 = .ok (.ireturn, 1) := by decide +kernel
theorem dX5_init_0 : decode cX5_init 0 = .ok (.aload_n 0, 1) := by decide +kernel
theorem dX5_init_1 : decode cX5_init 1 = .ok (.invokespecial 3, 3) := by decide +kernel
theorem dX5_init_4 : decode cX5_init 4 = .ok (.aload_n 0, 1) := by decide +kernel
theorem dX5_init_5 : decode cX5_init 5 = .ok (.new 9, 3) := by decide +kernel
theorem dX5_init_8 : decode cX5_init 8 = .ok (.dup, 1) := by decide +kernel
theorem dX5_init_9 : decode cX5_init 9 = .ok (.invokespecial 11, 3) := by decide +kernel
theorem dX5_init_12 : decode cX5_init 12 = .ok (.putfield 12, 3) := by decide +kernel
theorem dX5_init_15 : decode cX5_init 15 = .ok (.aload_n 0, 1) := by decide +kernel
theorem dX5_init_16 : decode cX5_init 16 = .ok (.new 9, 3) := by decide +kernel
theorem dX5_init_19 : decode cX5_init 19 = .ok (.dup, 1) := by decide +kernel
theorem dX5_init_20 : decode cX5_init 20 = .ok (.invokespecial 11, 3) := by decide +kernel
theorem dX5_init_23 : decode cX5_init 23 = .ok (.putfield 16, 3) := by decide +kernel
theorem dX5_init_26 : decode cX5_init 26 = .ok (.aload_n 0, 1) := by decide +kernel
theorem dX5_init_27 : decode cX5_init 27 = .ok (.new 9, 3) := by decide +kernel
theorem dX5_init_30 : decode cX5_init 30 = .ok (.dup, 1) := by decide +kernel
theorem dX5_init_31 : decode cX5_init 31 = .ok (.invokespecial 11, 3) := by decide +kernel
theorem dX5_init_34 : decode cX5_init 34 = .ok (.putfield 19, 3) := by decide +kernel
theorem dX5_init_37 : decode cX5_init 37 = .ok (.aload_n 0, 1) := by decide +kernel
theorem dX5_init_38 : decode cX5_init 38 = .ok (.iconst 0, 1) := by decide +kernel
theorem dX5_init_39 : decode cX5_init 39 = .ok (.putfield 22, 3) := by decide +kernel
theorem dX5_init_42 : decode cX5_init 42 = .ok (.aload_n 0, 1) := by decide +kernel
theorem dX5_init_43 : decode cX5_init 43 = .ok (.new 26, 3) := by decide +kernel
theorem dX5_init_46 : decode cX5_init 46 = .ok (.dup, 1) := by decide +kernel
theorem dX5_init_47 : decode cX5_init 47 = .ok (.invokespecial 28, 3) := by decide +kernel
theorem dX5_init_50 : decode cX5_init 50 = .ok (.putfield 29, 3) := by decide +kernel
theorem dX5_init_53 : decode cX5_init 53 = .ok (.aload_n 0, 1) := by decide +kernel
theorem dX5_init_54 : decode cX5_init 54 = .ok (.new 33, 3) := by decide +kernel
theorem dX5_init_57 : decode cX5_init 57 = .ok (.dup, 1) := by decide +kernel
theorem dX5_init_58 : decode cX5_init 58 = .ok (.aload_n 0, 1) := by decide +kernel
theorem dX5_init_59 : decode cX5_init 59 = .ok (.getfield 29, 3) := by decide +kernel
theorem dX5_init_62 : decode cX5_init 62 = .ok (.aload_n 0, 1) := by decide +kernel
theorem dX5_init_63 : decode cX5_init 63 = .ok (.getfield 16, 3) := by decide +kernel
theorem dX5_init_66 : decode cX5_init 66 = .ok (.invokespecial 35, 3) := by decide +kernel
theorem dX5_init_69 : decode cX5_init 69 = .ok (.putfield 38, 3) := by decide +kernel
theorem dX5_init_72 : decode cX5_init 72 = .ok (.aload_n 0, 1) := by decide +kernel
theorem dX5_init_73 : decode cX5_init 73 = .ok (.iconst 4, 1) := by decide +kernel
theorem dX5_init_74 : decode cX5_init 74 = .ok (.anewarray 42, 3) := by decide +kernel
theorem dX5_init_77 : decode cX5_init 77 = .ok (.putfield 44, 3) := by decide +kernel
theorem dX5_init_80 : decode cX5_init 80 = .ok (.aload_n 0, 1) := by decide +kernel
theorem dX5_init_81 : decode cX5_init 81 = .ok (.bipush 7, 2) := by decide +kernel
theorem dX5_init_83 : decode cX5_init 83 = .ok (.newarray .int, 2) := by decide +kernel
theorem dX5_init_85 : decode cX5_init 85 = .ok (.putfield 48, 3) := by decide +kernel
theorem dX5_init_88 : decode cX5_init 88 = .ok (.iconst 0, 1) := by decide +kernel
theorem dX5_init_89 : decode cX5_init 89 = .ok (.istore_n 1, 1) := by decide +kernel
theorem dX5_init_90 : decode cX5_init 90 = .ok (.iload_n 1, 1) := by decide +kernel
theorem dX5_init_91 : decode cX5_init 91 = .ok (.iconst 4, 1) := by decide +kernel
theorem dX5_init_92 : decode cX5_init 92 = .ok (.if_icmp .ge 22, 3) := by decide +kernel
theorem dX5_init_95 : decode cX5_init 95 = .ok (.aload_n 0, 1) := by decide +kernel
theorem dX5_init_96 : decode cX5_init 96 = .ok (.getfield 44, 3) := by decide +kernel
theorem dX5_init_99 : decode cX5_init 99 = .ok (.iload_n 1, 1) := by decide +kernel
theorem dX5_init_100 : decode cX5_init 100 = .ok (.new 42, 3) := by decide +kernel
theorem dX5_init_103 : decode cX5_init 103 = .ok (.dup, 1) := by decide +kernel
theorem dX5_init_104 : decode cX5_init 104 = .ok (.invokespecial 52, 3) := by decide +kernel
theorem dX5_init_107 : decode cX5_init 107 = .ok (.aastore, 1) := by decide +kernel
theorem dX5_init_108 : decode cX5_init 108 = .ok (.iinc 1 1, 3) := by decide +kernel
theorem dX5_init_111 : decode cX5_init 111 = .ok (.goto (-21), 3) := by decide +kernel
theorem dX5_init_114 : decode cX5_init 114 = .ok (.return_, 1) := by decide +kernel
theorem dX5_bequest_0 : decode cX5_bequest 0 = .ok (.iload_n 1, 1) := by decide +kernel
theorem dX5_bequest_1 : decode cX5_bequest 1 = .ok (.iconst 5, 1) := by decide +kernel
theorem dX5_bequest_2 : decode cX5_bequest 2 = .ok (.invokestatic 53, 3) := by decide +kernel
theorem dX5_bequest_5 : decode cX5_bequest 5 = .ok (.ifCond .eq 12, 3) := by decide +kernel
theorem dX5_bequest_8 : decode cX5_bequest 8 = .ok (.iload_n 2, 1) := by decide +kernel
theorem dX5_bequest_9 : decode cX5_bequest 9 = .ok (.bipush 12, 2) := by decide +kernel
theorem dX5_bequest_11 : decode cX5_bequest 11 = .ok (.invokestatic 53, 3) := by decide +kernel
theorem dX5_bequest_14 : decode cX5_bequest 14 = .ok (.ifCond .ne 10, 3) := by decide +kernel
theorem dX5_bequest_17 : decode cX5_bequest 17 = .ok (.aload_n 0, 1) := by decide +kernel
theorem dX5_bequest_18 : decode cX5_bequest 18 = .ok (.ldc 57, 2) := by decide +kernel
theorem dX5_bequest_20 : decode cX5_bequest 20 = .ok (.invokevirtual 58, 3) := by decide +kernel
theorem dX5_bequest_23 : decode cX5_bequest 23 = .ok (.ireturn, 1) := by decide +kernel
theorem dX5_bequest_24 : decode cX5_bequest 24 = .ok (.aload_n 0, 1) := by decide +kernel
theorem dX5_bequest_25 : decode cX5_bequest 25 = .ok (.getfield 12, 3) := by decide +kernel
theorem dX5_bequest_28 : decode cX5_bequest 28 = .ok (.getfield 62, 3) := by decide +kernel
theorem dX5_bequest_31 : decode cX5_bequest 31 = .ok (.iload_n 1, 1) := by decide +kernel
theorem dX5_bequest_32 : decode cX5_bequest 32 = .ok (.iaload, 1) := by decide +kernel
theorem dX5_bequest_33 : decode cX5_bequest 33 = .ok (.istore_n 3, 1) := by decide +kernel
theorem dX5_bequest_34 : decode cX5_bequest 34 = .ok (.aload_n 0, 1) := by decide +kernel
theorem dX5_bequest_35 : decode cX5_bequest 35 = .ok (.getfield 12, 3) := by decide +kernel
theorem dX5_bequest_38 : decode cX5_bequest 38 = .ok (.getfield 62, 3) := by decide +kernel
theorem dX5_bequest_41 : decode cX5_bequest 41 = .ok (.iload_n 1, 1) := by decide +kernel
theorem dX5_bequest_42 : decode cX5_bequest 42 = .ok (.iload_n 2, 1) := by decide +kernel
theorem dX5_bequest_43 : decode cX5_bequest 43 = .ok (.iastore, 1) := by decide +kernel
theorem dX5_bequest_44 : decode cX5_bequest 44 = .ok (.iload_n 3, 1) := by decide +kernel
theorem dX5_bequest_45 : decode cX5_bequest 45 = .ok (.ireturn, 1) := by decide +kernel
theorem dX5_listed_0 : decode cX5_listed 0 = .ok (.iload_n 1, 1) := by decide +kernel
theorem dX5_listed_1 : decode cX5_listed 1 = .ok (.iconst 5, 1) := by decide +kernel
theorem dX5_listed_2 : decode cX5_listed 2 = .ok (.invokestatic 53, 3) := by decide +kernel
theorem dX5_listed_5 : decode cX5_listed 5 = .ok (.ifCond .eq 15, 3) := by decide +kernel
theorem dX5_listed_8 : decode cX5_listed 8 = .ok (.aload_n 0, 1) := by decide +kernel
theorem dX5_listed_9 : decode cX5_listed 9 = .ok (.getfield 12, 3) := by decide +kernel
theorem dX5_listed_12 : decode cX5_listed 12 = .ok (.getfield 62, 3) := by decide +kernel
theorem dX5_listed_15 : decode cX5_listed 15 = .ok (.iload_n 1, 1) := by decide +kernel
theorem dX5_listed_16 : decode cX5_listed 16 = .ok (.iaload, 1) := by decide +kernel
theorem dX5_listed_17 : decode cX5_listed 17 = .ok (.goto 9, 3) := by decide +kernel
theorem dX5_listed_20 : decode cX5_listed 20 = .ok (.aload_n 0, 1) := by decide +kernel
theorem dX5_listed_21 : decode cX5_listed 21 = .ok (.ldc 57, 2) := by decide +kernel
theorem dX5_listed_23 : decode cX5_listed 23 = .ok (.invokevirtual 58, 3) := by decide +kernel
theorem dX5_listed_26 : decode cX5_listed 26 = .ok (.ireturn, 1) := by decide +kernel
theorem dX5_stored_0 : decode cX5_stored 0 = .ok (.iload_n 1, 1) := by decide +kernel
theorem dX5_stored_1 : decode cX5_stored 1 = .ok (.bipush 11, 2) := by decide +kernel
theorem dX5_stored_3 : decode cX5_stored 3 = .ok (.invokestatic 53, 3) := by decide +kernel
theorem dX5_stored_6 : decode cX5_stored 6 = .ok (.ifCond .eq 15, 3) := by decide +kernel
theorem dX5_stored_9 : decode cX5_stored 9 = .ok (.aload_n 0, 1) := by decide +kernel
theorem dX5_stored_10 : decode cX5_stored 10 = .ok (.getfield 12, 3) := by decide +kernel
theorem dX5_stored_13 : decode cX5_stored 13 = .ok (.getfield 65, 3) := by decide +kernel
theorem dX5_stored_16 : decode cX5_stored 16 = .ok (.iload_n 1, 1) := by decide +kernel
theorem dX5_stored_17 : decode cX5_stored 17 = .ok (.iaload, 1) := by decide +kernel
theorem dX5_stored_18 : decode cX5_stored 18 = .ok (.goto 9, 3) := by decide +kernel
theorem dX5_stored_21 : decode cX5_stored 21 = .ok (.aload_n 0, 1) := by decide +kernel
theorem dX5_stored_22 : decode cX5_stored 22 = .ok (.ldc 57, 2) := by decide +kernel
theorem dX5_stored_24 : decode cX5_stored 24 = .ok (.invokevirtual 58, 3) := by decide +kernel
theorem dX5_stored_27 : decode cX5_stored 27 = .ok (.ireturn, 1) := by decide +kernel
theorem dX5_bust_0 : decode cX5_bust 0 = .ok (.iload_n 1, 1) := by decide +kernel
theorem dX5_bust_1 : decode cX5_bust 1 = .ok (.bipush 6, 2) := by decide +kernel
theorem dX5_bust_3 : decode cX5_bust 3 = .ok (.invokestatic 53, 3) := by decide +kernel
theorem dX5_bust_6 : decode cX5_bust 6 = .ok (.ifCond .eq 13, 3) := by decide +kernel
theorem dX5_bust_9 : decode cX5_bust 9 = .ok (.iload_n 2, 1) := by decide +kernel
theorem dX5_bust_10 : decode cX5_bust 10 = .ok (.sipush 999, 3) := by decide +kernel
theorem dX5_bust_13 : decode cX5_bust 13 = .ok (.invokestatic 53, 3) := by decide +kernel
theorem dX5_bust_16 : decode cX5_bust 16 = .ok (.ifCond .ne 10, 3) := by decide +kernel
theorem dX5_bust_19 : decode cX5_bust 19 = .ok (.aload_n 0, 1) := by decide +kernel
theorem dX5_bust_20 : decode cX5_bust 20 = .ok (.ldc 57, 2) := by decide +kernel
theorem dX5_bust_22 : decode cX5_bust 22 = .ok (.invokevirtual 58, 3) := by decide +kernel
theorem dX5_bust_25 : decode cX5_bust 25 = .ok (.ireturn, 1) := by decide +kernel
theorem dX5_bust_26 : decode cX5_bust 26 = .ok (.aload_n 0, 1) := by decide +kernel
theorem dX5_bust_27 : decode cX5_bust 27 = .ok (.getfield 12, 3) := by decide +kernel
theorem dX5_bust_30 : decode cX5_bust 30 = .ok (.iload_n 1, 1) := by decide +kernel
theorem dX5_bust_31 : decode cX5_bust 31 = .ok (.iload_n 2, 1) := by decide +kernel
theorem dX5_bust_32 : decode cX5_bust 32 = .ok (.invokevirtual 68, 3) := by decide +kernel
theorem dX5_bust_35 : decode cX5_bust 35 = .ok (.istore_n 3, 1) := by decide +kernel
theorem dX5_bust_36 : decode cX5_bust 36 = .ok (.iload_n 3, 1) := by decide +kernel
theorem dX5_bust_37 : decode cX5_bust 37 = .ok (.ifCond .ge 12, 3) := by decide +kernel
theorem dX5_bust_40 : decode cX5_bust 40 = .ok (.aload_n 0, 1) := by decide +kernel
theorem dX5_bust_41 : decode cX5_bust 41 = .ok (.ldc 72, 2) := by decide +kernel
theorem dX5_bust_43 : decode cX5_bust 43 = .ok (.invokevirtual 58, 3) := by decide +kernel
theorem dX5_bust_46 : decode cX5_bust 46 = .ok (.goto 4, 3) := by decide +kernel
theorem dX5_bust_49 : decode cX5_bust 49 = .ok (.iload_n 3, 1) := by decide +kernel
theorem dX5_bust_50 : decode cX5_bust 50 = .ok (.ireturn, 1) := by decide +kernel
theorem dX5_of_0 : decode cX5_of 0 = .ok (.aload_n 0, 1) := by decide +kernel
theorem dX5_of_1 : decode cX5_of 1 = .ok (.iload_n 1, 1) := by decide +kernel
theorem dX5_of_2 : decode cX5_of 2 = .ok (.invokevirtual 73, 3) := by decide +kernel
theorem dX5_of_5 : decode cX5_of 5 = .ok (.ifCond .eq 12, 3) := by decide +kernel
theorem dX5_of_8 : decode cX5_of 8 = .ok (.iload_n 2, 1) := by decide +kernel
theorem dX5_of_9 : decode cX5_of 9 = .ok (.bipush 10, 2) := by decide +kernel
theorem dX5_of_11 : decode cX5_of 11 = .ok (.invokestatic 53, 3) := by decide +kernel
theorem dX5_of_14 : decode cX5_of 14 = .ok (.ifCond .ne 10, 3) := by decide +kernel
theorem dX5_of_17 : decode cX5_of 17 = .ok (.aload_n 0, 1) := by decide +kernel
theorem dX5_of_18 : decode cX5_of 18 = .ok (.ldc 57, 2) := by decide +kernel
theorem dX5_of_20 : decode cX5_of 20 = .ok (.invokevirtual 58, 3) := by decide +kernel
theorem dX5_of_23 : decode cX5_of 23 = .ok (.ireturn, 1) := by decide +kernel
theorem dX5_of_24 : decode cX5_of 24 = .ok (.aload_n 0, 1) := by decide +kernel
theorem dX5_of_25 : decode cX5_of 25 = .ok (.getfield 12, 3) := by decide +kernel
theorem dX5_of_28 : decode cX5_of 28 = .ok (.getfield 77, 3) := by decide +kernel
theorem dX5_of_31 : decode cX5_of 31 = .ok (.iload_n 1, 1) := by decide +kernel
theorem dX5_of_32 : decode cX5_of 32 = .ok (.aaload, 1) := by decide +kernel
theorem dX5_of_33 : decode cX5_of 33 = .ok (.iload_n 2, 1) := by decide +kernel
theorem dX5_of_34 : decode cX5_of 34 = .ok (.invokevirtual 81, 3) := by decide +kernel
theorem dX5_of_37 : decode cX5_of 37 = .ok (.ireturn, 1) := by decide +kernel
theorem dX5_change_0 : decode cX5_change 0 = .ok (.aload_n 0, 1) := by decide +kernel
theorem dX5_change_1 : decode cX5_change 1 = .ok (.iload_n 1, 1) := by decide +kernel
theorem dX5_change_2 : decode cX5_change 2 = .ok (.invokevirtual 73, 3) := by decide +kernel
theorem dX5_change_5 : decode cX5_change 5 = .ok (.ifCond .eq 24, 3) := by decide +kernel
theorem dX5_change_8 : decode cX5_change 8 = .ok (.iload_n 2, 1) := by decide +kernel
theorem dX5_change_9 : decode cX5_change 9 = .ok (.bipush 6, 2) := by decide +kernel
theorem dX5_change_11 : decode cX5_change 11 = .ok (.invokestatic 53, 3) := by decide +kernel
theorem dX5_change_14 : decode cX5_change 14 = .ok (.ifCond .eq 15, 3) := by decide +kernel
theorem dX5_change_17 : decode cX5_change 17 = .ok (.iload_n 3, 1) := by decide +kernel
theorem dX5_change_18 : decode cX5_change 18 = .ok (.getstatic 86, 3) := by decide +kernel
theorem dX5_change_21 : decode cX5_change 21 = .ok (.iload_n 2, 1) := by decide +kernel
theorem dX5_change_22 : decode cX5_change 22 = .ok (.iaload, 1) := by decide +kernel
theorem dX5_change_23 : decode cX5_change 23 = .ok (.invokestatic 53, 3) := by decide +kernel
theorem dX5_change_26 : decode cX5_change 26 = .ok (.ifCond .ne 10, 3) := by decide +kernel
theorem dX5_change_29 : decode cX5_change 29 = .ok (.aload_n 0, 1) := by decide +kernel
theorem dX5_change_30 : decode cX5_change 30 = .ok (.ldc 57, 2) := by decide +kernel
theorem dX5_change_32 : decode cX5_change 32 = .ok (.invokevirtual 58, 3) := by decide +kernel
theorem dX5_change_35 : decode cX5_change 35 = .ok (.ireturn, 1) := by decide +kernel
theorem dX5_change_36 : decode cX5_change 36 = .ok (.aload_n 0, 1) := by decide +kernel
theorem dX5_change_37 : decode cX5_change 37 = .ok (.getfield 12, 3) := by decide +kernel
theorem dX5_change_40 : decode cX5_change 40 = .ok (.getfield 77, 3) := by decide +kernel
theorem dX5_change_43 : decode cX5_change 43 = .ok (.iload_n 1, 1) := by decide +kernel
theorem dX5_change_44 : decode cX5_change 44 = .ok (.aaload, 1) := by decide +kernel
theorem dX5_change_45 : decode cX5_change 45 = .ok (.iload_n 2, 1) := by decide +kernel
theorem dX5_change_46 : decode cX5_change 46 = .ok (.invokevirtual 81, 3) := by decide +kernel
theorem dX5_change_49 : decode cX5_change 49 = .ok (.istore 4, 2) := by decide +kernel
theorem dX5_change_51 : decode cX5_change 51 = .ok (.aload_n 0, 1) := by decide +kernel
theorem dX5_change_52 : decode cX5_change 52 = .ok (.getfield 12, 3) := by decide +kernel
theorem dX5_change_55 : decode cX5_change 55 = .ok (.getfield 77, 3) := by decide +kernel
theorem dX5_change_58 : decode cX5_change 58 = .ok (.iload_n 1, 1) := by decide +kernel
theorem dX5_change_59 : decode cX5_change 59 = .ok (.aaload, 1) := by decide +kernel
theorem dX5_change_60 : decode cX5_change 60 = .ok (.iload_n 2, 1) := by decide +kernel
theorem dX5_change_61 : decode cX5_change 61 = .ok (.iload_n 3, 1) := by decide +kernel
theorem dX5_change_62 : decode cX5_change 62 = .ok (.invokevirtual 89, 3) := by decide +kernel
theorem dX5_change_65 : decode cX5_change 65 = .ok (.iload 4, 2) := by decide +kernel
theorem dX5_change_67 : decode cX5_change 67 = .ok (.ireturn, 1) := by decide +kernel
theorem dX5_accepts_0 : decode cX5_accepts 0 = .ok (.aload_n 0, 1) := by decide +kernel
theorem dX5_accepts_1 : decode cX5_accepts 1 = .ok (.iload_n 1, 1) := by decide +kernel
theorem dX5_accepts_2 : decode cX5_accepts 2 = .ok (.invokevirtual 73, 3) := by decide +kernel
theorem dX5_accepts_5 : decode cX5_accepts 5 = .ok (.ifCond .eq 12, 3) := by decide +kernel
theorem dX5_accepts_8 : decode cX5_accepts 8 = .ok (.iload_n 2, 1) := by decide +kernel
theorem dX5_accepts_9 : decode cX5_accepts 9 = .ok (.bipush 11, 2) := by decide +kernel
theorem dX5_accepts_11 : decode cX5_accepts 11 = .ok (.invokestatic 53, 3) := by decide +kernel
theorem dX5_accepts_14 : decode cX5_accepts 14 = .ok (.ifCond .ne 10, 3) := by decide +kernel
theorem dX5_accepts_17 : decode cX5_accepts 17 = .ok (.aload_n 0, 1) := by decide +kernel
theorem dX5_accepts_18 : decode cX5_accepts 18 = .ok (.ldc 57, 2) := by decide +kernel
theorem dX5_accepts_20 : decode cX5_accepts 20 = .ok (.invokevirtual 58, 3) := by decide +kernel
theorem dX5_accepts_23 : decode cX5_accepts 23 = .ok (.ireturn, 1) := by decide +kernel
theorem dX5_accepts_24 : decode cX5_accepts 24 = .ok (.aload_n 0, 1) := by decide +kernel
theorem dX5_accepts_25 : decode cX5_accepts 25 = .ok (.getfield 12, 3) := by decide +kernel
theorem dX5_accepts_28 : decode cX5_accepts 28 = .ok (.getfield 77, 3) := by decide +kernel
theorem dX5_accepts_31 : decode cX5_accepts 31 = .ok (.iload_n 1, 1) := by decide +kernel
theorem dX5_accepts_32 : decode cX5_accepts 32 = .ok (.aaload, 1) := by decide +kernel
theorem dX5_accepts_33 : decode cX5_accepts 33 = .ok (.iload_n 2, 1) := by decide +kernel
theorem dX5_accepts_34 : decode cX5_accepts 34 = .ok (.invokevirtual 93, 3) := by decide +kernel
theorem dX5_accepts_37 : decode cX5_accepts 37 = .ok (.ifCond .eq 7, 3) := by decide +kernel
theorem dX5_accepts_40 : decode cX5_accepts 40 = .ok (.iconst 1, 1) := by decide +kernel
theorem dX5_accepts_41 : decode cX5_accepts 41 = .ok (.goto 4, 3) := by decide +kernel
theorem dX5_accepts_44 : decode cX5_accepts 44 = .ok (.iconst 0, 1) := by decide +kernel
theorem dX5_accepts_45 : decode cX5_accepts 45 = .ok (.ireturn, 1) := by decide +kernel
theorem dX5_heir_0 : decode cX5_heir 0 = .ok (.iload_n 1, 1) := by decide +kernel
theorem dX5_heir_1 : decode cX5_heir 1 = .ok (.bipush 11, 2) := by decide +kernel
theorem dX5_heir_3 : decode cX5_heir 3 = .ok (.invokestatic 53, 3) := by decide +kernel
theorem dX5_heir_6 : decode cX5_heir 6 = .ok (.ifCond .ne 10, 3) := by decide +kernel
theorem dX5_heir_9 : decode cX5_heir 9 = .ok (.aload_n 0, 1) := by decide +kernel
theorem dX5_heir_10 : decode cX5_heir 10 = .ok (.ldc 57, 2) := by decide +kernel
theorem dX5_heir_12 : decode cX5_heir 12 = .ok (.invokevirtual 58, 3) := by decide +kernel
theorem dX5_heir_15 : decode cX5_heir 15 = .ok (.ireturn, 1) := by decide +kernel
theorem dX5_heir_16 : decode cX5_heir 16 = .ok (.aload_n 0, 1) := by decide +kernel
theorem dX5_heir_17 : decode cX5_heir 17 = .ok (.getfield 12, 3) := by decide +kernel
theorem dX5_heir_20 : decode cX5_heir 20 = .ok (.iload_n 1, 1) := by decide +kernel
theorem dX5_heir_21 : decode cX5_heir 21 = .ok (.invokevirtual 96, 3) := by decide +kernel
theorem dX5_heir_24 : decode cX5_heir 24 = .ok (.istore_n 2, 1) := by decide +kernel
theorem dX5_heir_25 : decode cX5_heir 25 = .ok (.iload_n 2, 1) := by decide +kernel
theorem dX5_heir_26 : decode cX5_heir 26 = .ok (.ifCond .ge 12, 3) := by decide +kernel
theorem dX5_heir_29 : decode cX5_heir 29 = .ok (.aload_n 0, 1) := by decide +kernel
theorem dX5_heir_30 : decode cX5_heir 30 = .ok (.ldc 99, 2) := by decide +kernel
theorem dX5_heir_32 : decode cX5_heir 32 = .ok (.invokevirtual 58, 3) := by decide +kernel
theorem dX5_heir_35 : decode cX5_heir 35 = .ok (.goto 4, 3) := by decide +kernel
theorem dX5_heir_38 : decode cX5_heir 38 = .ok (.iload_n 2, 1) := by decide +kernel
theorem dX5_heir_39 : decode cX5_heir 39 = .ok (.ireturn, 1) := by decide +kernel
theorem dX5_give_0 : decode cX5_give 0 = .ok (.aload_n 0, 1) := by decide +kernel
theorem dX5_give_1 : decode cX5_give 1 = .ok (.iload_n 1, 1) := by decide +kernel
theorem dX5_give_2 : decode cX5_give 2 = .ok (.invokevirtual 73, 3) := by decide +kernel
theorem dX5_give_5 : decode cX5_give 5 = .ok (.ifCond .eq 12, 3) := by decide +kernel
theorem dX5_give_8 : decode cX5_give 8 = .ok (.iload_n 2, 1) := by decide +kernel
theorem dX5_give_9 : decode cX5_give 9 = .ok (.bipush 11, 2) := by decide +kernel
theorem dX5_give_11 : decode cX5_give 11 = .ok (.invokestatic 53, 3) := by decide +kernel
theorem dX5_give_14 : decode cX5_give 14 = .ok (.ifCond .ne 10, 3) := by decide +kernel
theorem dX5_give_17 : decode cX5_give 17 = .ok (.aload_n 0, 1) := by decide +kernel
theorem dX5_give_18 : decode cX5_give 18 = .ok (.ldc 57, 2) := by decide +kernel
theorem dX5_give_20 : decode cX5_give 20 = .ok (.invokevirtual 58, 3) := by decide +kernel
theorem dX5_give_23 : decode cX5_give 23 = .ok (.ireturn, 1) := by decide +kernel
theorem dX5_give_24 : decode cX5_give 24 = .ok (.aload_n 0, 1) := by decide +kernel
theorem dX5_give_25 : decode cX5_give 25 = .ok (.getfield 12, 3) := by decide +kernel
theorem dX5_give_28 : decode cX5_give 28 = .ok (.getfield 77, 3) := by decide +kernel
theorem dX5_give_31 : decode cX5_give 31 = .ok (.iload_n 1, 1) := by decide +kernel
theorem dX5_give_32 : decode cX5_give 32 = .ok (.aaload, 1) := by decide +kernel
theorem dX5_give_33 : decode cX5_give 33 = .ok (.astore_n 3, 1) := by decide +kernel
theorem dX5_give_34 : decode cX5_give 34 = .ok (.aload_n 3, 1) := by decide +kernel
theorem dX5_give_35 : decode cX5_give 35 = .ok (.iload_n 2, 1) := by decide +kernel
theorem dX5_give_36 : decode cX5_give 36 = .ok (.invokevirtual 100, 3) := by decide +kernel
theorem dX5_give_39 : decode cX5_give 39 = .ok (.ifCond .ne 23, 3) := by decide +kernel
theorem dX5_give_42 : decode cX5_give 42 = .ok (.aload_n 3, 1) := by decide +kernel
theorem dX5_give_43 : decode cX5_give 43 = .ok (.getfield 103, 3) := by decide +kernel
theorem dX5_give_46 : decode cX5_give 46 = .ok (.iconst 1, 1) := by decide +kernel
theorem dX5_give_47 : decode cX5_give 47 = .ok (.if_icmp .eq 15, 3) := by decide +kernel
theorem dX5_give_50 : decode cX5_give 50 = .ok (.aload_n 0, 1) := by decide +kernel
theorem dX5_give_51 : decode cX5_give 51 = .ok (.getfield 12, 3) := by decide +kernel
theorem dX5_give_54 : decode cX5_give 54 = .ok (.getfield 65, 3) := by decide +kernel
theorem dX5_give_57 : decode cX5_give 57 = .ok (.iload_n 2, 1) := by decide +kernel
theorem dX5_give_58 : decode cX5_give 58 = .ok (.iaload, 1) := by decide +kernel
theorem dX5_give_59 : decode cX5_give 59 = .ok (.ifCond .ne 10, 3) := by decide +kernel
theorem dX5_give_62 : decode cX5_give 62 = .ok (.aload_n 0, 1) := by decide +kernel
theorem dX5_give_63 : decode cX5_give 63 = .ok (.ldc 107, 2) := by decide +kernel
theorem dX5_give_65 : decode cX5_give 65 = .ok (.invokevirtual 58, 3) := by decide +kernel
theorem dX5_give_68 : decode cX5_give 68 = .ok (.ireturn, 1) := by decide +kernel
theorem dX5_give_69 : decode cX5_give 69 = .ok (.aload_n 0, 1) := by decide +kernel
theorem dX5_give_70 : decode cX5_give 70 = .ok (.getfield 12, 3) := by decide +kernel
theorem dX5_give_73 : decode cX5_give 73 = .ok (.getfield 65, 3) := by decide +kernel
theorem dX5_give_76 : decode cX5_give 76 = .ok (.iload_n 2, 1) := by decide +kernel
theorem dX5_give_77 : decode cX5_give 77 = .ok (.dup2, 1) := by decide +kernel
theorem dX5_give_78 : decode cX5_give 78 = .ok (.iaload, 1) := by decide +kernel
theorem dX5_give_79 : decode cX5_give 79 = .ok (.iconst 1, 1) := by decide +kernel
theorem dX5_give_80 : decode cX5_give 80 = .ok (.isub, 1) := by decide +kernel
theorem dX5_give_81 : decode cX5_give 81 = .ok (.iastore, 1) := by decide +kernel
theorem dX5_give_82 : decode cX5_give 82 = .ok (.aload_n 3, 1) := by decide +kernel
theorem dX5_give_83 : decode cX5_give 83 = .ok (.iload_n 2, 1) := by decide +kernel
theorem dX5_give_84 : decode cX5_give 84 = .ok (.invokevirtual 108, 3) := by decide +kernel
theorem dX5_give_87 : decode cX5_give 87 = .ok (.aload_n 3, 1) := by decide +kernel
theorem dX5_give_88 : decode cX5_give 88 = .ok (.getfield 112, 3) := by decide +kernel
theorem dX5_give_91 : decode cX5_give 91 = .ok (.ireturn, 1) := by decide +kernel
theorem dX5_go_0 : decode cX5_go 0 = .ok (.iload_n 1, 1) := by decide +kernel
theorem dX5_go_1 : decode cX5_go 1 = .ok (.iconst 1, 1) := by decide +kernel
theorem dX5_go_2 : decode cX5_go 2 = .ok (.if_icmp .lt 9, 3) := by decide +kernel
theorem dX5_go_5 : decode cX5_go 5 = .ok (.iload_n 1, 1) := by decide +kernel
theorem dX5_go_6 : decode cX5_go 6 = .ok (.bipush 60, 2) := by decide +kernel
theorem dX5_go_8 : decode cX5_go 8 = .ok (.if_icmp .le 10, 3) := by decide +kernel
theorem dX5_go_11 : decode cX5_go 11 = .ok (.aload_n 0, 1) := by decide +kernel
theorem dX5_go_12 : decode cX5_go 12 = .ok (.ldc 57, 2) := by decide +kernel
theorem dX5_go_14 : decode cX5_go 14 = .ok (.invokevirtual 58, 3) := by decide +kernel
theorem dX5_go_17 : decode cX5_go 17 = .ok (.ireturn, 1) := by decide +kernel
theorem dX5_go_18 : decode cX5_go 18 = .ok (.aload_n 0, 1) := by decide +kernel
theorem dX5_go_19 : decode cX5_go 19 = .ok (.getfield 12, 3) := by decide +kernel
theorem dX5_go_22 : decode cX5_go 22 = .ok (.getfield 115, 3) := by decide +kernel
theorem dX5_go_25 : decode cX5_go 25 = .ok (.iload_n 1, 1) := by decide +kernel
theorem dX5_go_26 : decode cX5_go 26 = .ok (.iadd, 1) := by decide +kernel
theorem dX5_go_27 : decode cX5_go 27 = .ok (.ldc 118, 2) := by decide +kernel
theorem dX5_go_29 : decode cX5_go 29 = .ok (.if_icmp .le 10, 3) := by decide +kernel
theorem dX5_go_32 : decode cX5_go 32 = .ok (.aload_n 0, 1) := by decide +kernel
theorem dX5_go_33 : decode cX5_go 33 = .ok (.ldc 107, 2) := by decide +kernel
theorem dX5_go_35 : decode cX5_go 35 = .ok (.invokevirtual 58, 3) := by decide +kernel
theorem dX5_go_38 : decode cX5_go 38 = .ok (.ireturn, 1) := by decide +kernel
theorem dX5_go_39 : decode cX5_go 39 = .ok (.aload_n 0, 1) := by decide +kernel
theorem dX5_go_40 : decode cX5_go 40 = .ok (.getfield 12, 3) := by decide +kernel
theorem dX5_go_43 : decode cX5_go 43 = .ok (.iload_n 1, 1) := by decide +kernel
theorem dX5_go_44 : decode cX5_go 44 = .ok (.invokevirtual 119, 3) := by decide +kernel
theorem dX5_go_47 : decode cX5_go 47 = .ok (.aload_n 0, 1) := by decide +kernel
theorem dX5_go_48 : decode cX5_go 48 = .ok (.getfield 12, 3) := by decide +kernel
theorem dX5_go_51 : decode cX5_go 51 = .ok (.getfield 122, 3) := by decide +kernel
theorem dX5_go_54 : decode cX5_go 54 = .ok (.ireturn, 1) := by decide +kernel
theorem dX5_now_0 : decode cX5_now 0 = .ok (.iload_n 1, 1) := by decide +kernel
theorem dX5_now_1 : decode cX5_now 1 = .ok (.tableswitch 111 0 7 #[47, 55, 63, 71, 79, 87, 95, 103], 47) := by decide +kernel
theorem dX5_now_48 : decode cX5_now 48 = .ok (.aload_n 0, 1) := by decide +kernel
theorem dX5_now_49 : decode cX5_now 49 = .ok (.getfield 12, 3) := by decide +kernel
theorem dX5_now_52 : decode cX5_now 52 = .ok (.getfield 115, 3) := by decide +kernel
theorem dX5_now_55 : decode cX5_now 55 = .ok (.ireturn, 1) := by decide +kernel
theorem dX5_now_56 : decode cX5_now 56 = .ok (.aload_n 0, 1) := by decide +kernel
theorem dX5_now_57 : decode cX5_now 57 = .ok (.getfield 12, 3) := by decide +kernel
theorem dX5_now_60 : decode cX5_now 60 = .ok (.getfield 122, 3) := by decide +kernel
theorem dX5_now_63 : decode cX5_now 63 = .ok (.ireturn, 1) := by decide +kernel
theorem dX5_now_64 : decode cX5_now 64 = .ok (.aload_n 0, 1) := by decide +kernel
theorem dX5_now_65 : decode cX5_now 65 = .ok (.getfield 12, 3) := by decide +kernel
theorem dX5_now_68 : decode cX5_now 68 = .ok (.invokevirtual 125, 3) := by decide +kernel
theorem dX5_now_71 : decode cX5_now 71 = .ok (.ireturn, 1) := by decide +kernel
theorem dX5_now_72 : decode cX5_now 72 = .ok (.aload_n 0, 1) := by decide +kernel
theorem dX5_now_73 : decode cX5_now 73 = .ok (.getfield 12, 3) := by decide +kernel
theorem dX5_now_76 : decode cX5_now 76 = .ok (.invokevirtual 129, 3) := by decide +kernel
theorem dX5_now_79 : decode cX5_now 79 = .ok (.ireturn, 1) := by decide +kernel
theorem dX5_now_80 : decode cX5_now 80 = .ok (.aload_n 0, 1) := by decide +kernel
theorem dX5_now_81 : decode cX5_now 81 = .ok (.getfield 12, 3) := by decide +kernel
theorem dX5_now_84 : decode cX5_now 84 = .ok (.invokevirtual 132, 3) := by decide +kernel
theorem dX5_now_87 : decode cX5_now 87 = .ok (.ireturn, 1) := by decide +kernel
theorem dX5_now_88 : decode cX5_now 88 = .ok (.aload_n 0, 1) := by decide +kernel
theorem dX5_now_89 : decode cX5_now 89 = .ok (.getfield 12, 3) := by decide +kernel
theorem dX5_now_92 : decode cX5_now 92 = .ok (.invokevirtual 135, 3) := by decide +kernel
theorem dX5_now_95 : decode cX5_now 95 = .ok (.ireturn, 1) := by decide +kernel
theorem dX5_now_96 : decode cX5_now 96 = .ok (.aload_n 0, 1) := by decide +kernel
theorem dX5_now_97 : decode cX5_now 97 = .ok (.getfield 12, 3) := by decide +kernel
theorem dX5_now_100 : decode cX5_now 100 = .ok (.invokevirtual 138, 3) := by decide +kernel
theorem dX5_now_103 : decode cX5_now 103 = .ok (.ireturn, 1) := by decide +kernel
theorem dX5_now_104 : decode cX5_now 104 = .ok (.aload_n 0, 1) := by decide +kernel
theorem dX5_now_105 : decode cX5_now 105 = .ok (.getfield 12, 3) := by decide +kernel
theorem dX5_now_108 : decode cX5_now 108 = .ok (.invokevirtual 141, 3) := by decide +kernel
theorem dX5_now_111 : decode cX5_now 111 = .ok (.ireturn, 1) := by decide +kernel
theorem dX5_now_112 : decode cX5_now 112 = .ok (.aload_n 0, 1) := by decide +kernel
theorem dX5_now_113 : decode cX5_now 113 = .ok (.ldc 57, 2) := by decide +kernel
theorem dX5_now_115 : decode cX5_now 115 = .ok (.invokevirtual 58, 3) := by decide +kernel
theorem dX5_now_118 : decode cX5_now 118 = .ok (.ireturn, 1) := by decide +kernel
theorem dX5_ahead_0 : decode cX5_ahead 0 = .ok (.iload_n 2, 1) := by decide +kernel
theorem dX5_ahead_1 : decode cX5_ahead 1 = .ok (.iconst 2, 1) := by decide +kernel
theorem dX5_ahead_2 : decode cX5_ahead 2 = .ok (.if_icmp .eq 25, 3) := by decide +kernel
theorem dX5_ahead_5 : decode cX5_ahead 5 = .ok (.iload_n 2, 1) := by decide +kernel
theorem dX5_ahead_6 : decode cX5_ahead 6 = .ok (.iconst 3, 1) := by decide +kernel
theorem dX5_ahead_7 : decode cX5_ahead 7 = .ok (.if_icmp .eq 20, 3) := by decide +kernel
theorem dX5_ahead_10 : decode cX5_ahead 10 = .ok (.iload_n 2, 1) := by decide +kernel
theorem dX5_ahead_11 : decode cX5_ahead 11 = .ok (.iconst 4, 1) := by decide +kernel
theorem dX5_ahead_12 : decode cX5_ahead 12 = .ok (.if_icmp .eq 15, 3) := by decide +kernel
theorem dX5_ahead_15 : decode cX5_ahead 15 = .ok (.iload_n 2, 1) := by decide +kernel
theorem dX5_ahead_16 : decode cX5_ahead 16 = .ok (.bipush 6, 2) := by decide +kernel
theorem dX5_ahead_18 : decode cX5_ahead 18 = .ok (.if_icmp .eq 9, 3) := by decide +kernel
theorem dX5_ahead_21 : decode cX5_ahead 21 = .ok (.iload_n 2, 1) := by decide +kernel
theorem dX5_ahead_22 : decode cX5_ahead 22 = .ok (.bipush 10, 2) := by decide +kernel
theorem dX5_ahead_24 : decode cX5_ahead 24 = .ok (.if_icmp .ne 7, 3) := by decide +kernel
theorem dX5_ahead_27 : decode cX5_ahead 27 = .ok (.iconst 1, 1) := by decide +kernel
theorem dX5_ahead_28 : decode cX5_ahead 28 = .ok (.goto 4, 3) := by decide +kernel
theorem dX5_ahead_31 : decode cX5_ahead 31 = .ok (.iconst 0, 1) := by decide +kernel
theorem dX5_ahead_32 : decode cX5_ahead 32 = .ok (.istore 4, 2) := by decide +kernel
theorem dX5_ahead_34 : decode cX5_ahead 34 = .ok (.aload_n 0, 1) := by decide +kernel
theorem dX5_ahead_35 : decode cX5_ahead 35 = .ok (.iload_n 1, 1) := by decide +kernel
theorem dX5_ahead_36 : decode cX5_ahead 36 = .ok (.invokevirtual 73, 3) := by decide +kernel
theorem dX5_ahead_39 : decode cX5_ahead 39 = .ok (.ifCond .eq 17, 3) := by decide +kernel
theorem dX5_ahead_42 : decode cX5_ahead 42 = .ok (.iload 4, 2) := by decide +kernel
theorem dX5_ahead_44 : decode cX5_ahead 44 = .ok (.ifCond .eq 12, 3) := by decide +kernel
theorem dX5_ahead_47 : decode cX5_ahead 47 = .ok (.iload_n 3, 1) := by decide +kernel
theorem dX5_ahead_48 : decode cX5_ahead 48 = .ok (.bipush 100, 2) := by decide +kernel
theorem dX5_ahead_50 : decode cX5_ahead 50 = .ok (.invokestatic 53, 3) := by decide +kernel
theorem dX5_ahead_53 : decode cX5_ahead 53 = .ok (.ifCond .ne 10, 3) := by decide +kernel
theorem dX5_ahead_56 : decode cX5_ahead 56 = .ok (.aload_n 0, 1) := by decide +kernel
theorem dX5_ahead_57 : decode cX5_ahead 57 = .ok (.ldc 57, 2) := by decide +kernel
theorem dX5_ahead_59 : decode cX5_ahead 59 = .ok (.invokevirtual 58, 3) := by decide +kernel
theorem dX5_ahead_62 : decode cX5_ahead 62 = .ok (.ireturn, 1) := by decide +kernel
theorem dX5_ahead_63 : decode cX5_ahead 63 = .ok (.aload_n 0, 1) := by decide +kernel
theorem dX5_ahead_64 : decode cX5_ahead 64 = .ok (.invokevirtual 144, 3) := by decide +kernel
theorem dX5_ahead_67 : decode cX5_ahead 67 = .ok (.aload_n 0, 1) := by decide +kernel
theorem dX5_ahead_68 : decode cX5_ahead 68 = .ok (.getfield 16, 3) := by decide +kernel
theorem dX5_ahead_71 : decode cX5_ahead 71 = .ok (.iload_n 3, 1) := by decide +kernel
theorem dX5_ahead_72 : decode cX5_ahead 72 = .ok (.invokevirtual 119, 3) := by decide +kernel
theorem dX5_ahead_75 : decode cX5_ahead 75 = .ok (.aload_n 0, 1) := by decide +kernel
theorem dX5_ahead_76 : decode cX5_ahead 76 = .ok (.getfield 16, 3) := by decide +kernel
theorem dX5_ahead_79 : decode cX5_ahead 79 = .ok (.getfield 77, 3) := by decide +kernel
theorem dX5_ahead_82 : decode cX5_ahead 82 = .ok (.iload_n 1, 1) := by decide +kernel
theorem dX5_ahead_83 : decode cX5_ahead 83 = .ok (.aaload, 1) := by decide +kernel
theorem dX5_ahead_84 : decode cX5_ahead 84 = .ok (.iload_n 2, 1) := by decide +kernel
theorem dX5_ahead_85 : decode cX5_ahead 85 = .ok (.invokevirtual 81, 3) := by decide +kernel
theorem dX5_ahead_88 : decode cX5_ahead 88 = .ok (.ireturn, 1) := by decide +kernel
theorem dX5_left_0 : decode cX5_left 0 = .ok (.iload_n 1, 1) := by decide +kernel
theorem dX5_left_1 : decode cX5_left 1 = .ok (.bipush 100, 2) := by decide +kernel
theorem dX5_left_3 : decode cX5_left 3 = .ok (.invokestatic 53, 3) := by decide +kernel
theorem dX5_left_6 : decode cX5_left 6 = .ok (.ifCond .ne 10, 3) := by decide +kernel
theorem dX5_left_9 : decode cX5_left 9 = .ok (.aload_n 0, 1) := by decide +kernel
theorem dX5_left_10 : decode cX5_left 10 = .ok (.ldc 57, 2) := by decide +kernel
theorem dX5_left_12 : decode cX5_left 12 = .ok (.invokevirtual 58, 3) := by decide +kernel
theorem dX5_left_15 : decode cX5_left 15 = .ok (.ireturn, 1) := by decide +kernel
theorem dX5_left_16 : decode cX5_left 16 = .ok (.aload_n 0, 1) := by decide +kernel
theorem dX5_left_17 : decode cX5_left 17 = .ok (.invokevirtual 144, 3) := by decide +kernel
theorem dX5_left_20 : decode cX5_left 20 = .ok (.aload_n 0, 1) := by decide +kernel
theorem dX5_left_21 : decode cX5_left 21 = .ok (.getfield 16, 3) := by decide +kernel
theorem dX5_left_24 : decode cX5_left 24 = .ok (.iload_n 1, 1) := by decide +kernel
theorem dX5_left_25 : decode cX5_left 25 = .ok (.invokevirtual 119, 3) := by decide +kernel
theorem dX5_left_28 : decode cX5_left 28 = .ok (.aload_n 0, 1) := by decide +kernel
theorem dX5_left_29 : decode cX5_left 29 = .ok (.getfield 16, 3) := by decide +kernel
theorem dX5_left_32 : decode cX5_left 32 = .ok (.getfield 122, 3) := by decide +kernel
theorem dX5_left_35 : decode cX5_left 35 = .ok (.ireturn, 1) := by decide +kernel
theorem dX5_when_0 : decode cX5_when 0 = .ok (.aload_n 0, 1) := by decide +kernel
theorem dX5_when_1 : decode cX5_when 1 = .ok (.iload_n 1, 1) := by decide +kernel
theorem dX5_when_2 : decode cX5_when 2 = .ok (.invokevirtual 73, 3) := by decide +kernel
theorem dX5_when_5 : decode cX5_when 5 = .ok (.ifCond .eq 12, 3) := by decide +kernel
theorem dX5_when_8 : decode cX5_when 8 = .ok (.iload_n 2, 1) := by decide +kernel
theorem dX5_when_9 : decode cX5_when 9 = .ok (.bipush 11, 2) := by decide +kernel
theorem dX5_when_11 : decode cX5_when 11 = .ok (.invokestatic 53, 3) := by decide +kernel
theorem dX5_when_14 : decode cX5_when 14 = .ok (.ifCond .ne 10, 3) := by decide +kernel
theorem dX5_when_17 : decode cX5_when 17 = .ok (.aload_n 0, 1) := by decide +kernel
theorem dX5_when_18 : decode cX5_when 18 = .ok (.ldc 57, 2) := by decide +kernel
theorem dX5_when_20 : decode cX5_when 20 = .ok (.invokevirtual 58, 3) := by decide +kernel
theorem dX5_when_23 : decode cX5_when 23 = .ok (.ireturn, 1) := by decide +kernel
theorem dX5_when_24 : decode cX5_when 24 = .ok (.aload_n 0, 1) := by decide +kernel
theorem dX5_when_25 : decode cX5_when 25 = .ok (.invokevirtual 144, 3) := by decide +kernel
theorem dX5_when_28 : decode cX5_when 28 = .ok (.iconst 0, 1) := by decide +kernel
theorem dX5_when_29 : decode cX5_when 29 = .ok (.istore_n 3, 1) := by decide +kernel
theorem dX5_when_30 : decode cX5_when 30 = .ok (.iload_n 3, 1) := by decide +kernel
theorem dX5_when_31 : decode cX5_when 31 = .ok (.sipush 200, 3) := by decide +kernel
theorem dX5_when_34 : decode cX5_when 34 = .ok (.if_icmp .gt 34, 3) := by decide +kernel
theorem dX5_when_37 : decode cX5_when 37 = .ok (.aload_n 0, 1) := by decide +kernel
theorem dX5_when_38 : decode cX5_when 38 = .ok (.getfield 16, 3) := by decide +kernel
theorem dX5_when_41 : decode cX5_when 41 = .ok (.getfield 77, 3) := by decide +kernel
theorem dX5_when_44 : decode cX5_when 44 = .ok (.iload_n 1, 1) := by decide +kernel
theorem dX5_when_45 : decode cX5_when 45 = .ok (.aaload, 1) := by decide +kernel
theorem dX5_when_46 : decode cX5_when 46 = .ok (.iload_n 2, 1) := by decide +kernel
theorem dX5_when_47 : decode cX5_when 47 = .ok (.invokevirtual 100, 3) := by decide +kernel
theorem dX5_when_50 : decode cX5_when 50 = .ok (.ifCond .eq 5, 3) := by decide +kernel
theorem dX5_when_53 : decode cX5_when 53 = .ok (.iload_n 3, 1) := by decide +kernel
theorem dX5_when_54 : decode cX5_when 54 = .ok (.ireturn, 1) := by decide +kernel
theorem dX5_when_55 : decode cX5_when 55 = .ok (.aload_n 0, 1) := by decide +kernel
theorem dX5_when_56 : decode cX5_when 56 = .ok (.getfield 16, 3) := by decide +kernel
theorem dX5_when_59 : decode cX5_when 59 = .ok (.invokevirtual 147, 3) := by decide +kernel
theorem dX5_when_62 : decode cX5_when 62 = .ok (.iinc 3 1, 3) := by decide +kernel
theorem dX5_when_65 : decode cX5_when 65 = .ok (.goto (-35), 3) := by decide +kernel
theorem dX5_when_68 : decode cX5_when 68 = .ok (.aload_n 0, 1) := by decide +kernel
theorem dX5_when_69 : decode cX5_when 69 = .ok (.ldc 99, 2) := by decide +kernel
theorem dX5_when_71 : decode cX5_when 71 = .ok (.invokevirtual 58, 3) := by decide +kernel
theorem dX5_when_74 : decode cX5_when 74 = .ok (.ireturn, 1) := by decide +kernel
theorem dX5_leaves_0 : decode cX5_leaves 0 = .ok (.aload_n 0, 1) := by decide +kernel
theorem dX5_leaves_1 : decode cX5_leaves 1 = .ok (.iload_n 1, 1) := by decide +kernel
theorem dX5_leaves_2 : decode cX5_leaves 2 = .ok (.invokevirtual 73, 3) := by decide +kernel
theorem dX5_leaves_5 : decode cX5_leaves 5 = .ok (.ifCond .ne 10, 3) := by decide +kernel
theorem dX5_leaves_8 : decode cX5_leaves 8 = .ok (.aload_n 0, 1) := by decide +kernel
theorem dX5_leaves_9 : decode cX5_leaves 9 = .ok (.ldc 57, 2) := by decide +kernel
theorem dX5_leaves_11 : decode cX5_leaves 11 = .ok (.invokevirtual 58, 3) := by decide +kernel
theorem dX5_leaves_14 : decode cX5_leaves 14 = .ok (.ireturn, 1) := by decide +kernel
theorem dX5_leaves_15 : decode cX5_leaves 15 = .ok (.aload_n 0, 1) := by decide +kernel
theorem dX5_leaves_16 : decode cX5_leaves 16 = .ok (.iload_n 1, 1) := by decide +kernel
theorem dX5_leaves_17 : decode cX5_leaves 17 = .ok (.bipush 6, 2) := by decide +kernel
theorem dX5_leaves_19 : decode cX5_leaves 19 = .ok (.iconst 1, 1) := by decide +kernel
theorem dX5_leaves_20 : decode cX5_leaves 20 = .ok (.invokevirtual 150, 3) := by decide +kernel
theorem dX5_leaves_23 : decode cX5_leaves 23 = .ok (.ireturn, 1) := by decide +kernel
theorem dX5_voice_0 : decode cX5_voice 0 = .ok (.aload_n 0, 1) := by decide +kernel
theorem dX5_voice_1 : decode cX5_voice 1 = .ok (.iload_n 1, 1) := by decide +kernel
theorem dX5_voice_2 : decode cX5_voice 2 = .ok (.invokevirtual 73, 3) := by decide +kernel
theorem dX5_voice_5 : decode cX5_voice 5 = .ok (.ifCond .eq 13, 3) := by decide +kernel
theorem dX5_voice_8 : decode cX5_voice 8 = .ok (.iload_n 2, 1) := by decide +kernel
theorem dX5_voice_9 : decode cX5_voice 9 = .ok (.sipush 9999, 3) := by decide +kernel
theorem dX5_voice_12 : decode cX5_voice 12 = .ok (.invokestatic 53, 3) := by decide +kernel
theorem dX5_voice_15 : decode cX5_voice 15 = .ok (.ifCond .ne 10, 3) := by decide +kernel
theorem dX5_voice_18 : decode cX5_voice 18 = .ok (.aload_n 0, 1) := by decide +kernel
theorem dX5_voice_19 : decode cX5_voice 19 = .ok (.ldc 57, 2) := by decide +kernel
theorem dX5_voice_21 : decode cX5_voice 21 = .ok (.invokevirtual 58, 3) := by decide +kernel
theorem dX5_voice_24 : decode cX5_voice 24 = .ok (.ireturn, 1) := by decide +kernel
theorem dX5_voice_25 : decode cX5_voice 25 = .ok (.aload_n 0, 1) := by decide +kernel
theorem dX5_voice_26 : decode cX5_voice 26 = .ok (.iload_n 1, 1) := by decide +kernel
theorem dX5_voice_27 : decode cX5_voice 27 = .ok (.bipush 10, 2) := by decide +kernel
theorem dX5_voice_29 : decode cX5_voice 29 = .ok (.iload_n 2, 1) := by decide +kernel
theorem dX5_voice_30 : decode cX5_voice 30 = .ok (.invokevirtual 150, 3) := by decide +kernel
theorem dX5_voice_33 : decode cX5_voice 33 = .ok (.ireturn, 1) := by decide +kernel
theorem dX5_orderFor_0 : decode cX5_orderFor 0 = .ok (.iload_n 1, 1) := by decide +kernel
theorem dX5_orderFor_1 : decode cX5_orderFor 1 = .ok (.iconst 5, 1) := by decide +kernel
theorem dX5_orderFor_2 : decode cX5_orderFor 2 = .ok (.invokestatic 53, 3) := by decide +kernel
theorem dX5_orderFor_5 : decode cX5_orderFor 5 = .ok (.ifCond .eq 20, 3) := by decide +kernel
theorem dX5_orderFor_8 : decode cX5_orderFor 8 = .ok (.aload_n 0, 1) := by decide +kernel
theorem dX5_orderFor_9 : decode cX5_orderFor 9 = .ok (.iload_n 2, 1) := by decide +kernel
theorem dX5_orderFor_10 : decode cX5_orderFor 10 = .ok (.invokevirtual 73, 3) := by decide +kernel
theorem dX5_orderFor_13 : decode cX5_orderFor 13 = .ok (.ifCond .eq 12, 3) := by decide +kernel
theorem dX5_orderFor_16 : decode cX5_orderFor 16 = .ok (.iload_n 3, 1) := by decide +kernel
theorem dX5_orderFor_17 : decode cX5_orderFor 17 = .ok (.bipush 60, 2) := by decide +kernel
theorem dX5_orderFor_19 : decode cX5_orderFor 19 = .ok (.invokestatic 53, 3) := by decide +kernel
theorem dX5_orderFor_22 : decode cX5_orderFor 22 = .ok (.ifCond .ne 10, 3) := by decide +kernel
theorem dX5_orderFor_25 : decode cX5_orderFor 25 = .ok (.aload_n 0, 1) := by decide +kernel
theorem dX5_orderFor_26 : decode cX5_orderFor 26 = .ok (.ldc 57, 2) := by decide +kernel
theorem dX5_orderFor_28 : decode cX5_orderFor 28 = .ok (.invokevirtual 58, 3) := by decide +kernel
theorem dX5_orderFor_31 : decode cX5_orderFor 31 = .ok (.ireturn, 1) := by decide +kernel
theorem dX5_orderFor_32 : decode cX5_orderFor 32 = .ok (.iconst 0, 1) := by decide +kernel
theorem dX5_orderFor_33 : decode cX5_orderFor 33 = .ok (.istore 4, 2) := by decide +kernel
theorem dX5_orderFor_35 : decode cX5_orderFor 35 = .ok (.iconst (-1), 1) := by decide +kernel
theorem dX5_orderFor_36 : decode cX5_orderFor 36 = .ok (.istore 5, 2) := by decide +kernel
theorem dX5_orderFor_38 : decode cX5_orderFor 38 = .ok (.iconst 0, 1) := by decide +kernel
theorem dX5_orderFor_39 : decode cX5_orderFor 39 = .ok (.istore 6, 2) := by decide +kernel
theorem dX5_orderFor_41 : decode cX5_orderFor 41 = .ok (.iload 6, 2) := by decide +kernel
theorem dX5_orderFor_43 : decode cX5_orderFor 43 = .ok (.bipush 12, 2) := by decide +kernel
theorem dX5_orderFor_45 : decode cX5_orderFor 45 = .ok (.if_icmp .ge 64, 3) := by decide +kernel
theorem dX5_orderFor_48 : decode cX5_orderFor 48 = .ok (.aload_n 0, 1) := by decide +kernel
theorem dX5_orderFor_49 : decode cX5_orderFor 49 = .ok (.invokevirtual 144, 3) := by decide +kernel
theorem dX5_orderFor_52 : decode cX5_orderFor 52 = .ok (.aload_n 0, 1) := by decide +kernel
theorem dX5_orderFor_53 : decode cX5_orderFor 53 = .ok (.getfield 16, 3) := by decide +kernel
theorem dX5_orderFor_56 : decode cX5_orderFor 56 = .ok (.getfield 62, 3) := by decide +kernel
theorem dX5_orderFor_59 : decode cX5_orderFor 59 = .ok (.iload_n 1, 1) := by decide +kernel
theorem dX5_orderFor_60 : decode cX5_orderFor 60 = .ok (.iload 6, 2) := by decide +kernel
theorem dX5_orderFor_62 : decode cX5_orderFor 62 = .ok (.iastore, 1) := by decide +kernel
theorem dX5_orderFor_63 : decode cX5_orderFor 63 = .ok (.aload_n 0, 1) := by decide +kernel
theorem dX5_orderFor_64 : decode cX5_orderFor 64 = .ok (.getfield 16, 3) := by decide +kernel
theorem dX5_orderFor_67 : decode cX5_orderFor 67 = .ok (.iload_n 3, 1) := by decide +kernel
theorem dX5_orderFor_68 : decode cX5_orderFor 68 = .ok (.invokevirtual 119, 3) := by decide +kernel
theorem dX5_orderFor_71 : decode cX5_orderFor 71 = .ok (.aload_n 0, 1) := by decide +kernel
theorem dX5_orderFor_72 : decode cX5_orderFor 72 = .ok (.getfield 16, 3) := by decide +kernel
theorem dX5_orderFor_75 : decode cX5_orderFor 75 = .ok (.getfield 77, 3) := by decide +kernel
theorem dX5_orderFor_78 : decode cX5_orderFor 78 = .ok (.iload_n 2, 1) := by decide +kernel
theorem dX5_orderFor_79 : decode cX5_orderFor 79 = .ok (.aaload, 1) := by decide +kernel
theorem dX5_orderFor_80 : decode cX5_orderFor 80 = .ok (.getfield 112, 3) := by decide +kernel
theorem dX5_orderFor_83 : decode cX5_orderFor 83 = .ok (.invokestatic 154, 3) := by decide +kernel
theorem dX5_orderFor_86 : decode cX5_orderFor 86 = .ok (.istore 7, 2) := by decide +kernel
theorem dX5_orderFor_88 : decode cX5_orderFor 88 = .ok (.iload 7, 2) := by decide +kernel
theorem dX5_orderFor_90 : decode cX5_orderFor 90 = .ok (.iload 5, 2) := by decide +kernel
theorem dX5_orderFor_92 : decode cX5_orderFor 92 = .ok (.if_icmp .le 11, 3) := by decide +kernel
theorem dX5_orderFor_95 : decode cX5_orderFor 95 = .ok (.iload 6, 2) := by decide +kernel
theorem dX5_orderFor_97 : decode cX5_orderFor 97 = .ok (.istore 4, 2) := by decide +kernel
theorem dX5_orderFor_99 : decode cX5_orderFor 99 = .ok (.iload 7, 2) := by decide +kernel
theorem dX5_orderFor_101 : decode cX5_orderFor 101 = .ok (.istore 5, 2) := by decide +kernel
theorem dX5_orderFor_103 : decode cX5_orderFor 103 = .ok (.iinc 6 1, 3) := by decide +kernel
theorem dX5_orderFor_106 : decode cX5_orderFor 106 = .ok (.goto (-65), 3) := by decide +kernel
theorem dX5_orderFor_109 : decode cX5_orderFor 109 = .ok (.iload 4, 2) := by decide +kernel
theorem dX5_orderFor_111 : decode cX5_orderFor 111 = .ok (.ireturn, 1) := by decide +kernel
theorem dX5_dateFor_0 : decode cX5_dateFor 0 = .ok (.aload_n 0, 1) := by decide +kernel
theorem dX5_dateFor_1 : decode cX5_dateFor 1 = .ok (.iload_n 1, 1) := by decide +kernel
theorem dX5_dateFor_2 : decode cX5_dateFor 2 = .ok (.invokevirtual 73, 3) := by decide +kernel
theorem dX5_dateFor_5 : decode cX5_dateFor 5 = .ok (.ifCond .eq 21, 3) := by decide +kernel
theorem dX5_dateFor_8 : decode cX5_dateFor 8 = .ok (.iload_n 2, 1) := by decide +kernel
theorem dX5_dateFor_9 : decode cX5_dateFor 9 = .ok (.bipush 11, 2) := by decide +kernel
theorem dX5_dateFor_11 : decode cX5_dateFor 11 = .ok (.invokestatic 53, 3) := by decide +kernel
theorem dX5_dateFor_14 : decode cX5_dateFor 14 = .ok (.ifCond .eq 12, 3) := by decide +kernel
theorem dX5_dateFor_17 : decode cX5_dateFor 17 = .ok (.iload_n 3, 1) := by decide +kernel
theorem dX5_dateFor_18 : decode cX5_dateFor 18 = .ok (.bipush 12, 2) := by decide +kernel
theorem dX5_dateFor_20 : decode cX5_dateFor 20 = .ok (.invokestatic 53, 3) := by decide +kernel
theorem dX5_dateFor_23 : decode cX5_dateFor 23 = .ok (.ifCond .ne 10, 3) := by decide +kernel
theorem dX5_dateFor_26 : decode cX5_dateFor 26 = .ok (.aload_n 0, 1) := by decide +kernel
theorem dX5_dateFor_27 : decode cX5_dateFor 27 = .ok (.ldc 57, 2) := by decide +kernel
theorem dX5_dateFor_29 : decode cX5_dateFor 29 = .ok (.invokevirtual 58, 3) := by decide +kernel
theorem dX5_dateFor_32 : decode cX5_dateFor 32 = .ok (.ireturn, 1) := by decide +kernel
theorem dX5_dateFor_33 : decode cX5_dateFor 33 = .ok (.sipush 999, 3) := by decide +kernel
theorem dX5_dateFor_36 : decode cX5_dateFor 36 = .ok (.istore 4, 2) := by decide +kernel
theorem dX5_dateFor_38 : decode cX5_dateFor 38 = .ok (.iload 4, 2) := by decide +kernel
theorem dX5_dateFor_40 : decode cX5_dateFor 40 = .ok (.ifCond .lt 37, 3) := by decide +kernel
theorem dX5_dateFor_43 : decode cX5_dateFor 43 = .ok (.aload_n 0, 1) := by decide +kernel
theorem dX5_dateFor_44 : decode cX5_dateFor 44 = .ok (.getfield 12, 3) := by decide +kernel
theorem dX5_dateFor_47 : decode cX5_dateFor 47 = .ok (.iload_n 1, 1) := by decide +kernel
theorem dX5_dateFor_48 : decode cX5_dateFor 48 = .ok (.iload 4, 2) := by decide +kernel
theorem dX5_dateFor_50 : decode cX5_dateFor 50 = .ok (.invokevirtual 159, 3) := by decide +kernel
theorem dX5_dateFor_53 : decode cX5_dateFor 53 = .ok (.ifCond .eq 18, 3) := by decide +kernel
theorem dX5_dateFor_56 : decode cX5_dateFor 56 = .ok (.aload_n 0, 1) := by decide +kernel
theorem dX5_dateFor_57 : decode cX5_dateFor 57 = .ok (.iload_n 1, 1) := by decide +kernel
theorem dX5_dateFor_58 : decode cX5_dateFor 58 = .ok (.iload 4, 2) := by decide +kernel
theorem dX5_dateFor_60 : decode cX5_dateFor 60 = .ok (.iload_n 2, 1) := by decide +kernel
theorem dX5_dateFor_61 : decode cX5_dateFor 61 = .ok (.iload_n 3, 1) := by decide +kernel
theorem dX5_dateFor_62 : decode cX5_dateFor 62 = .ok (.invokevirtual 162, 3) := by decide +kernel
theorem dX5_dateFor_65 : decode cX5_dateFor 65 = .ok (.ifCond .eq 6, 3) := by decide +kernel
theorem dX5_dateFor_68 : decode cX5_dateFor 68 = .ok (.iload 4, 2) := by decide +kernel
theorem dX5_dateFor_70 : decode cX5_dateFor 70 = .ok (.ireturn, 1) := by decide +kernel
theorem dX5_dateFor_71 : decode cX5_dateFor 71 = .ok (.iinc 4 (-1), 3) := by decide +kernel
theorem dX5_dateFor_74 : decode cX5_dateFor 74 = .ok (.goto (-36), 3) := by decide +kernel
theorem dX5_dateFor_77 : decode cX5_dateFor 77 = .ok (.aload_n 0, 1) := by decide +kernel
theorem dX5_dateFor_78 : decode cX5_dateFor 78 = .ok (.ldc 99, 2) := by decide +kernel
theorem dX5_dateFor_80 : decode cX5_dateFor 80 = .ok (.invokevirtual 58, 3) := by decide +kernel
theorem dX5_dateFor_83 : decode cX5_dateFor 83 = .ok (.ireturn, 1) := by decide +kernel
theorem dX5_kindFor_0 : decode cX5_kindFor 0 = .ok (.aload_n 0, 1) := by decide +kernel
theorem dX5_kindFor_1 : decode cX5_kindFor 1 = .ok (.iload_n 1, 1) := by decide +kernel
theorem dX5_kindFor_2 : decode cX5_kindFor 2 = .ok (.invokevirtual 73, 3) := by decide +kernel
theorem dX5_kindFor_5 : decode cX5_kindFor 5 = .ok (.ifCond .eq 12, 3) := by decide +kernel
theorem dX5_kindFor_8 : decode cX5_kindFor 8 = .ok (.iload_n 2, 1) := by decide +kernel
theorem dX5_kindFor_9 : decode cX5_kindFor 9 = .ok (.bipush 60, 2) := by decide +kernel
theorem dX5_kindFor_11 : decode cX5_kindFor 11 = .ok (.invokestatic 53, 3) := by decide +kernel
theorem dX5_kindFor_14 : decode cX5_kindFor 14 = .ok (.ifCond .ne 10, 3) := by decide +kernel
theorem dX5_kindFor_17 : decode cX5_kindFor 17 = .ok (.aload_n 0, 1) := by decide +kernel
theorem dX5_kindFor_18 : decode cX5_kindFor 18 = .ok (.ldc 57, 2) := by decide +kernel
theorem dX5_kindFor_20 : decode cX5_kindFor 20 = .ok (.invokevirtual 58, 3) := by decide +kernel
theorem dX5_kindFor_23 : decode cX5_kindFor 23 = .ok (.ireturn, 1) := by decide +kernel
theorem dX5_kindFor_24 : decode cX5_kindFor 24 = .ok (.iconst 0, 1) := by decide +kernel
theorem dX5_kindFor_25 : decode cX5_kindFor 25 = .ok (.istore_n 3, 1) := by decide +kernel
theorem dX5_kindFor_26 : decode cX5_kindFor 26 = .ok (.iconst (-1), 1) := by decide +kernel
theorem dX5_kindFor_27 : decode cX5_kindFor 27 = .ok (.istore 4, 2) := by decide +kernel
theorem dX5_kindFor_29 : decode cX5_kindFor 29 = .ok (.iconst 0, 1) := by decide +kernel
theorem dX5_kindFor_30 : decode cX5_kindFor 30 = .ok (.istore 5, 2) := by decide +kernel
theorem dX5_kindFor_32 : decode cX5_kindFor 32 = .ok (.iload 5, 2) := by decide +kernel
theorem dX5_kindFor_34 : decode cX5_kindFor 34 = .ok (.bipush 7, 2) := by decide +kernel
theorem dX5_kindFor_36 : decode cX5_kindFor 36 = .ok (.if_icmp .ge 63, 3) := by decide +kernel
theorem dX5_kindFor_39 : decode cX5_kindFor 39 = .ok (.aload_n 0, 1) := by decide +kernel
theorem dX5_kindFor_40 : decode cX5_kindFor 40 = .ok (.invokevirtual 144, 3) := by decide +kernel
theorem dX5_kindFor_43 : decode cX5_kindFor 43 = .ok (.aload_n 0, 1) := by decide +kernel
theorem dX5_kindFor_44 : decode cX5_kindFor 44 = .ok (.getfield 16, 3) := by decide +kernel
theorem dX5_kindFor_47 : decode cX5_kindFor 47 = .ok (.getfield 77, 3) := by decide +kernel
theorem dX5_kindFor_50 : decode cX5_kindFor 50 = .ok (.iload_n 1, 1) := by decide +kernel
theorem dX5_kindFor_51 : decode cX5_kindFor 51 = .ok (.aaload, 1) := by decide +kernel
theorem dX5_kindFor_52 : decode cX5_kindFor 52 = .ok (.iload 5, 2) := by decide +kernel
theorem dX5_kindFor_54 : decode cX5_kindFor 54 = .ok (.putfield 166, 3) := by decide +kernel
theorem dX5_kindFor_57 : decode cX5_kindFor 57 = .ok (.aload_n 0, 1) := by decide +kernel
theorem dX5_kindFor_58 : decode cX5_kindFor 58 = .ok (.getfield 16, 3) := by decide +kernel
theorem dX5_kindFor_61 : decode cX5_kindFor 61 = .ok (.iload_n 2, 1) := by decide +kernel
theorem dX5_kindFor_62 : decode cX5_kindFor 62 = .ok (.invokevirtual 119, 3) := by decide +kernel
theorem dX5_kindFor_65 : decode cX5_kindFor 65 = .ok (.aload_n 0, 1) := by decide +kernel
theorem dX5_kindFor_66 : decode cX5_kindFor 66 = .ok (.getfield 16, 3) := by decide +kernel
theorem dX5_kindFor_69 : decode cX5_kindFor 69 = .ok (.getfield 77, 3) := by decide +kernel
theorem dX5_kindFor_72 : decode cX5_kindFor 72 = .ok (.iload_n 1, 1) := by decide +kernel
theorem dX5_kindFor_73 : decode cX5_kindFor 73 = .ok (.aaload, 1) := by decide +kernel
theorem dX5_kindFor_74 : decode cX5_kindFor 74 = .ok (.invokevirtual 169, 3) := by decide +kernel
theorem dX5_kindFor_77 : decode cX5_kindFor 77 = .ok (.istore 6, 2) := by decide +kernel
theorem dX5_kindFor_79 : decode cX5_kindFor 79 = .ok (.iload 6, 2) := by decide +kernel
theorem dX5_kindFor_81 : decode cX5_kindFor 81 = .ok (.iload 4, 2) := by decide +kernel
theorem dX5_kindFor_83 : decode cX5_kindFor 83 = .ok (.if_icmp .le 10, 3) := by decide +kernel
theorem dX5_kindFor_86 : decode cX5_kindFor 86 = .ok (.iload 5, 2) := by decide +kernel
theorem dX5_kindFor_88 : decode cX5_kindFor 88 = .ok (.istore_n 3, 1) := by decide +kernel
theorem dX5_kindFor_89 : decode cX5_kindFor 89 = .ok (.iload 6, 2) := by decide +kernel
theorem dX5_kindFor_91 : decode cX5_kindFor 91 = .ok (.istore 4, 2) := by decide +kernel
theorem dX5_kindFor_93 : decode cX5_kindFor 93 = .ok (.iinc 5 1, 3) := by decide +kernel
theorem dX5_kindFor_96 : decode cX5_kindFor 96 = .ok (.goto (-64), 3) := by decide +kernel
theorem dX5_kindFor_99 : decode cX5_kindFor 99 = .ok (.iload_n 3, 1) := by decide +kernel
theorem dX5_kindFor_100 : decode cX5_kindFor 100 = .ok (.ireturn, 1) := by decide +kernel
theorem dX5_pathTo_0 : decode cX5_pathTo 0 = .ok (.aload_n 0, 1) := by decide +kernel
theorem dX5_pathTo_1 : decode cX5_pathTo 1 = .ok (.iload_n 1, 1) := by decide +kernel
theorem dX5_pathTo_2 : decode cX5_pathTo 2 = .ok (.invokevirtual 73, 3) := by decide +kernel
theorem dX5_pathTo_5 : decode cX5_pathTo 5 = .ok (.ifCond .eq 12, 3) := by decide +kernel
theorem dX5_pathTo_8 : decode cX5_pathTo 8 = .ok (.iload_n 2, 1) := by decide +kernel
theorem dX5_pathTo_9 : decode cX5_pathTo 9 = .ok (.bipush 11, 2) := by decide +kernel
theorem dX5_pathTo_11 : decode cX5_pathTo 11 = .ok (.invokestatic 53, 3) := by decide +kernel
theorem dX5_pathTo_14 : decode cX5_pathTo 14 = .ok (.ifCond .ne 10, 3) := by decide +kernel
theorem dX5_pathTo_17 : decode cX5_pathTo 17 = .ok (.aload_n 0, 1) := by decide +kernel
theorem dX5_pathTo_18 : decode cX5_pathTo 18 = .ok (.ldc 57, 2) := by decide +kernel
theorem dX5_pathTo_20 : decode cX5_pathTo 20 = .ok (.invokevirtual 58, 3) := by decide +kernel
theorem dX5_pathTo_23 : decode cX5_pathTo 23 = .ok (.ireturn, 1) := by decide +kernel
theorem dX5_pathTo_24 : decode cX5_pathTo 24 = .ok (.aload_n 0, 1) := by decide +kernel
theorem dX5_pathTo_25 : decode cX5_pathTo 25 = .ok (.getfield 12, 3) := by decide +kernel
theorem dX5_pathTo_28 : decode cX5_pathTo 28 = .ok (.getfield 77, 3) := by decide +kernel
theorem dX5_pathTo_31 : decode cX5_pathTo 31 = .ok (.iload_n 1, 1) := by decide +kernel
theorem dX5_pathTo_32 : decode cX5_pathTo 32 = .ok (.aaload, 1) := by decide +kernel
theorem dX5_pathTo_33 : decode cX5_pathTo 33 = .ok (.iload_n 2, 1) := by decide +kernel
theorem dX5_pathTo_34 : decode cX5_pathTo 34 = .ok (.invokevirtual 100, 3) := by decide +kernel
theorem dX5_pathTo_37 : decode cX5_pathTo 37 = .ok (.ifCond .eq 5, 3) := by decide +kernel
theorem dX5_pathTo_40 : decode cX5_pathTo 40 = .ok (.iconst 0, 1) := by decide +kernel
theorem dX5_pathTo_41 : decode cX5_pathTo 41 = .ok (.ireturn, 1) := by decide +kernel
theorem dX5_pathTo_42 : decode cX5_pathTo 42 = .ok (.aload_n 0, 1) := by decide +kernel
theorem dX5_pathTo_43 : decode cX5_pathTo 43 = .ok (.invokevirtual 144, 3) := by decide +kernel
theorem dX5_pathTo_46 : decode cX5_pathTo 46 = .ok (.aload_n 0, 1) := by decide +kernel
theorem dX5_pathTo_47 : decode cX5_pathTo 47 = .ok (.getfield 16, 3) := by decide +kernel
theorem dX5_pathTo_50 : decode cX5_pathTo 50 = .ok (.getfield 77, 3) := by decide +kernel
theorem dX5_pathTo_53 : decode cX5_pathTo 53 = .ok (.iload_n 1, 1) := by decide +kernel
theorem dX5_pathTo_54 : decode cX5_pathTo 54 = .ok (.aaload, 1) := by decide +kernel
theorem dX5_pathTo_55 : decode cX5_pathTo 55 = .ok (.iload_n 2, 1) := by decide +kernel
theorem dX5_pathTo_56 : decode cX5_pathTo 56 = .ok (.invokevirtual 172, 3) := by decide +kernel
theorem dX5_pathTo_59 : decode cX5_pathTo 59 = .ok (.istore_n 3, 1) := by decide +kernel
theorem dX5_pathTo_60 : decode cX5_pathTo 60 = .ok (.iload_n 3, 1) := by decide +kernel
theorem dX5_pathTo_61 : decode cX5_pathTo 61 = .ok (.ifCond .ne 12, 3) := by decide +kernel
theorem dX5_pathTo_64 : decode cX5_pathTo 64 = .ok (.aload_n 0, 1) := by decide +kernel
theorem dX5_pathTo_65 : decode cX5_pathTo 65 = .ok (.ldc 99, 2) := by decide +kernel
theorem dX5_pathTo_67 : decode cX5_pathTo 67 = .ok (.invokevirtual 58, 3) := by decide +kernel
theorem dX5_pathTo_70 : decode cX5_pathTo 70 = .ok (.goto 4, 3) := by decide +kernel
theorem dX5_pathTo_73 : decode cX5_pathTo 73 = .ok (.iload_n 3, 1) := by decide +kernel
theorem dX5_pathTo_74 : decode cX5_pathTo 74 = .ok (.ireturn, 1) := by decide +kernel
theorem dX5_seal_0 : decode cX5_seal 0 = .ok (.iload_n 1, 1) := by decide +kernel
theorem dX5_seal_1 : decode cX5_seal 1 = .ok (.bipush 20, 2) := by decide +kernel
theorem dX5_seal_3 : decode cX5_seal 3 = .ok (.invokestatic 53, 3) := by decide +kernel
theorem dX5_seal_6 : decode cX5_seal 6 = .ok (.ifCond .ne 10, 3) := by decide +kernel
theorem dX5_seal_9 : decode cX5_seal 9 = .ok (.aload_n 0, 1) := by decide +kernel
theorem dX5_seal_10 : decode cX5_seal 10 = .ok (.ldc 57, 2) := by decide +kernel
theorem dX5_seal_12 : decode cX5_seal 12 = .ok (.invokevirtual 58, 3) := by decide +kernel
theorem dX5_seal_15 : decode cX5_seal 15 = .ok (.ireturn, 1) := by decide +kernel
theorem dX5_seal_16 : decode cX5_seal 16 = .ok (.iconst 1, 1) := by decide +kernel
theorem dX5_seal_17 : decode cX5_seal 17 = .ok (.aload_n 0, 1) := by decide +kernel
theorem dX5_seal_18 : decode cX5_seal 18 = .ok (.getfield 12, 3) := by decide +kernel
theorem dX5_seal_21 : decode cX5_seal 21 = .ok (.getfield 175, 3) := by decide +kernel
theorem dX5_seal_24 : decode cX5_seal 24 = .ok (.ishl, 1) := by decide +kernel
theorem dX5_seal_25 : decode cX5_seal 25 = .ok (.istore_n 2, 1) := by decide +kernel
theorem dX5_seal_26 : decode cX5_seal 26 = .ok (.iconst 0, 1) := by decide +kernel
theorem dX5_seal_27 : decode cX5_seal 27 = .ok (.istore_n 3, 1) := by decide +kernel
theorem dX5_seal_28 : decode cX5_seal 28 = .ok (.iload_n 3, 1) := by decide +kernel
theorem dX5_seal_29 : decode cX5_seal 29 = .ok (.aload_n 0, 1) := by decide +kernel
theorem dX5_seal_30 : decode cX5_seal 30 = .ok (.getfield 12, 3) := by decide +kernel
theorem dX5_seal_33 : decode cX5_seal 33 = .ok (.getfield 175, 3) := by decide +kernel
theorem dX5_seal_36 : decode cX5_seal 36 = .ok (.if_icmp .gt 46, 3) := by decide +kernel
theorem dX5_seal_39 : decode cX5_seal 39 = .ok (.iconst 0, 1) := by decide +kernel
theorem dX5_seal_40 : decode cX5_seal 40 = .ok (.istore 4, 2) := by decide +kernel
theorem dX5_seal_42 : decode cX5_seal 42 = .ok (.iload 4, 2) := by decide +kernel
theorem dX5_seal_44 : decode cX5_seal 44 = .ok (.iload_n 2, 1) := by decide +kernel
theorem dX5_seal_45 : decode cX5_seal 45 = .ok (.if_icmp .ge 31, 3) := by decide +kernel
theorem dX5_seal_48 : decode cX5_seal 48 = .ok (.iload 4, 2) := by decide +kernel
theorem dX5_seal_50 : decode cX5_seal 50 = .ok (.invokestatic 154, 3) := by decide +kernel
theorem dX5_seal_53 : decode cX5_seal 53 = .ok (.iload_n 3, 1) := by decide +kernel
theorem dX5_seal_54 : decode cX5_seal 54 = .ok (.if_icmp .ne 16, 3) := by decide +kernel
theorem dX5_seal_57 : decode cX5_seal 57 = .ok (.aload_n 0, 1) := by decide +kernel
theorem dX5_seal_58 : decode cX5_seal 58 = .ok (.iload 4, 2) := by decide +kernel
theorem dX5_seal_60 : decode cX5_seal 60 = .ok (.iload_n 1, 1) := by decide +kernel
theorem dX5_seal_61 : decode cX5_seal 61 = .ok (.invokevirtual 178, 3) := by decide +kernel
theorem dX5_seal_64 : decode cX5_seal 64 = .ok (.ifCond .eq 6, 3) := by decide +kernel
theorem dX5_seal_67 : decode cX5_seal 67 = .ok (.iload 4, 2) := by decide +kernel
theorem dX5_seal_69 : decode cX5_seal 69 = .ok (.ireturn, 1) := by decide +kernel
theorem dX5_seal_70 : decode cX5_seal 70 = .ok (.iinc 4 1, 3) := by decide +kernel
theorem dX5_seal_73 : decode cX5_seal 73 = .ok (.goto (-31), 3) := by decide +kernel
theorem dX5_seal_76 : decode cX5_seal 76 = .ok (.iinc 3 1, 3) := by decide +kernel
theorem dX5_seal_79 : decode cX5_seal 79 = .ok (.goto (-51), 3) := by decide +kernel
theorem dX5_seal_82 : decode cX5_seal 82 = .ok (.aload_n 0, 1) := by decide +kernel
theorem dX5_seal_83 : decode cX5_seal 83 = .ok (.ldc 99, 2) := by decide +kernel
theorem dX5_seal_85 : decode cX5_seal 85 = .ok (.invokevirtual 58, 3) := by decide +kernel
theorem dX5_seal_88 : decode cX5_seal 88 = .ok (.ireturn, 1) := by decide +kernel
theorem dX5_fits_0 : decode cX5_fits 0 = .ok (.aload_n 0, 1) := by decide +kernel
theorem dX5_fits_1 : decode cX5_fits 1 = .ok (.iload_n 1, 1) := by decide +kernel
theorem dX5_fits_2 : decode cX5_fits 2 = .ok (.iload_n 2, 1) := by decide +kernel
theorem dX5_fits_3 : decode cX5_fits 3 = .ok (.invokevirtual 181, 3) := by decide +kernel
theorem dX5_fits_6 : decode cX5_fits 6 = .ok (.istore_n 3, 1) := by decide +kernel
theorem dX5_fits_7 : decode cX5_fits 7 = .ok (.iload_n 3, 1) := by decide +kernel
theorem dX5_fits_8 : decode cX5_fits 8 = .ok (.ifCond .eq 9, 3) := by decide +kernel
theorem dX5_fits_11 : decode cX5_fits 11 = .ok (.aload_n 0, 1) := by decide +kernel
theorem dX5_fits_12 : decode cX5_fits 12 = .ok (.iload_n 3, 1) := by decide +kernel
theorem dX5_fits_13 : decode cX5_fits 13 = .ok (.invokevirtual 58, 3) := by decide +kernel
theorem dX5_fits_16 : decode cX5_fits 16 = .ok (.ireturn, 1) := by decide +kernel
theorem dX5_fits_17 : decode cX5_fits 17 = .ok (.iconst 0, 1) := by decide +kernel
theorem dX5_fits_18 : decode cX5_fits 18 = .ok (.istore 4, 2) := by decide +kernel
theorem dX5_fits_20 : decode cX5_fits 20 = .ok (.iconst 0, 1) := by decide +kernel
theorem dX5_fits_21 : decode cX5_fits 21 = .ok (.istore 5, 2) := by decide +kernel
theorem dX5_fits_23 : decode cX5_fits 23 = .ok (.iload 5, 2) := by decide +kernel
theorem dX5_fits_25 : decode cX5_fits 25 = .ok (.bipush 13, 2) := by decide +kernel
theorem dX5_fits_27 : decode cX5_fits 27 = .ok (.if_icmp .ge 47, 3) := by decide +kernel
theorem dX5_fits_30 : decode cX5_fits 30 = .ok (.aload_n 0, 1) := by decide +kernel
theorem dX5_fits_31 : decode cX5_fits 31 = .ok (.invokevirtual 144, 3) := by decide +kernel
theorem dX5_fits_34 : decode cX5_fits 34 = .ok (.aload_n 0, 1) := by decide +kernel
theorem dX5_fits_35 : decode cX5_fits 35 = .ok (.getfield 16, 3) := by decide +kernel
theorem dX5_fits_38 : decode cX5_fits 38 = .ok (.getfield 62, 3) := by decide +kernel
theorem dX5_fits_41 : decode cX5_fits 41 = .ok (.aload_n 0, 1) := by decide +kernel
theorem dX5_fits_42 : decode cX5_fits 42 = .ok (.getfield 16, 3) := by decide +kernel
theorem dX5_fits_45 : decode cX5_fits 45 = .ok (.invokevirtual 184, 3) := by decide +kernel
theorem dX5_fits_48 : decode cX5_fits 48 = .ok (.iload 5, 2) := by decide +kernel
theorem dX5_fits_50 : decode cX5_fits 50 = .ok (.iastore, 1) := by decide +kernel
theorem dX5_fits_51 : decode cX5_fits 51 = .ok (.aload_n 0, 1) := by decide +kernel
theorem dX5_fits_52 : decode cX5_fits 52 = .ok (.iload_n 2, 1) := by decide +kernel
theorem dX5_fits_53 : decode cX5_fits 53 = .ok (.aload_n 0, 1) := by decide +kernel
theorem dX5_fits_54 : decode cX5_fits 54 = .ok (.getfield 44, 3) := by decide +kernel
theorem dX5_fits_57 : decode cX5_fits 57 = .ok (.iload_n 1, 1) := by decide +kernel
theorem dX5_fits_58 : decode cX5_fits 58 = .ok (.aaload, 1) := by decide +kernel
theorem dX5_fits_59 : decode cX5_fits 59 = .ok (.invokevirtual 187, 3) := by decide +kernel
theorem dX5_fits_62 : decode cX5_fits 62 = .ok (.ifCond .eq 6, 3) := by decide +kernel
theorem dX5_fits_65 : decode cX5_fits 65 = .ok (.iinc 4 1, 3) := by decide +kernel
theorem dX5_fits_68 : decode cX5_fits 68 = .ok (.iinc 5 1, 3) := by decide +kernel
theorem dX5_fits_71 : decode cX5_fits 71 = .ok (.goto (-48), 3) := by decide +kernel
theorem dX5_fits_74 : decode cX5_fits 74 = .ok (.iload 4, 2) := by decide +kernel
theorem dX5_fits_76 : decode cX5_fits 76 = .ok (.ireturn, 1) := by decide +kernel
theorem dX5_kinds_0 : decode cX5_kinds 0 = .ok (.aload_n 0, 1) := by decide +kernel
theorem dX5_kinds_1 : decode cX5_kinds 1 = .ok (.iload_n 1, 1) := by decide +kernel
theorem dX5_kinds_2 : decode cX5_kinds 2 = .ok (.iload_n 2, 1) := by decide +kernel
theorem dX5_kinds_3 : decode cX5_kinds 3 = .ok (.invokevirtual 181, 3) := by decide +kernel
theorem dX5_kinds_6 : decode cX5_kinds 6 = .ok (.istore_n 3, 1) := by decide +kernel
theorem dX5_kinds_7 : decode cX5_kinds 7 = .ok (.iload_n 3, 1) := by decide +kernel
theorem dX5_kinds_8 : decode cX5_kinds 8 = .ok (.ifCond .eq 9, 3) := by decide +kernel
theorem dX5_kinds_11 : decode cX5_kinds 11 = .ok (.aload_n 0, 1) := by decide +kernel
theorem dX5_kinds_12 : decode cX5_kinds 12 = .ok (.iload_n 3, 1) := by decide +kernel
theorem dX5_kinds_13 : decode cX5_kinds 13 = .ok (.invokevirtual 58, 3) := by decide +kernel
theorem dX5_kinds_16 : decode cX5_kinds 16 = .ok (.ireturn, 1) := by decide +kernel
theorem dX5_kinds_17 : decode cX5_kinds 17 = .ok (.iconst 0, 1) := by decide +kernel
theorem dX5_kinds_18 : decode cX5_kinds 18 = .ok (.istore 4, 2) := by decide +kernel
theorem dX5_kinds_20 : decode cX5_kinds 20 = .ok (.iconst 0, 1) := by decide +kernel
theorem dX5_kinds_21 : decode cX5_kinds 21 = .ok (.istore 5, 2) := by decide +kernel
theorem dX5_kinds_23 : decode cX5_kinds 23 = .ok (.iload 5, 2) := by decide +kernel
theorem dX5_kinds_25 : decode cX5_kinds 25 = .ok (.bipush 7, 2) := by decide +kernel
theorem dX5_kinds_27 : decode cX5_kinds 27 = .ok (.if_icmp .ge 50, 3) := by decide +kernel
theorem dX5_kinds_30 : decode cX5_kinds 30 = .ok (.aload_n 0, 1) := by decide +kernel
theorem dX5_kinds_31 : decode cX5_kinds 31 = .ok (.invokevirtual 144, 3) := by decide +kernel
theorem dX5_kinds_34 : decode cX5_kinds 34 = .ok (.aload_n 0, 1) := by decide +kernel
theorem dX5_kinds_35 : decode cX5_kinds 35 = .ok (.getfield 16, 3) := by decide +kernel
theorem dX5_kinds_38 : decode cX5_kinds 38 = .ok (.getfield 77, 3) := by decide +kernel
theorem dX5_kinds_41 : decode cX5_kinds 41 = .ok (.iload_n 2, 1) := by decide +kernel
theorem dX5_kinds_42 : decode cX5_kinds 42 = .ok (.aaload, 1) := by decide +kernel
theorem dX5_kinds_43 : decode cX5_kinds 43 = .ok (.iload 5, 2) := by decide +kernel
theorem dX5_kinds_45 : decode cX5_kinds 45 = .ok (.putfield 166, 3) := by decide +kernel
theorem dX5_kinds_48 : decode cX5_kinds 48 = .ok (.aload_n 0, 1) := by decide +kernel
theorem dX5_kinds_49 : decode cX5_kinds 49 = .ok (.iload_n 2, 1) := by decide +kernel
theorem dX5_kinds_50 : decode cX5_kinds 50 = .ok (.aload_n 0, 1) := by decide +kernel
theorem dX5_kinds_51 : decode cX5_kinds 51 = .ok (.getfield 44, 3) := by decide +kernel
theorem dX5_kinds_54 : decode cX5_kinds 54 = .ok (.iload_n 1, 1) := by decide +kernel
theorem dX5_kinds_55 : decode cX5_kinds 55 = .ok (.aaload, 1) := by decide +kernel
theorem dX5_kinds_56 : decode cX5_kinds 56 = .ok (.invokevirtual 187, 3) := by decide +kernel
theorem dX5_kinds_59 : decode cX5_kinds 59 = .ok (.ifCond .eq 12, 3) := by decide +kernel
theorem dX5_kinds_62 : decode cX5_kinds 62 = .ok (.iload 4, 2) := by decide +kernel
theorem dX5_kinds_64 : decode cX5_kinds 64 = .ok (.iconst 1, 1) := by decide +kernel
theorem dX5_kinds_65 : decode cX5_kinds 65 = .ok (.iload 5, 2) := by decide +kernel
theorem dX5_kinds_67 : decode cX5_kinds 67 = .ok (.ishl, 1) := by decide +kernel
theorem dX5_kinds_68 : decode cX5_kinds 68 = .ok (.ior, 1) := by decide +kernel
theorem dX5_kinds_69 : decode cX5_kinds 69 = .ok (.istore 4, 2) := by decide +kernel
theorem dX5_kinds_71 : decode cX5_kinds 71 = .ok (.iinc 5 1, 3) := by decide +kernel
theorem dX5_kinds_74 : decode cX5_kinds 74 = .ok (.goto (-51), 3) := by decide +kernel
theorem dX5_kinds_77 : decode cX5_kinds 77 = .ok (.iload 4, 2) := by decide +kernel
theorem dX5_kinds_79 : decode cX5_kinds 79 = .ok (.ireturn, 1) := by decide +kernel
theorem dX5_chance_0 : decode cX5_chance 0 = .ok (.iload_n 1, 1) := by decide +kernel
theorem dX5_chance_1 : decode cX5_chance 1 = .ok (.iconst 1, 1) := by decide +kernel
theorem dX5_chance_2 : decode cX5_chance 2 = .ok (.if_icmp .lt 9, 3) := by decide +kernel
theorem dX5_chance_5 : decode cX5_chance 5 = .ok (.iload_n 1, 1) := by decide +kernel
theorem dX5_chance_6 : decode cX5_chance 6 = .ok (.bipush 20, 2) := by decide +kernel
theorem dX5_chance_8 : decode cX5_chance 8 = .ok (.if_icmp .le 10, 3) := by decide +kernel
theorem dX5_chance_11 : decode cX5_chance 11 = .ok (.aload_n 0, 1) := by decide +kernel
theorem dX5_chance_12 : decode cX5_chance 12 = .ok (.ldc 57, 2) := by decide +kernel
theorem dX5_chance_14 : decode cX5_chance 14 = .ok (.invokevirtual 58, 3) := by decide +kernel
theorem dX5_chance_17 : decode cX5_chance 17 = .ok (.ireturn, 1) := by decide +kernel
theorem dX5_chance_18 : decode cX5_chance 18 = .ok (.aload_n 0, 1) := by decide +kernel
theorem dX5_chance_19 : decode cX5_chance 19 = .ok (.getfield 12, 3) := by decide +kernel
theorem dX5_chance_22 : decode cX5_chance 22 = .ok (.getfield 115, 3) := by decide +kernel
theorem dX5_chance_25 : decode cX5_chance 25 = .ok (.iload_n 1, 1) := by decide +kernel
theorem dX5_chance_26 : decode cX5_chance 26 = .ok (.iadd, 1) := by decide +kernel
theorem dX5_chance_27 : decode cX5_chance 27 = .ok (.ldc 118, 2) := by decide +kernel
theorem dX5_chance_29 : decode cX5_chance 29 = .ok (.if_icmp .le 10, 3) := by decide +kernel
theorem dX5_chance_32 : decode cX5_chance 32 = .ok (.aload_n 0, 1) := by decide +kernel
theorem dX5_chance_33 : decode cX5_chance 33 = .ok (.ldc 107, 2) := by decide +kernel
theorem dX5_chance_35 : decode cX5_chance 35 = .ok (.invokevirtual 58, 3) := by decide +kernel
theorem dX5_chance_38 : decode cX5_chance 38 = .ok (.ireturn, 1) := by decide +kernel
theorem dX5_chance_39 : decode cX5_chance 39 = .ok (.iconst 0, 1) := by decide +kernel
theorem dX5_chance_40 : decode cX5_chance 40 = .ok (.istore_n 2, 1) := by decide +kernel
theorem dX5_chance_41 : decode cX5_chance 41 = .ok (.iload_n 2, 1) := by decide +kernel
theorem dX5_chance_42 : decode cX5_chance 42 = .ok (.iload_n 1, 1) := by decide +kernel
theorem dX5_chance_43 : decode cX5_chance 43 = .ok (.if_icmp .ge 16, 3) := by decide +kernel
theorem dX5_chance_46 : decode cX5_chance 46 = .ok (.aload_n 0, 1) := by decide +kernel
theorem dX5_chance_47 : decode cX5_chance 47 = .ok (.getfield 12, 3) := by decide +kernel
theorem dX5_chance_50 : decode cX5_chance 50 = .ok (.invokevirtual 191, 3) := by decide +kernel
theorem dX5_chance_53 : decode cX5_chance 53 = .ok (.iinc 2 1, 3) := by decide +kernel
theorem dX5_chance_56 : decode cX5_chance 56 = .ok (.goto (-15), 3) := by decide +kernel
theorem dX5_chance_59 : decode cX5_chance 59 = .ok (.aload_n 0, 1) := by decide +kernel
theorem dX5_chance_60 : decode cX5_chance 60 = .ok (.getfield 12, 3) := by decide +kernel
theorem dX5_chance_63 : decode cX5_chance 63 = .ok (.getfield 122, 3) := by decide +kernel
theorem dX5_chance_66 : decode cX5_chance 66 = .ok (.ireturn, 1) := by decide +kernel
theorem dX5_odds_0 : decode cX5_odds 0 = .ok (.aload_n 0, 1) := by decide +kernel
theorem dX5_odds_1 : decode cX5_odds 1 = .ok (.iload_n 1, 1) := by decide +kernel
theorem dX5_odds_2 : decode cX5_odds 2 = .ok (.invokevirtual 73, 3) := by decide +kernel
theorem dX5_odds_5 : decode cX5_odds 5 = .ok (.ifCond .eq 20, 3) := by decide +kernel
theorem dX5_odds_8 : decode cX5_odds 8 = .ok (.iload_n 2, 1) := by decide +kernel
theorem dX5_odds_9 : decode cX5_odds 9 = .ok (.bipush 17, 2) := by decide +kernel
theorem dX5_odds_11 : decode cX5_odds 11 = .ok (.invokestatic 53, 3) := by decide +kernel
theorem dX5_odds_14 : decode cX5_odds 14 = .ok (.ifCond .eq 11, 3) := by decide +kernel
theorem dX5_odds_17 : decode cX5_odds 17 = .ok (.iload_n 3, 1) := by decide +kernel
theorem dX5_odds_18 : decode cX5_odds 18 = .ok (.iconst 1, 1) := by decide +kernel
theorem dX5_odds_19 : decode cX5_odds 19 = .ok (.invokestatic 53, 3) := by decide +kernel
theorem dX5_odds_22 : decode cX5_odds 22 = .ok (.ifCond .ne 11, 3) := by decide +kernel
theorem dX5_odds_25 : decode cX5_odds 25 = .ok (.aload_n 0, 1) := by decide +kernel
theorem dX5_odds_26 : decode cX5_odds 26 = .ok (.ldc 57, 2) := by decide +kernel
theorem dX5_odds_28 : decode cX5_odds 28 = .ok (.invokevirtual 58, 3) := by decide +kernel
theorem dX5_odds_31 : decode cX5_odds 31 = .ok (.i2l, 1) := by decide +kernel
theorem dX5_odds_32 : decode cX5_odds 32 = .ok (.lreturn, 1) := by decide +kernel
theorem dX5_odds_33 : decode cX5_odds 33 = .ok (.aload_n 0, 1) := by decide +kernel
theorem dX5_odds_34 : decode cX5_odds 34 = .ok (.getfield 12, 3) := by decide +kernel
theorem dX5_odds_37 : decode cX5_odds 37 = .ok (.getfield 77, 3) := by decide +kernel
theorem dX5_odds_40 : decode cX5_odds 40 = .ok (.iload_n 1, 1) := by decide +kernel
theorem dX5_odds_41 : decode cX5_odds 41 = .ok (.aaload, 1) := by decide +kernel
theorem dX5_odds_42 : decode cX5_odds 42 = .ok (.getfield 112, 3) := by decide +kernel
theorem dX5_odds_45 : decode cX5_odds 45 = .ok (.invokestatic 154, 3) := by decide +kernel
theorem dX5_odds_48 : decode cX5_odds 48 = .ok (.istore 4, 2) := by decide +kernel
theorem dX5_odds_50 : decode cX5_odds 50 = .ok (.iload 4, 2) := by decide +kernel
theorem dX5_odds_52 : decode cX5_odds 52 = .ok (.istore 5, 2) := by decide +kernel
theorem dX5_odds_54 : decode cX5_odds 54 = .ok (.bipush 12, 2) := by decide +kernel
theorem dX5_odds_56 : decode cX5_odds 56 = .ok (.istore 6, 2) := by decide +kernel
theorem dX5_odds_58 : decode cX5_odds 58 = .ok (.bipush 12, 2) := by decide +kernel
theorem dX5_odds_60 : decode cX5_odds 60 = .ok (.istore 7, 2) := by decide +kernel
theorem dX5_odds_62 : decode cX5_odds 62 = .ok (.iload 7, 2) := by decide +kernel
theorem dX5_odds_64 : decode cX5_odds 64 = .ok (.iconst 1, 1) := by decide +kernel
theorem dX5_odds_65 : decode cX5_odds 65 = .ok (.if_icmp .le 39, 3) := by decide +kernel
theorem dX5_odds_68 : decode cX5_odds 68 = .ok (.iload 5, 2) := by decide +kernel
theorem dX5_odds_70 : decode cX5_odds 70 = .ok (.iload 7, 2) := by decide +kernel
theorem dX5_odds_72 : decode cX5_odds 72 = .ok (.irem, 1) := by decide +kernel
theorem dX5_odds_73 : decode cX5_odds 73 = .ok (.ifCond .ne 25, 3) := by decide +kernel
theorem dX5_odds_76 : decode cX5_odds 76 = .ok (.iload 6, 2) := by decide +kernel
theorem dX5_odds_78 : decode cX5_odds 78 = .ok (.iload 7, 2) := by decide +kernel
theorem dX5_odds_80 : decode cX5_odds 80 = .ok (.irem, 1) := by decide +kernel
theorem dX5_odds_81 : decode cX5_odds 81 = .ok (.ifCond .ne 17, 3) := by decide +kernel
theorem dX5_odds_84 : decode cX5_odds 84 = .ok (.iload 5, 2) := by decide +kernel
theorem dX5_odds_86 : decode cX5_odds 86 = .ok (.iload 7, 2) := by decide +kernel
theorem dX5_odds_88 : decode cX5_odds 88 = .ok (.idiv, 1) := by decide +kernel
theorem dX5_odds_89 : decode cX5_odds 89 = .ok (.istore 5, 2) := by decide +kernel
theorem dX5_odds_91 : decode cX5_odds 91 = .ok (.iload 6, 2) := by decide +kernel
theorem dX5_odds_93 : decode cX5_odds 93 = .ok (.iload 7, 2) := by decide +kernel
theorem dX5_odds_95 : decode cX5_odds 95 = .ok (.idiv, 1) := by decide +kernel
theorem dX5_odds_96 : decode cX5_odds 96 = .ok (.istore 6, 2) := by decide +kernel
theorem dX5_odds_98 : decode cX5_odds 98 = .ok (.iinc 7 (-1), 3) := by decide +kernel
theorem dX5_odds_101 : decode cX5_odds 101 = .ok (.goto (-39), 3) := by decide +kernel
theorem dX5_odds_104 : decode cX5_odds 104 = .ok (.iload_n 3, 1) := by decide +kernel
theorem dX5_odds_105 : decode cX5_odds 105 = .ok (.ifCond .ne 9, 3) := by decide +kernel
theorem dX5_odds_108 : decode cX5_odds 108 = .ok (.iload 5, 2) := by decide +kernel
theorem dX5_odds_110 : decode cX5_odds 110 = .ok (.i2l, 1) := by decide +kernel
theorem dX5_odds_111 : decode cX5_odds 111 = .ok (.goto 6, 3) := by decide +kernel
theorem dX5_odds_114 : decode cX5_odds 114 = .ok (.iload 6, 2) := by decide +kernel
theorem dX5_odds_116 : decode cX5_odds 116 = .ok (.i2l, 1) := by decide +kernel
theorem dX5_odds_117 : decode cX5_odds 117 = .ok (.iload_n 2, 1) := by decide +kernel
theorem dX5_odds_118 : decode cX5_odds 118 = .ok (.invokestatic 194, 3) := by decide +kernel
theorem dX5_odds_121 : decode cX5_odds 121 = .ok (.lreturn, 1) := by decide +kernel
theorem dX5_seed_0 : decode cX5_seed 0 = .ok (.aload_n 0, 1) := by decide +kernel
theorem dX5_seed_1 : decode cX5_seed 1 = .ok (.getfield 12, 3) := by decide +kernel
theorem dX5_seed_4 : decode cX5_seed 4 = .ok (.getfield 198, 3) := by decide +kernel
theorem dX5_seed_7 : decode cX5_seed 7 = .ok (.istore_n 2, 1) := by decide +kernel
theorem dX5_seed_8 : decode cX5_seed 8 = .ok (.aload_n 0, 1) := by decide +kernel
theorem dX5_seed_9 : decode cX5_seed 9 = .ok (.getfield 12, 3) := by decide +kernel
theorem dX5_seed_12 : decode cX5_seed 12 = .ok (.iload_n 1, 1) := by decide +kernel
theorem dX5_seed_13 : decode cX5_seed 13 = .ok (.putfield 198, 3) := by decide +kernel
theorem dX5_seed_16 : decode cX5_seed 16 = .ok (.iload_n 2, 1) := by decide +kernel
theorem dX5_seed_17 : decode cX5_seed 17 = .ok (.ireturn, 1) := by decide +kernel
theorem dX5_feed_0 : decode cX5_feed 0 = .ok (.iload_n 2, 1) := by decide +kernel
theorem dX5_feed_1 : decode cX5_feed 1 = .ok (.iconst 1, 1) := by decide +kernel
theorem dX5_feed_2 : decode cX5_feed 2 = .ok (.if_icmp .lt 8, 3) := by decide +kernel
theorem dX5_feed_5 : decode cX5_feed 5 = .ok (.iload_n 2, 1) := by decide +kernel
theorem dX5_feed_6 : decode cX5_feed 6 = .ok (.iconst 4, 1) := by decide +kernel
theorem dX5_feed_7 : decode cX5_feed 7 = .ok (.if_icmp .le 10, 3) := by decide +kernel
theorem dX5_feed_10 : decode cX5_feed 10 = .ok (.aload_n 0, 1) := by decide +kernel
theorem dX5_feed_11 : decode cX5_feed 11 = .ok (.ldc 57, 2) := by decide +kernel
theorem dX5_feed_13 : decode cX5_feed 13 = .ok (.invokevirtual 58, 3) := by decide +kernel
theorem dX5_feed_16 : decode cX5_feed 16 = .ok (.ireturn, 1) := by decide +kernel
theorem dX5_feed_17 : decode cX5_feed 17 = .ok (.aload_n 0, 1) := by decide +kernel
theorem dX5_feed_18 : decode cX5_feed 18 = .ok (.getfield 29, 3) := by decide +kernel
theorem dX5_feed_21 : decode cX5_feed 21 = .ok (.getfield 201, 3) := by decide +kernel
theorem dX5_feed_24 : decode cX5_feed 24 = .ok (.iload_n 2, 1) := by decide +kernel
theorem dX5_feed_25 : decode cX5_feed 25 = .ok (.iadd, 1) := by decide +kernel
theorem dX5_feed_26 : decode cX5_feed 26 = .ok (.bipush 120, 2) := by decide +kernel
theorem dX5_feed_28 : decode cX5_feed 28 = .ok (.if_icmp .le 10, 3) := by decide +kernel
theorem dX5_feed_31 : decode cX5_feed 31 = .ok (.aload_n 0, 1) := by decide +kernel
theorem dX5_feed_32 : decode cX5_feed 32 = .ok (.ldc 72, 2) := by decide +kernel
theorem dX5_feed_34 : decode cX5_feed 34 = .ok (.invokevirtual 58, 3) := by decide +kernel
theorem dX5_feed_37 : decode cX5_feed 37 = .ok (.ireturn, 1) := by decide +kernel
theorem dX5_feed_38 : decode cX5_feed 38 = .ok (.iload_n 2, 1) := by decide +kernel
theorem dX5_feed_39 : decode cX5_feed 39 = .ok (.iconst 1, 1) := by decide +kernel
theorem dX5_feed_40 : decode cX5_feed 40 = .ok (.isub, 1) := by decide +kernel
theorem dX5_feed_41 : decode cX5_feed 41 = .ok (.istore_n 3, 1) := by decide +kernel
theorem dX5_feed_42 : decode cX5_feed 42 = .ok (.iload_n 3, 1) := by decide +kernel
theorem dX5_feed_43 : decode cX5_feed 43 = .ok (.ifCond .lt 26, 3) := by decide +kernel
theorem dX5_feed_46 : decode cX5_feed 46 = .ok (.aload_n 0, 1) := by decide +kernel
theorem dX5_feed_47 : decode cX5_feed 47 = .ok (.getfield 29, 3) := by decide +kernel
theorem dX5_feed_50 : decode cX5_feed 50 = .ok (.iload_n 1, 1) := by decide +kernel
theorem dX5_feed_51 : decode cX5_feed 51 = .ok (.bipush 8, 2) := by decide +kernel
theorem dX5_feed_53 : decode cX5_feed 53 = .ok (.iload_n 3, 1) := by decide +kernel
theorem dX5_feed_54 : decode cX5_feed 54 = .ok (.imul, 1) := by decide +kernel
theorem dX5_feed_55 : decode cX5_feed 55 = .ok (.iushr, 1) := by decide +kernel
theorem dX5_feed_56 : decode cX5_feed 56 = .ok (.sipush 255, 3) := by decide +kernel
theorem dX5_feed_59 : decode cX5_feed 59 = .ok (.iand, 1) := by decide +kernel
theorem dX5_feed_60 : decode cX5_feed 60 = .ok (.invokevirtual 204, 3) := by decide +kernel
theorem dX5_feed_63 : decode cX5_feed 63 = .ok (.iinc 3 (-1), 3) := by decide +kernel
theorem dX5_feed_66 : decode cX5_feed 66 = .ok (.goto (-24), 3) := by decide +kernel
theorem dX5_feed_69 : decode cX5_feed 69 = .ok (.aload_n 0, 1) := by decide +kernel
theorem dX5_feed_70 : decode cX5_feed 70 = .ok (.getfield 29, 3) := by decide +kernel
theorem dX5_feed_73 : decode cX5_feed 73 = .ok (.getfield 201, 3) := by decide +kernel
theorem dX5_feed_76 : decode cX5_feed 76 = .ok (.ireturn, 1) := by decide +kernel
theorem dX5_wipe_0 : decode cX5_wipe 0 = .ok (.aload_n 0, 1) := by decide +kernel
theorem dX5_wipe_1 : decode cX5_wipe 1 = .ok (.getfield 29, 3) := by decide +kernel
theorem dX5_wipe_4 : decode cX5_wipe 4 = .ok (.getfield 201, 3) := by decide +kernel
theorem dX5_wipe_7 : decode cX5_wipe 7 = .ok (.istore_n 1, 1) := by decide +kernel
theorem dX5_wipe_8 : decode cX5_wipe 8 = .ok (.aload_n 0, 1) := by decide +kernel
theorem dX5_wipe_9 : decode cX5_wipe 9 = .ok (.getfield 29, 3) := by decide +kernel
theorem dX5_wipe_12 : decode cX5_wipe 12 = .ok (.iconst 0, 1) := by decide +kernel
theorem dX5_wipe_13 : decode cX5_wipe 13 = .ok (.putfield 201, 3) := by decide +kernel
theorem dX5_wipe_16 : decode cX5_wipe 16 = .ok (.iload_n 1, 1) := by decide +kernel
theorem dX5_wipe_17 : decode cX5_wipe 17 = .ok (.ireturn, 1) := by decide +kernel
theorem dX5_text_0 : decode cX5_text 0 = .ok (.aload_n 0, 1) := by decide +kernel
theorem dX5_text_1 : decode cX5_text 1 = .ok (.invokevirtual 144, 3) := by decide +kernel
theorem dX5_text_4 : decode cX5_text 4 = .ok (.aload_n 0, 1) := by decide +kernel
theorem dX5_text_5 : decode cX5_text 5 = .ok (.getfield 38, 3) := by decide +kernel
theorem dX5_text_8 : decode cX5_text 8 = .ok (.invokevirtual 207, 3) := by decide +kernel
theorem dX5_text_11 : decode cX5_text 11 = .ok (.istore_n 1, 1) := by decide +kernel
theorem dX5_text_12 : decode cX5_text 12 = .ok (.aload_n 0, 1) := by decide +kernel
theorem dX5_text_13 : decode cX5_text 13 = .ok (.getfield 29, 3) := by decide +kernel
theorem dX5_text_16 : decode cX5_text 16 = .ok (.iconst 0, 1) := by decide +kernel
theorem dX5_text_17 : decode cX5_text 17 = .ok (.putfield 201, 3) := by decide +kernel
theorem dX5_text_20 : decode cX5_text 20 = .ok (.iload_n 1, 1) := by decide +kernel
theorem dX5_text_21 : decode cX5_text 21 = .ok (.ifCond .le 14, 3) := by decide +kernel
theorem dX5_text_24 : decode cX5_text 24 = .ok (.aload_n 0, 1) := by decide +kernel
theorem dX5_text_25 : decode cX5_text 25 = .ok (.getfield 12, 3) := by decide +kernel
theorem dX5_text_28 : decode cX5_text 28 = .ok (.aload_n 0, 1) := by decide +kernel
theorem dX5_text_29 : decode cX5_text 29 = .ok (.getfield 16, 3) := by decide +kernel
theorem dX5_text_32 : decode cX5_text 32 = .ok (.invokevirtual 210, 3) := by decide +kernel
theorem dX5_text_35 : decode cX5_text 35 = .ok (.iload_n 1, 1) := by decide +kernel
theorem dX5_text_36 : decode cX5_text 36 = .ok (.ireturn, 1) := by decide +kernel
theorem dX5_hold_0 : decode cX5_hold 0 = .ok (.iload_n 1, 1) := by decide +kernel
theorem dX5_hold_1 : decode cX5_hold 1 = .ok (.bipush 9, 2) := by decide +kernel
theorem dX5_hold_3 : decode cX5_hold 3 = .ok (.invokestatic 53, 3) := by decide +kernel
theorem dX5_hold_6 : decode cX5_hold 6 = .ok (.ifCond .eq 16, 3) := by decide +kernel
theorem dX5_hold_9 : decode cX5_hold 9 = .ok (.iload_n 2, 1) := by decide +kernel
theorem dX5_hold_10 : decode cX5_hold 10 = .ok (.iconst (-1), 1) := by decide +kernel
theorem dX5_hold_11 : decode cX5_hold 11 = .ok (.if_icmp .eq 18, 3) := by decide +kernel
theorem dX5_hold_14 : decode cX5_hold 14 = .ok (.aload_n 0, 1) := by decide +kernel
theorem dX5_hold_15 : decode cX5_hold 15 = .ok (.iload_n 2, 1) := by decide +kernel
theorem dX5_hold_16 : decode cX5_hold 16 = .ok (.invokevirtual 73, 3) := by decide +kernel
theorem dX5_hold_19 : decode cX5_hold 19 = .ok (.ifCond .ne 10, 3) := by decide +kernel
theorem dX5_hold_22 : decode cX5_hold 22 = .ok (.aload_n 0, 1) := by decide +kernel
theorem dX5_hold_23 : decode cX5_hold 23 = .ok (.ldc 57, 2) := by decide +kernel
theorem dX5_hold_25 : decode cX5_hold 25 = .ok (.invokevirtual 58, 3) := by decide +kernel
theorem dX5_hold_28 : decode cX5_hold 28 = .ok (.ireturn, 1) := by decide +kernel
theorem dX5_hold_29 : decode cX5_hold 29 = .ok (.aload_n 0, 1) := by decide +kernel
theorem dX5_hold_30 : decode cX5_hold 30 = .ok (.getfield 12, 3) := by decide +kernel
theorem dX5_hold_33 : decode cX5_hold 33 = .ok (.getfield 214, 3) := by decide +kernel
theorem dX5_hold_36 : decode cX5_hold 36 = .ok (.iload_n 1, 1) := by decide +kernel
theorem dX5_hold_37 : decode cX5_hold 37 = .ok (.iload_n 2, 1) := by decide +kernel
theorem dX5_hold_38 : decode cX5_hold 38 = .ok (.iastore, 1) := by decide +kernel
theorem dX5_hold_39 : decode cX5_hold 39 = .ok (.iconst 1, 1) := by decide +kernel
theorem dX5_hold_40 : decode cX5_hold 40 = .ok (.ireturn, 1) := by decide +kernel
theorem dX5_as_0 : decode cX5_as 0 = .ok (.iload_n 1, 1) := by decide +kernel
theorem dX5_as_1 : decode cX5_as 1 = .ok (.bipush 9, 2) := by decide +kernel
theorem dX5_as_3 : decode cX5_as 3 = .ok (.invokestatic 53, 3) := by decide +kernel
theorem dX5_as_6 : decode cX5_as 6 = .ok (.ifCond .eq 12, 3) := by decide +kernel
theorem dX5_as_9 : decode cX5_as 9 = .ok (.iload_n 2, 1) := by decide +kernel
theorem dX5_as_10 : decode cX5_as 10 = .ok (.bipush 6, 2) := by decide +kernel
theorem dX5_as_12 : decode cX5_as 12 = .ok (.invokestatic 53, 3) := by decide +kernel
theorem dX5_as_15 : decode cX5_as 15 = .ok (.ifCond .ne 10, 3) := by decide +kernel
theorem dX5_as_18 : decode cX5_as 18 = .ok (.aload_n 0, 1) := by decide +kernel
theorem dX5_as_19 : decode cX5_as 19 = .ok (.ldc 57, 2) := by decide +kernel
theorem dX5_as_21 : decode cX5_as 21 = .ok (.invokevirtual 58, 3) := by decide +kernel
theorem dX5_as_24 : decode cX5_as 24 = .ok (.ireturn, 1) := by decide +kernel
theorem dX5_as_25 : decode cX5_as 25 = .ok (.aload_n 0, 1) := by decide +kernel
theorem dX5_as_26 : decode cX5_as 26 = .ok (.getfield 12, 3) := by decide +kernel
theorem dX5_as_29 : decode cX5_as 29 = .ok (.getfield 214, 3) := by decide +kernel
theorem dX5_as_32 : decode cX5_as 32 = .ok (.iload_n 1, 1) := by decide +kernel
theorem dX5_as_33 : decode cX5_as 33 = .ok (.iaload, 1) := by decide +kernel
theorem dX5_as_34 : decode cX5_as 34 = .ok (.istore_n 3, 1) := by decide +kernel
theorem dX5_as_35 : decode cX5_as 35 = .ok (.aload_n 0, 1) := by decide +kernel
theorem dX5_as_36 : decode cX5_as 36 = .ok (.iload_n 3, 1) := by decide +kernel
theorem dX5_as_37 : decode cX5_as 37 = .ok (.invokevirtual 73, 3) := by decide +kernel
theorem dX5_as_40 : decode cX5_as 40 = .ok (.ifCond .ne 10, 3) := by decide +kernel
theorem dX5_as_43 : decode cX5_as 43 = .ok (.aload_n 0, 1) := by decide +kernel
theorem dX5_as_44 : decode cX5_as 44 = .ok (.ldc 217, 2) := by decide +kernel
theorem dX5_as_46 : decode cX5_as 46 = .ok (.invokevirtual 58, 3) := by decide +kernel
theorem dX5_as_49 : decode cX5_as 49 = .ok (.ireturn, 1) := by decide +kernel
theorem dX5_as_50 : decode cX5_as 50 = .ok (.aload_n 0, 1) := by decide +kernel
theorem dX5_as_51 : decode cX5_as 51 = .ok (.getfield 12, 3) := by decide +kernel
theorem dX5_as_54 : decode cX5_as 54 = .ok (.getfield 77, 3) := by decide +kernel
theorem dX5_as_57 : decode cX5_as 57 = .ok (.iload_n 3, 1) := by decide +kernel
theorem dX5_as_58 : decode cX5_as 58 = .ok (.aaload, 1) := by decide +kernel
theorem dX5_as_59 : decode cX5_as 59 = .ok (.iload_n 2, 1) := by decide +kernel
theorem dX5_as_60 : decode cX5_as 60 = .ok (.invokevirtual 218, 3) := by decide +kernel
theorem dX5_as_63 : decode cX5_as 63 = .ok (.ifCond .eq 7, 3) := by decide +kernel
theorem dX5_as_66 : decode cX5_as 66 = .ok (.iload_n 3, 1) := by decide +kernel
theorem dX5_as_67 : decode cX5_as 67 = .ok (.goto 9, 3) := by decide +kernel
theorem dX5_as_70 : decode cX5_as 70 = .ok (.aload_n 0, 1) := by decide +kernel
theorem dX5_as_71 : decode cX5_as 71 = .ok (.ldc 221, 2) := by decide +kernel
theorem dX5_as_73 : decode cX5_as 73 = .ok (.invokevirtual 58, 3) := by decide +kernel
theorem dX5_as_76 : decode cX5_as 76 = .ok (.ireturn, 1) := by decide +kernel
theorem dX5_sheet_0 : decode cX5_sheet 0 = .ok (.aload_n 0, 1) := by decide +kernel
theorem dX5_sheet_1 : decode cX5_sheet 1 = .ok (.iload_n 1, 1) := by decide +kernel
theorem dX5_sheet_2 : decode cX5_sheet 2 = .ok (.invokevirtual 222, 3) := by decide +kernel
theorem dX5_sheet_5 : decode cX5_sheet 5 = .ok (.ifCond .eq 25, 3) := by decide +kernel
theorem dX5_sheet_8 : decode cX5_sheet 8 = .ok (.iload_n 2, 1) := by decide +kernel
theorem dX5_sheet_9 : decode cX5_sheet 9 = .ok (.ifCond .eq 28, 3) := by decide +kernel
theorem dX5_sheet_12 : decode cX5_sheet 12 = .ok (.iload_n 2, 1) := by decide +kernel
theorem dX5_sheet_13 : decode cX5_sheet 13 = .ok (.bipush 8, 2) := by decide +kernel
theorem dX5_sheet_15 : decode cX5_sheet 15 = .ok (.if_icmp .eq 22, 3) := by decide +kernel
theorem dX5_sheet_18 : decode cX5_sheet 18 = .ok (.iload_n 2, 1) := by decide +kernel
theorem dX5_sheet_19 : decode cX5_sheet 19 = .ok (.bipush 16, 2) := by decide +kernel
theorem dX5_sheet_21 : decode cX5_sheet 21 = .ok (.if_icmp .eq 16, 3) := by decide +kernel
theorem dX5_sheet_24 : decode cX5_sheet 24 = .ok (.iload_n 2, 1) := by decide +kernel
theorem dX5_sheet_25 : decode cX5_sheet 25 = .ok (.bipush 32, 2) := by decide +kernel
theorem dX5_sheet_27 : decode cX5_sheet 27 = .ok (.if_icmp .eq 10, 3) := by decide +kernel
theorem dX5_sheet_30 : decode cX5_sheet 30 = .ok (.aload_n 0, 1) := by decide +kernel
theorem dX5_sheet_31 : decode cX5_sheet 31 = .ok (.ldc 57, 2) := by decide +kernel
theorem dX5_sheet_33 : decode cX5_sheet 33 = .ok (.invokevirtual 58, 3) := by decide +kernel
theorem dX5_sheet_36 : decode cX5_sheet 36 = .ok (.ireturn, 1) := by decide +kernel
theorem dX5_sheet_37 : decode cX5_sheet 37 = .ok (.iload_n 3, 1) := by decide +kernel
theorem dX5_sheet_38 : decode cX5_sheet 38 = .ok (.ifCond .ge 10, 3) := by decide +kernel
theorem dX5_sheet_41 : decode cX5_sheet 41 = .ok (.aload_n 0, 1) := by decide +kernel
theorem dX5_sheet_42 : decode cX5_sheet 42 = .ok (.ldc 225, 2) := by decide +kernel
theorem dX5_sheet_44 : decode cX5_sheet 44 = .ok (.invokevirtual 58, 3) := by decide +kernel
theorem dX5_sheet_47 : decode cX5_sheet 47 = .ok (.ireturn, 1) := by decide +kernel
theorem dX5_sheet_48 : decode cX5_sheet 48 = .ok (.iload_n 3, 1) := by decide +kernel
theorem dX5_sheet_49 : decode cX5_sheet 49 = .ok (.bipush 40, 2) := by decide +kernel
theorem dX5_sheet_51 : decode cX5_sheet 51 = .ok (.if_icmp .le 10, 3) := by decide +kernel
theorem dX5_sheet_54 : decode cX5_sheet 54 = .ok (.aload_n 0, 1) := by decide +kernel
theorem dX5_sheet_55 : decode cX5_sheet 55 = .ok (.ldc 57, 2) := by decide +kernel
theorem dX5_sheet_57 : decode cX5_sheet 57 = .ok (.invokevirtual 58, 3) := by decide +kernel
theorem dX5_sheet_60 : decode cX5_sheet 60 = .ok (.ireturn, 1) := by decide +kernel
theorem dX5_sheet_61 : decode cX5_sheet 61 = .ok (.aload_n 0, 1) := by decide +kernel
theorem dX5_sheet_62 : decode cX5_sheet 62 = .ok (.getfield 44, 3) := by decide +kernel
theorem dX5_sheet_65 : decode cX5_sheet 65 = .ok (.iload_n 1, 1) := by decide +kernel
theorem dX5_sheet_66 : decode cX5_sheet 66 = .ok (.aaload, 1) := by decide +kernel
theorem dX5_sheet_67 : decode cX5_sheet 67 = .ok (.iload_n 2, 1) := by decide +kernel
theorem dX5_sheet_68 : decode cX5_sheet 68 = .ok (.iload_n 3, 1) := by decide +kernel
theorem dX5_sheet_69 : decode cX5_sheet 69 = .ok (.invokevirtual 226, 3) := by decide +kernel
theorem dX5_sheet_72 : decode cX5_sheet 72 = .ok (.aload_n 0, 1) := by decide +kernel
theorem dX5_sheet_73 : decode cX5_sheet 73 = .ok (.getfield 44, 3) := by decide +kernel
theorem dX5_sheet_76 : decode cX5_sheet 76 = .ok (.iload_n 1, 1) := by decide +kernel
theorem dX5_sheet_77 : decode cX5_sheet 77 = .ok (.aaload, 1) := by decide +kernel
theorem dX5_sheet_78 : decode cX5_sheet 78 = .ok (.getfield 229, 3) := by decide +kernel
theorem dX5_sheet_81 : decode cX5_sheet 81 = .ok (.ireturn, 1) := by decide +kernel
theorem dX5_write_0 : decode cX5_write 0 = .ok (.aload_n 0, 1) := by decide +kernel
theorem dX5_write_1 : decode cX5_write 1 = .ok (.iload_n 1, 1) := by decide +kernel
theorem dX5_write_2 : decode cX5_write 2 = .ok (.invokevirtual 232, 3) := by decide +kernel
theorem dX5_write_5 : decode cX5_write 5 = .ok (.istore 4, 2) := by decide +kernel
theorem dX5_write_7 : decode cX5_write 7 = .ok (.iload 4, 2) := by decide +kernel
theorem dX5_write_9 : decode cX5_write 9 = .ok (.ifCond .eq 10, 3) := by decide +kernel
theorem dX5_write_12 : decode cX5_write 12 = .ok (.aload_n 0, 1) := by decide +kernel
theorem dX5_write_13 : decode cX5_write 13 = .ok (.iload 4, 2) := by decide +kernel
theorem dX5_write_15 : decode cX5_write 15 = .ok (.invokevirtual 58, 3) := by decide +kernel
theorem dX5_write_18 : decode cX5_write 18 = .ok (.ireturn, 1) := by decide +kernel
theorem dX5_write_19 : decode cX5_write 19 = .ok (.iload_n 2, 1) := by decide +kernel
theorem dX5_write_20 : decode cX5_write 20 = .ok (.aload_n 0, 1) := by decide +kernel
theorem dX5_write_21 : decode cX5_write 21 = .ok (.getfield 44, 3) := by decide +kernel
theorem dX5_write_24 : decode cX5_write 24 = .ok (.iload_n 1, 1) := by decide +kernel
theorem dX5_write_25 : decode cX5_write 25 = .ok (.aaload, 1) := by decide +kernel
theorem dX5_write_26 : decode cX5_write 26 = .ok (.getfield 229, 3) := by decide +kernel
theorem dX5_write_29 : decode cX5_write 29 = .ok (.iconst 1, 1) := by decide +kernel
theorem dX5_write_30 : decode cX5_write 30 = .ok (.isub, 1) := by decide +kernel
theorem dX5_write_31 : decode cX5_write 31 = .ok (.invokestatic 53, 3) := by decide +kernel
theorem dX5_write_34 : decode cX5_write 34 = .ok (.ifCond .ne 10, 3) := by decide +kernel
theorem dX5_write_37 : decode cX5_write 37 = .ok (.aload_n 0, 1) := by decide +kernel
theorem dX5_write_38 : decode cX5_write 38 = .ok (.ldc 57, 2) := by decide +kernel
theorem dX5_write_40 : decode cX5_write 40 = .ok (.invokevirtual 58, 3) := by decide +kernel
theorem dX5_write_43 : decode cX5_write 43 = .ok (.ireturn, 1) := by decide +kernel
theorem dX5_write_44 : decode cX5_write 44 = .ok (.aload_n 0, 1) := by decide +kernel
theorem dX5_write_45 : decode cX5_write 45 = .ok (.getfield 44, 3) := by decide +kernel
theorem dX5_write_48 : decode cX5_write 48 = .ok (.iload_n 1, 1) := by decide +kernel
theorem dX5_write_49 : decode cX5_write 49 = .ok (.aaload, 1) := by decide +kernel
theorem dX5_write_50 : decode cX5_write 50 = .ok (.iload_n 2, 1) := by decide +kernel
theorem dX5_write_51 : decode cX5_write 51 = .ok (.iload_n 3, 1) := by decide +kernel
theorem dX5_write_52 : decode cX5_write 52 = .ok (.invokevirtual 235, 3) := by decide +kernel
theorem dX5_write_55 : decode cX5_write 55 = .ok (.iconst 1, 1) := by decide +kernel
theorem dX5_write_56 : decode cX5_write 56 = .ok (.ireturn, 1) := by decide +kernel
theorem dX5_copy_0 : decode cX5_copy 0 = .ok (.aload_n 0, 1) := by decide +kernel
theorem dX5_copy_1 : decode cX5_copy 1 = .ok (.iload_n 1, 1) := by decide +kernel
theorem dX5_copy_2 : decode cX5_copy 2 = .ok (.invokevirtual 222, 3) := by decide +kernel
theorem dX5_copy_5 : decode cX5_copy 5 = .ok (.ifCond .eq 11, 3) := by decide +kernel
theorem dX5_copy_8 : decode cX5_copy 8 = .ok (.aload_n 0, 1) := by decide +kernel
theorem dX5_copy_9 : decode cX5_copy 9 = .ok (.iload_n 3, 1) := by decide +kernel
theorem dX5_copy_10 : decode cX5_copy 10 = .ok (.invokevirtual 222, 3) := by decide +kernel
theorem dX5_copy_13 : decode cX5_copy 13 = .ok (.ifCond .ne 10, 3) := by decide +kernel
theorem dX5_copy_16 : decode cX5_copy 16 = .ok (.aload_n 0, 1) := by decide +kernel
theorem dX5_copy_17 : decode cX5_copy 17 = .ok (.ldc 57, 2) := by decide +kernel
theorem dX5_copy_19 : decode cX5_copy 19 = .ok (.invokevirtual 58, 3) := by decide +kernel
theorem dX5_copy_22 : decode cX5_copy 22 = .ok (.ireturn, 1) := by decide +kernel
theorem dX5_copy_23 : decode cX5_copy 23 = .ok (.aload_n 0, 1) := by decide +kernel
theorem dX5_copy_24 : decode cX5_copy 24 = .ok (.getfield 44, 3) := by decide +kernel
theorem dX5_copy_27 : decode cX5_copy 27 = .ok (.iload_n 1, 1) := by decide +kernel
theorem dX5_copy_28 : decode cX5_copy 28 = .ok (.aaload, 1) := by decide +kernel
theorem dX5_copy_29 : decode cX5_copy 29 = .ok (.invokevirtual 238, 3) := by decide +kernel
theorem dX5_copy_32 : decode cX5_copy 32 = .ok (.ifCond .ne 15, 3) := by decide +kernel
theorem dX5_copy_35 : decode cX5_copy 35 = .ok (.aload_n 0, 1) := by decide +kernel
theorem dX5_copy_36 : decode cX5_copy 36 = .ok (.getfield 44, 3) := by decide +kernel
theorem dX5_copy_39 : decode cX5_copy 39 = .ok (.iload_n 3, 1) := by decide +kernel
theorem dX5_copy_40 : decode cX5_copy 40 = .ok (.aaload, 1) := by decide +kernel
theorem dX5_copy_41 : decode cX5_copy 41 = .ok (.invokevirtual 238, 3) := by decide +kernel
theorem dX5_copy_44 : decode cX5_copy 44 = .ok (.ifCond .eq 10, 3) := by decide +kernel
theorem dX5_copy_47 : decode cX5_copy 47 = .ok (.aload_n 0, 1) := by decide +kernel
theorem dX5_copy_48 : decode cX5_copy 48 = .ok (.ldc 217, 2) := by decide +kernel
theorem dX5_copy_50 : decode cX5_copy 50 = .ok (.invokevirtual 58, 3) := by decide +kernel
theorem dX5_copy_53 : decode cX5_copy 53 = .ok (.ireturn, 1) := by decide +kernel
theorem dX5_copy_54 : decode cX5_copy 54 = .ok (.aload_n 0, 1) := by decide +kernel
theorem dX5_copy_55 : decode cX5_copy 55 = .ok (.getfield 44, 3) := by decide +kernel
theorem dX5_copy_58 : decode cX5_copy 58 = .ok (.iload_n 1, 1) := by decide +kernel
theorem dX5_copy_59 : decode cX5_copy 59 = .ok (.aaload, 1) := by decide +kernel
theorem dX5_copy_60 : decode cX5_copy 60 = .ok (.getfield 242, 3) := by decide +kernel
theorem dX5_copy_63 : decode cX5_copy 63 = .ok (.aload_n 0, 1) := by decide +kernel
theorem dX5_copy_64 : decode cX5_copy 64 = .ok (.getfield 44, 3) := by decide +kernel
theorem dX5_copy_67 : decode cX5_copy 67 = .ok (.iload_n 3, 1) := by decide +kernel
theorem dX5_copy_68 : decode cX5_copy 68 = .ok (.aaload, 1) := by decide +kernel
theorem dX5_copy_69 : decode cX5_copy 69 = .ok (.getfield 242, 3) := by decide +kernel
theorem dX5_copy_72 : decode cX5_copy 72 = .ok (.if_icmp .eq 10, 3) := by decide +kernel
theorem dX5_copy_75 : decode cX5_copy 75 = .ok (.aload_n 0, 1) := by decide +kernel
theorem dX5_copy_76 : decode cX5_copy 76 = .ok (.ldc 221, 2) := by decide +kernel
theorem dX5_copy_78 : decode cX5_copy 78 = .ok (.invokevirtual 58, 3) := by decide +kernel
theorem dX5_copy_81 : decode cX5_copy 81 = .ok (.ireturn, 1) := by decide +kernel
theorem dX5_copy_82 : decode cX5_copy 82 = .ok (.aload_n 0, 1) := by decide +kernel
theorem dX5_copy_83 : decode cX5_copy 83 = .ok (.getfield 44, 3) := by decide +kernel
theorem dX5_copy_86 : decode cX5_copy 86 = .ok (.iload_n 1, 1) := by decide +kernel
theorem dX5_copy_87 : decode cX5_copy 87 = .ok (.aaload, 1) := by decide +kernel
theorem dX5_copy_88 : decode cX5_copy 88 = .ok (.iload_n 2, 1) := by decide +kernel
theorem dX5_copy_89 : decode cX5_copy 89 = .ok (.iload 5, 2) := by decide +kernel
theorem dX5_copy_91 : decode cX5_copy 91 = .ok (.invokevirtual 245, 3) := by decide +kernel
theorem dX5_copy_94 : decode cX5_copy 94 = .ok (.ifCond .eq 19, 3) := by decide +kernel
theorem dX5_copy_97 : decode cX5_copy 97 = .ok (.aload_n 0, 1) := by decide +kernel
theorem dX5_copy_98 : decode cX5_copy 98 = .ok (.getfield 44, 3) := by decide +kernel
theorem dX5_copy_101 : decode cX5_copy 101 = .ok (.iload_n 3, 1) := by decide +kernel
theorem dX5_copy_102 : decode cX5_copy 102 = .ok (.aaload, 1) := by decide +kernel
theorem dX5_copy_103 : decode cX5_copy 103 = .ok (.iload 4, 2) := by decide +kernel
theorem dX5_copy_105 : decode cX5_copy 105 = .ok (.iload 5, 2) := by decide +kernel
theorem dX5_copy_107 : decode cX5_copy 107 = .ok (.invokevirtual 245, 3) := by decide +kernel
theorem dX5_copy_110 : decode cX5_copy 110 = .ok (.ifCond .ne 10, 3) := by decide +kernel
theorem dX5_copy_113 : decode cX5_copy 113 = .ok (.aload_n 0, 1) := by decide +kernel
theorem dX5_copy_114 : decode cX5_copy 114 = .ok (.ldc 57, 2) := by decide +kernel
theorem dX5_copy_116 : decode cX5_copy 116 = .ok (.invokevirtual 58, 3) := by decide +kernel
theorem dX5_copy_119 : decode cX5_copy 119 = .ok (.ireturn, 1) := by decide +kernel
theorem dX5_copy_120 : decode cX5_copy 120 = .ok (.aload_n 0, 1) := by decide +kernel
theorem dX5_copy_121 : decode cX5_copy 121 = .ok (.getfield 44, 3) := by decide +kernel
theorem dX5_copy_124 : decode cX5_copy 124 = .ok (.iload_n 1, 1) := by decide +kernel
theorem dX5_copy_125 : decode cX5_copy 125 = .ok (.aaload, 1) := by decide +kernel
theorem dX5_copy_126 : decode cX5_copy 126 = .ok (.getfield 248, 3) := by decide +kernel
theorem dX5_copy_129 : decode cX5_copy 129 = .ok (.iload_n 2, 1) := by decide +kernel
theorem dX5_copy_130 : decode cX5_copy 130 = .ok (.aload_n 0, 1) := by decide +kernel
theorem dX5_copy_131 : decode cX5_copy 131 = .ok (.getfield 44, 3) := by decide +kernel
theorem dX5_copy_134 : decode cX5_copy 134 = .ok (.iload_n 3, 1) := by decide +kernel
theorem dX5_copy_135 : decode cX5_copy 135 = .ok (.aaload, 1) := by decide +kernel
theorem dX5_copy_136 : decode cX5_copy 136 = .ok (.getfield 248, 3) := by decide +kernel
theorem dX5_copy_139 : decode cX5_copy 139 = .ok (.iload 4, 2) := by decide +kernel
theorem dX5_copy_141 : decode cX5_copy 141 = .ok (.iload 5, 2) := by decide +kernel
theorem dX5_copy_143 : decode cX5_copy 143 = .ok (.invokestatic 251, 3) := by decide +kernel
theorem dX5_copy_146 : decode cX5_copy 146 = .ok (.iload 5, 2) := by decide +kernel
theorem dX5_copy_148 : decode cX5_copy 148 = .ok (.ireturn, 1) := by decide +kernel
theorem dX5_load_0 : decode cX5_load 0 = .ok (.aload_n 0, 1) := by decide +kernel
theorem dX5_load_1 : decode cX5_load 1 = .ok (.iload_n 1, 1) := by decide +kernel
theorem dX5_load_2 : decode cX5_load 2 = .ok (.invokevirtual 232, 3) := by decide +kernel
theorem dX5_load_5 : decode cX5_load 5 = .ok (.istore_n 2, 1) := by decide +kernel
theorem dX5_load_6 : decode cX5_load 6 = .ok (.iload_n 2, 1) := by decide +kernel
theorem dX5_load_7 : decode cX5_load 7 = .ok (.ifCond .eq 9, 3) := by decide +kernel
theorem dX5_load_10 : decode cX5_load 10 = .ok (.aload_n 0, 1) := by decide +kernel
theorem dX5_load_11 : decode cX5_load 11 = .ok (.iload_n 2, 1) := by decide +kernel
theorem dX5_load_12 : decode cX5_load 12 = .ok (.invokevirtual 58, 3) := by decide +kernel
theorem dX5_load_15 : decode cX5_load 15 = .ok (.ireturn, 1) := by decide +kernel
theorem dX5_load_16 : decode cX5_load 16 = .ok (.aload_n 0, 1) := by decide +kernel
theorem dX5_load_17 : decode cX5_load 17 = .ok (.getfield 44, 3) := by decide +kernel
theorem dX5_load_20 : decode cX5_load 20 = .ok (.iload_n 1, 1) := by decide +kernel
theorem dX5_load_21 : decode cX5_load 21 = .ok (.aaload, 1) := by decide +kernel
theorem dX5_load_22 : decode cX5_load 22 = .ok (.getfield 229, 3) := by decide +kernel
theorem dX5_load_25 : decode cX5_load 25 = .ok (.bipush 6, 2) := by decide +kernel
theorem dX5_load_27 : decode cX5_load 27 = .ok (.invokestatic 257, 3) := by decide +kernel
theorem dX5_load_30 : decode cX5_load 30 = .ok (.istore_n 3, 1) := by decide +kernel
theorem dX5_load_31 : decode cX5_load 31 = .ok (.iconst 0, 1) := by decide +kernel
theorem dX5_load_32 : decode cX5_load 32 = .ok (.istore 4, 2) := by decide +kernel
theorem dX5_load_34 : decode cX5_load 34 = .ok (.iload 4, 2) := by decide +kernel
theorem dX5_load_36 : decode cX5_load 36 = .ok (.iload_n 3, 1) := by decide +kernel
theorem dX5_load_37 : decode cX5_load 37 = .ok (.if_icmp .ge 48, 3) := by decide +kernel
theorem dX5_load_40 : decode cX5_load 40 = .ok (.aload_n 0, 1) := by decide +kernel
theorem dX5_load_41 : decode cX5_load 41 = .ok (.getfield 44, 3) := by decide +kernel
theorem dX5_load_44 : decode cX5_load 44 = .ok (.iload_n 1, 1) := by decide +kernel
theorem dX5_load_45 : decode cX5_load 45 = .ok (.aaload, 1) := by decide +kernel
theorem dX5_load_46 : decode cX5_load 46 = .ok (.getfield 248, 3) := by decide +kernel
theorem dX5_load_49 : decode cX5_load 49 = .ok (.iload 4, 2) := by decide +kernel
theorem dX5_load_51 : decode cX5_load 51 = .ok (.iaload, 1) := by decide +kernel
theorem dX5_load_52 : decode cX5_load 52 = .ok (.istore 5, 2) := by decide +kernel
theorem dX5_load_54 : decode cX5_load 54 = .ok (.iload 5, 2) := by decide +kernel
theorem dX5_load_56 : decode cX5_load 56 = .ok (.bipush 12, 2) := by decide +kernel
theorem dX5_load_58 : decode cX5_load 58 = .ok (.invokestatic 53, 3) := by decide +kernel
theorem dX5_load_61 : decode cX5_load 61 = .ok (.ifCond .ne 6, 3) := by decide +kernel
theorem dX5_load_64 : decode cX5_load 64 = .ok (.iload 4, 2) := by decide +kernel
theorem dX5_load_66 : decode cX5_load 66 = .ok (.ireturn, 1) := by decide +kernel
theorem dX5_load_67 : decode cX5_load 67 = .ok (.aload_n 0, 1) := by decide +kernel
theorem dX5_load_68 : decode cX5_load 68 = .ok (.getfield 12, 3) := by decide +kernel
theorem dX5_load_71 : decode cX5_load 71 = .ok (.getfield 62, 3) := by decide +kernel
theorem dX5_load_74 : decode cX5_load 74 = .ok (.iload 4, 2) := by decide +kernel
theorem dX5_load_76 : decode cX5_load 76 = .ok (.iload 5, 2) := by decide +kernel
theorem dX5_load_78 : decode cX5_load 78 = .ok (.iastore, 1) := by decide +kernel
theorem dX5_load_79 : decode cX5_load 79 = .ok (.iinc 4 1, 3) := by decide +kernel
theorem dX5_load_82 : decode cX5_load 82 = .ok (.goto (-48), 3) := by decide +kernel
theorem dX5_load_85 : decode cX5_load 85 = .ok (.iload_n 3, 1) := by decide +kernel
theorem dX5_load_86 : decode cX5_load 86 = .ok (.ireturn, 1) := by decide +kernel
theorem dX5_judge_0 : decode cX5_judge 0 = .ok (.aload_n 0, 1) := by decide +kernel
theorem dX5_judge_1 : decode cX5_judge 1 = .ok (.iload_n 1, 1) := by decide +kernel
theorem dX5_judge_2 : decode cX5_judge 2 = .ok (.invokevirtual 232, 3) := by decide +kernel
theorem dX5_judge_5 : decode cX5_judge 5 = .ok (.istore_n 2, 1) := by decide +kernel
theorem dX5_judge_6 : decode cX5_judge 6 = .ok (.iload_n 2, 1) := by decide +kernel
theorem dX5_judge_7 : decode cX5_judge 7 = .ok (.ifCond .eq 9, 3) := by decide +kernel
theorem dX5_judge_10 : decode cX5_judge 10 = .ok (.aload_n 0, 1) := by decide +kernel
theorem dX5_judge_11 : decode cX5_judge 11 = .ok (.iload_n 2, 1) := by decide +kernel
theorem dX5_judge_12 : decode cX5_judge 12 = .ok (.invokevirtual 58, 3) := by decide +kernel
theorem dX5_judge_15 : decode cX5_judge 15 = .ok (.ireturn, 1) := by decide +kernel
theorem dX5_judge_16 : decode cX5_judge 16 = .ok (.iconst 0, 1) := by decide +kernel
theorem dX5_judge_17 : decode cX5_judge 17 = .ok (.istore_n 3, 1) := by decide +kernel
theorem dX5_judge_18 : decode cX5_judge 18 = .ok (.iload_n 3, 1) := by decide +kernel
theorem dX5_judge_19 : decode cX5_judge 19 = .ok (.aload_n 0, 1) := by decide +kernel
theorem dX5_judge_20 : decode cX5_judge 20 = .ok (.getfield 44, 3) := by decide +kernel
theorem dX5_judge_23 : decode cX5_judge 23 = .ok (.iload_n 1, 1) := by decide +kernel
theorem dX5_judge_24 : decode cX5_judge 24 = .ok (.aaload, 1) := by decide +kernel
theorem dX5_judge_25 : decode cX5_judge 25 = .ok (.getfield 229, 3) := by decide +kernel
theorem dX5_judge_28 : decode cX5_judge 28 = .ok (.if_icmp .ge 47, 3) := by decide +kernel
theorem dX5_judge_31 : decode cX5_judge 31 = .ok (.aload_n 0, 1) := by decide +kernel
theorem dX5_judge_32 : decode cX5_judge 32 = .ok (.iload_n 3, 1) := by decide +kernel
theorem dX5_judge_33 : decode cX5_judge 33 = .ok (.invokevirtual 73, 3) := by decide +kernel
theorem dX5_judge_36 : decode cX5_judge 36 = .ok (.ifCond .eq 29, 3) := by decide +kernel
theorem dX5_judge_39 : decode cX5_judge 39 = .ok (.aload_n 0, 1) := by decide +kernel
theorem dX5_judge_40 : decode cX5_judge 40 = .ok (.getfield 12, 3) := by decide +kernel
theorem dX5_judge_43 : decode cX5_judge 43 = .ok (.getfield 77, 3) := by decide +kernel
theorem dX5_judge_46 : decode cX5_judge 46 = .ok (.iload_n 3, 1) := by decide +kernel
theorem dX5_judge_47 : decode cX5_judge 47 = .ok (.aaload, 1) := by decide +kernel
theorem dX5_judge_48 : decode cX5_judge 48 = .ok (.invokevirtual 169, 3) := by decide +kernel
theorem dX5_judge_51 : decode cX5_judge 51 = .ok (.aload_n 0, 1) := by decide +kernel
theorem dX5_judge_52 : decode cX5_judge 52 = .ok (.getfield 44, 3) := by decide +kernel
theorem dX5_judge_55 : decode cX5_judge 55 = .ok (.iload_n 1, 1) := by decide +kernel
theorem dX5_judge_56 : decode cX5_judge 56 = .ok (.aaload, 1) := by decide +kernel
theorem dX5_judge_57 : decode cX5_judge 57 = .ok (.getfield 248, 3) := by decide +kernel
theorem dX5_judge_60 : decode cX5_judge 60 = .ok (.iload_n 3, 1) := by decide +kernel
theorem dX5_judge_61 : decode cX5_judge 61 = .ok (.iaload, 1) := by decide +kernel
theorem dX5_judge_62 : decode cX5_judge 62 = .ok (.if_icmp .eq 7, 3) := by decide +kernel
theorem dX5_judge_65 : decode cX5_judge 65 = .ok (.iconst 1, 1) := by decide +kernel
theorem dX5_judge_66 : decode cX5_judge 66 = .ok (.iload_n 3, 1) := by decide +kernel
theorem dX5_judge_67 : decode cX5_judge 67 = .ok (.iadd, 1) := by decide +kernel
theorem dX5_judge_68 : decode cX5_judge 68 = .ok (.ireturn, 1) := by decide +kernel
theorem dX5_judge_69 : decode cX5_judge 69 = .ok (.iinc 3 1, 3) := by decide +kernel
theorem dX5_judge_72 : decode cX5_judge 72 = .ok (.goto (-54), 3) := by decide +kernel
theorem dX5_judge_75 : decode cX5_judge 75 = .ok (.iconst 0, 1) := by decide +kernel
theorem dX5_judge_76 : decode cX5_judge 76 = .ok (.ireturn, 1) := by decide +kernel
theorem dX5_image_0 : decode cX5_image 0 = .ok (.aload_n 0, 1) := by decide +kernel
theorem dX5_image_1 : decode cX5_image 1 = .ok (.getfield 19, 3) := by decide +kernel
theorem dX5_image_4 : decode cX5_image 4 = .ok (.aload_n 0, 1) := by decide +kernel
theorem dX5_image_5 : decode cX5_image 5 = .ok (.getfield 12, 3) := by decide +kernel
theorem dX5_image_8 : decode cX5_image 8 = .ok (.invokevirtual 210, 3) := by decide +kernel
theorem dX5_image_11 : decode cX5_image 11 = .ok (.aload_n 0, 1) := by decide +kernel
theorem dX5_image_12 : decode cX5_image 12 = .ok (.iconst 1, 1) := by decide +kernel
theorem dX5_image_13 : decode cX5_image 13 = .ok (.putfield 22, 3) := by decide +kernel
theorem dX5_image_16 : decode cX5_image 16 = .ok (.iconst 1, 1) := by decide +kernel
theorem dX5_image_17 : decode cX5_image 17 = .ok (.ireturn, 1) := by decide +kernel
theorem dX5_undo_0 : decode cX5_undo 0 = .ok (.aload_n 0, 1) := by decide +kernel
theorem dX5_undo_1 : decode cX5_undo 1 = .ok (.getfield 22, 3) := by decide +kernel
theorem dX5_undo_4 : decode cX5_undo 4 = .ok (.ifCond .ne 10, 3) := by decide +kernel
theorem dX5_undo_7 : decode cX5_undo 7 = .ok (.aload_n 0, 1) := by decide +kernel
theorem dX5_undo_8 : decode cX5_undo 8 = .ok (.ldc 99, 2) := by decide +kernel
theorem dX5_undo_10 : decode cX5_undo 10 = .ok (.invokevirtual 58, 3) := by decide +kernel
theorem dX5_undo_13 : decode cX5_undo 13 = .ok (.ireturn, 1) := by decide +kernel
theorem dX5_undo_14 : decode cX5_undo 14 = .ok (.aload_n 0, 1) := by decide +kernel
theorem dX5_undo_15 : decode cX5_undo 15 = .ok (.getfield 12, 3) := by decide +kernel
theorem dX5_undo_18 : decode cX5_undo 18 = .ok (.aload_n 0, 1) := by decide +kernel
theorem dX5_undo_19 : decode cX5_undo 19 = .ok (.getfield 19, 3) := by decide +kernel
theorem dX5_undo_22 : decode cX5_undo 22 = .ok (.invokevirtual 210, 3) := by decide +kernel
theorem dX5_undo_25 : decode cX5_undo 25 = .ok (.aload_n 0, 1) := by decide +kernel
theorem dX5_undo_26 : decode cX5_undo 26 = .ok (.getfield 12, 3) := by decide +kernel
theorem dX5_undo_29 : decode cX5_undo 29 = .ok (.getfield 115, 3) := by decide +kernel
theorem dX5_undo_32 : decode cX5_undo 32 = .ok (.ireturn, 1) := by decide +kernel
theorem dX5_tear_0 : decode cX5_tear 0 = .ok (.aload_n 0, 1) := by decide +kernel
theorem dX5_tear_1 : decode cX5_tear 1 = .ok (.getfield 22, 3) := by decide +kernel
theorem dX5_tear_4 : decode cX5_tear 4 = .ok (.ifCond .eq 7, 3) := by decide +kernel
theorem dX5_tear_7 : decode cX5_tear 7 = .ok (.iconst 1, 1) := by decide +kernel
theorem dX5_tear_8 : decode cX5_tear 8 = .ok (.goto 4, 3) := by decide +kernel
theorem dX5_tear_11 : decode cX5_tear 11 = .ok (.iconst 0, 1) := by decide +kernel
theorem dX5_tear_12 : decode cX5_tear 12 = .ok (.istore_n 1, 1) := by decide +kernel
theorem dX5_tear_13 : decode cX5_tear 13 = .ok (.aload_n 0, 1) := by decide +kernel
theorem dX5_tear_14 : decode cX5_tear 14 = .ok (.iconst 0, 1) := by decide +kernel
theorem dX5_tear_15 : decode cX5_tear 15 = .ok (.putfield 22, 3) := by decide +kernel
theorem dX5_tear_18 : decode cX5_tear 18 = .ok (.iload_n 1, 1) := by decide +kernel
theorem dX5_tear_19 : decode cX5_tear 19 = .ok (.ireturn, 1) := by decide +kernel
theorem dX5_count_0 : decode cX5_count 0 = .ok (.iload_n 1, 1) := by decide +kernel
theorem dX5_count_1 : decode cX5_count 1 = .ok (.tableswitch 114 0 7 #[47, 55, 63, 71, 79, 90, 98, 106], 47) := by decide +kernel
theorem dX5_count_48 : decode cX5_count 48 = .ok (.aload_n 0, 1) := by decide +kernel
theorem dX5_count_49 : decode cX5_count 49 = .ok (.getfield 12, 3) := by decide +kernel
theorem dX5_count_52 : decode cX5_count 52 = .ok (.getfield 115, 3) := by decide +kernel
theorem dX5_count_55 : decode cX5_count 55 = .ok (.ireturn, 1) := by decide +kernel
theorem dX5_count_56 : decode cX5_count 56 = .ok (.aload_n 0, 1) := by decide +kernel
theorem dX5_count_57 : decode cX5_count 57 = .ok (.getfield 12, 3) := by decide +kernel
theorem dX5_count_60 : decode cX5_count 60 = .ok (.getfield 175, 3) := by decide +kernel
theorem dX5_count_63 : decode cX5_count 63 = .ok (.ireturn, 1) := by decide +kernel
theorem dX5_count_64 : decode cX5_count 64 = .ok (.aload_n 0, 1) := by decide +kernel
theorem dX5_count_65 : decode cX5_count 65 = .ok (.getfield 12, 3) := by decide +kernel
theorem dX5_count_68 : decode cX5_count 68 = .ok (.getfield 122, 3) := by decide +kernel
theorem dX5_count_71 : decode cX5_count 71 = .ok (.ireturn, 1) := by decide +kernel
theorem dX5_count_72 : decode cX5_count 72 = .ok (.aload_n 0, 1) := by decide +kernel
theorem dX5_count_73 : decode cX5_count 73 = .ok (.getfield 12, 3) := by decide +kernel
theorem dX5_count_76 : decode cX5_count 76 = .ok (.invokevirtual 125, 3) := by decide +kernel
theorem dX5_count_79 : decode cX5_count 79 = .ok (.ireturn, 1) := by decide +kernel
theorem dX5_count_80 : decode cX5_count 80 = .ok (.aload_n 0, 1) := by decide +kernel
theorem dX5_count_81 : decode cX5_count 81 = .ok (.getfield 12, 3) := by decide +kernel
theorem dX5_count_84 : decode cX5_count 84 = .ok (.invokevirtual 141, 3) := by decide +kernel
theorem dX5_count_87 : decode cX5_count 87 = .ok (.invokestatic 154, 3) := by decide +kernel
theorem dX5_count_90 : decode cX5_count 90 = .ok (.ireturn, 1) := by decide +kernel
theorem dX5_count_91 : decode cX5_count 91 = .ok (.aload_n 0, 1) := by decide +kernel
theorem dX5_count_92 : decode cX5_count 92 = .ok (.getfield 29, 3) := by decide +kernel
theorem dX5_count_95 : decode cX5_count 95 = .ok (.getfield 201, 3) := by decide +kernel
theorem dX5_count_98 : decode cX5_count 98 = .ok (.ireturn, 1) := by decide +kernel
theorem dX5_count_99 : decode cX5_count 99 = .ok (.aload_n 0, 1) := by decide +kernel
theorem dX5_count_100 : decode cX5_count 100 = .ok (.getfield 12, 3) := by decide +kernel
theorem dX5_count_103 : decode cX5_count 103 = .ok (.getfield 198, 3) := by decide +kernel
theorem dX5_count_106 : decode cX5_count 106 = .ok (.ireturn, 1) := by decide +kernel
theorem dX5_count_107 : decode cX5_count 107 = .ok (.aload_n 0, 1) := by decide +kernel
theorem dX5_count_108 : decode cX5_count 108 = .ok (.getfield 12, 3) := by decide +kernel
theorem dX5_count_111 : decode cX5_count 111 = .ok (.invokevirtual 262, 3) := by decide +kernel
theorem dX5_count_114 : decode cX5_count 114 = .ok (.ireturn, 1) := by decide +kernel
theorem dX5_count_115 : decode cX5_count 115 = .ok (.aload_n 0, 1) := by decide +kernel
theorem dX5_count_116 : decode cX5_count 116 = .ok (.ldc 57, 2) := by decide +kernel
theorem dX5_count_118 : decode cX5_count 118 = .ok (.invokevirtual 58, 3) := by decide +kernel
theorem dX5_count_121 : decode cX5_count 121 = .ok (.ireturn, 1) := by decide +kernel
theorem dX5_status_0 : decode cX5_status 0 = .ok (.iload_n 1, 1) := by decide +kernel
theorem dX5_status_1 : decode cX5_status 1 = .ok (.iconst (-1), 1) := by decide +kernel
theorem dX5_status_2 : decode cX5_status 2 = .ok (.if_icmp .lt 9, 3) := by decide +kernel
theorem dX5_status_5 : decode cX5_status 5 = .ok (.iload_n 1, 1) := by decide +kernel
theorem dX5_status_6 : decode cX5_status 6 = .ok (.bipush 7, 2) := by decide +kernel
theorem dX5_status_8 : decode cX5_status 8 = .ok (.if_icmp .lt 10, 3) := by decide +kernel
theorem dX5_status_11 : decode cX5_status 11 = .ok (.aload_n 0, 1) := by decide +kernel
theorem dX5_status_12 : decode cX5_status 12 = .ok (.ldc 57, 2) := by decide +kernel
theorem dX5_status_14 : decode cX5_status 14 = .ok (.invokevirtual 58, 3) := by decide +kernel
theorem dX5_status_17 : decode cX5_status 17 = .ok (.ireturn, 1) := by decide +kernel
theorem dX5_status_18 : decode cX5_status 18 = .ok (.iload_n 1, 1) := by decide +kernel
theorem dX5_status_19 : decode cX5_status 19 = .ok (.ifCond .lt 10, 3) := by decide +kernel
theorem dX5_status_22 : decode cX5_status 22 = .ok (.aload_n 0, 1) := by decide +kernel
theorem dX5_status_23 : decode cX5_status 23 = .ok (.getfield 48, 3) := by decide +kernel
theorem dX5_status_26 : decode cX5_status 26 = .ok (.iload_n 1, 1) := by decide +kernel
theorem dX5_status_27 : decode cX5_status 27 = .ok (.iaload, 1) := by decide +kernel
theorem dX5_status_28 : decode cX5_status 28 = .ok (.ireturn, 1) := by decide +kernel
theorem dX5_status_29 : decode cX5_status 29 = .ok (.iconst 0, 1) := by decide +kernel
theorem dX5_status_30 : decode cX5_status 30 = .ok (.istore_n 2, 1) := by decide +kernel
theorem dX5_status_31 : decode cX5_status 31 = .ok (.iconst 0, 1) := by decide +kernel
theorem dX5_status_32 : decode cX5_status 32 = .ok (.istore_n 3, 1) := by decide +kernel
theorem dX5_status_33 : decode cX5_status 33 = .ok (.iload_n 3, 1) := by decide +kernel
theorem dX5_status_34 : decode cX5_status 34 = .ok (.bipush 7, 2) := by decide +kernel
theorem dX5_status_36 : decode cX5_status 36 = .ok (.if_icmp .ge 18, 3) := by decide +kernel
theorem dX5_status_39 : decode cX5_status 39 = .ok (.iload_n 2, 1) := by decide +kernel
theorem dX5_status_40 : decode cX5_status 40 = .ok (.aload_n 0, 1) := by decide +kernel
theorem dX5_status_41 : decode cX5_status 41 = .ok (.getfield 48, 3) := by decide +kernel
theorem dX5_status_44 : decode cX5_status 44 = .ok (.iload_n 3, 1) := by decide +kernel
theorem dX5_status_45 : decode cX5_status 45 = .ok (.iaload, 1) := by decide +kernel
theorem dX5_status_46 : decode cX5_status 46 = .ok (.iadd, 1) := by decide +kernel
theorem dX5_status_47 : decode cX5_status 47 = .ok (.istore_n 2, 1) := by decide +kernel
theorem dX5_status_48 : decode cX5_status 48 = .ok (.iinc 3 1, 3) := by decide +kernel
theorem dX5_status_51 : decode cX5_status 51 = .ok (.goto (-18), 3) := by decide +kernel
theorem dX5_status_54 : decode cX5_status 54 = .ok (.iload_n 2, 1) := by decide +kernel
theorem dX5_status_55 : decode cX5_status 55 = .ok (.ireturn, 1) := by decide +kernel
theorem dX5_within_0 : decode cX5_within 0 = .ok (.iload_n 0, 1) := by decide +kernel
theorem dX5_within_1 : decode cX5_within 1 = .ok (.ifCond .lt 12, 3) := by decide +kernel
theorem dX5_within_4 : decode cX5_within 4 = .ok (.iload_n 0, 1) := by decide +kernel
theorem dX5_within_5 : decode cX5_within 5 = .ok (.iload_n 1, 1) := by decide +kernel
theorem dX5_within_6 : decode cX5_within 6 = .ok (.if_icmp .gt 7, 3) := by decide +kernel
theorem dX5_within_9 : decode cX5_within 9 = .ok (.iconst 1, 1) := by decide +kernel
theorem dX5_within_10 : decode cX5_within 10 = .ok (.goto 4, 3) := by decide +kernel
theorem dX5_within_13 : decode cX5_within 13 = .ok (.iconst 0, 1) := by decide +kernel
theorem dX5_within_14 : decode cX5_within 14 = .ok (.ireturn, 1) := by decide +kernel
theorem dX5_power_0 : decode cX5_power 0 = .ok (.lconst 1, 1) := by decide +kernel
theorem dX5_power_1 : decode cX5_power 1 = .ok (.lstore_n 3, 1) := by decide +kernel
theorem dX5_power_2 : decode cX5_power 2 = .ok (.iconst 0, 1) := by decide +kernel
theorem dX5_power_3 : decode cX5_power 3 = .ok (.istore 5, 2) := by decide +kernel
theorem dX5_power_5 : decode cX5_power 5 = .ok (.iload 5, 2) := by decide +kernel
theorem dX5_power_7 : decode cX5_power 7 = .ok (.iload_n 2, 1) := by decide +kernel
theorem dX5_power_8 : decode cX5_power 8 = .ok (.if_icmp .ge 13, 3) := by decide +kernel
theorem dX5_power_11 : decode cX5_power 11 = .ok (.lload_n 3, 1) := by decide +kernel
theorem dX5_power_12 : decode cX5_power 12 = .ok (.lload_n 0, 1) := by decide +kernel
theorem dX5_power_13 : decode cX5_power 13 = .ok (.lmul, 1) := by decide +kernel
theorem dX5_power_14 : decode cX5_power 14 = .ok (.lstore_n 3, 1) := by decide +kernel
theorem dX5_power_15 : decode cX5_power 15 = .ok (.iinc 5 1, 3) := by decide +kernel
theorem dX5_power_18 : decode cX5_power 18 = .ok (.goto (-13), 3) := by decide +kernel
theorem dX5_power_21 : decode cX5_power 21 = .ok (.lload_n 3, 1) := by decide +kernel
theorem dX5_power_22 : decode cX5_power 22 = .ok (.lreturn, 1) := by decide +kernel
theorem dX5_found_0 : decode cX5_found 0 = .ok (.ldc 57, 2) := by decide +kernel
theorem dX5_found_2 : decode cX5_found 2 = .ok (.iload_n 1, 1) := by decide +kernel
theorem dX5_found_3 : decode cX5_found 3 = .ok (.isub, 1) := by decide +kernel
theorem dX5_found_4 : decode cX5_found 4 = .ok (.istore_n 2, 1) := by decide +kernel
theorem dX5_found_5 : decode cX5_found 5 = .ok (.iload_n 2, 1) := by decide +kernel
theorem dX5_found_6 : decode cX5_found 6 = .ok (.bipush 6, 2) := by decide +kernel
theorem dX5_found_8 : decode cX5_found 8 = .ok (.invokestatic 53, 3) := by decide +kernel
theorem dX5_found_11 : decode cX5_found 11 = .ok (.ifCond .eq 13, 3) := by decide +kernel
theorem dX5_found_14 : decode cX5_found 14 = .ok (.aload_n 0, 1) := by decide +kernel
theorem dX5_found_15 : decode cX5_found 15 = .ok (.getfield 48, 3) := by decide +kernel
theorem dX5_found_18 : decode cX5_found 18 = .ok (.iload_n 2, 1) := by decide +kernel
theorem dX5_found_19 : decode cX5_found 19 = .ok (.dup2, 1) := by decide +kernel
theorem dX5_found_20 : decode cX5_found 20 = .ok (.iaload, 1) := by decide +kernel
theorem dX5_found_21 : decode cX5_found 21 = .ok (.iconst 1, 1) := by decide +kernel
theorem dX5_found_22 : decode cX5_found 22 = .ok (.iadd, 1) := by decide +kernel
theorem dX5_found_23 : decode cX5_found 23 = .ok (.iastore, 1) := by decide +kernel
theorem dX5_found_24 : decode cX5_found 24 = .ok (.iload_n 1, 1) := by decide +kernel
theorem dX5_found_25 : decode cX5_found 25 = .ok (.ireturn, 1) := by decide +kernel
theorem dX5_isBust_0 : decode cX5_isBust 0 = .ok (.iload_n 1, 1) := by decide +kernel
theorem dX5_isBust_1 : decode cX5_isBust 1 = .ok (.ifCond .lt 18, 3) := by decide +kernel
theorem dX5_isBust_4 : decode cX5_isBust 4 = .ok (.iload_n 1, 1) := by decide +kernel
theorem dX5_isBust_5 : decode cX5_isBust 5 = .ok (.aload_n 0, 1) := by decide +kernel
theorem dX5_isBust_6 : decode cX5_isBust 6 = .ok (.getfield 12, 3) := by decide +kernel
theorem dX5_isBust_9 : decode cX5_isBust 9 = .ok (.getfield 175, 3) := by decide +kernel
theorem dX5_isBust_12 : decode cX5_isBust 12 = .ok (.if_icmp .ge 7, 3) := by decide +kernel
theorem dX5_isBust_15 : decode cX5_isBust 15 = .ok (.iconst 1, 1) := by decide +kernel
theorem dX5_isBust_16 : decode cX5_isBust 16 = .ok (.goto 4, 3) := by decide +kernel
theorem dX5_isBust_19 : decode cX5_isBust 19 = .ok (.iconst 0, 1) := by decide +kernel
theorem dX5_isBust_20 : decode cX5_isBust 20 = .ok (.ireturn, 1) := by decide +kernel
theorem dX5_isSheet_0 : decode cX5_isSheet 0 = .ok (.iload_n 1, 1) := by decide +kernel
theorem dX5_isSheet_1 : decode cX5_isSheet 1 = .ok (.iconst 3, 1) := by decide +kernel
theorem dX5_isSheet_2 : decode cX5_isSheet 2 = .ok (.invokestatic 53, 3) := by decide +kernel
theorem dX5_isSheet_5 : decode cX5_isSheet 5 = .ok (.ireturn, 1) := by decide +kernel
theorem dX5_findingOfSheet_0 : decode cX5_findingOfSheet 0 = .ok (.aload_n 0, 1) := by decide +kernel
theorem dX5_findingOfSheet_1 : decode cX5_findingOfSheet 1 = .ok (.iload_n 1, 1) := by decide +kernel
theorem dX5_findingOfSheet_2 : decode cX5_findingOfSheet 2 = .ok (.invokevirtual 222, 3) := by decide +kernel
theorem dX5_findingOfSheet_5 : decode cX5_findingOfSheet 5 = .ok (.ifCond .ne 6, 3) := by decide +kernel
theorem dX5_findingOfSheet_8 : decode cX5_findingOfSheet 8 = .ok (.ldc 57, 2) := by decide +kernel
theorem dX5_findingOfSheet_10 : decode cX5_findingOfSheet 10 = .ok (.ireturn, 1) := by decide +kernel
theorem dX5_findingOfSheet_11 : decode cX5_findingOfSheet 11 = .ok (.aload_n 0, 1) := by decide +kernel
theorem dX5_findingOfSheet_12 : decode cX5_findingOfSheet 12 = .ok (.getfield 44, 3) := by decide +kernel
theorem dX5_findingOfSheet_15 : decode cX5_findingOfSheet 15 = .ok (.iload_n 1, 1) := by decide +kernel
theorem dX5_findingOfSheet_16 : decode cX5_findingOfSheet 16 = .ok (.aaload, 1) := by decide +kernel
theorem dX5_findingOfSheet_17 : decode cX5_findingOfSheet 17 = .ok (.invokevirtual 238, 3) := by decide +kernel
theorem dX5_findingOfSheet_20 : decode cX5_findingOfSheet 20 = .ok (.ifCond .eq 8, 3) := by decide +kernel
theorem dX5_findingOfSheet_23 : decode cX5_findingOfSheet 23 = .ok (.ldc 217, 2) := by decide +kernel
theorem dX5_findingOfSheet_25 : decode cX5_findingOfSheet 25 = .ok (.goto 4, 3) := by decide +kernel
theorem dX5_findingOfSheet_28 : decode cX5_findingOfSheet 28 = .ok (.iconst 0, 1) := by decide +kernel
theorem dX5_findingOfSheet_29 : decode cX5_findingOfSheet 29 = .ok (.ireturn, 1) := by decide +kernel
theorem dX5_findingOfVoices_0 : decode cX5_findingOfVoices 0 = .ok (.aload_n 0, 1) := by decide +kernel
theorem dX5_findingOfVoices_1 : decode cX5_findingOfVoices 1 = .ok (.iload_n 1, 1) := by decide +kernel
theorem dX5_findingOfVoices_2 : decode cX5_findingOfVoices 2 = .ok (.invokevirtual 232, 3) := by decide +kernel
theorem dX5_findingOfVoices_5 : decode cX5_findingOfVoices 5 = .ok (.istore_n 3, 1) := by decide +kernel
theorem dX5_findingOfVoices_6 : decode cX5_findingOfVoices 6 = .ok (.iload_n 3, 1) := by decide +kernel
theorem dX5_findingOfVoices_7 : decode cX5_findingOfVoices 7 = .ok (.ifCond .eq 5, 3) := by decide +kernel
theorem dX5_findingOfVoices_10 : decode cX5_findingOfVoices 10 = .ok (.iload_n 3, 1) := by decide +kernel
theorem dX5_findingOfVoices_11 : decode cX5_findingOfVoices 11 = .ok (.ireturn, 1) := by decide +kernel
theorem dX5_findingOfVoices_12 : decode cX5_findingOfVoices 12 = .ok (.aload_n 0, 1) := by decide +kernel
theorem dX5_findingOfVoices_13 : decode cX5_findingOfVoices 13 = .ok (.iload_n 2, 1) := by decide +kernel
theorem dX5_findingOfVoices_14 : decode cX5_findingOfVoices 14 = .ok (.invokevirtual 73, 3) := by decide +kernel
theorem dX5_findingOfVoices_17 : decode cX5_findingOfVoices 17 = .ok (.ifCond .eq 7, 3) := by decide +kernel
theorem dX5_findingOfVoices_20 : decode cX5_findingOfVoices 20 = .ok (.iconst 0, 1) := by decide +kernel
theorem dX5_findingOfVoices_21 : decode cX5_findingOfVoices 21 = .ok (.goto 5, 3) := by decide +kernel
theorem dX5_findingOfVoices_24 : decode cX5_findingOfVoices 24 = .ok (.ldc 57, 2) := by decide +kernel
theorem dX5_findingOfVoices_26 : decode cX5_findingOfVoices 26 = .ok (.ireturn, 1) := by decide +kernel
theorem dX5_beginTrial_0 : decode cX5_beginTrial 0 = .ok (.aload_n 0, 1) := by decide +kernel
theorem dX5_beginTrial_1 : decode cX5_beginTrial 1 = .ok (.getfield 16, 3) := by decide +kernel
theorem dX5_beginTrial_4 : decode cX5_beginTrial 4 = .ok (.aload_n 0, 1) := by decide +kernel
theorem dX5_beginTrial_5 : decode cX5_beginTrial 5 = .ok (.getfield 12, 3) := by decide +kernel
theorem dX5_beginTrial_8 : decode cX5_beginTrial 8 = .ok (.invokevirtual 210, 3) := by decide +kernel
theorem dX5_beginTrial_11 : decode cX5_beginTrial 11 = .ok (.return_, 1) := by decide +kernel
theorem dX5_daysUntil_0 : decode cX5_daysUntil 0 = .ok (.aload_n 0, 1) := by decide +kernel
theorem dX5_daysUntil_1 : decode cX5_daysUntil 1 = .ok (.invokevirtual 144, 3) := by decide +kernel
theorem dX5_daysUntil_4 : decode cX5_daysUntil 4 = .ok (.iconst 0, 1) := by decide +kernel
theorem dX5_daysUntil_5 : decode cX5_daysUntil 5 = .ok (.istore 4, 2) := by decide +kernel
theorem dX5_daysUntil_7 : decode cX5_daysUntil 7 = .ok (.iload 4, 2) := by decide +kernel
theorem dX5_daysUntil_9 : decode cX5_daysUntil 9 = .ok (.sipush 200, 3) := by decide +kernel
theorem dX5_daysUntil_12 : decode cX5_daysUntil 12 = .ok (.if_icmp .gt 36, 3) := by decide +kernel
theorem dX5_daysUntil_15 : decode cX5_daysUntil 15 = .ok (.aload_n 0, 1) := by decide +kernel
theorem dX5_daysUntil_16 : decode cX5_daysUntil 16 = .ok (.getfield 16, 3) := by decide +kernel
theorem dX5_daysUntil_19 : decode cX5_daysUntil 19 = .ok (.getfield 77, 3) := by decide +kernel
theorem dX5_daysUntil_22 : decode cX5_daysUntil 22 = .ok (.iload_n 1, 1) := by decide +kernel
theorem dX5_daysUntil_23 : decode cX5_daysUntil 23 = .ok (.aaload, 1) := by decide +kernel
theorem dX5_daysUntil_24 : decode cX5_daysUntil 24 = .ok (.iload_n 2, 1) := by decide +kernel
theorem dX5_daysUntil_25 : decode cX5_daysUntil 25 = .ok (.invokevirtual 81, 3) := by decide +kernel
theorem dX5_daysUntil_28 : decode cX5_daysUntil 28 = .ok (.iload_n 3, 1) := by decide +kernel
theorem dX5_daysUntil_29 : decode cX5_daysUntil 29 = .ok (.if_icmp .lt 6, 3) := by decide +kernel
theorem dX5_daysUntil_32 : decode cX5_daysUntil 32 = .ok (.iload 4, 2) := by decide +kernel
theorem dX5_daysUntil_34 : decode cX5_daysUntil 34 = .ok (.ireturn, 1) := by decide +kernel
theorem dX5_daysUntil_35 : decode cX5_daysUntil 35 = .ok (.aload_n 0, 1) := by decide +kernel
theorem dX5_daysUntil_36 : decode cX5_daysUntil 36 = .ok (.getfield 16, 3) := by decide +kernel
theorem dX5_daysUntil_39 : decode cX5_daysUntil 39 = .ok (.invokevirtual 147, 3) := by decide +kernel
theorem dX5_daysUntil_42 : decode cX5_daysUntil 42 = .ok (.iinc 4 1, 3) := by decide +kernel
theorem dX5_daysUntil_45 : decode cX5_daysUntil 45 = .ok (.goto (-38), 3) := by decide +kernel
theorem dX5_daysUntil_48 : decode cX5_daysUntil 48 = .ok (.aload_n 0, 1) := by decide +kernel
theorem dX5_daysUntil_49 : decode cX5_daysUntil 49 = .ok (.ldc 99, 2) := by decide +kernel
theorem dX5_daysUntil_51 : decode cX5_daysUntil 51 = .ok (.invokevirtual 58, 3) := by decide +kernel
theorem dX5_daysUntil_54 : decode cX5_daysUntil 54 = .ok (.ireturn, 1) := by decide +kernel
theorem dX5_hasByDate_0 : decode cX5_hasByDate 0 = .ok (.aload_n 0, 1) := by decide +kernel
theorem dX5_hasByDate_1 : decode cX5_hasByDate 1 = .ok (.invokevirtual 144, 3) := by decide +kernel
theorem dX5_hasByDate_4 : decode cX5_hasByDate 4 = .ok (.aload_n 0, 1) := by decide +kernel
theorem dX5_hasByDate_5 : decode cX5_hasByDate 5 = .ok (.getfield 16, 3) := by decide +kernel
theorem dX5_hasByDate_8 : decode cX5_hasByDate 8 = .ok (.getfield 77, 3) := by decide +kernel
theorem dX5_hasByDate_11 : decode cX5_hasByDate 11 = .ok (.iload_n 1, 1) := by decide +kernel
theorem dX5_hasByDate_12 : decode cX5_hasByDate 12 = .ok (.aaload, 1) := by decide +kernel
theorem dX5_hasByDate_13 : decode cX5_hasByDate 13 = .ok (.iload_n 2, 1) := by decide +kernel
theorem dX5_hasByDate_14 : decode cX5_hasByDate 14 = .ok (.putfield 265, 3) := by decide +kernel
theorem dX5_hasByDate_17 : decode cX5_hasByDate 17 = .ok (.aload_n 0, 1) := by decide +kernel
theorem dX5_hasByDate_18 : decode cX5_hasByDate 18 = .ok (.getfield 16, 3) := by decide +kernel
theorem dX5_hasByDate_21 : decode cX5_hasByDate 21 = .ok (.iload 4, 2) := by decide +kernel
theorem dX5_hasByDate_23 : decode cX5_hasByDate 23 = .ok (.invokevirtual 119, 3) := by decide +kernel
theorem dX5_hasByDate_26 : decode cX5_hasByDate 26 = .ok (.aload_n 0, 1) := by decide +kernel
theorem dX5_hasByDate_27 : decode cX5_hasByDate 27 = .ok (.getfield 16, 3) := by decide +kernel
theorem dX5_hasByDate_30 : decode cX5_hasByDate 30 = .ok (.getfield 77, 3) := by decide +kernel
theorem dX5_hasByDate_33 : decode cX5_hasByDate 33 = .ok (.iload_n 1, 1) := by decide +kernel
theorem dX5_hasByDate_34 : decode cX5_hasByDate 34 = .ok (.aaload, 1) := by decide +kernel
theorem dX5_hasByDate_35 : decode cX5_hasByDate 35 = .ok (.iload_n 3, 1) := by decide +kernel
theorem dX5_hasByDate_36 : decode cX5_hasByDate 36 = .ok (.invokevirtual 100, 3) := by decide +kernel
theorem dX5_hasByDate_39 : decode cX5_hasByDate 39 = .ok (.ireturn, 1) := by decide +kernel
theorem dX5_keepsAll_0 : decode cX5_keepsAll 0 = .ok (.aload_n 0, 1) := by decide +kernel
theorem dX5_keepsAll_1 : decode cX5_keepsAll 1 = .ok (.invokevirtual 144, 3) := by decide +kernel
theorem dX5_keepsAll_4 : decode cX5_keepsAll 4 = .ok (.iconst 0, 1) := by decide +kernel
theorem dX5_keepsAll_5 : decode cX5_keepsAll 5 = .ok (.istore_n 3, 1) := by decide +kernel
theorem dX5_keepsAll_6 : decode cX5_keepsAll 6 = .ok (.iload_n 3, 1) := by decide +kernel
theorem dX5_keepsAll_7 : decode cX5_keepsAll 7 = .ok (.aload_n 0, 1) := by decide +kernel
theorem dX5_keepsAll_8 : decode cX5_keepsAll 8 = .ok (.getfield 16, 3) := by decide +kernel
theorem dX5_keepsAll_11 : decode cX5_keepsAll 11 = .ok (.getfield 175, 3) := by decide +kernel
theorem dX5_keepsAll_14 : decode cX5_keepsAll 14 = .ok (.if_icmp .ge 31, 3) := by decide +kernel
theorem dX5_keepsAll_17 : decode cX5_keepsAll 17 = .ok (.iload_n 1, 1) := by decide +kernel
theorem dX5_keepsAll_18 : decode cX5_keepsAll 18 = .ok (.iload_n 3, 1) := by decide +kernel
theorem dX5_keepsAll_19 : decode cX5_keepsAll 19 = .ok (.ishr, 1) := by decide +kernel
theorem dX5_keepsAll_20 : decode cX5_keepsAll 20 = .ok (.iconst 1, 1) := by decide +kernel
theorem dX5_keepsAll_21 : decode cX5_keepsAll 21 = .ok (.iand, 1) := by decide +kernel
theorem dX5_keepsAll_22 : decode cX5_keepsAll 22 = .ok (.iconst 1, 1) := by decide +kernel
theorem dX5_keepsAll_23 : decode cX5_keepsAll 23 = .ok (.if_icmp .ne 16, 3) := by decide +kernel
theorem dX5_keepsAll_26 : decode cX5_keepsAll 26 = .ok (.aload_n 0, 1) := by decide +kernel
theorem dX5_keepsAll_27 : decode cX5_keepsAll 27 = .ok (.getfield 16, 3) := by decide +kernel
theorem dX5_keepsAll_30 : decode cX5_keepsAll 30 = .ok (.getfield 77, 3) := by decide +kernel
theorem dX5_keepsAll_33 : decode cX5_keepsAll 33 = .ok (.iload_n 3, 1) := by decide +kernel
theorem dX5_keepsAll_34 : decode cX5_keepsAll 34 = .ok (.aaload, 1) := by decide +kernel
theorem dX5_keepsAll_35 : decode cX5_keepsAll 35 = .ok (.iconst 1, 1) := by decide +kernel
theorem dX5_keepsAll_36 : decode cX5_keepsAll 36 = .ok (.putfield 268, 3) := by decide +kernel
theorem dX5_keepsAll_39 : decode cX5_keepsAll 39 = .ok (.iinc 3 1, 3) := by decide +kernel
theorem dX5_keepsAll_42 : decode cX5_keepsAll 42 = .ok (.goto (-36), 3) := by decide +kernel
theorem dX5_keepsAll_45 : decode cX5_keepsAll 45 = .ok (.aload_n 0, 1) := by decide +kernel
theorem dX5_keepsAll_46 : decode cX5_keepsAll 46 = .ok (.getfield 16, 3) := by decide +kernel
theorem dX5_keepsAll_49 : decode cX5_keepsAll 49 = .ok (.iload_n 2, 1) := by decide +kernel
theorem dX5_keepsAll_50 : decode cX5_keepsAll 50 = .ok (.invokevirtual 119, 3) := by decide +kernel
theorem dX5_keepsAll_53 : decode cX5_keepsAll 53 = .ok (.aload_n 0, 1) := by decide +kernel
theorem dX5_keepsAll_54 : decode cX5_keepsAll 54 = .ok (.getfield 16, 3) := by decide +kernel
theorem dX5_keepsAll_57 : decode cX5_keepsAll 57 = .ok (.getfield 122, 3) := by decide +kernel
theorem dX5_keepsAll_60 : decode cX5_keepsAll 60 = .ok (.aload_n 0, 1) := by decide +kernel
theorem dX5_keepsAll_61 : decode cX5_keepsAll 61 = .ok (.getfield 12, 3) := by decide +kernel
theorem dX5_keepsAll_64 : decode cX5_keepsAll 64 = .ok (.getfield 122, 3) := by decide +kernel
theorem dX5_keepsAll_67 : decode cX5_keepsAll 67 = .ok (.if_icmp .ne 7, 3) := by decide +kernel
theorem dX5_keepsAll_70 : decode cX5_keepsAll 70 = .ok (.iconst 1, 1) := by decide +kernel
theorem dX5_keepsAll_71 : decode cX5_keepsAll 71 = .ok (.goto 4, 3) := by decide +kernel
theorem dX5_keepsAll_74 : decode cX5_keepsAll 74 = .ok (.iconst 0, 1) := by decide +kernel
theorem dX5_keepsAll_75 : decode cX5_keepsAll 75 = .ok (.ireturn, 1) := by decide +kernel
theorem dX5_trialSays_0 : decode cX5_trialSays 0 = .ok (.iconst 0, 1) := by decide +kernel
theorem dX5_trialSays_1 : decode cX5_trialSays 1 = .ok (.istore_n 3, 1) := by decide +kernel
theorem dX5_trialSays_2 : decode cX5_trialSays 2 = .ok (.iload_n 3, 1) := by decide +kernel
theorem dX5_trialSays_3 : decode cX5_trialSays 3 = .ok (.aload_n 2, 1) := by decide +kernel
theorem dX5_trialSays_4 : decode cX5_trialSays 4 = .ok (.getfield 229, 3) := by decide +kernel
theorem dX5_trialSays_7 : decode cX5_trialSays 7 = .ok (.if_icmp .ge 53, 3) := by decide +kernel
theorem dX5_trialSays_10 : decode cX5_trialSays 10 = .ok (.iload_n 3, 1) := by decide +kernel
theorem dX5_trialSays_11 : decode cX5_trialSays 11 = .ok (.ifCond .le 10, 3) := by decide +kernel
theorem dX5_trialSays_14 : decode cX5_trialSays 14 = .ok (.aload_n 0, 1) := by decide +kernel
theorem dX5_trialSays_15 : decode cX5_trialSays 15 = .ok (.getfield 16, 3) := by decide +kernel
theorem dX5_trialSays_18 : decode cX5_trialSays 18 = .ok (.invokevirtual 147, 3) := by decide +kernel
theorem dX5_trialSays_21 : decode cX5_trialSays 21 = .ok (.aload_n 2, 1) := by decide +kernel
theorem dX5_trialSays_22 : decode cX5_trialSays 22 = .ok (.getfield 248, 3) := by decide +kernel
theorem dX5_trialSays_25 : decode cX5_trialSays 25 = .ok (.iload_n 3, 1) := by decide +kernel
theorem dX5_trialSays_26 : decode cX5_trialSays 26 = .ok (.iaload, 1) := by decide +kernel
theorem dX5_trialSays_27 : decode cX5_trialSays 27 = .ok (.istore 4, 2) := by decide +kernel
theorem dX5_trialSays_29 : decode cX5_trialSays 29 = .ok (.iload 4, 2) := by decide +kernel
theorem dX5_trialSays_31 : decode cX5_trialSays 31 = .ok (.iconst (-1), 1) := by decide +kernel
theorem dX5_trialSays_32 : decode cX5_trialSays 32 = .ok (.if_icmp .eq 22, 3) := by decide +kernel
theorem dX5_trialSays_35 : decode cX5_trialSays 35 = .ok (.iload 4, 2) := by decide +kernel
theorem dX5_trialSays_37 : decode cX5_trialSays 37 = .ok (.aload_n 0, 1) := by decide +kernel
theorem dX5_trialSays_38 : decode cX5_trialSays 38 = .ok (.getfield 16, 3) := by decide +kernel
theorem dX5_trialSays_41 : decode cX5_trialSays 41 = .ok (.getfield 77, 3) := by decide +kernel
theorem dX5_trialSays_44 : decode cX5_trialSays 44 = .ok (.iload_n 1, 1) := by decide +kernel
theorem dX5_trialSays_45 : decode cX5_trialSays 45 = .ok (.aaload, 1) := by decide +kernel
theorem dX5_trialSays_46 : decode cX5_trialSays 46 = .ok (.invokevirtual 169, 3) := by decide +kernel
theorem dX5_trialSays_49 : decode cX5_trialSays 49 = .ok (.if_icmp .eq 5, 3) := by decide +kernel
theorem dX5_trialSays_52 : decode cX5_trialSays 52 = .ok (.iconst 0, 1) := by decide +kernel
theorem dX5_trialSays_53 : decode cX5_trialSays 53 = .ok (.ireturn, 1) := by decide +kernel
theorem dX5_trialSays_54 : decode cX5_trialSays 54 = .ok (.iinc 3 1, 3) := by decide +kernel
theorem dX5_trialSays_57 : decode cX5_trialSays 57 = .ok (.goto (-55), 3) := by decide +kernel
theorem dX5_trialSays_60 : decode cX5_trialSays 60 = .ok (.iconst 1, 1) := by decide +kernel
theorem dX5_trialSays_61 : decode cX5_trialSays 61 = .ok (.ireturn, 1) := by decide +kernel
