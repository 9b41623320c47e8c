theorem d_R_init_0 : decode b_R_init 0 = .ok (.aload_n 0, 1) := by decide +kernel
theorem d_R_init_1 : decode b_R_init 1 = .ok (.invokespecial 1, 3) := by decide +kernel
theorem d_R_init_4 : decode b_R_init 4 = .ok (.aload_n 0, 1) := by decide +kernel
theorem d_R_init_5 : decode b_R_init 5 = .ok (.bipush 12, 2) := by decide +kernel
theorem d_R_init_7 : decode b_R_init 7 = .ok (.newarray .int, 2) := by decide +kernel
theorem d_R_init_9 : decode b_R_init 9 = .ok (.putfield 7, 3) := by decide +kernel
theorem d_R_init_12 : decode b_R_init 12 = .ok (.aload_n 0, 1) := by decide +kernel
theorem d_R_init_13 : decode b_R_init 13 = .ok (.bipush 12, 2) := by decide +kernel
theorem d_R_init_15 : decode b_R_init 15 = .ok (.newarray .int, 2) := by decide +kernel
theorem d_R_init_17 : decode b_R_init 17 = .ok (.putfield 13, 3) := by decide +kernel
theorem d_R_init_20 : decode b_R_init 20 = .ok (.aload_n 0, 1) := by decide +kernel
theorem d_R_init_21 : decode b_R_init 21 = .ok (.bipush 12, 2) := by decide +kernel
theorem d_R_init_23 : decode b_R_init 23 = .ok (.newarray .int, 2) := by decide +kernel
theorem d_R_init_25 : decode b_R_init 25 = .ok (.putfield 16, 3) := by decide +kernel
theorem d_R_init_28 : decode b_R_init 28 = .ok (.aload_n 0, 1) := by decide +kernel
theorem d_R_init_29 : decode b_R_init 29 = .ok (.bipush 12, 2) := by decide +kernel
theorem d_R_init_31 : decode b_R_init 31 = .ok (.newarray .int, 2) := by decide +kernel
theorem d_R_init_33 : decode b_R_init 33 = .ok (.putfield 19, 3) := by decide +kernel
theorem d_R_init_36 : decode b_R_init 36 = .ok (.aload_n 0, 1) := by decide +kernel
theorem d_R_init_37 : decode b_R_init 37 = .ok (.bipush 12, 2) := by decide +kernel
theorem d_R_init_39 : decode b_R_init 39 = .ok (.newarray .int, 2) := by decide +kernel
theorem d_R_init_41 : decode b_R_init 41 = .ok (.putfield 22, 3) := by decide +kernel
theorem d_R_init_44 : decode b_R_init 44 = .ok (.aload_n 0, 1) := by decide +kernel
theorem d_R_init_45 : decode b_R_init 45 = .ok (.bipush 12, 2) := by decide +kernel
theorem d_R_init_47 : decode b_R_init 47 = .ok (.newarray .int, 2) := by decide +kernel
theorem d_R_init_49 : decode b_R_init 49 = .ok (.putfield 25, 3) := by decide +kernel
theorem d_R_init_52 : decode b_R_init 52 = .ok (.aload_n 0, 1) := by decide +kernel
theorem d_R_init_53 : decode b_R_init 53 = .ok (.bipush 24, 2) := by decide +kernel
theorem d_R_init_55 : decode b_R_init 55 = .ok (.newarray .int, 2) := by decide +kernel
theorem d_R_init_57 : decode b_R_init 57 = .ok (.putfield 28, 3) := by decide +kernel
theorem d_R_init_60 : decode b_R_init 60 = .ok (.aload_n 0, 1) := by decide +kernel
theorem d_R_init_61 : decode b_R_init 61 = .ok (.bipush 72, 2) := by decide +kernel
theorem d_R_init_63 : decode b_R_init 63 = .ok (.newarray .int, 2) := by decide +kernel
theorem d_R_init_65 : decode b_R_init 65 = .ok (.putfield 31, 3) := by decide +kernel
theorem d_R_init_68 : decode b_R_init 68 = .ok (.aload_n 0, 1) := by decide +kernel
theorem d_R_init_69 : decode b_R_init 69 = .ok (.iconst 3, 1) := by decide +kernel
theorem d_R_init_70 : decode b_R_init 70 = .ok (.newarray .int, 2) := by decide +kernel
theorem d_R_init_72 : decode b_R_init 72 = .ok (.putfield 34, 3) := by decide +kernel
theorem d_R_init_75 : decode b_R_init 75 = .ok (.aload_n 0, 1) := by decide +kernel
theorem d_R_init_76 : decode b_R_init 76 = .ok (.sipush 288, 3) := by decide +kernel
theorem d_R_init_79 : decode b_R_init 79 = .ok (.newarray .long, 2) := by decide +kernel
theorem d_R_init_81 : decode b_R_init 81 = .ok (.putfield 37, 3) := by decide +kernel
theorem d_R_init_84 : decode b_R_init 84 = .ok (.aload_n 0, 1) := by decide +kernel
theorem d_R_init_85 : decode b_R_init 85 = .ok (.bipush 12, 2) := by decide +kernel
theorem d_R_init_87 : decode b_R_init 87 = .ok (.newarray .boolean, 2) := by decide +kernel
theorem d_R_init_89 : decode b_R_init 89 = .ok (.putfield 41, 3) := by decide +kernel
theorem d_R_init_92 : decode b_R_init 92 = .ok (.aload_n 0, 1) := by decide +kernel
theorem d_R_init_93 : decode b_R_init 93 = .ok (.bipush 12, 2) := by decide +kernel
theorem d_R_init_95 : decode b_R_init 95 = .ok (.newarray .int, 2) := by decide +kernel
theorem d_R_init_97 : decode b_R_init 97 = .ok (.putfield 45, 3) := by decide +kernel
theorem d_R_init_100 : decode b_R_init 100 = .ok (.aload_n 0, 1) := by decide +kernel
theorem d_R_init_101 : decode b_R_init 101 = .ok (.bipush 12, 2) := by decide +kernel
theorem d_R_init_103 : decode b_R_init 103 = .ok (.newarray .int, 2) := by decide +kernel
theorem d_R_init_105 : decode b_R_init 105 = .ok (.putfield 48, 3) := by decide +kernel
theorem d_R_init_108 : decode b_R_init 108 = .ok (.aload_n 0, 1) := by decide +kernel
theorem d_R_init_109 : decode b_R_init 109 = .ok (.bipush 12, 2) := by decide +kernel
theorem d_R_init_111 : decode b_R_init 111 = .ok (.newarray .int, 2) := by decide +kernel
theorem d_R_init_113 : decode b_R_init 113 = .ok (.putfield 51, 3) := by decide +kernel
theorem d_R_init_116 : decode b_R_init 116 = .ok (.return_, 1) := by decide +kernel
theorem d_R_atom_0 : decode b_R_atom 0 = .ok (.aload_n 0, 1) := by decide +kernel
theorem d_R_atom_1 : decode b_R_atom 1 = .ok (.invokevirtual 67, 3) := by decide +kernel
theorem d_R_atom_4 : decode b_R_atom 4 = .ok (.ifCond .eq 37, 3) := by decide +kernel
theorem d_R_atom_7 : decode b_R_atom 7 = .ok (.iload_n 1, 1) := by decide +kernel
theorem d_R_atom_8 : decode b_R_atom 8 = .ok (.ifCond .lt 33, 3) := by decide +kernel
theorem d_R_atom_11 : decode b_R_atom 11 = .ok (.iload_n 1, 1) := by decide +kernel
theorem d_R_atom_12 : decode b_R_atom 12 = .ok (.iconst 2, 1) := by decide +kernel
theorem d_R_atom_13 : decode b_R_atom 13 = .ok (.if_icmp .gt 28, 3) := by decide +kernel
theorem d_R_atom_16 : decode b_R_atom 16 = .ok (.iload_n 2, 1) := by decide +kernel
theorem d_R_atom_17 : decode b_R_atom 17 = .ok (.invokestatic 71, 3) := by decide +kernel
theorem d_R_atom_20 : decode b_R_atom 20 = .ok (.ifCond .eq 21, 3) := by decide +kernel
theorem d_R_atom_23 : decode b_R_atom 23 = .ok (.iload_n 3, 1) := by decide +kernel
theorem d_R_atom_24 : decode b_R_atom 24 = .ok (.invokestatic 71, 3) := by decide +kernel
theorem d_R_atom_27 : decode b_R_atom 27 = .ok (.ifCond .eq 14, 3) := by decide +kernel
theorem d_R_atom_30 : decode b_R_atom 30 = .ok (.aload_n 0, 1) := by decide +kernel
theorem d_R_atom_31 : decode b_R_atom 31 = .ok (.iconst 0, 1) := by decide +kernel
theorem d_R_atom_32 : decode b_R_atom 32 = .ok (.iload_n 1, 1) := by decide +kernel
theorem d_R_atom_33 : decode b_R_atom 33 = .ok (.iload_n 2, 1) := by decide +kernel
theorem d_R_atom_34 : decode b_R_atom 34 = .ok (.iload_n 3, 1) := by decide +kernel
theorem d_R_atom_35 : decode b_R_atom 35 = .ok (.invokevirtual 63, 3) := by decide +kernel
theorem d_R_atom_38 : decode b_R_atom 38 = .ok (.goto 4, 3) := by decide +kernel
theorem d_R_atom_41 : decode b_R_atom 41 = .ok (.iconst (-1), 1) := by decide +kernel
theorem d_R_atom_42 : decode b_R_atom 42 = .ok (.ireturn, 1) := by decide +kernel
theorem d_R_mayMake_0 : decode b_R_mayMake 0 = .ok (.aload_n 0, 1) := by decide +kernel
theorem d_R_mayMake_1 : decode b_R_mayMake 1 = .ok (.getfield 58, 3) := by decide +kernel
theorem d_R_mayMake_4 : decode b_R_mayMake 4 = .ok (.ifCond .ne 16, 3) := by decide +kernel
theorem d_R_mayMake_7 : decode b_R_mayMake 7 = .ok (.aload_n 0, 1) := by decide +kernel
theorem d_R_mayMake_8 : decode b_R_mayMake 8 = .ok (.getfield 54, 3) := by decide +kernel
theorem d_R_mayMake_11 : decode b_R_mayMake 11 = .ok (.bipush 12, 2) := by decide +kernel
theorem d_R_mayMake_13 : decode b_R_mayMake 13 = .ok (.if_icmp .ge 7, 3) := by decide +kernel
theorem d_R_mayMake_16 : decode b_R_mayMake 16 = .ok (.iconst 1, 1) := by decide +kernel
theorem d_R_mayMake_17 : decode b_R_mayMake 17 = .ok (.goto 4, 3) := by decide +kernel
theorem d_R_mayMake_20 : decode b_R_mayMake 20 = .ok (.iconst 0, 1) := by decide +kernel
theorem d_R_mayMake_21 : decode b_R_mayMake 21 = .ok (.ireturn, 1) := by decide +kernel
theorem d_R_isTerm_0 : decode b_R_isTerm 0 = .ok (.iload_n 0, 1) := by decide +kernel
theorem d_R_isTerm_1 : decode b_R_isTerm 1 = .ok (.ifCond .lt 8, 3) := by decide +kernel
theorem d_R_isTerm_4 : decode b_R_isTerm 4 = .ok (.iload_n 0, 1) := by decide +kernel
theorem d_R_isTerm_5 : decode b_R_isTerm 5 = .ok (.iconst 2, 1) := by decide +kernel
theorem d_R_isTerm_6 : decode b_R_isTerm 6 = .ok (.if_icmp .le 14, 3) := by decide +kernel
theorem d_R_isTerm_9 : decode b_R_isTerm 9 = .ok (.iload_n 0, 1) := by decide +kernel
theorem d_R_isTerm_10 : decode b_R_isTerm 10 = .ok (.iconst 4, 1) := by decide +kernel
theorem d_R_isTerm_11 : decode b_R_isTerm 11 = .ok (.if_icmp .lt 13, 3) := by decide +kernel
theorem d_R_isTerm_14 : decode b_R_isTerm 14 = .ok (.iload_n 0, 1) := by decide +kernel
theorem d_R_isTerm_15 : decode b_R_isTerm 15 = .ok (.bipush 7, 2) := by decide +kernel
theorem d_R_isTerm_17 : decode b_R_isTerm 17 = .ok (.if_icmp .gt 7, 3) := by decide +kernel
theorem d_R_isTerm_20 : decode b_R_isTerm 20 = .ok (.iconst 1, 1) := by decide +kernel
theorem d_R_isTerm_21 : decode b_R_isTerm 21 = .ok (.goto 4, 3) := by decide +kernel
theorem d_R_isTerm_24 : decode b_R_isTerm 24 = .ok (.iconst 0, 1) := by decide +kernel
theorem d_R_isTerm_25 : decode b_R_isTerm 25 = .ok (.ireturn, 1) := by decide +kernel
theorem d_R_make_0 : decode b_R_make 0 = .ok (.aload_n 0, 1) := by decide +kernel
theorem d_R_make_1 : decode b_R_make 1 = .ok (.getfield 7, 3) := by decide +kernel
theorem d_R_make_4 : decode b_R_make 4 = .ok (.aload_n 0, 1) := by decide +kernel
theorem d_R_make_5 : decode b_R_make 5 = .ok (.getfield 54, 3) := by decide +kernel
theorem d_R_make_8 : decode b_R_make 8 = .ok (.iload_n 1, 1) := by decide +kernel
theorem d_R_make_9 : decode b_R_make 9 = .ok (.iastore, 1) := by decide +kernel
theorem d_R_make_10 : decode b_R_make 10 = .ok (.aload_n 0, 1) := by decide +kernel
theorem d_R_make_11 : decode b_R_make 11 = .ok (.getfield 13, 3) := by decide +kernel
theorem d_R_make_14 : decode b_R_make 14 = .ok (.aload_n 0, 1) := by decide +kernel
theorem d_R_make_15 : decode b_R_make 15 = .ok (.getfield 54, 3) := by decide +kernel
theorem d_R_make_18 : decode b_R_make 18 = .ok (.iload_n 2, 1) := by decide +kernel
theorem d_R_make_19 : decode b_R_make 19 = .ok (.iastore, 1) := by decide +kernel
theorem d_R_make_20 : decode b_R_make 20 = .ok (.aload_n 0, 1) := by decide +kernel
theorem d_R_make_21 : decode b_R_make 21 = .ok (.getfield 16, 3) := by decide +kernel
theorem d_R_make_24 : decode b_R_make 24 = .ok (.aload_n 0, 1) := by decide +kernel
theorem d_R_make_25 : decode b_R_make 25 = .ok (.getfield 54, 3) := by decide +kernel
theorem d_R_make_28 : decode b_R_make 28 = .ok (.iload_n 3, 1) := by decide +kernel
theorem d_R_make_29 : decode b_R_make 29 = .ok (.iastore, 1) := by decide +kernel
theorem d_R_make_30 : decode b_R_make 30 = .ok (.aload_n 0, 1) := by decide +kernel
theorem d_R_make_31 : decode b_R_make 31 = .ok (.getfield 19, 3) := by decide +kernel
theorem d_R_make_34 : decode b_R_make 34 = .ok (.aload_n 0, 1) := by decide +kernel
theorem d_R_make_35 : decode b_R_make 35 = .ok (.getfield 54, 3) := by decide +kernel
theorem d_R_make_38 : decode b_R_make 38 = .ok (.iload 4, 2) := by decide +kernel
theorem d_R_make_40 : decode b_R_make 40 = .ok (.iastore, 1) := by decide +kernel
theorem d_R_make_41 : decode b_R_make 41 = .ok (.aload_n 0, 1) := by decide +kernel
theorem d_R_make_42 : decode b_R_make 42 = .ok (.getfield 22, 3) := by decide +kernel
theorem d_R_make_45 : decode b_R_make 45 = .ok (.aload_n 0, 1) := by decide +kernel
theorem d_R_make_46 : decode b_R_make 46 = .ok (.getfield 54, 3) := by decide +kernel
theorem d_R_make_49 : decode b_R_make 49 = .ok (.iconst 0, 1) := by decide +kernel
theorem d_R_make_50 : decode b_R_make 50 = .ok (.iastore, 1) := by decide +kernel
theorem d_R_make_51 : decode b_R_make 51 = .ok (.aload_n 0, 1) := by decide +kernel
theorem d_R_make_52 : decode b_R_make 52 = .ok (.getfield 25, 3) := by decide +kernel
theorem d_R_make_55 : decode b_R_make 55 = .ok (.aload_n 0, 1) := by decide +kernel
theorem d_R_make_56 : decode b_R_make 56 = .ok (.getfield 54, 3) := by decide +kernel
theorem d_R_make_59 : decode b_R_make 59 = .ok (.iconst (-1), 1) := by decide +kernel
theorem d_R_make_60 : decode b_R_make 60 = .ok (.iastore, 1) := by decide +kernel
theorem d_R_make_61 : decode b_R_make 61 = .ok (.aload_n 0, 1) := by decide +kernel
theorem d_R_make_62 : decode b_R_make 62 = .ok (.dup, 1) := by decide +kernel
theorem d_R_make_63 : decode b_R_make 63 = .ok (.getfield 54, 3) := by decide +kernel
theorem d_R_make_66 : decode b_R_make 66 = .ok (.iconst 1, 1) := by decide +kernel
theorem d_R_make_67 : decode b_R_make 67 = .ok (.iadd, 1) := by decide +kernel
theorem d_R_make_68 : decode b_R_make 68 = .ok (.putfield 54, 3) := by decide +kernel
theorem d_R_make_71 : decode b_R_make 71 = .ok (.aload_n 0, 1) := by decide +kernel
theorem d_R_make_72 : decode b_R_make 72 = .ok (.getfield 54, 3) := by decide +kernel
theorem d_R_make_75 : decode b_R_make 75 = .ok (.iconst 1, 1) := by decide +kernel
theorem d_R_make_76 : decode b_R_make 76 = .ok (.isub, 1) := by decide +kernel
theorem d_R_make_77 : decode b_R_make 77 = .ok (.ireturn, 1) := by decide +kernel
theorem d_R_compare_0 : decode b_R_compare 0 = .ok (.aload_n 0, 1) := by decide +kernel
theorem d_R_compare_1 : decode b_R_compare 1 = .ok (.invokevirtual 67, 3) := by decide +kernel
theorem d_R_compare_4 : decode b_R_compare 4 = .ok (.ifCond .eq 36, 3) := by decide +kernel
theorem d_R_compare_7 : decode b_R_compare 7 = .ok (.iload_n 2, 1) := by decide +kernel
theorem d_R_compare_8 : decode b_R_compare 8 = .ok (.invokestatic 71, 3) := by decide +kernel
theorem d_R_compare_11 : decode b_R_compare 11 = .ok (.ifCond .eq 29, 3) := by decide +kernel
theorem d_R_compare_14 : decode b_R_compare 14 = .ok (.iload_n 3, 1) := by decide +kernel
theorem d_R_compare_15 : decode b_R_compare 15 = .ok (.invokestatic 71, 3) := by decide +kernel
theorem d_R_compare_18 : decode b_R_compare 18 = .ok (.ifCond .eq 22, 3) := by decide +kernel
theorem d_R_compare_21 : decode b_R_compare 21 = .ok (.aload_n 0, 1) := by decide +kernel
theorem d_R_compare_22 : decode b_R_compare 22 = .ok (.iload_n 1, 1) := by decide +kernel
theorem d_R_compare_23 : decode b_R_compare 23 = .ok (.ifCond .eq 7, 3) := by decide +kernel
theorem d_R_compare_26 : decode b_R_compare 26 = .ok (.iconst 2, 1) := by decide +kernel
theorem d_R_compare_27 : decode b_R_compare 27 = .ok (.goto 4, 3) := by decide +kernel
theorem d_R_compare_30 : decode b_R_compare 30 = .ok (.iconst 1, 1) := by decide +kernel
theorem d_R_compare_31 : decode b_R_compare 31 = .ok (.iconst 0, 1) := by decide +kernel
theorem d_R_compare_32 : decode b_R_compare 32 = .ok (.iload_n 2, 1) := by decide +kernel
theorem d_R_compare_33 : decode b_R_compare 33 = .ok (.iload_n 3, 1) := by decide +kernel
theorem d_R_compare_34 : decode b_R_compare 34 = .ok (.invokevirtual 63, 3) := by decide +kernel
theorem d_R_compare_37 : decode b_R_compare 37 = .ok (.goto 4, 3) := by decide +kernel
theorem d_R_compare_40 : decode b_R_compare 40 = .ok (.iconst (-1), 1) := by decide +kernel
theorem d_R_compare_41 : decode b_R_compare 41 = .ok (.ireturn, 1) := by decide +kernel
theorem d_R_not_0 : decode b_R_not 0 = .ok (.aload_n 0, 1) := by decide +kernel
theorem d_R_not_1 : decode b_R_not 1 = .ok (.invokevirtual 67, 3) := by decide +kernel
theorem d_R_not_4 : decode b_R_not 4 = .ok (.ifCond .eq 22, 3) := by decide +kernel
theorem d_R_not_7 : decode b_R_not 7 = .ok (.aload_n 0, 1) := by decide +kernel
theorem d_R_not_8 : decode b_R_not 8 = .ok (.iload_n 1, 1) := by decide +kernel
theorem d_R_not_9 : decode b_R_not 9 = .ok (.invokevirtual 75, 3) := by decide +kernel
theorem d_R_not_12 : decode b_R_not 12 = .ok (.ifCond .eq 14, 3) := by decide +kernel
theorem d_R_not_15 : decode b_R_not 15 = .ok (.aload_n 0, 1) := by decide +kernel
theorem d_R_not_16 : decode b_R_not 16 = .ok (.iconst 3, 1) := by decide +kernel
theorem d_R_not_17 : decode b_R_not 17 = .ok (.iconst 0, 1) := by decide +kernel
theorem d_R_not_18 : decode b_R_not 18 = .ok (.iload_n 1, 1) := by decide +kernel
theorem d_R_not_19 : decode b_R_not 19 = .ok (.iload_n 1, 1) := by decide +kernel
theorem d_R_not_20 : decode b_R_not 20 = .ok (.invokevirtual 63, 3) := by decide +kernel
theorem d_R_not_23 : decode b_R_not 23 = .ok (.goto 4, 3) := by decide +kernel
theorem d_R_not_26 : decode b_R_not 26 = .ok (.iconst (-1), 1) := by decide +kernel
theorem d_R_not_27 : decode b_R_not 27 = .ok (.ireturn, 1) := by decide +kernel
theorem d_R_isFormula_0 : decode b_R_isFormula 0 = .ok (.iload_n 1, 1) := by decide +kernel
theorem d_R_isFormula_1 : decode b_R_isFormula 1 = .ok (.ifCond .lt 15, 3) := by decide +kernel
theorem d_R_isFormula_4 : decode b_R_isFormula 4 = .ok (.iload_n 1, 1) := by decide +kernel
theorem d_R_isFormula_5 : decode b_R_isFormula 5 = .ok (.aload_n 0, 1) := by decide +kernel
theorem d_R_isFormula_6 : decode b_R_isFormula 6 = .ok (.getfield 54, 3) := by decide +kernel
theorem d_R_isFormula_9 : decode b_R_isFormula 9 = .ok (.if_icmp .ge 7, 3) := by decide +kernel
theorem d_R_isFormula_12 : decode b_R_isFormula 12 = .ok (.iconst 1, 1) := by decide +kernel
theorem d_R_isFormula_13 : decode b_R_isFormula 13 = .ok (.goto 4, 3) := by decide +kernel
theorem d_R_isFormula_16 : decode b_R_isFormula 16 = .ok (.iconst 0, 1) := by decide +kernel
theorem d_R_isFormula_17 : decode b_R_isFormula 17 = .ok (.ireturn, 1) := by decide +kernel
theorem d_R_join_0 : decode b_R_join 0 = .ok (.aload_n 0, 1) := by decide +kernel
theorem d_R_join_1 : decode b_R_join 1 = .ok (.invokevirtual 67, 3) := by decide +kernel
theorem d_R_join_4 : decode b_R_join 4 = .ok (.ifCond .eq 38, 3) := by decide +kernel
theorem d_R_join_7 : decode b_R_join 7 = .ok (.aload_n 0, 1) := by decide +kernel
theorem d_R_join_8 : decode b_R_join 8 = .ok (.iload_n 2, 1) := by decide +kernel
theorem d_R_join_9 : decode b_R_join 9 = .ok (.invokevirtual 75, 3) := by decide +kernel
theorem d_R_join_12 : decode b_R_join 12 = .ok (.ifCond .eq 30, 3) := by decide +kernel
theorem d_R_join_15 : decode b_R_join 15 = .ok (.aload_n 0, 1) := by decide +kernel
theorem d_R_join_16 : decode b_R_join 16 = .ok (.iload_n 3, 1) := by decide +kernel
theorem d_R_join_17 : decode b_R_join 17 = .ok (.invokevirtual 75, 3) := by decide +kernel
theorem d_R_join_20 : decode b_R_join 20 = .ok (.ifCond .eq 22, 3) := by decide +kernel
theorem d_R_join_23 : decode b_R_join 23 = .ok (.aload_n 0, 1) := by decide +kernel
theorem d_R_join_24 : decode b_R_join 24 = .ok (.iload_n 1, 1) := by decide +kernel
theorem d_R_join_25 : decode b_R_join 25 = .ok (.ifCond .eq 7, 3) := by decide +kernel
theorem d_R_join_28 : decode b_R_join 28 = .ok (.iconst 4, 1) := by decide +kernel
theorem d_R_join_29 : decode b_R_join 29 = .ok (.goto 4, 3) := by decide +kernel
theorem d_R_join_32 : decode b_R_join 32 = .ok (.iconst 5, 1) := by decide +kernel
theorem d_R_join_33 : decode b_R_join 33 = .ok (.iconst 0, 1) := by decide +kernel
theorem d_R_join_34 : decode b_R_join 34 = .ok (.iload_n 2, 1) := by decide +kernel
theorem d_R_join_35 : decode b_R_join 35 = .ok (.iload_n 3, 1) := by decide +kernel
theorem d_R_join_36 : decode b_R_join 36 = .ok (.invokevirtual 63, 3) := by decide +kernel
theorem d_R_join_39 : decode b_R_join 39 = .ok (.goto 4, 3) := by decide +kernel
theorem d_R_join_42 : decode b_R_join 42 = .ok (.iconst (-1), 1) := by decide +kernel
theorem d_R_join_43 : decode b_R_join 43 = .ok (.ireturn, 1) := by decide +kernel
theorem d_R_exists_0 : decode b_R_exists 0 = .ok (.aload_n 0, 1) := by decide +kernel
theorem d_R_exists_1 : decode b_R_exists 1 = .ok (.invokevirtual 67, 3) := by decide +kernel
theorem d_R_exists_4 : decode b_R_exists 4 = .ok (.ifCond .eq 32, 3) := by decide +kernel
theorem d_R_exists_7 : decode b_R_exists 7 = .ok (.iload_n 1, 1) := by decide +kernel
theorem d_R_exists_8 : decode b_R_exists 8 = .ok (.ifCond .lt 28, 3) := by decide +kernel
theorem d_R_exists_11 : decode b_R_exists 11 = .ok (.iload_n 1, 1) := by decide +kernel
theorem d_R_exists_12 : decode b_R_exists 12 = .ok (.iconst 2, 1) := by decide +kernel
theorem d_R_exists_13 : decode b_R_exists 13 = .ok (.if_icmp .gt 23, 3) := by decide +kernel
theorem d_R_exists_16 : decode b_R_exists 16 = .ok (.aload_n 0, 1) := by decide +kernel
theorem d_R_exists_17 : decode b_R_exists 17 = .ok (.iload_n 2, 1) := by decide +kernel
theorem d_R_exists_18 : decode b_R_exists 18 = .ok (.invokevirtual 75, 3) := by decide +kernel
theorem d_R_exists_21 : decode b_R_exists 21 = .ok (.ifCond .eq 15, 3) := by decide +kernel
theorem d_R_exists_24 : decode b_R_exists 24 = .ok (.aload_n 0, 1) := by decide +kernel
theorem d_R_exists_25 : decode b_R_exists 25 = .ok (.bipush 6, 2) := by decide +kernel
theorem d_R_exists_27 : decode b_R_exists 27 = .ok (.iload_n 1, 1) := by decide +kernel
theorem d_R_exists_28 : decode b_R_exists 28 = .ok (.iload_n 2, 1) := by decide +kernel
theorem d_R_exists_29 : decode b_R_exists 29 = .ok (.iload_n 2, 1) := by decide +kernel
theorem d_R_exists_30 : decode b_R_exists 30 = .ok (.invokevirtual 63, 3) := by decide +kernel
theorem d_R_exists_33 : decode b_R_exists 33 = .ok (.goto 4, 3) := by decide +kernel
theorem d_R_exists_36 : decode b_R_exists 36 = .ok (.iconst (-1), 1) := by decide +kernel
theorem d_R_exists_37 : decode b_R_exists 37 = .ok (.ireturn, 1) := by decide +kernel
theorem d_R_previous_0 : decode b_R_previous 0 = .ok (.aload_n 0, 1) := by decide +kernel
theorem d_R_previous_1 : decode b_R_previous 1 = .ok (.invokevirtual 67, 3) := by decide +kernel
theorem d_R_previous_4 : decode b_R_previous 4 = .ok (.ifCond .eq 33, 3) := by decide +kernel
theorem d_R_previous_7 : decode b_R_previous 7 = .ok (.iload_n 1, 1) := by decide +kernel
theorem d_R_previous_8 : decode b_R_previous 8 = .ok (.iload_n 2, 1) := by decide +kernel
theorem d_R_previous_9 : decode b_R_previous 9 = .ok (.iconst 1, 1) := by decide +kernel
theorem d_R_previous_10 : decode b_R_previous 10 = .ok (.invokestatic 78, 3) := by decide +kernel
theorem d_R_previous_13 : decode b_R_previous 13 = .ok (.ifCond .eq 24, 3) := by decide +kernel
theorem d_R_previous_16 : decode b_R_previous 16 = .ok (.aload_n 0, 1) := by decide +kernel
theorem d_R_previous_17 : decode b_R_previous 17 = .ok (.iload_n 3, 1) := by decide +kernel
theorem d_R_previous_18 : decode b_R_previous 18 = .ok (.invokevirtual 75, 3) := by decide +kernel
theorem d_R_previous_21 : decode b_R_previous 21 = .ok (.ifCond .eq 16, 3) := by decide +kernel
theorem d_R_previous_24 : decode b_R_previous 24 = .ok (.aload_n 0, 1) := by decide +kernel
theorem d_R_previous_25 : decode b_R_previous 25 = .ok (.bipush 7, 2) := by decide +kernel
theorem d_R_previous_27 : decode b_R_previous 27 = .ok (.iload_n 1, 1) := by decide +kernel
theorem d_R_previous_28 : decode b_R_previous 28 = .ok (.iload_n 2, 1) := by decide +kernel
theorem d_R_previous_29 : decode b_R_previous 29 = .ok (.iload_n 3, 1) := by decide +kernel
theorem d_R_previous_30 : decode b_R_previous 30 = .ok (.iload_n 3, 1) := by decide +kernel
theorem d_R_previous_31 : decode b_R_previous 31 = .ok (.invokevirtual 82, 3) := by decide +kernel
theorem d_R_previous_34 : decode b_R_previous 34 = .ok (.goto 4, 3) := by decide +kernel
theorem d_R_previous_37 : decode b_R_previous 37 = .ok (.iconst (-1), 1) := by decide +kernel
theorem d_R_previous_38 : decode b_R_previous 38 = .ok (.ireturn, 1) := by decide +kernel
theorem d_R_isInterval_0 : decode b_R_isInterval 0 = .ok (.iload_n 0, 1) := by decide +kernel
theorem d_R_isInterval_1 : decode b_R_isInterval 1 = .ok (.ifCond .lt 33, 3) := by decide +kernel
theorem d_R_isInterval_4 : decode b_R_isInterval 4 = .ok (.iload_n 0, 1) := by decide +kernel
theorem d_R_isInterval_5 : decode b_R_isInterval 5 = .ok (.ldc 62, 2) := by decide +kernel
theorem d_R_isInterval_7 : decode b_R_isInterval 7 = .ok (.if_icmp .gt 27, 3) := by decide +kernel
theorem d_R_isInterval_10 : decode b_R_isInterval 10 = .ok (.iload_n 1, 1) := by decide +kernel
theorem d_R_isInterval_11 : decode b_R_isInterval 11 = .ok (.iload_n 0, 1) := by decide +kernel
theorem d_R_isInterval_12 : decode b_R_isInterval 12 = .ok (.if_icmp .lt 9, 3) := by decide +kernel
theorem d_R_isInterval_15 : decode b_R_isInterval 15 = .ok (.iload_n 1, 1) := by decide +kernel
theorem d_R_isInterval_16 : decode b_R_isInterval 16 = .ok (.ldc 62, 2) := by decide +kernel
theorem d_R_isInterval_18 : decode b_R_isInterval 18 = .ok (.if_icmp .le 12, 3) := by decide +kernel
theorem d_R_isInterval_21 : decode b_R_isInterval 21 = .ok (.iload_n 2, 1) := by decide +kernel
theorem d_R_isInterval_22 : decode b_R_isInterval 22 = .ok (.ifCond .eq 12, 3) := by decide +kernel
theorem d_R_isInterval_25 : decode b_R_isInterval 25 = .ok (.iload_n 1, 1) := by decide +kernel
theorem d_R_isInterval_26 : decode b_R_isInterval 26 = .ok (.iconst (-1), 1) := by decide +kernel
theorem d_R_isInterval_27 : decode b_R_isInterval 27 = .ok (.if_icmp .ne 7, 3) := by decide +kernel
theorem d_R_isInterval_30 : decode b_R_isInterval 30 = .ok (.iconst 1, 1) := by decide +kernel
theorem d_R_isInterval_31 : decode b_R_isInterval 31 = .ok (.goto 4, 3) := by decide +kernel
theorem d_R_isInterval_34 : decode b_R_isInterval 34 = .ok (.iconst 0, 1) := by decide +kernel
theorem d_R_isInterval_35 : decode b_R_isInterval 35 = .ok (.ireturn, 1) := by decide +kernel
theorem d_R_makeTimed_0 : decode b_R_makeTimed 0 = .ok (.aload_n 0, 1) := by decide +kernel
theorem d_R_makeTimed_1 : decode b_R_makeTimed 1 = .ok (.iload_n 1, 1) := by decide +kernel
theorem d_R_makeTimed_2 : decode b_R_makeTimed 2 = .ok (.iconst 0, 1) := by decide +kernel
theorem d_R_makeTimed_3 : decode b_R_makeTimed 3 = .ok (.iload 4, 2) := by decide +kernel
theorem d_R_makeTimed_5 : decode b_R_makeTimed 5 = .ok (.iload 5, 2) := by decide +kernel
theorem d_R_makeTimed_7 : decode b_R_makeTimed 7 = .ok (.invokevirtual 63, 3) := by decide +kernel
theorem d_R_makeTimed_10 : decode b_R_makeTimed 10 = .ok (.istore 6, 2) := by decide +kernel
theorem d_R_makeTimed_12 : decode b_R_makeTimed 12 = .ok (.aload_n 0, 1) := by decide +kernel
theorem d_R_makeTimed_13 : decode b_R_makeTimed 13 = .ok (.getfield 22, 3) := by decide +kernel
theorem d_R_makeTimed_16 : decode b_R_makeTimed 16 = .ok (.iload 6, 2) := by decide +kernel
theorem d_R_makeTimed_18 : decode b_R_makeTimed 18 = .ok (.iload_n 2, 1) := by decide +kernel
theorem d_R_makeTimed_19 : decode b_R_makeTimed 19 = .ok (.iastore, 1) := by decide +kernel
theorem d_R_makeTimed_20 : decode b_R_makeTimed 20 = .ok (.aload_n 0, 1) := by decide +kernel
theorem d_R_makeTimed_21 : decode b_R_makeTimed 21 = .ok (.getfield 25, 3) := by decide +kernel
theorem d_R_makeTimed_24 : decode b_R_makeTimed 24 = .ok (.iload 6, 2) := by decide +kernel
theorem d_R_makeTimed_26 : decode b_R_makeTimed 26 = .ok (.iload_n 3, 1) := by decide +kernel
theorem d_R_makeTimed_27 : decode b_R_makeTimed 27 = .ok (.iastore, 1) := by decide +kernel
theorem d_R_makeTimed_28 : decode b_R_makeTimed 28 = .ok (.iload 6, 2) := by decide +kernel
theorem d_R_makeTimed_30 : decode b_R_makeTimed 30 = .ok (.ireturn, 1) := by decide +kernel
theorem d_R_since_0 : decode b_R_since 0 = .ok (.aload_n 0, 1) := by decide +kernel
theorem d_R_since_1 : decode b_R_since 1 = .ok (.invokevirtual 67, 3) := by decide +kernel
theorem d_R_since_4 : decode b_R_since 4 = .ok (.ifCond .eq 43, 3) := by decide +kernel
theorem d_R_since_7 : decode b_R_since 7 = .ok (.iload_n 1, 1) := by decide +kernel
theorem d_R_since_8 : decode b_R_since 8 = .ok (.iload_n 2, 1) := by decide +kernel
theorem d_R_since_9 : decode b_R_since 9 = .ok (.iconst 1, 1) := by decide +kernel
theorem d_R_since_10 : decode b_R_since 10 = .ok (.invokestatic 78, 3) := by decide +kernel
theorem d_R_since_13 : decode b_R_since 13 = .ok (.ifCond .eq 34, 3) := by decide +kernel
theorem d_R_since_16 : decode b_R_since 16 = .ok (.aload_n 0, 1) := by decide +kernel
theorem d_R_since_17 : decode b_R_since 17 = .ok (.iload_n 3, 1) := by decide +kernel
theorem d_R_since_18 : decode b_R_since 18 = .ok (.invokevirtual 75, 3) := by decide +kernel
theorem d_R_since_21 : decode b_R_since 21 = .ok (.ifCond .eq 26, 3) := by decide +kernel
theorem d_R_since_24 : decode b_R_since 24 = .ok (.aload_n 0, 1) := by decide +kernel
theorem d_R_since_25 : decode b_R_since 25 = .ok (.iload 4, 2) := by decide +kernel
theorem d_R_since_27 : decode b_R_since 27 = .ok (.invokevirtual 75, 3) := by decide +kernel
theorem d_R_since_30 : decode b_R_since 30 = .ok (.ifCond .eq 17, 3) := by decide +kernel
theorem d_R_since_33 : decode b_R_since 33 = .ok (.aload_n 0, 1) := by decide +kernel
theorem d_R_since_34 : decode b_R_since 34 = .ok (.bipush 8, 2) := by decide +kernel
theorem d_R_since_36 : decode b_R_since 36 = .ok (.iload_n 1, 1) := by decide +kernel
theorem d_R_since_37 : decode b_R_since 37 = .ok (.iload_n 2, 1) := by decide +kernel
theorem d_R_since_38 : decode b_R_since 38 = .ok (.iload_n 3, 1) := by decide +kernel
theorem d_R_since_39 : decode b_R_since 39 = .ok (.iload 4, 2) := by decide +kernel
theorem d_R_since_41 : decode b_R_since 41 = .ok (.invokevirtual 82, 3) := by decide +kernel
theorem d_R_since_44 : decode b_R_since 44 = .ok (.goto 4, 3) := by decide +kernel
theorem d_R_since_47 : decode b_R_since 47 = .ok (.iconst (-1), 1) := by decide +kernel
theorem d_R_since_48 : decode b_R_since 48 = .ok (.ireturn, 1) := by decide +kernel
theorem d_R_until_0 : decode b_R_until 0 = .ok (.aload_n 0, 1) := by decide +kernel
theorem d_R_until_1 : decode b_R_until 1 = .ok (.invokevirtual 67, 3) := by decide +kernel
theorem d_R_until_4 : decode b_R_until 4 = .ok (.ifCond .eq 43, 3) := by decide +kernel
theorem d_R_until_7 : decode b_R_until 7 = .ok (.iload_n 1, 1) := by decide +kernel
theorem d_R_until_8 : decode b_R_until 8 = .ok (.iload_n 2, 1) := by decide +kernel
theorem d_R_until_9 : decode b_R_until 9 = .ok (.iconst 0, 1) := by decide +kernel
theorem d_R_until_10 : decode b_R_until 10 = .ok (.invokestatic 78, 3) := by decide +kernel
theorem d_R_until_13 : decode b_R_until 13 = .ok (.ifCond .eq 34, 3) := by decide +kernel
theorem d_R_until_16 : decode b_R_until 16 = .ok (.aload_n 0, 1) := by decide +kernel
theorem d_R_until_17 : decode b_R_until 17 = .ok (.iload_n 3, 1) := by decide +kernel
theorem d_R_until_18 : decode b_R_until 18 = .ok (.invokevirtual 75, 3) := by decide +kernel
theorem d_R_until_21 : decode b_R_until 21 = .ok (.ifCond .eq 26, 3) := by decide +kernel
theorem d_R_until_24 : decode b_R_until 24 = .ok (.aload_n 0, 1) := by decide +kernel
theorem d_R_until_25 : decode b_R_until 25 = .ok (.iload 4, 2) := by decide +kernel
theorem d_R_until_27 : decode b_R_until 27 = .ok (.invokevirtual 75, 3) := by decide +kernel
theorem d_R_until_30 : decode b_R_until 30 = .ok (.ifCond .eq 17, 3) := by decide +kernel
theorem d_R_until_33 : decode b_R_until 33 = .ok (.aload_n 0, 1) := by decide +kernel
theorem d_R_until_34 : decode b_R_until 34 = .ok (.bipush 9, 2) := by decide +kernel
theorem d_R_until_36 : decode b_R_until 36 = .ok (.iload_n 1, 1) := by decide +kernel
theorem d_R_until_37 : decode b_R_until 37 = .ok (.iload_n 2, 1) := by decide +kernel
theorem d_R_until_38 : decode b_R_until 38 = .ok (.iload_n 3, 1) := by decide +kernel
theorem d_R_until_39 : decode b_R_until 39 = .ok (.iload 4, 2) := by decide +kernel
theorem d_R_until_41 : decode b_R_until 41 = .ok (.invokevirtual 82, 3) := by decide +kernel
theorem d_R_until_44 : decode b_R_until 44 = .ok (.goto 4, 3) := by decide +kernel
theorem d_R_until_47 : decode b_R_until 47 = .ok (.iconst (-1), 1) := by decide +kernel
theorem d_R_until_48 : decode b_R_until 48 = .ok (.ireturn, 1) := by decide +kernel
theorem d_R_free_0 : decode b_R_free 0 = .ok (.aload_n 0, 1) := by decide +kernel
theorem d_R_free_1 : decode b_R_free 1 = .ok (.iload_n 1, 1) := by decide +kernel
theorem d_R_free_2 : decode b_R_free 2 = .ok (.invokevirtual 75, 3) := by decide +kernel
theorem d_R_free_5 : decode b_R_free 5 = .ok (.ifCond .eq 11, 3) := by decide +kernel
theorem d_R_free_8 : decode b_R_free 8 = .ok (.aload_n 0, 1) := by decide +kernel
theorem d_R_free_9 : decode b_R_free 9 = .ok (.iload_n 1, 1) := by decide +kernel
theorem d_R_free_10 : decode b_R_free 10 = .ok (.invokevirtual 90, 3) := by decide +kernel
theorem d_R_free_13 : decode b_R_free 13 = .ok (.goto 4, 3) := by decide +kernel
theorem d_R_free_16 : decode b_R_free 16 = .ok (.iconst (-1), 1) := by decide +kernel
theorem d_R_free_17 : decode b_R_free 17 = .ok (.ireturn, 1) := by decide +kernel
theorem d_R_freeOf_0 : decode b_R_freeOf 0 = .ok (.iconst 0, 1) := by decide +kernel
theorem d_R_freeOf_1 : decode b_R_freeOf 1 = .ok (.istore_n 2, 1) := by decide +kernel
theorem d_R_freeOf_2 : decode b_R_freeOf 2 = .ok (.iload_n 2, 1) := by decide +kernel
theorem d_R_freeOf_3 : decode b_R_freeOf 3 = .ok (.iload_n 1, 1) := by decide +kernel
theorem d_R_freeOf_4 : decode b_R_freeOf 4 = .ok (.if_icmp .gt 110, 3) := by decide +kernel
theorem d_R_freeOf_7 : decode b_R_freeOf 7 = .ok (.aload_n 0, 1) := by decide +kernel
theorem d_R_freeOf_8 : decode b_R_freeOf 8 = .ok (.getfield 7, 3) := by decide +kernel
theorem d_R_freeOf_11 : decode b_R_freeOf 11 = .ok (.iload_n 2, 1) := by decide +kernel
theorem d_R_freeOf_12 : decode b_R_freeOf 12 = .ok (.iaload, 1) := by decide +kernel
theorem d_R_freeOf_13 : decode b_R_freeOf 13 = .ok (.iconst 2, 1) := by decide +kernel
theorem d_R_freeOf_14 : decode b_R_freeOf 14 = .ok (.if_icmp .gt 31, 3) := by decide +kernel
theorem d_R_freeOf_17 : decode b_R_freeOf 17 = .ok (.aload_n 0, 1) := by decide +kernel
theorem d_R_freeOf_18 : decode b_R_freeOf 18 = .ok (.getfield 45, 3) := by decide +kernel
theorem d_R_freeOf_21 : decode b_R_freeOf 21 = .ok (.iload_n 2, 1) := by decide +kernel
theorem d_R_freeOf_22 : decode b_R_freeOf 22 = .ok (.aload_n 0, 1) := by decide +kernel
theorem d_R_freeOf_23 : decode b_R_freeOf 23 = .ok (.getfield 16, 3) := by decide +kernel
theorem d_R_freeOf_26 : decode b_R_freeOf 26 = .ok (.iload_n 2, 1) := by decide +kernel
theorem d_R_freeOf_27 : decode b_R_freeOf 27 = .ok (.iaload, 1) := by decide +kernel
theorem d_R_freeOf_28 : decode b_R_freeOf 28 = .ok (.invokestatic 86, 3) := by decide +kernel
theorem d_R_freeOf_31 : decode b_R_freeOf 31 = .ok (.aload_n 0, 1) := by decide +kernel
theorem d_R_freeOf_32 : decode b_R_freeOf 32 = .ok (.getfield 19, 3) := by decide +kernel
theorem d_R_freeOf_35 : decode b_R_freeOf 35 = .ok (.iload_n 2, 1) := by decide +kernel
theorem d_R_freeOf_36 : decode b_R_freeOf 36 = .ok (.iaload, 1) := by decide +kernel
theorem d_R_freeOf_37 : decode b_R_freeOf 37 = .ok (.invokestatic 86, 3) := by decide +kernel
theorem d_R_freeOf_40 : decode b_R_freeOf 40 = .ok (.ior, 1) := by decide +kernel
theorem d_R_freeOf_41 : decode b_R_freeOf 41 = .ok (.iastore, 1) := by decide +kernel
theorem d_R_freeOf_42 : decode b_R_freeOf 42 = .ok (.goto 32, 3) := by decide +kernel
theorem d_R_freeOf_45 : decode b_R_freeOf 45 = .ok (.aload_n 0, 1) := by decide +kernel
theorem d_R_freeOf_46 : decode b_R_freeOf 46 = .ok (.getfield 45, 3) := by decide +kernel
theorem d_R_freeOf_49 : decode b_R_freeOf 49 = .ok (.iload_n 2, 1) := by decide +kernel
theorem d_R_freeOf_50 : decode b_R_freeOf 50 = .ok (.aload_n 0, 1) := by decide +kernel
theorem d_R_freeOf_51 : decode b_R_freeOf 51 = .ok (.getfield 45, 3) := by decide +kernel
theorem d_R_freeOf_54 : decode b_R_freeOf 54 = .ok (.aload_n 0, 1) := by decide +kernel
theorem d_R_freeOf_55 : decode b_R_freeOf 55 = .ok (.getfield 16, 3) := by decide +kernel
theorem d_R_freeOf_58 : decode b_R_freeOf 58 = .ok (.iload_n 2, 1) := by decide +kernel
theorem d_R_freeOf_59 : decode b_R_freeOf 59 = .ok (.iaload, 1) := by decide +kernel
theorem d_R_freeOf_60 : decode b_R_freeOf 60 = .ok (.iaload, 1) := by decide +kernel
theorem d_R_freeOf_61 : decode b_R_freeOf 61 = .ok (.aload_n 0, 1) := by decide +kernel
theorem d_R_freeOf_62 : decode b_R_freeOf 62 = .ok (.getfield 45, 3) := by decide +kernel
theorem d_R_freeOf_65 : decode b_R_freeOf 65 = .ok (.aload_n 0, 1) := by decide +kernel
theorem d_R_freeOf_66 : decode b_R_freeOf 66 = .ok (.getfield 19, 3) := by decide +kernel
theorem d_R_freeOf_69 : decode b_R_freeOf 69 = .ok (.iload_n 2, 1) := by decide +kernel
theorem d_R_freeOf_70 : decode b_R_freeOf 70 = .ok (.iaload, 1) := by decide +kernel
theorem d_R_freeOf_71 : decode b_R_freeOf 71 = .ok (.iaload, 1) := by decide +kernel
theorem d_R_freeOf_72 : decode b_R_freeOf 72 = .ok (.ior, 1) := by decide +kernel
theorem d_R_freeOf_73 : decode b_R_freeOf 73 = .ok (.iastore, 1) := by decide +kernel
theorem d_R_freeOf_74 : decode b_R_freeOf 74 = .ok (.aload_n 0, 1) := by decide +kernel
theorem d_R_freeOf_75 : decode b_R_freeOf 75 = .ok (.getfield 7, 3) := by decide +kernel
theorem d_R_freeOf_78 : decode b_R_freeOf 78 = .ok (.iload_n 2, 1) := by decide +kernel
theorem d_R_freeOf_79 : decode b_R_freeOf 79 = .ok (.iaload, 1) := by decide +kernel
theorem d_R_freeOf_80 : decode b_R_freeOf 80 = .ok (.bipush 6, 2) := by decide +kernel
theorem d_R_freeOf_82 : decode b_R_freeOf 82 = .ok (.if_icmp .ne 26, 3) := by decide +kernel
theorem d_R_freeOf_85 : decode b_R_freeOf 85 = .ok (.aload_n 0, 1) := by decide +kernel
theorem d_R_freeOf_86 : decode b_R_freeOf 86 = .ok (.getfield 45, 3) := by decide +kernel
theorem d_R_freeOf_89 : decode b_R_freeOf 89 = .ok (.iload_n 2, 1) := by decide +kernel
theorem d_R_freeOf_90 : decode b_R_freeOf 90 = .ok (.aload_n 0, 1) := by decide +kernel
theorem d_R_freeOf_91 : decode b_R_freeOf 91 = .ok (.getfield 45, 3) := by decide +kernel
theorem d_R_freeOf_94 : decode b_R_freeOf 94 = .ok (.iload_n 2, 1) := by decide +kernel
theorem d_R_freeOf_95 : decode b_R_freeOf 95 = .ok (.iaload, 1) := by decide +kernel
theorem d_R_freeOf_96 : decode b_R_freeOf 96 = .ok (.iconst 1, 1) := by decide +kernel
theorem d_R_freeOf_97 : decode b_R_freeOf 97 = .ok (.aload_n 0, 1) := by decide +kernel
theorem d_R_freeOf_98 : decode b_R_freeOf 98 = .ok (.getfield 13, 3) := by decide +kernel
theorem d_R_freeOf_101 : decode b_R_freeOf 101 = .ok (.iload_n 2, 1) := by decide +kernel
theorem d_R_freeOf_102 : decode b_R_freeOf 102 = .ok (.iaload, 1) := by decide +kernel
theorem d_R_freeOf_103 : decode b_R_freeOf 103 = .ok (.ishl, 1) := by decide +kernel
theorem d_R_freeOf_104 : decode b_R_freeOf 104 = .ok (.iconst (-1), 1) := by decide +kernel
theorem d_R_freeOf_105 : decode b_R_freeOf 105 = .ok (.ixor, 1) := by decide +kernel
theorem d_R_freeOf_106 : decode b_R_freeOf 106 = .ok (.iand, 1) := by decide +kernel
theorem d_R_freeOf_107 : decode b_R_freeOf 107 = .ok (.iastore, 1) := by decide +kernel
theorem d_R_freeOf_108 : decode b_R_freeOf 108 = .ok (.iinc 2 1, 3) := by decide +kernel
theorem d_R_freeOf_111 : decode b_R_freeOf 111 = .ok (.goto (-109), 3) := by decide +kernel
theorem d_R_freeOf_114 : decode b_R_freeOf 114 = .ok (.aload_n 0, 1) := by decide +kernel
theorem d_R_freeOf_115 : decode b_R_freeOf 115 = .ok (.getfield 45, 3) := by decide +kernel
theorem d_R_freeOf_118 : decode b_R_freeOf 118 = .ok (.iload_n 1, 1) := by decide +kernel
theorem d_R_freeOf_119 : decode b_R_freeOf 119 = .ok (.iaload, 1) := by decide +kernel
theorem d_R_freeOf_120 : decode b_R_freeOf 120 = .ok (.ireturn, 1) := by decide +kernel
theorem d_R_variable_0 : decode b_R_variable 0 = .ok (.iload_n 0, 1) := by decide +kernel
theorem d_R_variable_1 : decode b_R_variable 1 = .ok (.iconst 2, 1) := by decide +kernel
theorem d_R_variable_2 : decode b_R_variable 2 = .ok (.if_icmp .gt 9, 3) := by decide +kernel
theorem d_R_variable_5 : decode b_R_variable 5 = .ok (.iconst 1, 1) := by decide +kernel
theorem d_R_variable_6 : decode b_R_variable 6 = .ok (.iload_n 0, 1) := by decide +kernel
theorem d_R_variable_7 : decode b_R_variable 7 = .ok (.ishl, 1) := by decide +kernel
theorem d_R_variable_8 : decode b_R_variable 8 = .ok (.goto 4, 3) := by decide +kernel
theorem d_R_variable_11 : decode b_R_variable 11 = .ok (.iconst 0, 1) := by decide +kernel
theorem d_R_variable_12 : decode b_R_variable 12 = .ok (.ireturn, 1) := by decide +kernel
theorem d_R_ranged_0 : decode b_R_ranged 0 = .ok (.aload_n 0, 1) := by decide +kernel
theorem d_R_ranged_1 : decode b_R_ranged 1 = .ok (.iload_n 1, 1) := by decide +kernel
theorem d_R_ranged_2 : decode b_R_ranged 2 = .ok (.invokevirtual 75, 3) := by decide +kernel
theorem d_R_ranged_5 : decode b_R_ranged 5 = .ok (.ifCond .eq 11, 3) := by decide +kernel
theorem d_R_ranged_8 : decode b_R_ranged 8 = .ok (.aload_n 0, 1) := by decide +kernel
theorem d_R_ranged_9 : decode b_R_ranged 9 = .ok (.iload_n 1, 1) := by decide +kernel
theorem d_R_ranged_10 : decode b_R_ranged 10 = .ok (.invokevirtual 93, 3) := by decide +kernel
theorem d_R_ranged_13 : decode b_R_ranged 13 = .ok (.goto 4, 3) := by decide +kernel
theorem d_R_ranged_16 : decode b_R_ranged 16 = .ok (.iconst (-1), 1) := by decide +kernel
theorem d_R_ranged_17 : decode b_R_ranged 17 = .ok (.ireturn, 1) := by decide +kernel
theorem d_R_rangedOf_0 : decode b_R_rangedOf 0 = .ok (.iconst 0, 1) := by decide +kernel
theorem d_R_rangedOf_1 : decode b_R_rangedOf 1 = .ok (.istore_n 2, 1) := by decide +kernel
theorem d_R_rangedOf_2 : decode b_R_rangedOf 2 = .ok (.iload_n 2, 1) := by decide +kernel
theorem d_R_rangedOf_3 : decode b_R_rangedOf 3 = .ok (.iload_n 1, 1) := by decide +kernel
theorem d_R_rangedOf_4 : decode b_R_rangedOf 4 = .ok (.if_icmp .gt 239, 3) := by decide +kernel
theorem d_R_rangedOf_7 : decode b_R_rangedOf 7 = .ok (.aload_n 0, 1) := by decide +kernel
theorem d_R_rangedOf_8 : decode b_R_rangedOf 8 = .ok (.getfield 7, 3) := by decide +kernel
theorem d_R_rangedOf_11 : decode b_R_rangedOf 11 = .ok (.iload_n 2, 1) := by decide +kernel
theorem d_R_rangedOf_12 : decode b_R_rangedOf 12 = .ok (.iaload, 1) := by decide +kernel
theorem d_R_rangedOf_13 : decode b_R_rangedOf 13 = .ok (.iconst 2, 1) := by decide +kernel
theorem d_R_rangedOf_14 : decode b_R_rangedOf 14 = .ok (.if_icmp .gt 15, 3) := by decide +kernel
theorem d_R_rangedOf_17 : decode b_R_rangedOf 17 = .ok (.aload_n 0, 1) := by decide +kernel
theorem d_R_rangedOf_18 : decode b_R_rangedOf 18 = .ok (.getfield 16, 3) := by decide +kernel
theorem d_R_rangedOf_21 : decode b_R_rangedOf 21 = .ok (.iload_n 2, 1) := by decide +kernel
theorem d_R_rangedOf_22 : decode b_R_rangedOf 22 = .ok (.iaload, 1) := by decide +kernel
theorem d_R_rangedOf_23 : decode b_R_rangedOf 23 = .ok (.invokestatic 86, 3) := by decide +kernel
theorem d_R_rangedOf_26 : decode b_R_rangedOf 26 = .ok (.goto 14, 3) := by decide +kernel
theorem d_R_rangedOf_29 : decode b_R_rangedOf 29 = .ok (.aload_n 0, 1) := by decide +kernel
theorem d_R_rangedOf_30 : decode b_R_rangedOf 30 = .ok (.getfield 48, 3) := by decide +kernel
theorem d_R_rangedOf_33 : decode b_R_rangedOf 33 = .ok (.aload_n 0, 1) := by decide +kernel
theorem d_R_rangedOf_34 : decode b_R_rangedOf 34 = .ok (.getfield 16, 3) := by decide +kernel
theorem d_R_rangedOf_37 : decode b_R_rangedOf 37 = .ok (.iload_n 2, 1) := by decide +kernel
theorem d_R_rangedOf_38 : decode b_R_rangedOf 38 = .ok (.iaload, 1) := by decide +kernel
theorem d_R_rangedOf_39 : decode b_R_rangedOf 39 = .ok (.iaload, 1) := by decide +kernel
theorem d_R_rangedOf_40 : decode b_R_rangedOf 40 = .ok (.istore_n 3, 1) := by decide +kernel
theorem d_R_rangedOf_41 : decode b_R_rangedOf 41 = .ok (.aload_n 0, 1) := by decide +kernel
theorem d_R_rangedOf_42 : decode b_R_rangedOf 42 = .ok (.getfield 7, 3) := by decide +kernel
theorem d_R_rangedOf_45 : decode b_R_rangedOf 45 = .ok (.iload_n 2, 1) := by decide +kernel
theorem d_R_rangedOf_46 : decode b_R_rangedOf 46 = .ok (.iaload, 1) := by decide +kernel
theorem d_R_rangedOf_47 : decode b_R_rangedOf 47 = .ok (.iconst 2, 1) := by decide +kernel
theorem d_R_rangedOf_48 : decode b_R_rangedOf 48 = .ok (.if_icmp .gt 15, 3) := by decide +kernel
theorem d_R_rangedOf_51 : decode b_R_rangedOf 51 = .ok (.aload_n 0, 1) := by decide +kernel
theorem d_R_rangedOf_52 : decode b_R_rangedOf 52 = .ok (.getfield 19, 3) := by decide +kernel
theorem d_R_rangedOf_55 : decode b_R_rangedOf 55 = .ok (.iload_n 2, 1) := by decide +kernel
theorem d_R_rangedOf_56 : decode b_R_rangedOf 56 = .ok (.iaload, 1) := by decide +kernel
theorem d_R_rangedOf_57 : decode b_R_rangedOf 57 = .ok (.invokestatic 86, 3) := by decide +kernel
theorem d_R_rangedOf_60 : decode b_R_rangedOf 60 = .ok (.goto 14, 3) := by decide +kernel
theorem d_R_rangedOf_63 : decode b_R_rangedOf 63 = .ok (.aload_n 0, 1) := by decide +kernel
theorem d_R_rangedOf_64 : decode b_R_rangedOf 64 = .ok (.getfield 48, 3) := by decide +kernel
theorem d_R_rangedOf_67 : decode b_R_rangedOf 67 = .ok (.aload_n 0, 1) := by decide +kernel
theorem d_R_rangedOf_68 : decode b_R_rangedOf 68 = .ok (.getfield 19, 3) := by decide +kernel
theorem d_R_rangedOf_71 : decode b_R_rangedOf 71 = .ok (.iload_n 2, 1) := by decide +kernel
theorem d_R_rangedOf_72 : decode b_R_rangedOf 72 = .ok (.iaload, 1) := by decide +kernel
theorem d_R_rangedOf_73 : decode b_R_rangedOf 73 = .ok (.iaload, 1) := by decide +kernel
theorem d_R_rangedOf_74 : decode b_R_rangedOf 74 = .ok (.istore 4, 2) := by decide +kernel
theorem d_R_rangedOf_76 : decode b_R_rangedOf 76 = .ok (.aload_n 0, 1) := by decide +kernel
theorem d_R_rangedOf_77 : decode b_R_rangedOf 77 = .ok (.getfield 7, 3) := by decide +kernel
theorem d_R_rangedOf_80 : decode b_R_rangedOf 80 = .ok (.iload_n 2, 1) := by decide +kernel
theorem d_R_rangedOf_81 : decode b_R_rangedOf 81 = .ok (.iaload, 1) := by decide +kernel
theorem d_R_rangedOf_82 : decode b_R_rangedOf 82 = .ok (.ifCond .eq 13, 3) := by decide +kernel
theorem d_R_rangedOf_85 : decode b_R_rangedOf 85 = .ok (.aload_n 0, 1) := by decide +kernel
theorem d_R_rangedOf_86 : decode b_R_rangedOf 86 = .ok (.getfield 7, 3) := by decide +kernel
theorem d_R_rangedOf_89 : decode b_R_rangedOf 89 = .ok (.iload_n 2, 1) := by decide +kernel
theorem d_R_rangedOf_90 : decode b_R_rangedOf 90 = .ok (.iaload, 1) := by decide +kernel
theorem d_R_rangedOf_91 : decode b_R_rangedOf 91 = .ok (.iconst 4, 1) := by decide +kernel
theorem d_R_rangedOf_92 : decode b_R_rangedOf 92 = .ok (.if_icmp .ne 16, 3) := by decide +kernel
theorem d_R_rangedOf_95 : decode b_R_rangedOf 95 = .ok (.aload_n 0, 1) := by decide +kernel
theorem d_R_rangedOf_96 : decode b_R_rangedOf 96 = .ok (.getfield 48, 3) := by decide +kernel
theorem d_R_rangedOf_99 : decode b_R_rangedOf 99 = .ok (.iload_n 2, 1) := by decide +kernel
theorem d_R_rangedOf_100 : decode b_R_rangedOf 100 = .ok (.iload_n 3, 1) := by decide +kernel
theorem d_R_rangedOf_101 : decode b_R_rangedOf 101 = .ok (.iload 4, 2) := by decide +kernel
theorem d_R_rangedOf_103 : decode b_R_rangedOf 103 = .ok (.ior, 1) := by decide +kernel
theorem d_R_rangedOf_104 : decode b_R_rangedOf 104 = .ok (.iastore, 1) := by decide +kernel
theorem d_R_rangedOf_105 : decode b_R_rangedOf 105 = .ok (.goto 132, 3) := by decide +kernel
theorem d_R_rangedOf_108 : decode b_R_rangedOf 108 = .ok (.aload_n 0, 1) := by decide +kernel
theorem d_R_rangedOf_109 : decode b_R_rangedOf 109 = .ok (.getfield 7, 3) := by decide +kernel
theorem d_R_rangedOf_112 : decode b_R_rangedOf 112 = .ok (.iload_n 2, 1) := by decide +kernel
theorem d_R_rangedOf_113 : decode b_R_rangedOf 113 = .ok (.iaload, 1) := by decide +kernel
theorem d_R_rangedOf_114 : decode b_R_rangedOf 114 = .ok (.iconst 1, 1) := by decide +kernel
theorem d_R_rangedOf_115 : decode b_R_rangedOf 115 = .ok (.if_icmp .ne 29, 3) := by decide +kernel
theorem d_R_rangedOf_118 : decode b_R_rangedOf 118 = .ok (.aload_n 0, 1) := by decide +kernel
theorem d_R_rangedOf_119 : decode b_R_rangedOf 119 = .ok (.getfield 48, 3) := by decide +kernel
theorem d_R_rangedOf_122 : decode b_R_rangedOf 122 = .ok (.iload_n 2, 1) := by decide +kernel
theorem d_R_rangedOf_123 : decode b_R_rangedOf 123 = .ok (.iload_n 3, 1) := by decide +kernel
theorem d_R_rangedOf_124 : decode b_R_rangedOf 124 = .ok (.ifCond .eq 8, 3) := by decide +kernel
theorem d_R_rangedOf_127 : decode b_R_rangedOf 127 = .ok (.iload 4, 2) := by decide +kernel
theorem d_R_rangedOf_129 : decode b_R_rangedOf 129 = .ok (.ifCond .ne 10, 3) := by decide +kernel
theorem d_R_rangedOf_132 : decode b_R_rangedOf 132 = .ok (.iload_n 3, 1) := by decide +kernel
theorem d_R_rangedOf_133 : decode b_R_rangedOf 133 = .ok (.iload 4, 2) := by decide +kernel
theorem d_R_rangedOf_135 : decode b_R_rangedOf 135 = .ok (.ior, 1) := by decide +kernel
theorem d_R_rangedOf_136 : decode b_R_rangedOf 136 = .ok (.goto 4, 3) := by decide +kernel
theorem d_R_rangedOf_139 : decode b_R_rangedOf 139 = .ok (.iconst 0, 1) := by decide +kernel
theorem d_R_rangedOf_140 : decode b_R_rangedOf 140 = .ok (.iastore, 1) := by decide +kernel
theorem d_R_rangedOf_141 : decode b_R_rangedOf 141 = .ok (.goto 96, 3) := by decide +kernel
theorem d_R_rangedOf_144 : decode b_R_rangedOf 144 = .ok (.aload_n 0, 1) := by decide +kernel
theorem d_R_rangedOf_145 : decode b_R_rangedOf 145 = .ok (.getfield 7, 3) := by decide +kernel
theorem d_R_rangedOf_148 : decode b_R_rangedOf 148 = .ok (.iload_n 2, 1) := by decide +kernel
theorem d_R_rangedOf_149 : decode b_R_rangedOf 149 = .ok (.iaload, 1) := by decide +kernel
theorem d_R_rangedOf_150 : decode b_R_rangedOf 150 = .ok (.iconst 2, 1) := by decide +kernel
theorem d_R_rangedOf_151 : decode b_R_rangedOf 151 = .ok (.if_icmp .eq 13, 3) := by decide +kernel
theorem d_R_rangedOf_154 : decode b_R_rangedOf 154 = .ok (.aload_n 0, 1) := by decide +kernel
theorem d_R_rangedOf_155 : decode b_R_rangedOf 155 = .ok (.getfield 7, 3) := by decide +kernel
theorem d_R_rangedOf_158 : decode b_R_rangedOf 158 = .ok (.iload_n 2, 1) := by decide +kernel
theorem d_R_rangedOf_159 : decode b_R_rangedOf 159 = .ok (.iaload, 1) := by decide +kernel
theorem d_R_rangedOf_160 : decode b_R_rangedOf 160 = .ok (.iconst 3, 1) := by decide +kernel
theorem d_R_rangedOf_161 : decode b_R_rangedOf 161 = .ok (.if_icmp .ne 13, 3) := by decide +kernel
theorem d_R_rangedOf_164 : decode b_R_rangedOf 164 = .ok (.aload_n 0, 1) := by decide +kernel
theorem d_R_rangedOf_165 : decode b_R_rangedOf 165 = .ok (.getfield 48, 3) := by decide +kernel
theorem d_R_rangedOf_168 : decode b_R_rangedOf 168 = .ok (.iload_n 2, 1) := by decide +kernel
theorem d_R_rangedOf_169 : decode b_R_rangedOf 169 = .ok (.iconst 0, 1) := by decide +kernel
theorem d_R_rangedOf_170 : decode b_R_rangedOf 170 = .ok (.iastore, 1) := by decide +kernel
theorem d_R_rangedOf_171 : decode b_R_rangedOf 171 = .ok (.goto 66, 3) := by decide +kernel
theorem d_R_rangedOf_174 : decode b_R_rangedOf 174 = .ok (.aload_n 0, 1) := by decide +kernel
theorem d_R_rangedOf_175 : decode b_R_rangedOf 175 = .ok (.getfield 7, 3) := by decide +kernel
theorem d_R_rangedOf_178 : decode b_R_rangedOf 178 = .ok (.iload_n 2, 1) := by decide +kernel
theorem d_R_rangedOf_179 : decode b_R_rangedOf 179 = .ok (.iaload, 1) := by decide +kernel
theorem d_R_rangedOf_180 : decode b_R_rangedOf 180 = .ok (.iconst 5, 1) := by decide +kernel
theorem d_R_rangedOf_181 : decode b_R_rangedOf 181 = .ok (.if_icmp .ne 16, 3) := by decide +kernel
theorem d_R_rangedOf_184 : decode b_R_rangedOf 184 = .ok (.aload_n 0, 1) := by decide +kernel
theorem d_R_rangedOf_185 : decode b_R_rangedOf 185 = .ok (.getfield 48, 3) := by decide +kernel
theorem d_R_rangedOf_188 : decode b_R_rangedOf 188 = .ok (.iload_n 2, 1) := by decide +kernel
theorem d_R_rangedOf_189 : decode b_R_rangedOf 189 = .ok (.iload_n 3, 1) := by decide +kernel
theorem d_R_rangedOf_190 : decode b_R_rangedOf 190 = .ok (.iload 4, 2) := by decide +kernel
theorem d_R_rangedOf_192 : decode b_R_rangedOf 192 = .ok (.iand, 1) := by decide +kernel
theorem d_R_rangedOf_193 : decode b_R_rangedOf 193 = .ok (.iastore, 1) := by decide +kernel
theorem d_R_rangedOf_194 : decode b_R_rangedOf 194 = .ok (.goto 43, 3) := by decide +kernel
theorem d_R_rangedOf_197 : decode b_R_rangedOf 197 = .ok (.aload_n 0, 1) := by decide +kernel
theorem d_R_rangedOf_198 : decode b_R_rangedOf 198 = .ok (.getfield 7, 3) := by decide +kernel
theorem d_R_rangedOf_201 : decode b_R_rangedOf 201 = .ok (.iload_n 2, 1) := by decide +kernel
theorem d_R_rangedOf_202 : decode b_R_rangedOf 202 = .ok (.iaload, 1) := by decide +kernel
theorem d_R_rangedOf_203 : decode b_R_rangedOf 203 = .ok (.bipush 6, 2) := by decide +kernel
theorem d_R_rangedOf_205 : decode b_R_rangedOf 205 = .ok (.if_icmp .ne 24, 3) := by decide +kernel
theorem d_R_rangedOf_208 : decode b_R_rangedOf 208 = .ok (.aload_n 0, 1) := by decide +kernel
theorem d_R_rangedOf_209 : decode b_R_rangedOf 209 = .ok (.getfield 48, 3) := by decide +kernel
theorem d_R_rangedOf_212 : decode b_R_rangedOf 212 = .ok (.iload_n 2, 1) := by decide +kernel
theorem d_R_rangedOf_213 : decode b_R_rangedOf 213 = .ok (.iload_n 3, 1) := by decide +kernel
theorem d_R_rangedOf_214 : decode b_R_rangedOf 214 = .ok (.iconst 1, 1) := by decide +kernel
theorem d_R_rangedOf_215 : decode b_R_rangedOf 215 = .ok (.aload_n 0, 1) := by decide +kernel
theorem d_R_rangedOf_216 : decode b_R_rangedOf 216 = .ok (.getfield 13, 3) := by decide +kernel
theorem d_R_rangedOf_219 : decode b_R_rangedOf 219 = .ok (.iload_n 2, 1) := by decide +kernel
theorem d_R_rangedOf_220 : decode b_R_rangedOf 220 = .ok (.iaload, 1) := by decide +kernel
theorem d_R_rangedOf_221 : decode b_R_rangedOf 221 = .ok (.ishl, 1) := by decide +kernel
theorem d_R_rangedOf_222 : decode b_R_rangedOf 222 = .ok (.iconst (-1), 1) := by decide +kernel
theorem d_R_rangedOf_223 : decode b_R_rangedOf 223 = .ok (.ixor, 1) := by decide +kernel
theorem d_R_rangedOf_224 : decode b_R_rangedOf 224 = .ok (.iand, 1) := by decide +kernel
theorem d_R_rangedOf_225 : decode b_R_rangedOf 225 = .ok (.iastore, 1) := by decide +kernel
theorem d_R_rangedOf_226 : decode b_R_rangedOf 226 = .ok (.goto 11, 3) := by decide +kernel
theorem d_R_rangedOf_229 : decode b_R_rangedOf 229 = .ok (.aload_n 0, 1) := by decide +kernel
theorem d_R_rangedOf_230 : decode b_R_rangedOf 230 = .ok (.getfield 48, 3) := by decide +kernel
theorem d_R_rangedOf_233 : decode b_R_rangedOf 233 = .ok (.iload_n 2, 1) := by decide +kernel
theorem d_R_rangedOf_234 : decode b_R_rangedOf 234 = .ok (.iload 4, 2) := by decide +kernel
theorem d_R_rangedOf_236 : decode b_R_rangedOf 236 = .ok (.iastore, 1) := by decide +kernel
theorem d_R_rangedOf_237 : decode b_R_rangedOf 237 = .ok (.iinc 2 1, 3) := by decide +kernel
theorem d_R_rangedOf_240 : decode b_R_rangedOf 240 = .ok (.goto (-238), 3) := by decide +kernel
theorem d_R_rangedOf_243 : decode b_R_rangedOf 243 = .ok (.aload_n 0, 1) := by decide +kernel
theorem d_R_rangedOf_244 : decode b_R_rangedOf 244 = .ok (.getfield 48, 3) := by decide +kernel
theorem d_R_rangedOf_247 : decode b_R_rangedOf 247 = .ok (.iload_n 1, 1) := by decide +kernel
theorem d_R_rangedOf_248 : decode b_R_rangedOf 248 = .ok (.iaload, 1) := by decide +kernel
theorem d_R_rangedOf_249 : decode b_R_rangedOf 249 = .ok (.ireturn, 1) := by decide +kernel
theorem d_R_bounded_0 : decode b_R_bounded 0 = .ok (.aload_n 0, 1) := by decide +kernel
theorem d_R_bounded_1 : decode b_R_bounded 1 = .ok (.iload_n 1, 1) := by decide +kernel
theorem d_R_bounded_2 : decode b_R_bounded 2 = .ok (.invokevirtual 75, 3) := by decide +kernel
theorem d_R_bounded_5 : decode b_R_bounded 5 = .ok (.ifCond .eq 19, 3) := by decide +kernel
theorem d_R_bounded_8 : decode b_R_bounded 8 = .ok (.aload_n 0, 1) := by decide +kernel
theorem d_R_bounded_9 : decode b_R_bounded 9 = .ok (.iload_n 1, 1) := by decide +kernel
theorem d_R_bounded_10 : decode b_R_bounded 10 = .ok (.invokevirtual 90, 3) := by decide +kernel
theorem d_R_bounded_13 : decode b_R_bounded 13 = .ok (.aload_n 0, 1) := by decide +kernel
theorem d_R_bounded_14 : decode b_R_bounded 14 = .ok (.iload_n 1, 1) := by decide +kernel
theorem d_R_bounded_15 : decode b_R_bounded 15 = .ok (.invokevirtual 93, 3) := by decide +kernel
theorem d_R_bounded_18 : decode b_R_bounded 18 = .ok (.iconst (-1), 1) := by decide +kernel
theorem d_R_bounded_19 : decode b_R_bounded 19 = .ok (.ixor, 1) := by decide +kernel
theorem d_R_bounded_20 : decode b_R_bounded 20 = .ok (.iand, 1) := by decide +kernel
theorem d_R_bounded_21 : decode b_R_bounded 21 = .ok (.ifCond .eq 5, 3) := by decide +kernel
theorem d_R_bounded_24 : decode b_R_bounded 24 = .ok (.iconst 0, 1) := by decide +kernel
theorem d_R_bounded_25 : decode b_R_bounded 25 = .ok (.ireturn, 1) := by decide +kernel
theorem d_R_bounded_26 : decode b_R_bounded 26 = .ok (.iconst 0, 1) := by decide +kernel
theorem d_R_bounded_27 : decode b_R_bounded 27 = .ok (.istore_n 2, 1) := by decide +kernel
theorem d_R_bounded_28 : decode b_R_bounded 28 = .ok (.iload_n 2, 1) := by decide +kernel
theorem d_R_bounded_29 : decode b_R_bounded 29 = .ok (.bipush 12, 2) := by decide +kernel
theorem d_R_bounded_31 : decode b_R_bounded 31 = .ok (.if_icmp .ge 25, 3) := by decide +kernel
theorem d_R_bounded_34 : decode b_R_bounded 34 = .ok (.aload_n 0, 1) := by decide +kernel
theorem d_R_bounded_35 : decode b_R_bounded 35 = .ok (.getfield 41, 3) := by decide +kernel
theorem d_R_bounded_38 : decode b_R_bounded 38 = .ok (.iload_n 2, 1) := by decide +kernel
theorem d_R_bounded_39 : decode b_R_bounded 39 = .ok (.iload_n 2, 1) := by decide +kernel
theorem d_R_bounded_40 : decode b_R_bounded 40 = .ok (.iload_n 1, 1) := by decide +kernel
theorem d_R_bounded_41 : decode b_R_bounded 41 = .ok (.if_icmp .ne 7, 3) := by decide +kernel
theorem d_R_bounded_44 : decode b_R_bounded 44 = .ok (.iconst 1, 1) := by decide +kernel
theorem d_R_bounded_45 : decode b_R_bounded 45 = .ok (.goto 4, 3) := by decide +kernel
theorem d_R_bounded_48 : decode b_R_bounded 48 = .ok (.iconst 0, 1) := by decide +kernel
theorem d_R_bounded_49 : decode b_R_bounded 49 = .ok (.bastore, 1) := by decide +kernel
theorem d_R_bounded_50 : decode b_R_bounded 50 = .ok (.iinc 2 1, 3) := by decide +kernel
theorem d_R_bounded_53 : decode b_R_bounded 53 = .ok (.goto (-25), 3) := by decide +kernel
theorem d_R_bounded_56 : decode b_R_bounded 56 = .ok (.iload_n 1, 1) := by decide +kernel
theorem d_R_bounded_57 : decode b_R_bounded 57 = .ok (.istore_n 2, 1) := by decide +kernel
theorem d_R_bounded_58 : decode b_R_bounded 58 = .ok (.iload_n 2, 1) := by decide +kernel
theorem d_R_bounded_59 : decode b_R_bounded 59 = .ok (.ifCond .lt 88, 3) := by decide +kernel
theorem d_R_bounded_62 : decode b_R_bounded 62 = .ok (.aload_n 0, 1) := by decide +kernel
theorem d_R_bounded_63 : decode b_R_bounded 63 = .ok (.getfield 41, 3) := by decide +kernel
theorem d_R_bounded_66 : decode b_R_bounded 66 = .ok (.iload_n 2, 1) := by decide +kernel
theorem d_R_bounded_67 : decode b_R_bounded 67 = .ok (.baload, 1) := by decide +kernel
theorem d_R_bounded_68 : decode b_R_bounded 68 = .ok (.ifCond .eq 73, 3) := by decide +kernel
theorem d_R_bounded_71 : decode b_R_bounded 71 = .ok (.aload_n 0, 1) := by decide +kernel
theorem d_R_bounded_72 : decode b_R_bounded 72 = .ok (.getfield 7, 3) := by decide +kernel
theorem d_R_bounded_75 : decode b_R_bounded 75 = .ok (.iload_n 2, 1) := by decide +kernel
theorem d_R_bounded_76 : decode b_R_bounded 76 = .ok (.iaload, 1) := by decide +kernel
theorem d_R_bounded_77 : decode b_R_bounded 77 = .ok (.iconst 2, 1) := by decide +kernel
theorem d_R_bounded_78 : decode b_R_bounded 78 = .ok (.if_icmp .le 63, 3) := by decide +kernel
theorem d_R_bounded_81 : decode b_R_bounded 81 = .ok (.aload_n 0, 1) := by decide +kernel
theorem d_R_bounded_82 : decode b_R_bounded 82 = .ok (.getfield 7, 3) := by decide +kernel
theorem d_R_bounded_85 : decode b_R_bounded 85 = .ok (.iload_n 2, 1) := by decide +kernel
theorem d_R_bounded_86 : decode b_R_bounded 86 = .ok (.iaload, 1) := by decide +kernel
theorem d_R_bounded_87 : decode b_R_bounded 87 = .ok (.bipush 6, 2) := by decide +kernel
theorem d_R_bounded_89 : decode b_R_bounded 89 = .ok (.if_icmp .ne 28, 3) := by decide +kernel
theorem d_R_bounded_92 : decode b_R_bounded 92 = .ok (.aload_n 0, 1) := by decide +kernel
theorem d_R_bounded_93 : decode b_R_bounded 93 = .ok (.getfield 48, 3) := by decide +kernel
theorem d_R_bounded_96 : decode b_R_bounded 96 = .ok (.aload_n 0, 1) := by decide +kernel
theorem d_R_bounded_97 : decode b_R_bounded 97 = .ok (.getfield 16, 3) := by decide +kernel
theorem d_R_bounded_100 : decode b_R_bounded 100 = .ok (.iload_n 2, 1) := by decide +kernel
theorem d_R_bounded_101 : decode b_R_bounded 101 = .ok (.iaload, 1) := by decide +kernel
theorem d_R_bounded_102 : decode b_R_bounded 102 = .ok (.iaload, 1) := by decide +kernel
theorem d_R_bounded_103 : decode b_R_bounded 103 = .ok (.aload_n 0, 1) := by decide +kernel
theorem d_R_bounded_104 : decode b_R_bounded 104 = .ok (.getfield 13, 3) := by decide +kernel
theorem d_R_bounded_107 : decode b_R_bounded 107 = .ok (.iload_n 2, 1) := by decide +kernel
theorem d_R_bounded_108 : decode b_R_bounded 108 = .ok (.iaload, 1) := by decide +kernel
theorem d_R_bounded_109 : decode b_R_bounded 109 = .ok (.ishr, 1) := by decide +kernel
theorem d_R_bounded_110 : decode b_R_bounded 110 = .ok (.iconst 1, 1) := by decide +kernel
theorem d_R_bounded_111 : decode b_R_bounded 111 = .ok (.iand, 1) := by decide +kernel
theorem d_R_bounded_112 : decode b_R_bounded 112 = .ok (.ifCond .ne 5, 3) := by decide +kernel
theorem d_R_bounded_115 : decode b_R_bounded 115 = .ok (.iconst 0, 1) := by decide +kernel
theorem d_R_bounded_116 : decode b_R_bounded 116 = .ok (.ireturn, 1) := by decide +kernel
theorem d_R_bounded_117 : decode b_R_bounded 117 = .ok (.aload_n 0, 1) := by decide +kernel
theorem d_R_bounded_118 : decode b_R_bounded 118 = .ok (.getfield 41, 3) := by decide +kernel
theorem d_R_bounded_121 : decode b_R_bounded 121 = .ok (.aload_n 0, 1) := by decide +kernel
theorem d_R_bounded_122 : decode b_R_bounded 122 = .ok (.getfield 16, 3) := by decide +kernel
theorem d_R_bounded_125 : decode b_R_bounded 125 = .ok (.iload_n 2, 1) := by decide +kernel
theorem d_R_bounded_126 : decode b_R_bounded 126 = .ok (.iaload, 1) := by decide +kernel
theorem d_R_bounded_127 : decode b_R_bounded 127 = .ok (.iconst 1, 1) := by decide +kernel
theorem d_R_bounded_128 : decode b_R_bounded 128 = .ok (.bastore, 1) := by decide +kernel
theorem d_R_bounded_129 : decode b_R_bounded 129 = .ok (.aload_n 0, 1) := by decide +kernel
theorem d_R_bounded_130 : decode b_R_bounded 130 = .ok (.getfield 41, 3) := by decide +kernel
theorem d_R_bounded_133 : decode b_R_bounded 133 = .ok (.aload_n 0, 1) := by decide +kernel
theorem d_R_bounded_134 : decode b_R_bounded 134 = .ok (.getfield 19, 3) := by decide +kernel
theorem d_R_bounded_137 : decode b_R_bounded 137 = .ok (.iload_n 2, 1) := by decide +kernel
theorem d_R_bounded_138 : decode b_R_bounded 138 = .ok (.iaload, 1) := by decide +kernel
theorem d_R_bounded_139 : decode b_R_bounded 139 = .ok (.iconst 1, 1) := by decide +kernel
theorem d_R_bounded_140 : decode b_R_bounded 140 = .ok (.bastore, 1) := by decide +kernel
theorem d_R_bounded_141 : decode b_R_bounded 141 = .ok (.iinc 2 (-1), 3) := by decide +kernel
theorem d_R_bounded_144 : decode b_R_bounded 144 = .ok (.goto (-86), 3) := by decide +kernel
theorem d_R_bounded_147 : decode b_R_bounded 147 = .ok (.iconst 1, 1) := by decide +kernel
theorem d_R_bounded_148 : decode b_R_bounded 148 = .ok (.ireturn, 1) := by decide +kernel
theorem d_R_watch_0 : decode b_R_watch 0 = .ok (.aload_n 0, 1) := by decide +kernel
theorem d_R_watch_1 : decode b_R_watch 1 = .ok (.getfield 58, 3) := by decide +kernel
theorem d_R_watch_4 : decode b_R_watch 4 = .ok (.ifCond .ne 10, 3) := by decide +kernel
theorem d_R_watch_7 : decode b_R_watch 7 = .ok (.aload_n 0, 1) := by decide +kernel
theorem d_R_watch_8 : decode b_R_watch 8 = .ok (.getfield 54, 3) := by decide +kernel
theorem d_R_watch_11 : decode b_R_watch 11 = .ok (.ifCond .ne 5, 3) := by decide +kernel
theorem d_R_watch_14 : decode b_R_watch 14 = .ok (.iconst 0, 1) := by decide +kernel
theorem d_R_watch_15 : decode b_R_watch 15 = .ok (.ireturn, 1) := by decide +kernel
theorem d_R_watch_16 : decode b_R_watch 16 = .ok (.aload_n 0, 1) := by decide +kernel
theorem d_R_watch_17 : decode b_R_watch 17 = .ok (.invokevirtual 99, 3) := by decide +kernel
theorem d_R_watch_20 : decode b_R_watch 20 = .ok (.aload_n 0, 1) := by decide +kernel
theorem d_R_watch_21 : decode b_R_watch 21 = .ok (.iconst 1, 1) := by decide +kernel
theorem d_R_watch_22 : decode b_R_watch 22 = .ok (.putfield 58, 3) := by decide +kernel
theorem d_R_watch_25 : decode b_R_watch 25 = .ok (.iconst 1, 1) := by decide +kernel
theorem d_R_watch_26 : decode b_R_watch 26 = .ok (.ireturn, 1) := by decide +kernel
theorem d_R_empty_0 : decode b_R_empty 0 = .ok (.aload_n 0, 1) := by decide +kernel
theorem d_R_empty_1 : decode b_R_empty 1 = .ok (.iconst 0, 1) := by decide +kernel
theorem d_R_empty_2 : decode b_R_empty 2 = .ok (.putfield 96, 3) := by decide +kernel
theorem d_R_empty_5 : decode b_R_empty 5 = .ok (.iconst 0, 1) := by decide +kernel
theorem d_R_empty_6 : decode b_R_empty 6 = .ok (.istore_n 1, 1) := by decide +kernel
theorem d_R_empty_7 : decode b_R_empty 7 = .ok (.iload_n 1, 1) := by decide +kernel
theorem d_R_empty_8 : decode b_R_empty 8 = .ok (.iconst 3, 1) := by decide +kernel
theorem d_R_empty_9 : decode b_R_empty 9 = .ok (.if_icmp .ge 16, 3) := by decide +kernel
theorem d_R_empty_12 : decode b_R_empty 12 = .ok (.aload_n 0, 1) := by decide +kernel
theorem d_R_empty_13 : decode b_R_empty 13 = .ok (.getfield 34, 3) := by decide +kernel
theorem d_R_empty_16 : decode b_R_empty 16 = .ok (.iload_n 1, 1) := by decide +kernel
theorem d_R_empty_17 : decode b_R_empty 17 = .ok (.iconst 0, 1) := by decide +kernel
theorem d_R_empty_18 : decode b_R_empty 18 = .ok (.iastore, 1) := by decide +kernel
theorem d_R_empty_19 : decode b_R_empty 19 = .ok (.iinc 1 1, 3) := by decide +kernel
theorem d_R_empty_22 : decode b_R_empty 22 = .ok (.goto (-15), 3) := by decide +kernel
theorem d_R_empty_25 : decode b_R_empty 25 = .ok (.return_, 1) := by decide +kernel
theorem d_R_gather_0 : decode b_R_gather 0 = .ok (.aload_n 0, 1) := by decide +kernel
theorem d_R_gather_1 : decode b_R_gather 1 = .ok (.getfield 58, 3) := by decide +kernel
theorem d_R_gather_4 : decode b_R_gather 4 = .ok (.ifCond .eq 30, 3) := by decide +kernel
theorem d_R_gather_7 : decode b_R_gather 7 = .ok (.iload_n 1, 1) := by decide +kernel
theorem d_R_gather_8 : decode b_R_gather 8 = .ok (.ifCond .lt 26, 3) := by decide +kernel
theorem d_R_gather_11 : decode b_R_gather 11 = .ok (.iload_n 1, 1) := by decide +kernel
theorem d_R_gather_12 : decode b_R_gather 12 = .ok (.iconst 2, 1) := by decide +kernel
theorem d_R_gather_13 : decode b_R_gather 13 = .ok (.if_icmp .gt 21, 3) := by decide +kernel
theorem d_R_gather_16 : decode b_R_gather 16 = .ok (.iload_n 2, 1) := by decide +kernel
theorem d_R_gather_17 : decode b_R_gather 17 = .ok (.ifCond .lt 17, 3) := by decide +kernel
theorem d_R_gather_20 : decode b_R_gather 20 = .ok (.iload_n 2, 1) := by decide +kernel
theorem d_R_gather_21 : decode b_R_gather 21 = .ok (.iconst 3, 1) := by decide +kernel
theorem d_R_gather_22 : decode b_R_gather 22 = .ok (.if_icmp .gt 12, 3) := by decide +kernel
theorem d_R_gather_25 : decode b_R_gather 25 = .ok (.iload_n 3, 1) := by decide +kernel
theorem d_R_gather_26 : decode b_R_gather 26 = .ok (.ifCond .lt 8, 3) := by decide +kernel
theorem d_R_gather_29 : decode b_R_gather 29 = .ok (.iload_n 3, 1) := by decide +kernel
theorem d_R_gather_30 : decode b_R_gather 30 = .ok (.iconst 3, 1) := by decide +kernel
theorem d_R_gather_31 : decode b_R_gather 31 = .ok (.if_icmp .le 5, 3) := by decide +kernel
theorem d_R_gather_34 : decode b_R_gather 34 = .ok (.iconst 0, 1) := by decide +kernel
theorem d_R_gather_35 : decode b_R_gather 35 = .ok (.ireturn, 1) := by decide +kernel
theorem d_R_gather_36 : decode b_R_gather 36 = .ok (.aload_n 0, 1) := by decide +kernel
theorem d_R_gather_37 : decode b_R_gather 37 = .ok (.getfield 34, 3) := by decide +kernel
theorem d_R_gather_40 : decode b_R_gather 40 = .ok (.iload_n 1, 1) := by decide +kernel
theorem d_R_gather_41 : decode b_R_gather 41 = .ok (.iaload, 1) := by decide +kernel
theorem d_R_gather_42 : decode b_R_gather 42 = .ok (.iload_n 2, 1) := by decide +kernel
theorem d_R_gather_43 : decode b_R_gather 43 = .ok (.iconst 4, 1) := by decide +kernel
theorem d_R_gather_44 : decode b_R_gather 44 = .ok (.iload_n 3, 1) := by decide +kernel
theorem d_R_gather_45 : decode b_R_gather 45 = .ok (.imul, 1) := by decide +kernel
theorem d_R_gather_46 : decode b_R_gather 46 = .ok (.iadd, 1) := by decide +kernel
theorem d_R_gather_47 : decode b_R_gather 47 = .ok (.ishr, 1) := by decide +kernel
theorem d_R_gather_48 : decode b_R_gather 48 = .ok (.iconst 1, 1) := by decide +kernel
theorem d_R_gather_49 : decode b_R_gather 49 = .ok (.iand, 1) := by decide +kernel
theorem d_R_gather_50 : decode b_R_gather 50 = .ok (.iconst 1, 1) := by decide +kernel
theorem d_R_gather_51 : decode b_R_gather 51 = .ok (.if_icmp .ne 7, 3) := by decide +kernel
theorem d_R_gather_54 : decode b_R_gather 54 = .ok (.iconst 1, 1) := by decide +kernel
theorem d_R_gather_55 : decode b_R_gather 55 = .ok (.goto 4, 3) := by decide +kernel
theorem d_R_gather_58 : decode b_R_gather 58 = .ok (.iconst 0, 1) := by decide +kernel
theorem d_R_gather_59 : decode b_R_gather 59 = .ok (.istore 4, 2) := by decide +kernel
theorem d_R_gather_61 : decode b_R_gather 61 = .ok (.aload_n 0, 1) := by decide +kernel
theorem d_R_gather_62 : decode b_R_gather 62 = .ok (.getfield 34, 3) := by decide +kernel
theorem d_R_gather_65 : decode b_R_gather 65 = .ok (.iload_n 1, 1) := by decide +kernel
theorem d_R_gather_66 : decode b_R_gather 66 = .ok (.aload_n 0, 1) := by decide +kernel
theorem d_R_gather_67 : decode b_R_gather 67 = .ok (.getfield 34, 3) := by decide +kernel
theorem d_R_gather_70 : decode b_R_gather 70 = .ok (.iload_n 1, 1) := by decide +kernel
theorem d_R_gather_71 : decode b_R_gather 71 = .ok (.iaload, 1) := by decide +kernel
theorem d_R_gather_72 : decode b_R_gather 72 = .ok (.iconst 1, 1) := by decide +kernel
theorem d_R_gather_73 : decode b_R_gather 73 = .ok (.iload_n 2, 1) := by decide +kernel
theorem d_R_gather_74 : decode b_R_gather 74 = .ok (.iconst 4, 1) := by decide +kernel
theorem d_R_gather_75 : decode b_R_gather 75 = .ok (.iload_n 3, 1) := by decide +kernel
theorem d_R_gather_76 : decode b_R_gather 76 = .ok (.imul, 1) := by decide +kernel
theorem d_R_gather_77 : decode b_R_gather 77 = .ok (.iadd, 1) := by decide +kernel
theorem d_R_gather_78 : decode b_R_gather 78 = .ok (.ishl, 1) := by decide +kernel
theorem d_R_gather_79 : decode b_R_gather 79 = .ok (.ior, 1) := by decide +kernel
theorem d_R_gather_80 : decode b_R_gather 80 = .ok (.iastore, 1) := by decide +kernel
theorem d_R_gather_81 : decode b_R_gather 81 = .ok (.iload 4, 2) := by decide +kernel
theorem d_R_gather_83 : decode b_R_gather 83 = .ok (.ifCond .ne 7, 3) := by decide +kernel
theorem d_R_gather_86 : decode b_R_gather 86 = .ok (.iconst 1, 1) := by decide +kernel
theorem d_R_gather_87 : decode b_R_gather 87 = .ok (.goto 4, 3) := by decide +kernel
theorem d_R_gather_90 : decode b_R_gather 90 = .ok (.iconst 0, 1) := by decide +kernel
theorem d_R_gather_91 : decode b_R_gather 91 = .ok (.ireturn, 1) := by decide +kernel
theorem d_R_place_0 : decode b_R_place 0 = .ok (.aload_n 0, 1) := by decide +kernel
theorem d_R_place_1 : decode b_R_place 1 = .ok (.getfield 58, 3) := by decide +kernel
theorem d_R_place_4 : decode b_R_place 4 = .ok (.ifCond .eq 44, 3) := by decide +kernel
theorem d_R_place_7 : decode b_R_place 7 = .ok (.iload_n 1, 1) := by decide +kernel
theorem d_R_place_8 : decode b_R_place 8 = .ok (.ifCond .lt 40, 3) := by decide +kernel
theorem d_R_place_11 : decode b_R_place 11 = .ok (.iload_n 1, 1) := by decide +kernel
theorem d_R_place_12 : decode b_R_place 12 = .ok (.ldc 62, 2) := by decide +kernel
theorem d_R_place_14 : decode b_R_place 14 = .ok (.if_icmp .gt 34, 3) := by decide +kernel
theorem d_R_place_17 : decode b_R_place 17 = .ok (.aload_n 0, 1) := by decide +kernel
theorem d_R_place_18 : decode b_R_place 18 = .ok (.getfield 96, 3) := by decide +kernel
theorem d_R_place_21 : decode b_R_place 21 = .ok (.bipush 24, 2) := by decide +kernel
theorem d_R_place_23 : decode b_R_place 23 = .ok (.if_icmp .ge 25, 3) := by decide +kernel
theorem d_R_place_26 : decode b_R_place 26 = .ok (.aload_n 0, 1) := by decide +kernel
theorem d_R_place_27 : decode b_R_place 27 = .ok (.getfield 96, 3) := by decide +kernel
theorem d_R_place_30 : decode b_R_place 30 = .ok (.ifCond .le 20, 3) := by decide +kernel
theorem d_R_place_33 : decode b_R_place 33 = .ok (.iload_n 1, 1) := by decide +kernel
theorem d_R_place_34 : decode b_R_place 34 = .ok (.aload_n 0, 1) := by decide +kernel
theorem d_R_place_35 : decode b_R_place 35 = .ok (.getfield 28, 3) := by decide +kernel
theorem d_R_place_38 : decode b_R_place 38 = .ok (.aload_n 0, 1) := by decide +kernel
theorem d_R_place_39 : decode b_R_place 39 = .ok (.getfield 96, 3) := by decide +kernel
theorem d_R_place_42 : decode b_R_place 42 = .ok (.iconst 1, 1) := by decide +kernel
theorem d_R_place_43 : decode b_R_place 43 = .ok (.isub, 1) := by decide +kernel
theorem d_R_place_44 : decode b_R_place 44 = .ok (.iaload, 1) := by decide +kernel
theorem d_R_place_45 : decode b_R_place 45 = .ok (.if_icmp .ge 5, 3) := by decide +kernel
theorem d_R_place_48 : decode b_R_place 48 = .ok (.iconst (-1), 1) := by decide +kernel
theorem d_R_place_49 : decode b_R_place 49 = .ok (.ireturn, 1) := by decide +kernel
theorem d_R_place_50 : decode b_R_place 50 = .ok (.aload_n 0, 1) := by decide +kernel
theorem d_R_place_51 : decode b_R_place 51 = .ok (.getfield 28, 3) := by decide +kernel
theorem d_R_place_54 : decode b_R_place 54 = .ok (.aload_n 0, 1) := by decide +kernel
theorem d_R_place_55 : decode b_R_place 55 = .ok (.getfield 96, 3) := by decide +kernel
theorem d_R_place_58 : decode b_R_place 58 = .ok (.iload_n 1, 1) := by decide +kernel
theorem d_R_place_59 : decode b_R_place 59 = .ok (.iastore, 1) := by decide +kernel
theorem d_R_place_60 : decode b_R_place 60 = .ok (.iconst 0, 1) := by decide +kernel
theorem d_R_place_61 : decode b_R_place 61 = .ok (.istore_n 2, 1) := by decide +kernel
theorem d_R_place_62 : decode b_R_place 62 = .ok (.iload_n 2, 1) := by decide +kernel
theorem d_R_place_63 : decode b_R_place 63 = .ok (.iconst 3, 1) := by decide +kernel
theorem d_R_place_64 : decode b_R_place 64 = .ok (.if_icmp .ge 36, 3) := by decide +kernel
theorem d_R_place_67 : decode b_R_place 67 = .ok (.aload_n 0, 1) := by decide +kernel
theorem d_R_place_68 : decode b_R_place 68 = .ok (.getfield 31, 3) := by decide +kernel
theorem d_R_place_71 : decode b_R_place 71 = .ok (.bipush 24, 2) := by decide +kernel
theorem d_R_place_73 : decode b_R_place 73 = .ok (.iload_n 2, 1) := by decide +kernel
theorem d_R_place_74 : decode b_R_place 74 = .ok (.imul, 1) := by decide +kernel
theorem d_R_place_75 : decode b_R_place 75 = .ok (.aload_n 0, 1) := by decide +kernel
theorem d_R_place_76 : decode b_R_place 76 = .ok (.getfield 96, 3) := by decide +kernel
theorem d_R_place_79 : decode b_R_place 79 = .ok (.iadd, 1) := by decide +kernel
theorem d_R_place_80 : decode b_R_place 80 = .ok (.aload_n 0, 1) := by decide +kernel
theorem d_R_place_81 : decode b_R_place 81 = .ok (.getfield 34, 3) := by decide +kernel
theorem d_R_place_84 : decode b_R_place 84 = .ok (.iload_n 2, 1) := by decide +kernel
theorem d_R_place_85 : decode b_R_place 85 = .ok (.iaload, 1) := by decide +kernel
theorem d_R_place_86 : decode b_R_place 86 = .ok (.iastore, 1) := by decide +kernel
theorem d_R_place_87 : decode b_R_place 87 = .ok (.aload_n 0, 1) := by decide +kernel
theorem d_R_place_88 : decode b_R_place 88 = .ok (.getfield 34, 3) := by decide +kernel
theorem d_R_place_91 : decode b_R_place 91 = .ok (.iload_n 2, 1) := by decide +kernel
theorem d_R_place_92 : decode b_R_place 92 = .ok (.iconst 0, 1) := by decide +kernel
theorem d_R_place_93 : decode b_R_place 93 = .ok (.iastore, 1) := by decide +kernel
theorem d_R_place_94 : decode b_R_place 94 = .ok (.iinc 2 1, 3) := by decide +kernel
theorem d_R_place_97 : decode b_R_place 97 = .ok (.goto (-35), 3) := by decide +kernel
theorem d_R_place_100 : decode b_R_place 100 = .ok (.aload_n 0, 1) := by decide +kernel
theorem d_R_place_101 : decode b_R_place 101 = .ok (.dup, 1) := by decide +kernel
theorem d_R_place_102 : decode b_R_place 102 = .ok (.getfield 96, 3) := by decide +kernel
theorem d_R_place_105 : decode b_R_place 105 = .ok (.iconst 1, 1) := by decide +kernel
theorem d_R_place_106 : decode b_R_place 106 = .ok (.iadd, 1) := by decide +kernel
theorem d_R_place_107 : decode b_R_place 107 = .ok (.putfield 96, 3) := by decide +kernel
theorem d_R_place_110 : decode b_R_place 110 = .ok (.iconst 0, 1) := by decide +kernel
theorem d_R_place_111 : decode b_R_place 111 = .ok (.istore_n 2, 1) := by decide +kernel
theorem d_R_place_112 : decode b_R_place 112 = .ok (.iload_n 2, 1) := by decide +kernel
theorem d_R_place_113 : decode b_R_place 113 = .ok (.aload_n 0, 1) := by decide +kernel
theorem d_R_place_114 : decode b_R_place 114 = .ok (.getfield 54, 3) := by decide +kernel
theorem d_R_place_117 : decode b_R_place 117 = .ok (.if_icmp .ge 31, 3) := by decide +kernel
theorem d_R_place_120 : decode b_R_place 120 = .ok (.iconst 0, 1) := by decide +kernel
theorem d_R_place_121 : decode b_R_place 121 = .ok (.istore_n 3, 1) := by decide +kernel
theorem d_R_place_122 : decode b_R_place 122 = .ok (.iload_n 3, 1) := by decide +kernel
theorem d_R_place_123 : decode b_R_place 123 = .ok (.aload_n 0, 1) := by decide +kernel
theorem d_R_place_124 : decode b_R_place 124 = .ok (.getfield 96, 3) := by decide +kernel
theorem d_R_place_127 : decode b_R_place 127 = .ok (.if_icmp .ge 15, 3) := by decide +kernel
theorem d_R_place_130 : decode b_R_place 130 = .ok (.aload_n 0, 1) := by decide +kernel
theorem d_R_place_131 : decode b_R_place 131 = .ok (.iload_n 2, 1) := by decide +kernel
theorem d_R_place_132 : decode b_R_place 132 = .ok (.iload_n 3, 1) := by decide +kernel
theorem d_R_place_133 : decode b_R_place 133 = .ok (.invokevirtual 102, 3) := by decide +kernel
theorem d_R_place_136 : decode b_R_place 136 = .ok (.iinc 3 1, 3) := by decide +kernel
theorem d_R_place_139 : decode b_R_place 139 = .ok (.goto (-17), 3) := by decide +kernel
theorem d_R_place_142 : decode b_R_place 142 = .ok (.iinc 2 1, 3) := by decide +kernel
theorem d_R_place_145 : decode b_R_place 145 = .ok (.goto (-33), 3) := by decide +kernel
theorem d_R_place_148 : decode b_R_place 148 = .ok (.aload_n 0, 1) := by decide +kernel
theorem d_R_place_149 : decode b_R_place 149 = .ok (.getfield 96, 3) := by decide +kernel
theorem d_R_place_152 : decode b_R_place 152 = .ok (.iconst 1, 1) := by decide +kernel
theorem d_R_place_153 : decode b_R_place 153 = .ok (.isub, 1) := by decide +kernel
theorem d_R_place_154 : decode b_R_place 154 = .ok (.ireturn, 1) := by decide +kernel
theorem d_R_look_0 : decode b_R_look 0 = .ok (.lconst 0, 1) := by decide +kernel
theorem d_R_look_1 : decode b_R_look 1 = .ok (.lstore_n 3, 1) := by decide +kernel
theorem d_R_look_2 : decode b_R_look 2 = .ok (.iconst 0, 1) := by decide +kernel
theorem d_R_look_3 : decode b_R_look 3 = .ok (.istore 5, 2) := by decide +kernel
theorem d_R_look_5 : decode b_R_look 5 = .ok (.iload 5, 2) := by decide +kernel
theorem d_R_look_7 : decode b_R_look 7 = .ok (.bipush 64, 2) := by decide +kernel
theorem d_R_look_9 : decode b_R_look 9 = .ok (.if_icmp .ge 31, 3) := by decide +kernel
theorem d_R_look_12 : decode b_R_look 12 = .ok (.aload_n 0, 1) := by decide +kernel
theorem d_R_look_13 : decode b_R_look 13 = .ok (.iload_n 1, 1) := by decide +kernel
theorem d_R_look_14 : decode b_R_look 14 = .ok (.iload_n 2, 1) := by decide +kernel
theorem d_R_look_15 : decode b_R_look 15 = .ok (.iload 5, 2) := by decide +kernel
theorem d_R_look_17 : decode b_R_look 17 = .ok (.invokevirtual 127, 3) := by decide +kernel
theorem d_R_look_20 : decode b_R_look 20 = .ok (.ifCond .eq 12, 3) := by decide +kernel
theorem d_R_look_23 : decode b_R_look 23 = .ok (.lload_n 3, 1) := by decide +kernel
theorem d_R_look_24 : decode b_R_look 24 = .ok (.lconst 1, 1) := by decide +kernel
theorem d_R_look_25 : decode b_R_look 25 = .ok (.iload 5, 2) := by decide +kernel
theorem d_R_look_27 : decode b_R_look 27 = .ok (.lshl, 1) := by decide +kernel
theorem d_R_look_28 : decode b_R_look 28 = .ok (.lor, 1) := by decide +kernel
theorem d_R_look_29 : decode b_R_look 29 = .ok (.goto 4, 3) := by decide +kernel
theorem d_R_look_32 : decode b_R_look 32 = .ok (.lload_n 3, 1) := by decide +kernel
theorem d_R_look_33 : decode b_R_look 33 = .ok (.lstore_n 3, 1) := by decide +kernel
theorem d_R_look_34 : decode b_R_look 34 = .ok (.iinc 5 1, 3) := by decide +kernel
theorem d_R_look_37 : decode b_R_look 37 = .ok (.goto (-32), 3) := by decide +kernel
theorem d_R_look_40 : decode b_R_look 40 = .ok (.aload_n 0, 1) := by decide +kernel
theorem d_R_look_41 : decode b_R_look 41 = .ok (.getfield 37, 3) := by decide +kernel
theorem d_R_look_44 : decode b_R_look 44 = .ok (.bipush 24, 2) := by decide +kernel
theorem d_R_look_46 : decode b_R_look 46 = .ok (.iload_n 1, 1) := by decide +kernel
theorem d_R_look_47 : decode b_R_look 47 = .ok (.imul, 1) := by decide +kernel
theorem d_R_look_48 : decode b_R_look 48 = .ok (.iload_n 2, 1) := by decide +kernel
theorem d_R_look_49 : decode b_R_look 49 = .ok (.iadd, 1) := by decide +kernel
theorem d_R_look_50 : decode b_R_look 50 = .ok (.lload_n 3, 1) := by decide +kernel
theorem d_R_look_51 : decode b_R_look 51 = .ok (.lastore, 1) := by decide +kernel
theorem d_R_look_52 : decode b_R_look 52 = .ok (.return_, 1) := by decide +kernel
theorem d_R_satisfies_0 : decode b_R_satisfies 0 = .ok (.aload_n 0, 1) := by decide +kernel
theorem d_R_satisfies_1 : decode b_R_satisfies 1 = .ok (.getfield 16, 3) := by decide +kernel
theorem d_R_satisfies_4 : decode b_R_satisfies 4 = .ok (.iload_n 1, 1) := by decide +kernel
theorem d_R_satisfies_5 : decode b_R_satisfies 5 = .ok (.iaload, 1) := by decide +kernel
theorem d_R_satisfies_6 : decode b_R_satisfies 6 = .ok (.istore 4, 2) := by decide +kernel
theorem d_R_satisfies_8 : decode b_R_satisfies 8 = .ok (.aload_n 0, 1) := by decide +kernel
theorem d_R_satisfies_9 : decode b_R_satisfies 9 = .ok (.getfield 19, 3) := by decide +kernel
theorem d_R_satisfies_12 : decode b_R_satisfies 12 = .ok (.iload_n 1, 1) := by decide +kernel
theorem d_R_satisfies_13 : decode b_R_satisfies 13 = .ok (.iaload, 1) := by decide +kernel
theorem d_R_satisfies_14 : decode b_R_satisfies 14 = .ok (.istore 5, 2) := by decide +kernel
theorem d_R_satisfies_16 : decode b_R_satisfies 16 = .ok (.aload_n 0, 1) := by decide +kernel
theorem d_R_satisfies_17 : decode b_R_satisfies 17 = .ok (.getfield 7, 3) := by decide +kernel
theorem d_R_satisfies_20 : decode b_R_satisfies 20 = .ok (.iload_n 1, 1) := by decide +kernel
theorem d_R_satisfies_21 : decode b_R_satisfies 21 = .ok (.iaload, 1) := by decide +kernel
theorem d_R_satisfies_22 : decode b_R_satisfies 22 = .ok (.tableswitch 271 0 8 #[50, 94, 115, 136, 153, 181, 209, 217, 263], 50) := by decide +kernel
theorem d_R_satisfies_72 : decode b_R_satisfies 72 = .ok (.aload_n 0, 1) := by decide +kernel
theorem d_R_satisfies_73 : decode b_R_satisfies 73 = .ok (.getfield 31, 3) := by decide +kernel
theorem d_R_satisfies_76 : decode b_R_satisfies 76 = .ok (.bipush 24, 2) := by decide +kernel
theorem d_R_satisfies_78 : decode b_R_satisfies 78 = .ok (.aload_n 0, 1) := by decide +kernel
theorem d_R_satisfies_79 : decode b_R_satisfies 79 = .ok (.getfield 13, 3) := by decide +kernel
theorem d_R_satisfies_82 : decode b_R_satisfies 82 = .ok (.iload_n 1, 1) := by decide +kernel
theorem d_R_satisfies_83 : decode b_R_satisfies 83 = .ok (.iaload, 1) := by decide +kernel
theorem d_R_satisfies_84 : decode b_R_satisfies 84 = .ok (.imul, 1) := by decide +kernel
theorem d_R_satisfies_85 : decode b_R_satisfies 85 = .ok (.iload_n 2, 1) := by decide +kernel
theorem d_R_satisfies_86 : decode b_R_satisfies 86 = .ok (.iadd, 1) := by decide +kernel
theorem d_R_satisfies_87 : decode b_R_satisfies 87 = .ok (.iaload, 1) := by decide +kernel
theorem d_R_satisfies_88 : decode b_R_satisfies 88 = .ok (.iload 4, 2) := by decide +kernel
theorem d_R_satisfies_90 : decode b_R_satisfies 90 = .ok (.iload_n 3, 1) := by decide +kernel
theorem d_R_satisfies_91 : decode b_R_satisfies 91 = .ok (.invokestatic 114, 3) := by decide +kernel
theorem d_R_satisfies_94 : decode b_R_satisfies 94 = .ok (.iconst 4, 1) := by decide +kernel
theorem d_R_satisfies_95 : decode b_R_satisfies 95 = .ok (.iload 5, 2) := by decide +kernel
theorem d_R_satisfies_97 : decode b_R_satisfies 97 = .ok (.iload_n 3, 1) := by decide +kernel
theorem d_R_satisfies_98 : decode b_R_satisfies 98 = .ok (.invokestatic 114, 3) := by decide +kernel
theorem d_R_satisfies_101 : decode b_R_satisfies 101 = .ok (.imul, 1) := by decide +kernel
theorem d_R_satisfies_102 : decode b_R_satisfies 102 = .ok (.iadd, 1) := by decide +kernel
theorem d_R_satisfies_103 : decode b_R_satisfies 103 = .ok (.ishr, 1) := by decide +kernel
theorem d_R_satisfies_104 : decode b_R_satisfies 104 = .ok (.iconst 1, 1) := by decide +kernel
theorem d_R_satisfies_105 : decode b_R_satisfies 105 = .ok (.iand, 1) := by decide +kernel
theorem d_R_satisfies_106 : decode b_R_satisfies 106 = .ok (.iconst 1, 1) := by decide +kernel
theorem d_R_satisfies_107 : decode b_R_satisfies 107 = .ok (.if_icmp .ne 7, 3) := by decide +kernel
theorem d_R_satisfies_110 : decode b_R_satisfies 110 = .ok (.iconst 1, 1) := by decide +kernel
theorem d_R_satisfies_111 : decode b_R_satisfies 111 = .ok (.goto 4, 3) := by decide +kernel
theorem d_R_satisfies_114 : decode b_R_satisfies 114 = .ok (.iconst 0, 1) := by decide +kernel
theorem d_R_satisfies_115 : decode b_R_satisfies 115 = .ok (.ireturn, 1) := by decide +kernel
theorem d_R_satisfies_116 : decode b_R_satisfies 116 = .ok (.iload 4, 2) := by decide +kernel
theorem d_R_satisfies_118 : decode b_R_satisfies 118 = .ok (.iload_n 3, 1) := by decide +kernel
theorem d_R_satisfies_119 : decode b_R_satisfies 119 = .ok (.invokestatic 114, 3) := by decide +kernel
theorem d_R_satisfies_122 : decode b_R_satisfies 122 = .ok (.iload 5, 2) := by decide +kernel
theorem d_R_satisfies_124 : decode b_R_satisfies 124 = .ok (.iload_n 3, 1) := by decide +kernel
theorem d_R_satisfies_125 : decode b_R_satisfies 125 = .ok (.invokestatic 114, 3) := by decide +kernel
theorem d_R_satisfies_128 : decode b_R_satisfies 128 = .ok (.if_icmp .ne 7, 3) := by decide +kernel
theorem d_R_satisfies_131 : decode b_R_satisfies 131 = .ok (.iconst 1, 1) := by decide +kernel
theorem d_R_satisfies_132 : decode b_R_satisfies 132 = .ok (.goto 4, 3) := by decide +kernel
theorem d_R_satisfies_135 : decode b_R_satisfies 135 = .ok (.iconst 0, 1) := by decide +kernel
theorem d_R_satisfies_136 : decode b_R_satisfies 136 = .ok (.ireturn, 1) := by decide +kernel
theorem d_R_satisfies_137 : decode b_R_satisfies 137 = .ok (.iload 4, 2) := by decide +kernel
theorem d_R_satisfies_139 : decode b_R_satisfies 139 = .ok (.iload_n 3, 1) := by decide +kernel
theorem d_R_satisfies_140 : decode b_R_satisfies 140 = .ok (.invokestatic 114, 3) := by decide +kernel
theorem d_R_satisfies_143 : decode b_R_satisfies 143 = .ok (.iload 5, 2) := by decide +kernel
theorem d_R_satisfies_145 : decode b_R_satisfies 145 = .ok (.iload_n 3, 1) := by decide +kernel
theorem d_R_satisfies_146 : decode b_R_satisfies 146 = .ok (.invokestatic 114, 3) := by decide +kernel
theorem d_R_satisfies_149 : decode b_R_satisfies 149 = .ok (.if_icmp .ge 7, 3) := by decide +kernel
theorem d_R_satisfies_152 : decode b_R_satisfies 152 = .ok (.iconst 1, 1) := by decide +kernel
theorem d_R_satisfies_153 : decode b_R_satisfies 153 = .ok (.goto 4, 3) := by decide +kernel
theorem d_R_satisfies_156 : decode b_R_satisfies 156 = .ok (.iconst 0, 1) := by decide +kernel
theorem d_R_satisfies_157 : decode b_R_satisfies 157 = .ok (.ireturn, 1) := by decide +kernel
theorem d_R_satisfies_158 : decode b_R_satisfies 158 = .ok (.aload_n 0, 1) := by decide +kernel
theorem d_R_satisfies_159 : decode b_R_satisfies 159 = .ok (.iload 4, 2) := by decide +kernel
theorem d_R_satisfies_161 : decode b_R_satisfies 161 = .ok (.iload_n 2, 1) := by decide +kernel
theorem d_R_satisfies_162 : decode b_R_satisfies 162 = .ok (.iload_n 3, 1) := by decide +kernel
theorem d_R_satisfies_163 : decode b_R_satisfies 163 = .ok (.invokevirtual 110, 3) := by decide +kernel
theorem d_R_satisfies_166 : decode b_R_satisfies 166 = .ok (.ifCond .ne 7, 3) := by decide +kernel
theorem d_R_satisfies_169 : decode b_R_satisfies 169 = .ok (.iconst 1, 1) := by decide +kernel
theorem d_R_satisfies_170 : decode b_R_satisfies 170 = .ok (.goto 4, 3) := by decide +kernel
theorem d_R_satisfies_173 : decode b_R_satisfies 173 = .ok (.iconst 0, 1) := by decide +kernel
theorem d_R_satisfies_174 : decode b_R_satisfies 174 = .ok (.ireturn, 1) := by decide +kernel
theorem d_R_satisfies_175 : decode b_R_satisfies 175 = .ok (.aload_n 0, 1) := by decide +kernel
theorem d_R_satisfies_176 : decode b_R_satisfies 176 = .ok (.iload 4, 2) := by decide +kernel
theorem d_R_satisfies_178 : decode b_R_satisfies 178 = .ok (.iload_n 2, 1) := by decide +kernel
theorem d_R_satisfies_179 : decode b_R_satisfies 179 = .ok (.iload_n 3, 1) := by decide +kernel
theorem d_R_satisfies_180 : decode b_R_satisfies 180 = .ok (.invokevirtual 110, 3) := by decide +kernel
theorem d_R_satisfies_183 : decode b_R_satisfies 183 = .ok (.ifCond .eq 18, 3) := by decide +kernel
theorem d_R_satisfies_186 : decode b_R_satisfies 186 = .ok (.aload_n 0, 1) := by decide +kernel
theorem d_R_satisfies_187 : decode b_R_satisfies 187 = .ok (.iload 5, 2) := by decide +kernel
theorem d_R_satisfies_189 : decode b_R_satisfies 189 = .ok (.iload_n 2, 1) := by decide +kernel
theorem d_R_satisfies_190 : decode b_R_satisfies 190 = .ok (.iload_n 3, 1) := by decide +kernel
theorem d_R_satisfies_191 : decode b_R_satisfies 191 = .ok (.invokevirtual 110, 3) := by decide +kernel
theorem d_R_satisfies_194 : decode b_R_satisfies 194 = .ok (.ifCond .eq 7, 3) := by decide +kernel
theorem d_R_satisfies_197 : decode b_R_satisfies 197 = .ok (.iconst 1, 1) := by decide +kernel
theorem d_R_satisfies_198 : decode b_R_satisfies 198 = .ok (.goto 4, 3) := by decide +kernel
theorem d_R_satisfies_201 : decode b_R_satisfies 201 = .ok (.iconst 0, 1) := by decide +kernel
theorem d_R_satisfies_202 : decode b_R_satisfies 202 = .ok (.ireturn, 1) := by decide +kernel
theorem d_R_satisfies_203 : decode b_R_satisfies 203 = .ok (.aload_n 0, 1) := by decide +kernel
theorem d_R_satisfies_204 : decode b_R_satisfies 204 = .ok (.iload 4, 2) := by decide +kernel
theorem d_R_satisfies_206 : decode b_R_satisfies 206 = .ok (.iload_n 2, 1) := by decide +kernel
theorem d_R_satisfies_207 : decode b_R_satisfies 207 = .ok (.iload_n 3, 1) := by decide +kernel
theorem d_R_satisfies_208 : decode b_R_satisfies 208 = .ok (.invokevirtual 110, 3) := by decide +kernel
theorem d_R_satisfies_211 : decode b_R_satisfies 211 = .ok (.ifCond .ne 14, 3) := by decide +kernel
theorem d_R_satisfies_214 : decode b_R_satisfies 214 = .ok (.aload_n 0, 1) := by decide +kernel
theorem d_R_satisfies_215 : decode b_R_satisfies 215 = .ok (.iload 5, 2) := by decide +kernel
theorem d_R_satisfies_217 : decode b_R_satisfies 217 = .ok (.iload_n 2, 1) := by decide +kernel
theorem d_R_satisfies_218 : decode b_R_satisfies 218 = .ok (.iload_n 3, 1) := by decide +kernel
theorem d_R_satisfies_219 : decode b_R_satisfies 219 = .ok (.invokevirtual 110, 3) := by decide +kernel
theorem d_R_satisfies_222 : decode b_R_satisfies 222 = .ok (.ifCond .eq 7, 3) := by decide +kernel
theorem d_R_satisfies_225 : decode b_R_satisfies 225 = .ok (.iconst 1, 1) := by decide +kernel
theorem d_R_satisfies_226 : decode b_R_satisfies 226 = .ok (.goto 4, 3) := by decide +kernel
theorem d_R_satisfies_229 : decode b_R_satisfies 229 = .ok (.iconst 0, 1) := by decide +kernel
theorem d_R_satisfies_230 : decode b_R_satisfies 230 = .ok (.ireturn, 1) := by decide +kernel
theorem d_R_satisfies_231 : decode b_R_satisfies 231 = .ok (.aload_n 0, 1) := by decide +kernel
theorem d_R_satisfies_232 : decode b_R_satisfies 232 = .ok (.iload_n 1, 1) := by decide +kernel
theorem d_R_satisfies_233 : decode b_R_satisfies 233 = .ok (.iload_n 2, 1) := by decide +kernel
theorem d_R_satisfies_234 : decode b_R_satisfies 234 = .ok (.iload_n 3, 1) := by decide +kernel
theorem d_R_satisfies_235 : decode b_R_satisfies 235 = .ok (.invokevirtual 118, 3) := by decide +kernel
theorem d_R_satisfies_238 : decode b_R_satisfies 238 = .ok (.ireturn, 1) := by decide +kernel
theorem d_R_satisfies_239 : decode b_R_satisfies 239 = .ok (.iload_n 2, 1) := by decide +kernel
theorem d_R_satisfies_240 : decode b_R_satisfies 240 = .ok (.ifCond .le 43, 3) := by decide +kernel
theorem d_R_satisfies_243 : decode b_R_satisfies 243 = .ok (.aload_n 0, 1) := by decide +kernel
theorem d_R_satisfies_244 : decode b_R_satisfies 244 = .ok (.iload_n 1, 1) := by decide +kernel
theorem d_R_satisfies_245 : decode b_R_satisfies 245 = .ok (.aload_n 0, 1) := by decide +kernel
theorem d_R_satisfies_246 : decode b_R_satisfies 246 = .ok (.getfield 28, 3) := by decide +kernel
theorem d_R_satisfies_249 : decode b_R_satisfies 249 = .ok (.iload_n 2, 1) := by decide +kernel
theorem d_R_satisfies_250 : decode b_R_satisfies 250 = .ok (.iaload, 1) := by decide +kernel
theorem d_R_satisfies_251 : decode b_R_satisfies 251 = .ok (.aload_n 0, 1) := by decide +kernel
theorem d_R_satisfies_252 : decode b_R_satisfies 252 = .ok (.getfield 28, 3) := by decide +kernel
theorem d_R_satisfies_255 : decode b_R_satisfies 255 = .ok (.iload_n 2, 1) := by decide +kernel
theorem d_R_satisfies_256 : decode b_R_satisfies 256 = .ok (.iconst 1, 1) := by decide +kernel
theorem d_R_satisfies_257 : decode b_R_satisfies 257 = .ok (.isub, 1) := by decide +kernel
theorem d_R_satisfies_258 : decode b_R_satisfies 258 = .ok (.iaload, 1) := by decide +kernel
theorem d_R_satisfies_259 : decode b_R_satisfies 259 = .ok (.isub, 1) := by decide +kernel
theorem d_R_satisfies_260 : decode b_R_satisfies 260 = .ok (.invokevirtual 106, 3) := by decide +kernel
theorem d_R_satisfies_263 : decode b_R_satisfies 263 = .ok (.ifCond .eq 20, 3) := by decide +kernel
theorem d_R_satisfies_266 : decode b_R_satisfies 266 = .ok (.aload_n 0, 1) := by decide +kernel
theorem d_R_satisfies_267 : decode b_R_satisfies 267 = .ok (.iload 4, 2) := by decide +kernel
theorem d_R_satisfies_269 : decode b_R_satisfies 269 = .ok (.iload_n 2, 1) := by decide +kernel
theorem d_R_satisfies_270 : decode b_R_satisfies 270 = .ok (.iconst 1, 1) := by decide +kernel
theorem d_R_satisfies_271 : decode b_R_satisfies 271 = .ok (.isub, 1) := by decide +kernel
theorem d_R_satisfies_272 : decode b_R_satisfies 272 = .ok (.iload_n 3, 1) := by decide +kernel
theorem d_R_satisfies_273 : decode b_R_satisfies 273 = .ok (.invokevirtual 110, 3) := by decide +kernel
theorem d_R_satisfies_276 : decode b_R_satisfies 276 = .ok (.ifCond .eq 7, 3) := by decide +kernel
theorem d_R_satisfies_279 : decode b_R_satisfies 279 = .ok (.iconst 1, 1) := by decide +kernel
theorem d_R_satisfies_280 : decode b_R_satisfies 280 = .ok (.goto 4, 3) := by decide +kernel
theorem d_R_satisfies_283 : decode b_R_satisfies 283 = .ok (.iconst 0, 1) := by decide +kernel
theorem d_R_satisfies_284 : decode b_R_satisfies 284 = .ok (.ireturn, 1) := by decide +kernel
theorem d_R_satisfies_285 : decode b_R_satisfies 285 = .ok (.aload_n 0, 1) := by decide +kernel
theorem d_R_satisfies_286 : decode b_R_satisfies 286 = .ok (.iload_n 1, 1) := by decide +kernel
theorem d_R_satisfies_287 : decode b_R_satisfies 287 = .ok (.iload_n 2, 1) := by decide +kernel
theorem d_R_satisfies_288 : decode b_R_satisfies 288 = .ok (.iload_n 3, 1) := by decide +kernel
theorem d_R_satisfies_289 : decode b_R_satisfies 289 = .ok (.invokevirtual 121, 3) := by decide +kernel
theorem d_R_satisfies_292 : decode b_R_satisfies 292 = .ok (.ireturn, 1) := by decide +kernel
theorem d_R_satisfies_293 : decode b_R_satisfies 293 = .ok (.aload_n 0, 1) := by decide +kernel
theorem d_R_satisfies_294 : decode b_R_satisfies 294 = .ok (.iload_n 1, 1) := by decide +kernel
theorem d_R_satisfies_295 : decode b_R_satisfies 295 = .ok (.iload_n 2, 1) := by decide +kernel
theorem d_R_satisfies_296 : decode b_R_satisfies 296 = .ok (.iload_n 3, 1) := by decide +kernel
theorem d_R_satisfies_297 : decode b_R_satisfies 297 = .ok (.invokevirtual 124, 3) := by decide +kernel
theorem d_R_satisfies_300 : decode b_R_satisfies 300 = .ok (.ireturn, 1) := by decide +kernel
theorem d_R_value_0 : decode b_R_value 0 = .ok (.iload_n 0, 1) := by decide +kernel
theorem d_R_value_1 : decode b_R_value 1 = .ok (.iconst 2, 1) := by decide +kernel
theorem d_R_value_2 : decode b_R_value 2 = .ok (.if_icmp .gt 13, 3) := by decide +kernel
theorem d_R_value_5 : decode b_R_value 5 = .ok (.iload_n 1, 1) := by decide +kernel
theorem d_R_value_6 : decode b_R_value 6 = .ok (.iconst 2, 1) := by decide +kernel
theorem d_R_value_7 : decode b_R_value 7 = .ok (.iload_n 0, 1) := by decide +kernel
theorem d_R_value_8 : decode b_R_value 8 = .ok (.imul, 1) := by decide +kernel
theorem d_R_value_9 : decode b_R_value 9 = .ok (.ishr, 1) := by decide +kernel
theorem d_R_value_10 : decode b_R_value 10 = .ok (.iconst 3, 1) := by decide +kernel
theorem d_R_value_11 : decode b_R_value 11 = .ok (.iand, 1) := by decide +kernel
theorem d_R_value_12 : decode b_R_value 12 = .ok (.goto 6, 3) := by decide +kernel
theorem d_R_value_15 : decode b_R_value 15 = .ok (.iload_n 0, 1) := by decide +kernel
theorem d_R_value_16 : decode b_R_value 16 = .ok (.iconst 4, 1) := by decide +kernel
theorem d_R_value_17 : decode b_R_value 17 = .ok (.isub, 1) := by decide +kernel
theorem d_R_value_18 : decode b_R_value 18 = .ok (.ireturn, 1) := by decide +kernel
theorem d_R_at_0 : decode b_R_at 0 = .ok (.aload_n 0, 1) := by decide +kernel
theorem d_R_at_1 : decode b_R_at 1 = .ok (.getfield 37, 3) := by decide +kernel
theorem d_R_at_4 : decode b_R_at 4 = .ok (.bipush 24, 2) := by decide +kernel
theorem d_R_at_6 : decode b_R_at 6 = .ok (.iload_n 1, 1) := by decide +kernel
theorem d_R_at_7 : decode b_R_at 7 = .ok (.imul, 1) := by decide +kernel
theorem d_R_at_8 : decode b_R_at 8 = .ok (.iload_n 2, 1) := by decide +kernel
theorem d_R_at_9 : decode b_R_at 9 = .ok (.iadd, 1) := by decide +kernel
theorem d_R_at_10 : decode b_R_at 10 = .ok (.laload, 1) := by decide +kernel
theorem d_R_at_11 : decode b_R_at 11 = .ok (.iload_n 3, 1) := by decide +kernel
theorem d_R_at_12 : decode b_R_at 12 = .ok (.lshr, 1) := by decide +kernel
theorem d_R_at_13 : decode b_R_at 13 = .ok (.lconst 1, 1) := by decide +kernel
theorem d_R_at_14 : decode b_R_at 14 = .ok (.land, 1) := by decide +kernel
theorem d_R_at_15 : decode b_R_at 15 = .ok (.lconst 1, 1) := by decide +kernel
theorem d_R_at_16 : decode b_R_at 16 = .ok (.lcmp, 1) := by decide +kernel
theorem d_R_at_17 : decode b_R_at 17 = .ok (.ifCond .ne 7, 3) := by decide +kernel
theorem d_R_at_20 : decode b_R_at 20 = .ok (.iconst 1, 1) := by decide +kernel
theorem d_R_at_21 : decode b_R_at 21 = .ok (.goto 4, 3) := by decide +kernel
theorem d_R_at_24 : decode b_R_at 24 = .ok (.iconst 0, 1) := by decide +kernel
theorem d_R_at_25 : decode b_R_at 25 = .ok (.ireturn, 1) := by decide +kernel
theorem d_R_existsAt_0 : decode b_R_existsAt 0 = .ok (.iconst 2, 1) := by decide +kernel
theorem d_R_existsAt_1 : decode b_R_existsAt 1 = .ok (.aload_n 0, 1) := by decide +kernel
theorem d_R_existsAt_2 : decode b_R_existsAt 2 = .ok (.getfield 13, 3) := by decide +kernel
theorem d_R_existsAt_5 : decode b_R_existsAt 5 = .ok (.iload_n 1, 1) := by decide +kernel
theorem d_R_existsAt_6 : decode b_R_existsAt 6 = .ok (.iaload, 1) := by decide +kernel
theorem d_R_existsAt_7 : decode b_R_existsAt 7 = .ok (.imul, 1) := by decide +kernel
theorem d_R_existsAt_8 : decode b_R_existsAt 8 = .ok (.istore 4, 2) := by decide +kernel
theorem d_R_existsAt_10 : decode b_R_existsAt 10 = .ok (.iconst 0, 1) := by decide +kernel
theorem d_R_existsAt_11 : decode b_R_existsAt 11 = .ok (.istore 5, 2) := by decide +kernel
theorem d_R_existsAt_13 : decode b_R_existsAt 13 = .ok (.iconst 0, 1) := by decide +kernel
theorem d_R_existsAt_14 : decode b_R_existsAt 14 = .ok (.istore 6, 2) := by decide +kernel
theorem d_R_existsAt_16 : decode b_R_existsAt 16 = .ok (.iload 6, 2) := by decide +kernel
theorem d_R_existsAt_18 : decode b_R_existsAt 18 = .ok (.iconst 4, 1) := by decide +kernel
theorem d_R_existsAt_19 : decode b_R_existsAt 19 = .ok (.if_icmp .ge 49, 3) := by decide +kernel
theorem d_R_existsAt_22 : decode b_R_existsAt 22 = .ok (.iload 5, 2) := by decide +kernel
theorem d_R_existsAt_24 : decode b_R_existsAt 24 = .ok (.ifCond .ne 31, 3) := by decide +kernel
theorem d_R_existsAt_27 : decode b_R_existsAt 27 = .ok (.aload_n 0, 1) := by decide +kernel
theorem d_R_existsAt_28 : decode b_R_existsAt 28 = .ok (.aload_n 0, 1) := by decide +kernel
theorem d_R_existsAt_29 : decode b_R_existsAt 29 = .ok (.getfield 16, 3) := by decide +kernel
theorem d_R_existsAt_32 : decode b_R_existsAt 32 = .ok (.iload_n 1, 1) := by decide +kernel
theorem d_R_existsAt_33 : decode b_R_existsAt 33 = .ok (.iaload, 1) := by decide +kernel
theorem d_R_existsAt_34 : decode b_R_existsAt 34 = .ok (.iload_n 2, 1) := by decide +kernel
theorem d_R_existsAt_35 : decode b_R_existsAt 35 = .ok (.iload_n 3, 1) := by decide +kernel
theorem d_R_existsAt_36 : decode b_R_existsAt 36 = .ok (.iconst 3, 1) := by decide +kernel
theorem d_R_existsAt_37 : decode b_R_existsAt 37 = .ok (.iload 4, 2) := by decide +kernel
theorem d_R_existsAt_39 : decode b_R_existsAt 39 = .ok (.ishl, 1) := by decide +kernel
theorem d_R_existsAt_40 : decode b_R_existsAt 40 = .ok (.iconst (-1), 1) := by decide +kernel
theorem d_R_existsAt_41 : decode b_R_existsAt 41 = .ok (.ixor, 1) := by decide +kernel
theorem d_R_existsAt_42 : decode b_R_existsAt 42 = .ok (.iand, 1) := by decide +kernel
theorem d_R_existsAt_43 : decode b_R_existsAt 43 = .ok (.iload 6, 2) := by decide +kernel
theorem d_R_existsAt_45 : decode b_R_existsAt 45 = .ok (.iload 4, 2) := by decide +kernel
theorem d_R_existsAt_47 : decode b_R_existsAt 47 = .ok (.ishl, 1) := by decide +kernel
theorem d_R_existsAt_48 : decode b_R_existsAt 48 = .ok (.ior, 1) := by decide +kernel
theorem d_R_existsAt_49 : decode b_R_existsAt 49 = .ok (.invokevirtual 110, 3) := by decide +kernel
theorem d_R_existsAt_52 : decode b_R_existsAt 52 = .ok (.ifCond .eq 7, 3) := by decide +kernel
theorem d_R_existsAt_55 : decode b_R_existsAt 55 = .ok (.iconst 1, 1) := by decide +kernel
theorem d_R_existsAt_56 : decode b_R_existsAt 56 = .ok (.goto 4, 3) := by decide +kernel
theorem d_R_existsAt_59 : decode b_R_existsAt 59 = .ok (.iconst 0, 1) := by decide +kernel
theorem d_R_existsAt_60 : decode b_R_existsAt 60 = .ok (.istore 5, 2) := by decide +kernel
theorem d_R_existsAt_62 : decode b_R_existsAt 62 = .ok (.iinc 6 1, 3) := by decide +kernel
theorem d_R_existsAt_65 : decode b_R_existsAt 65 = .ok (.goto (-49), 3) := by decide +kernel
theorem d_R_existsAt_68 : decode b_R_existsAt 68 = .ok (.iload 5, 2) := by decide +kernel
theorem d_R_existsAt_70 : decode b_R_existsAt 70 = .ok (.ireturn, 1) := by decide +kernel
theorem d_R_lies_0 : decode b_R_lies 0 = .ok (.iload_n 2, 1) := by decide +kernel
theorem d_R_lies_1 : decode b_R_lies 1 = .ok (.aload_n 0, 1) := by decide +kernel
theorem d_R_lies_2 : decode b_R_lies 2 = .ok (.getfield 22, 3) := by decide +kernel
theorem d_R_lies_5 : decode b_R_lies 5 = .ok (.iload_n 1, 1) := by decide +kernel
theorem d_R_lies_6 : decode b_R_lies 6 = .ok (.iaload, 1) := by decide +kernel
theorem d_R_lies_7 : decode b_R_lies 7 = .ok (.if_icmp .lt 27, 3) := by decide +kernel
theorem d_R_lies_10 : decode b_R_lies 10 = .ok (.aload_n 0, 1) := by decide +kernel
theorem d_R_lies_11 : decode b_R_lies 11 = .ok (.getfield 25, 3) := by decide +kernel
theorem d_R_lies_14 : decode b_R_lies 14 = .ok (.iload_n 1, 1) := by decide +kernel
theorem d_R_lies_15 : decode b_R_lies 15 = .ok (.iaload, 1) := by decide +kernel
theorem d_R_lies_16 : decode b_R_lies 16 = .ok (.iconst (-1), 1) := by decide +kernel
theorem d_R_lies_17 : decode b_R_lies 17 = .ok (.if_icmp .eq 13, 3) := by decide +kernel
theorem d_R_lies_20 : decode b_R_lies 20 = .ok (.iload_n 2, 1) := by decide +kernel
theorem d_R_lies_21 : decode b_R_lies 21 = .ok (.aload_n 0, 1) := by decide +kernel
theorem d_R_lies_22 : decode b_R_lies 22 = .ok (.getfield 25, 3) := by decide +kernel
theorem d_R_lies_25 : decode b_R_lies 25 = .ok (.iload_n 1, 1) := by decide +kernel
theorem d_R_lies_26 : decode b_R_lies 26 = .ok (.iaload, 1) := by decide +kernel
theorem d_R_lies_27 : decode b_R_lies 27 = .ok (.if_icmp .gt 7, 3) := by decide +kernel
theorem d_R_lies_30 : decode b_R_lies 30 = .ok (.iconst 1, 1) := by decide +kernel
theorem d_R_lies_31 : decode b_R_lies 31 = .ok (.goto 4, 3) := by decide +kernel
theorem d_R_lies_34 : decode b_R_lies 34 = .ok (.iconst 0, 1) := by decide +kernel
theorem d_R_lies_35 : decode b_R_lies 35 = .ok (.ireturn, 1) := by decide +kernel
theorem d_R_sinceAt_0 : decode b_R_sinceAt 0 = .ok (.iload_n 2, 1) := by decide +kernel
theorem d_R_sinceAt_1 : decode b_R_sinceAt 1 = .ok (.istore 4, 2) := by decide +kernel
theorem d_R_sinceAt_3 : decode b_R_sinceAt 3 = .ok (.iload 4, 2) := by decide +kernel
theorem d_R_sinceAt_5 : decode b_R_sinceAt 5 = .ok (.ifCond .lt 67, 3) := by decide +kernel
theorem d_R_sinceAt_8 : decode b_R_sinceAt 8 = .ok (.aload_n 0, 1) := by decide +kernel
theorem d_R_sinceAt_9 : decode b_R_sinceAt 9 = .ok (.iload_n 1, 1) := by decide +kernel
theorem d_R_sinceAt_10 : decode b_R_sinceAt 10 = .ok (.aload_n 0, 1) := by decide +kernel
theorem d_R_sinceAt_11 : decode b_R_sinceAt 11 = .ok (.getfield 28, 3) := by decide +kernel
theorem d_R_sinceAt_14 : decode b_R_sinceAt 14 = .ok (.iload_n 2, 1) := by decide +kernel
theorem d_R_sinceAt_15 : decode b_R_sinceAt 15 = .ok (.iaload, 1) := by decide +kernel
theorem d_R_sinceAt_16 : decode b_R_sinceAt 16 = .ok (.aload_n 0, 1) := by decide +kernel
theorem d_R_sinceAt_17 : decode b_R_sinceAt 17 = .ok (.getfield 28, 3) := by decide +kernel
theorem d_R_sinceAt_20 : decode b_R_sinceAt 20 = .ok (.iload 4, 2) := by decide +kernel
theorem d_R_sinceAt_22 : decode b_R_sinceAt 22 = .ok (.iaload, 1) := by decide +kernel
theorem d_R_sinceAt_23 : decode b_R_sinceAt 23 = .ok (.isub, 1) := by decide +kernel
theorem d_R_sinceAt_24 : decode b_R_sinceAt 24 = .ok (.invokevirtual 106, 3) := by decide +kernel
theorem d_R_sinceAt_27 : decode b_R_sinceAt 27 = .ok (.ifCond .eq 21, 3) := by decide +kernel
theorem d_R_sinceAt_30 : decode b_R_sinceAt 30 = .ok (.aload_n 0, 1) := by decide +kernel
theorem d_R_sinceAt_31 : decode b_R_sinceAt 31 = .ok (.aload_n 0, 1) := by decide +kernel
theorem d_R_sinceAt_32 : decode b_R_sinceAt 32 = .ok (.getfield 19, 3) := by decide +kernel
theorem d_R_sinceAt_35 : decode b_R_sinceAt 35 = .ok (.iload_n 1, 1) := by decide +kernel
theorem d_R_sinceAt_36 : decode b_R_sinceAt 36 = .ok (.iaload, 1) := by decide +kernel
theorem d_R_sinceAt_37 : decode b_R_sinceAt 37 = .ok (.iload 4, 2) := by decide +kernel
theorem d_R_sinceAt_39 : decode b_R_sinceAt 39 = .ok (.iload_n 3, 1) := by decide +kernel
theorem d_R_sinceAt_40 : decode b_R_sinceAt 40 = .ok (.invokevirtual 110, 3) := by decide +kernel
theorem d_R_sinceAt_43 : decode b_R_sinceAt 43 = .ok (.ifCond .eq 5, 3) := by decide +kernel
theorem d_R_sinceAt_46 : decode b_R_sinceAt 46 = .ok (.iconst 1, 1) := by decide +kernel
theorem d_R_sinceAt_47 : decode b_R_sinceAt 47 = .ok (.ireturn, 1) := by decide +kernel
theorem d_R_sinceAt_48 : decode b_R_sinceAt 48 = .ok (.aload_n 0, 1) := by decide +kernel
theorem d_R_sinceAt_49 : decode b_R_sinceAt 49 = .ok (.aload_n 0, 1) := by decide +kernel
theorem d_R_sinceAt_50 : decode b_R_sinceAt 50 = .ok (.getfield 16, 3) := by decide +kernel
theorem d_R_sinceAt_53 : decode b_R_sinceAt 53 = .ok (.iload_n 1, 1) := by decide +kernel
theorem d_R_sinceAt_54 : decode b_R_sinceAt 54 = .ok (.iaload, 1) := by decide +kernel
theorem d_R_sinceAt_55 : decode b_R_sinceAt 55 = .ok (.iload 4, 2) := by decide +kernel
theorem d_R_sinceAt_57 : decode b_R_sinceAt 57 = .ok (.iload_n 3, 1) := by decide +kernel
theorem d_R_sinceAt_58 : decode b_R_sinceAt 58 = .ok (.invokevirtual 110, 3) := by decide +kernel
theorem d_R_sinceAt_61 : decode b_R_sinceAt 61 = .ok (.ifCond .ne 5, 3) := by decide +kernel
theorem d_R_sinceAt_64 : decode b_R_sinceAt 64 = .ok (.iconst 0, 1) := by decide +kernel
theorem d_R_sinceAt_65 : decode b_R_sinceAt 65 = .ok (.ireturn, 1) := by decide +kernel
theorem d_R_sinceAt_66 : decode b_R_sinceAt 66 = .ok (.iinc 4 (-1), 3) := by decide +kernel
theorem d_R_sinceAt_69 : decode b_R_sinceAt 69 = .ok (.goto (-66), 3) := by decide +kernel
theorem d_R_sinceAt_72 : decode b_R_sinceAt 72 = .ok (.iconst 0, 1) := by decide +kernel
theorem d_R_sinceAt_73 : decode b_R_sinceAt 73 = .ok (.ireturn, 1) := by decide +kernel
theorem d_R_untilAt_0 : decode b_R_untilAt 0 = .ok (.iload_n 2, 1) := by decide +kernel
theorem d_R_untilAt_1 : decode b_R_untilAt 1 = .ok (.istore 4, 2) := by decide +kernel
theorem d_R_untilAt_3 : decode b_R_untilAt 3 = .ok (.iload 4, 2) := by decide +kernel
theorem d_R_untilAt_5 : decode b_R_untilAt 5 = .ok (.aload_n 0, 1) := by decide +kernel
theorem d_R_untilAt_6 : decode b_R_untilAt 6 = .ok (.getfield 96, 3) := by decide +kernel
theorem d_R_untilAt_9 : decode b_R_untilAt 9 = .ok (.if_icmp .ge 67, 3) := by decide +kernel
theorem d_R_untilAt_12 : decode b_R_untilAt 12 = .ok (.aload_n 0, 1) := by decide +kernel
theorem d_R_untilAt_13 : decode b_R_untilAt 13 = .ok (.iload_n 1, 1) := by decide +kernel
theorem d_R_untilAt_14 : decode b_R_untilAt 14 = .ok (.aload_n 0, 1) := by decide +kernel
theorem d_R_untilAt_15 : decode b_R_untilAt 15 = .ok (.getfield 28, 3) := by decide +kernel
theorem d_R_untilAt_18 : decode b_R_untilAt 18 = .ok (.iload 4, 2) := by decide +kernel
theorem d_R_untilAt_20 : decode b_R_untilAt 20 = .ok (.iaload, 1) := by decide +kernel
theorem d_R_untilAt_21 : decode b_R_untilAt 21 = .ok (.aload_n 0, 1) := by decide +kernel
theorem d_R_untilAt_22 : decode b_R_untilAt 22 = .ok (.getfield 28, 3) := by decide +kernel
theorem d_R_untilAt_25 : decode b_R_untilAt 25 = .ok (.iload_n 2, 1) := by decide +kernel
theorem d_R_untilAt_26 : decode b_R_untilAt 26 = .ok (.iaload, 1) := by decide +kernel
theorem d_R_untilAt_27 : decode b_R_untilAt 27 = .ok (.isub, 1) := by decide +kernel
theorem d_R_untilAt_28 : decode b_R_untilAt 28 = .ok (.invokevirtual 106, 3) := by decide +kernel
theorem d_R_untilAt_31 : decode b_R_untilAt 31 = .ok (.ifCond .eq 21, 3) := by decide +kernel
theorem d_R_untilAt_34 : decode b_R_untilAt 34 = .ok (.aload_n 0, 1) := by decide +kernel
theorem d_R_untilAt_35 : decode b_R_untilAt 35 = .ok (.aload_n 0, 1) := by decide +kernel
theorem d_R_untilAt_36 : decode b_R_untilAt 36 = .ok (.getfield 19, 3) := by decide +kernel
theorem d_R_untilAt_39 : decode b_R_untilAt 39 = .ok (.iload_n 1, 1) := by decide +kernel
theorem d_R_untilAt_40 : decode b_R_untilAt 40 = .ok (.iaload, 1) := by decide +kernel
theorem d_R_untilAt_41 : decode b_R_untilAt 41 = .ok (.iload 4, 2) := by decide +kernel
theorem d_R_untilAt_43 : decode b_R_untilAt 43 = .ok (.iload_n 3, 1) := by decide +kernel
theorem d_R_untilAt_44 : decode b_R_untilAt 44 = .ok (.invokevirtual 110, 3) := by decide +kernel
theorem d_R_untilAt_47 : decode b_R_untilAt 47 = .ok (.ifCond .eq 5, 3) := by decide +kernel
theorem d_R_untilAt_50 : decode b_R_untilAt 50 = .ok (.iconst 1, 1) := by decide +kernel
theorem d_R_untilAt_51 : decode b_R_untilAt 51 = .ok (.ireturn, 1) := by decide +kernel
theorem d_R_untilAt_52 : decode b_R_untilAt 52 = .ok (.aload_n 0, 1) := by decide +kernel
theorem d_R_untilAt_53 : decode b_R_untilAt 53 = .ok (.aload_n 0, 1) := by decide +kernel
theorem d_R_untilAt_54 : decode b_R_untilAt 54 = .ok (.getfield 16, 3) := by decide +kernel
theorem d_R_untilAt_57 : decode b_R_untilAt 57 = .ok (.iload_n 1, 1) := by decide +kernel
theorem d_R_untilAt_58 : decode b_R_untilAt 58 = .ok (.iaload, 1) := by decide +kernel
theorem d_R_untilAt_59 : decode b_R_untilAt 59 = .ok (.iload 4, 2) := by decide +kernel
theorem d_R_untilAt_61 : decode b_R_untilAt 61 = .ok (.iload_n 3, 1) := by decide +kernel
theorem d_R_untilAt_62 : decode b_R_untilAt 62 = .ok (.invokevirtual 110, 3) := by decide +kernel
theorem d_R_untilAt_65 : decode b_R_untilAt 65 = .ok (.ifCond .ne 5, 3) := by decide +kernel
theorem d_R_untilAt_68 : decode b_R_untilAt 68 = .ok (.iconst 0, 1) := by decide +kernel
theorem d_R_untilAt_69 : decode b_R_untilAt 69 = .ok (.ireturn, 1) := by decide +kernel
theorem d_R_untilAt_70 : decode b_R_untilAt 70 = .ok (.iinc 4 1, 3) := by decide +kernel
theorem d_R_untilAt_73 : decode b_R_untilAt 73 = .ok (.goto (-70), 3) := by decide +kernel
theorem d_R_untilAt_76 : decode b_R_untilAt 76 = .ok (.iconst 0, 1) := by decide +kernel
theorem d_R_untilAt_77 : decode b_R_untilAt 77 = .ok (.ireturn, 1) := by decide +kernel
theorem d_R_stop_0 : decode b_R_stop 0 = .ok (.aload_n 0, 1) := by decide +kernel
theorem d_R_stop_1 : decode b_R_stop 1 = .ok (.iconst 0, 1) := by decide +kernel
theorem d_R_stop_2 : decode b_R_stop 2 = .ok (.putfield 58, 3) := by decide +kernel
theorem d_R_stop_5 : decode b_R_stop 5 = .ok (.aload_n 0, 1) := by decide +kernel
theorem d_R_stop_6 : decode b_R_stop 6 = .ok (.invokevirtual 99, 3) := by decide +kernel
theorem d_R_stop_9 : decode b_R_stop 9 = .ok (.aload_n 0, 1) := by decide +kernel
theorem d_R_stop_10 : decode b_R_stop 10 = .ok (.iload_n 1, 1) := by decide +kernel
theorem d_R_stop_11 : decode b_R_stop 11 = .ok (.ifCond .eq 7, 3) := by decide +kernel
theorem d_R_stop_14 : decode b_R_stop 14 = .ok (.iconst 0, 1) := by decide +kernel
theorem d_R_stop_15 : decode b_R_stop 15 = .ok (.goto 7, 3) := by decide +kernel
theorem d_R_stop_18 : decode b_R_stop 18 = .ok (.aload_n 0, 1) := by decide +kernel
theorem d_R_stop_19 : decode b_R_stop 19 = .ok (.getfield 54, 3) := by decide +kernel
theorem d_R_stop_22 : decode b_R_stop 22 = .ok (.putfield 54, 3) := by decide +kernel
theorem d_R_stop_25 : decode b_R_stop 25 = .ok (.return_, 1) := by decide +kernel
theorem d_R_progress_0 : decode b_R_progress 0 = .ok (.aload_n 0, 1) := by decide +kernel
theorem d_R_progress_1 : decode b_R_progress 1 = .ok (.iload_n 1, 1) := by decide +kernel
theorem d_R_progress_2 : decode b_R_progress 2 = .ok (.invokevirtual 75, 3) := by decide +kernel
theorem d_R_progress_5 : decode b_R_progress 5 = .ok (.ifCond .ne 5, 3) := by decide +kernel
theorem d_R_progress_8 : decode b_R_progress 8 = .ok (.iconst (-1), 1) := by decide +kernel
theorem d_R_progress_9 : decode b_R_progress 9 = .ok (.ireturn, 1) := by decide +kernel
theorem d_R_progress_10 : decode b_R_progress 10 = .ok (.iconst 0, 1) := by decide +kernel
theorem d_R_progress_11 : decode b_R_progress 11 = .ok (.istore_n 2, 1) := by decide +kernel
theorem d_R_progress_12 : decode b_R_progress 12 = .ok (.iload_n 2, 1) := by decide +kernel
theorem d_R_progress_13 : decode b_R_progress 13 = .ok (.iload_n 1, 1) := by decide +kernel
theorem d_R_progress_14 : decode b_R_progress 14 = .ok (.if_icmp .gt 105, 3) := by decide +kernel
theorem d_R_progress_17 : decode b_R_progress 17 = .ok (.aload_n 0, 1) := by decide +kernel
theorem d_R_progress_18 : decode b_R_progress 18 = .ok (.getfield 7, 3) := by decide +kernel
theorem d_R_progress_21 : decode b_R_progress 21 = .ok (.iload_n 2, 1) := by decide +kernel
theorem d_R_progress_22 : decode b_R_progress 22 = .ok (.iaload, 1) := by decide +kernel
theorem d_R_progress_23 : decode b_R_progress 23 = .ok (.iconst 2, 1) := by decide +kernel
theorem d_R_progress_24 : decode b_R_progress 24 = .ok (.if_icmp .gt 10, 3) := by decide +kernel
theorem d_R_progress_27 : decode b_R_progress 27 = .ok (.aload_n 0, 1) := by decide +kernel
theorem d_R_progress_28 : decode b_R_progress 28 = .ok (.getfield 96, 3) := by decide +kernel
theorem d_R_progress_31 : decode b_R_progress 31 = .ok (.goto 29, 3) := by decide +kernel
theorem d_R_progress_34 : decode b_R_progress 34 = .ok (.aload_n 0, 1) := by decide +kernel
theorem d_R_progress_35 : decode b_R_progress 35 = .ok (.aload_n 0, 1) := by decide +kernel
theorem d_R_progress_36 : decode b_R_progress 36 = .ok (.getfield 51, 3) := by decide +kernel
theorem d_R_progress_39 : decode b_R_progress 39 = .ok (.aload_n 0, 1) := by decide +kernel
theorem d_R_progress_40 : decode b_R_progress 40 = .ok (.getfield 16, 3) := by decide +kernel
theorem d_R_progress_43 : decode b_R_progress 43 = .ok (.iload_n 2, 1) := by decide +kernel
theorem d_R_progress_44 : decode b_R_progress 44 = .ok (.iaload, 1) := by decide +kernel
theorem d_R_progress_45 : decode b_R_progress 45 = .ok (.iaload, 1) := by decide +kernel
theorem d_R_progress_46 : decode b_R_progress 46 = .ok (.aload_n 0, 1) := by decide +kernel
theorem d_R_progress_47 : decode b_R_progress 47 = .ok (.getfield 51, 3) := by decide +kernel
theorem d_R_progress_50 : decode b_R_progress 50 = .ok (.aload_n 0, 1) := by decide +kernel
theorem d_R_progress_51 : decode b_R_progress 51 = .ok (.getfield 19, 3) := by decide +kernel
theorem d_R_progress_54 : decode b_R_progress 54 = .ok (.iload_n 2, 1) := by decide +kernel
theorem d_R_progress_55 : decode b_R_progress 55 = .ok (.iaload, 1) := by decide +kernel
theorem d_R_progress_56 : decode b_R_progress 56 = .ok (.iaload, 1) := by decide +kernel
theorem d_R_progress_57 : decode b_R_progress 57 = .ok (.invokevirtual 130, 3) := by decide +kernel
theorem d_R_progress_60 : decode b_R_progress 60 = .ok (.istore_n 3, 1) := by decide +kernel
theorem d_R_progress_61 : decode b_R_progress 61 = .ok (.aload_n 0, 1) := by decide +kernel
theorem d_R_progress_62 : decode b_R_progress 62 = .ok (.getfield 51, 3) := by decide +kernel
theorem d_R_progress_65 : decode b_R_progress 65 = .ok (.iload_n 2, 1) := by decide +kernel
theorem d_R_progress_66 : decode b_R_progress 66 = .ok (.aload_n 0, 1) := by decide +kernel
theorem d_R_progress_67 : decode b_R_progress 67 = .ok (.getfield 7, 3) := by decide +kernel
theorem d_R_progress_70 : decode b_R_progress 70 = .ok (.iload_n 2, 1) := by decide +kernel
theorem d_R_progress_71 : decode b_R_progress 71 = .ok (.iaload, 1) := by decide +kernel
theorem d_R_progress_72 : decode b_R_progress 72 = .ok (.bipush 7, 2) := by decide +kernel
theorem d_R_progress_74 : decode b_R_progress 74 = .ok (.if_icmp .ne 17, 3) := by decide +kernel
theorem d_R_progress_77 : decode b_R_progress 77 = .ok (.aload_n 0, 1) := by decide +kernel
theorem d_R_progress_78 : decode b_R_progress 78 = .ok (.aload_n 0, 1) := by decide +kernel
theorem d_R_progress_79 : decode b_R_progress 79 = .ok (.getfield 96, 3) := by decide +kernel
theorem d_R_progress_82 : decode b_R_progress 82 = .ok (.iload_n 3, 1) := by decide +kernel
theorem d_R_progress_83 : decode b_R_progress 83 = .ok (.iconst 1, 1) := by decide +kernel
theorem d_R_progress_84 : decode b_R_progress 84 = .ok (.iadd, 1) := by decide +kernel
theorem d_R_progress_85 : decode b_R_progress 85 = .ok (.invokevirtual 130, 3) := by decide +kernel
theorem d_R_progress_88 : decode b_R_progress 88 = .ok (.goto 24, 3) := by decide +kernel
theorem d_R_progress_91 : decode b_R_progress 91 = .ok (.aload_n 0, 1) := by decide +kernel
theorem d_R_progress_92 : decode b_R_progress 92 = .ok (.getfield 7, 3) := by decide +kernel
theorem d_R_progress_95 : decode b_R_progress 95 = .ok (.iload_n 2, 1) := by decide +kernel
theorem d_R_progress_96 : decode b_R_progress 96 = .ok (.iaload, 1) := by decide +kernel
theorem d_R_progress_97 : decode b_R_progress 97 = .ok (.bipush 9, 2) := by decide +kernel
theorem d_R_progress_99 : decode b_R_progress 99 = .ok (.if_icmp .ne 12, 3) := by decide +kernel
theorem d_R_progress_102 : decode b_R_progress 102 = .ok (.aload_n 0, 1) := by decide +kernel
theorem d_R_progress_103 : decode b_R_progress 103 = .ok (.iload_n 2, 1) := by decide +kernel
theorem d_R_progress_104 : decode b_R_progress 104 = .ok (.iload_n 3, 1) := by decide +kernel
theorem d_R_progress_105 : decode b_R_progress 105 = .ok (.invokevirtual 133, 3) := by decide +kernel
theorem d_R_progress_108 : decode b_R_progress 108 = .ok (.goto 4, 3) := by decide +kernel
theorem d_R_progress_111 : decode b_R_progress 111 = .ok (.iload_n 3, 1) := by decide +kernel
theorem d_R_progress_112 : decode b_R_progress 112 = .ok (.iastore, 1) := by decide +kernel
theorem d_R_progress_113 : decode b_R_progress 113 = .ok (.iinc 2 1, 3) := by decide +kernel
theorem d_R_progress_116 : decode b_R_progress 116 = .ok (.goto (-104), 3) := by decide +kernel
theorem d_R_progress_119 : decode b_R_progress 119 = .ok (.aload_n 0, 1) := by decide +kernel
theorem d_R_progress_120 : decode b_R_progress 120 = .ok (.getfield 51, 3) := by decide +kernel
theorem d_R_progress_123 : decode b_R_progress 123 = .ok (.iload_n 1, 1) := by decide +kernel
theorem d_R_progress_124 : decode b_R_progress 124 = .ok (.iaload, 1) := by decide +kernel
theorem d_R_progress_125 : decode b_R_progress 125 = .ok (.ireturn, 1) := by decide +kernel
theorem d_R_lesser_0 : decode b_R_lesser 0 = .ok (.iload_n 1, 1) := by decide +kernel
theorem d_R_lesser_1 : decode b_R_lesser 1 = .ok (.iload_n 2, 1) := by decide +kernel
theorem d_R_lesser_2 : decode b_R_lesser 2 = .ok (.if_icmp .ge 7, 3) := by decide +kernel
theorem d_R_lesser_5 : decode b_R_lesser 5 = .ok (.iload_n 1, 1) := by decide +kernel
theorem d_R_lesser_6 : decode b_R_lesser 6 = .ok (.goto 4, 3) := by decide +kernel
theorem d_R_lesser_9 : decode b_R_lesser 9 = .ok (.iload_n 2, 1) := by decide +kernel
theorem d_R_lesser_10 : decode b_R_lesser 10 = .ok (.ireturn, 1) := by decide +kernel
theorem d_R_decided_0 : decode b_R_decided 0 = .ok (.iconst 0, 1) := by decide +kernel
theorem d_R_decided_1 : decode b_R_decided 1 = .ok (.istore_n 3, 1) := by decide +kernel
theorem d_R_decided_2 : decode b_R_decided 2 = .ok (.iconst 0, 1) := by decide +kernel
theorem d_R_decided_3 : decode b_R_decided 3 = .ok (.istore 4, 2) := by decide +kernel
theorem d_R_decided_5 : decode b_R_decided 5 = .ok (.iload 4, 2) := by decide +kernel
theorem d_R_decided_7 : decode b_R_decided 7 = .ok (.aload_n 0, 1) := by decide +kernel
theorem d_R_decided_8 : decode b_R_decided 8 = .ok (.getfield 96, 3) := by decide +kernel
theorem d_R_decided_11 : decode b_R_decided 11 = .ok (.if_icmp .ge 85, 3) := by decide +kernel
theorem d_R_decided_14 : decode b_R_decided 14 = .ok (.iconst 0, 1) := by decide +kernel
theorem d_R_decided_15 : decode b_R_decided 15 = .ok (.istore 5, 2) := by decide +kernel
theorem d_R_decided_17 : decode b_R_decided 17 = .ok (.iconst 0, 1) := by decide +kernel
theorem d_R_decided_18 : decode b_R_decided 18 = .ok (.istore 6, 2) := by decide +kernel
theorem d_R_decided_20 : decode b_R_decided 20 = .ok (.iload 6, 2) := by decide +kernel
theorem d_R_decided_22 : decode b_R_decided 22 = .ok (.iload_n 2, 1) := by decide +kernel
theorem d_R_decided_23 : decode b_R_decided 23 = .ok (.if_icmp .gt 54, 3) := by decide +kernel
theorem d_R_decided_26 : decode b_R_decided 26 = .ok (.iload 6, 2) := by decide +kernel
theorem d_R_decided_28 : decode b_R_decided 28 = .ok (.aload_n 0, 1) := by decide +kernel
theorem d_R_decided_29 : decode b_R_decided 29 = .ok (.getfield 96, 3) := by decide +kernel
theorem d_R_decided_32 : decode b_R_decided 32 = .ok (.if_icmp .ge 45, 3) := by decide +kernel
theorem d_R_decided_35 : decode b_R_decided 35 = .ok (.iload 5, 2) := by decide +kernel
theorem d_R_decided_37 : decode b_R_decided 37 = .ok (.ifCond .ne 27, 3) := by decide +kernel
theorem d_R_decided_40 : decode b_R_decided 40 = .ok (.aload_n 0, 1) := by decide +kernel
theorem d_R_decided_41 : decode b_R_decided 41 = .ok (.getfield 28, 3) := by decide +kernel
theorem d_R_decided_44 : decode b_R_decided 44 = .ok (.iload 6, 2) := by decide +kernel
theorem d_R_decided_46 : decode b_R_decided 46 = .ok (.iaload, 1) := by decide +kernel
theorem d_R_decided_47 : decode b_R_decided 47 = .ok (.aload_n 0, 1) := by decide +kernel
theorem d_R_decided_48 : decode b_R_decided 48 = .ok (.getfield 28, 3) := by decide +kernel
theorem d_R_decided_51 : decode b_R_decided 51 = .ok (.iload 4, 2) := by decide +kernel
theorem d_R_decided_53 : decode b_R_decided 53 = .ok (.iaload, 1) := by decide +kernel
theorem d_R_decided_54 : decode b_R_decided 54 = .ok (.aload_n 0, 1) := by decide +kernel
theorem d_R_decided_55 : decode b_R_decided 55 = .ok (.getfield 25, 3) := by decide +kernel
theorem d_R_decided_58 : decode b_R_decided 58 = .ok (.iload_n 1, 1) := by decide +kernel
theorem d_R_decided_59 : decode b_R_decided 59 = .ok (.iaload, 1) := by decide +kernel
theorem d_R_decided_60 : decode b_R_decided 60 = .ok (.iadd, 1) := by decide +kernel
theorem d_R_decided_61 : decode b_R_decided 61 = .ok (.if_icmp .le 7, 3) := by decide +kernel
theorem d_R_decided_64 : decode b_R_decided 64 = .ok (.iconst 1, 1) := by decide +kernel
theorem d_R_decided_65 : decode b_R_decided 65 = .ok (.goto 4, 3) := by decide +kernel
theorem d_R_decided_68 : decode b_R_decided 68 = .ok (.iconst 0, 1) := by decide +kernel
theorem d_R_decided_69 : decode b_R_decided 69 = .ok (.istore 5, 2) := by decide +kernel
theorem d_R_decided_71 : decode b_R_decided 71 = .ok (.iinc 6 1, 3) := by decide +kernel
theorem d_R_decided_74 : decode b_R_decided 74 = .ok (.goto (-54), 3) := by decide +kernel
theorem d_R_decided_77 : decode b_R_decided 77 = .ok (.iload 5, 2) := by decide +kernel
theorem d_R_decided_79 : decode b_R_decided 79 = .ok (.ifCond .eq 9, 3) := by decide +kernel
theorem d_R_decided_82 : decode b_R_decided 82 = .ok (.iload_n 3, 1) := by decide +kernel
theorem d_R_decided_83 : decode b_R_decided 83 = .ok (.iconst 1, 1) := by decide +kernel
theorem d_R_decided_84 : decode b_R_decided 84 = .ok (.iadd, 1) := by decide +kernel
theorem d_R_decided_85 : decode b_R_decided 85 = .ok (.goto 4, 3) := by decide +kernel
theorem d_R_decided_88 : decode b_R_decided 88 = .ok (.iload_n 3, 1) := by decide +kernel
theorem d_R_decided_89 : decode b_R_decided 89 = .ok (.istore_n 3, 1) := by decide +kernel
theorem d_R_decided_90 : decode b_R_decided 90 = .ok (.iinc 4 1, 3) := by decide +kernel
theorem d_R_decided_93 : decode b_R_decided 93 = .ok (.goto (-88), 3) := by decide +kernel
theorem d_R_decided_96 : decode b_R_decided 96 = .ok (.iload_n 3, 1) := by decide +kernel
theorem d_R_decided_97 : decode b_R_decided 97 = .ok (.ireturn, 1) := by decide +kernel
theorem d_R_satisfied_0 : decode b_R_satisfied 0 = .ok (.aload_n 0, 1) := by decide +kernel
theorem d_R_satisfied_1 : decode b_R_satisfied 1 = .ok (.iload_n 1, 1) := by decide +kernel
theorem d_R_satisfied_2 : decode b_R_satisfied 2 = .ok (.iload_n 2, 1) := by decide +kernel
theorem d_R_satisfied_3 : decode b_R_satisfied 3 = .ok (.invokevirtual 139, 3) := by decide +kernel
theorem d_R_satisfied_6 : decode b_R_satisfied 6 = .ok (.ifCond .eq 17, 3) := by decide +kernel
theorem d_R_satisfied_9 : decode b_R_satisfied 9 = .ok (.aload_n 0, 1) := by decide +kernel
theorem d_R_satisfied_10 : decode b_R_satisfied 10 = .ok (.getfield 37, 3) := by decide +kernel
theorem d_R_satisfied_13 : decode b_R_satisfied 13 = .ok (.bipush 24, 2) := by decide +kernel
theorem d_R_satisfied_15 : decode b_R_satisfied 15 = .ok (.iload_n 1, 1) := by decide +kernel
theorem d_R_satisfied_16 : decode b_R_satisfied 16 = .ok (.imul, 1) := by decide +kernel
theorem d_R_satisfied_17 : decode b_R_satisfied 17 = .ok (.iload_n 2, 1) := by decide +kernel
theorem d_R_satisfied_18 : decode b_R_satisfied 18 = .ok (.iadd, 1) := by decide +kernel
theorem d_R_satisfied_19 : decode b_R_satisfied 19 = .ok (.laload, 1) := by decide +kernel
theorem d_R_satisfied_20 : decode b_R_satisfied 20 = .ok (.goto 4, 3) := by decide +kernel
theorem d_R_satisfied_23 : decode b_R_satisfied 23 = .ok (.lconst 0, 1) := by decide +kernel
theorem d_R_satisfied_24 : decode b_R_satisfied 24 = .ok (.lreturn, 1) := by decide +kernel
theorem d_R_isKnown_0 : decode b_R_isKnown 0 = .ok (.aload_n 0, 1) := by decide +kernel
theorem d_R_isKnown_1 : decode b_R_isKnown 1 = .ok (.iload_n 1, 1) := by decide +kernel
theorem d_R_isKnown_2 : decode b_R_isKnown 2 = .ok (.invokevirtual 75, 3) := by decide +kernel
theorem d_R_isKnown_5 : decode b_R_isKnown 5 = .ok (.ifCond .eq 20, 3) := by decide +kernel
theorem d_R_isKnown_8 : decode b_R_isKnown 8 = .ok (.iload_n 2, 1) := by decide +kernel
theorem d_R_isKnown_9 : decode b_R_isKnown 9 = .ok (.ifCond .lt 16, 3) := by decide +kernel
theorem d_R_isKnown_12 : decode b_R_isKnown 12 = .ok (.iload_n 2, 1) := by decide +kernel
theorem d_R_isKnown_13 : decode b_R_isKnown 13 = .ok (.aload_n 0, 1) := by decide +kernel
theorem d_R_isKnown_14 : decode b_R_isKnown 14 = .ok (.iload_n 1, 1) := by decide +kernel
theorem d_R_isKnown_15 : decode b_R_isKnown 15 = .ok (.invokevirtual 136, 3) := by decide +kernel
theorem d_R_isKnown_18 : decode b_R_isKnown 18 = .ok (.if_icmp .ge 7, 3) := by decide +kernel
theorem d_R_isKnown_21 : decode b_R_isKnown 21 = .ok (.iconst 1, 1) := by decide +kernel
theorem d_R_isKnown_22 : decode b_R_isKnown 22 = .ok (.goto 4, 3) := by decide +kernel
theorem d_R_isKnown_25 : decode b_R_isKnown 25 = .ok (.iconst 0, 1) := by decide +kernel
theorem d_R_isKnown_26 : decode b_R_isKnown 26 = .ok (.ireturn, 1) := by decide +kernel
theorem d_R_rows_0 : decode b_R_rows 0 = .ok (.aload_n 0, 1) := by decide +kernel
theorem d_R_rows_1 : decode b_R_rows 1 = .ok (.iload_n 1, 1) := by decide +kernel
theorem d_R_rows_2 : decode b_R_rows 2 = .ok (.iload_n 2, 1) := by decide +kernel
theorem d_R_rows_3 : decode b_R_rows 3 = .ok (.invokevirtual 139, 3) := by decide +kernel
theorem d_R_rows_6 : decode b_R_rows 6 = .ok (.ifCond .ne 5, 3) := by decide +kernel
theorem d_R_rows_9 : decode b_R_rows 9 = .ok (.iconst (-1), 1) := by decide +kernel
theorem d_R_rows_10 : decode b_R_rows 10 = .ok (.ireturn, 1) := by decide +kernel
theorem d_R_rows_11 : decode b_R_rows 11 = .ok (.aload_n 0, 1) := by decide +kernel
theorem d_R_rows_12 : decode b_R_rows 12 = .ok (.iload_n 1, 1) := by decide +kernel
theorem d_R_rows_13 : decode b_R_rows 13 = .ok (.invokevirtual 142, 3) := by decide +kernel
theorem d_R_rows_16 : decode b_R_rows 16 = .ok (.istore_n 3, 1) := by decide +kernel
theorem d_R_rows_17 : decode b_R_rows 17 = .ok (.iconst 0, 1) := by decide +kernel
theorem d_R_rows_18 : decode b_R_rows 18 = .ok (.istore 4, 2) := by decide +kernel
theorem d_R_rows_20 : decode b_R_rows 20 = .ok (.iconst 0, 1) := by decide +kernel
theorem d_R_rows_21 : decode b_R_rows 21 = .ok (.istore 5, 2) := by decide +kernel
theorem d_R_rows_23 : decode b_R_rows 23 = .ok (.iload 5, 2) := by decide +kernel
theorem d_R_rows_25 : decode b_R_rows 25 = .ok (.bipush 64, 2) := by decide +kernel
theorem d_R_rows_27 : decode b_R_rows 27 = .ok (.if_icmp .ge 85, 3) := by decide +kernel
theorem d_R_rows_30 : decode b_R_rows 30 = .ok (.aload_n 0, 1) := by decide +kernel
theorem d_R_rows_31 : decode b_R_rows 31 = .ok (.iload_n 1, 1) := by decide +kernel
theorem d_R_rows_32 : decode b_R_rows 32 = .ok (.iload_n 2, 1) := by decide +kernel
theorem d_R_rows_33 : decode b_R_rows 33 = .ok (.iload 5, 2) := by decide +kernel
theorem d_R_rows_35 : decode b_R_rows 35 = .ok (.invokevirtual 110, 3) := by decide +kernel
theorem d_R_rows_38 : decode b_R_rows 38 = .ok (.istore 6, 2) := by decide +kernel
theorem d_R_rows_40 : decode b_R_rows 40 = .ok (.iconst 0, 1) := by decide +kernel
theorem d_R_rows_41 : decode b_R_rows 41 = .ok (.istore 7, 2) := by decide +kernel
theorem d_R_rows_43 : decode b_R_rows 43 = .ok (.iload 7, 2) := by decide +kernel
theorem d_R_rows_45 : decode b_R_rows 45 = .ok (.iload 5, 2) := by decide +kernel
theorem d_R_rows_47 : decode b_R_rows 47 = .ok (.if_icmp .ge 43, 3) := by decide +kernel
theorem d_R_rows_50 : decode b_R_rows 50 = .ok (.iload 6, 2) := by decide +kernel
theorem d_R_rows_52 : decode b_R_rows 52 = .ok (.ifCond .eq 29, 3) := by decide +kernel
theorem d_R_rows_55 : decode b_R_rows 55 = .ok (.aload_n 0, 1) := by decide +kernel
theorem d_R_rows_56 : decode b_R_rows 56 = .ok (.iload_n 1, 1) := by decide +kernel
theorem d_R_rows_57 : decode b_R_rows 57 = .ok (.iload_n 2, 1) := by decide +kernel
theorem d_R_rows_58 : decode b_R_rows 58 = .ok (.iload 7, 2) := by decide +kernel
theorem d_R_rows_60 : decode b_R_rows 60 = .ok (.invokevirtual 110, 3) := by decide +kernel
theorem d_R_rows_63 : decode b_R_rows 63 = .ok (.ifCond .eq 14, 3) := by decide +kernel
theorem d_R_rows_66 : decode b_R_rows 66 = .ok (.iload 5, 2) := by decide +kernel
theorem d_R_rows_68 : decode b_R_rows 68 = .ok (.iload 7, 2) := by decide +kernel
theorem d_R_rows_70 : decode b_R_rows 70 = .ok (.iload_n 3, 1) := by decide +kernel
theorem d_R_rows_71 : decode b_R_rows 71 = .ok (.invokestatic 145, 3) := by decide +kernel
theorem d_R_rows_74 : decode b_R_rows 74 = .ok (.ifCond .ne 7, 3) := by decide +kernel
theorem d_R_rows_77 : decode b_R_rows 77 = .ok (.iconst 1, 1) := by decide +kernel
theorem d_R_rows_78 : decode b_R_rows 78 = .ok (.goto 4, 3) := by decide +kernel
theorem d_R_rows_81 : decode b_R_rows 81 = .ok (.iconst 0, 1) := by decide +kernel
theorem d_R_rows_82 : decode b_R_rows 82 = .ok (.istore 6, 2) := by decide +kernel
theorem d_R_rows_84 : decode b_R_rows 84 = .ok (.iinc 7 1, 3) := by decide +kernel
theorem d_R_rows_87 : decode b_R_rows 87 = .ok (.goto (-44), 3) := by decide +kernel
theorem d_R_rows_90 : decode b_R_rows 90 = .ok (.iload 6, 2) := by decide +kernel
theorem d_R_rows_92 : decode b_R_rows 92 = .ok (.ifCond .eq 10, 3) := by decide +kernel
theorem d_R_rows_95 : decode b_R_rows 95 = .ok (.iload 4, 2) := by decide +kernel
theorem d_R_rows_97 : decode b_R_rows 97 = .ok (.iconst 1, 1) := by decide +kernel
theorem d_R_rows_98 : decode b_R_rows 98 = .ok (.iadd, 1) := by decide +kernel
theorem d_R_rows_99 : decode b_R_rows 99 = .ok (.goto 5, 3) := by decide +kernel
theorem d_R_rows_102 : decode b_R_rows 102 = .ok (.iload 4, 2) := by decide +kernel
theorem d_R_rows_104 : decode b_R_rows 104 = .ok (.istore 4, 2) := by decide +kernel
theorem d_R_rows_106 : decode b_R_rows 106 = .ok (.iinc 5 1, 3) := by decide +kernel
theorem d_R_rows_109 : decode b_R_rows 109 = .ok (.goto (-86), 3) := by decide +kernel
theorem d_R_rows_112 : decode b_R_rows 112 = .ok (.iload 4, 2) := by decide +kernel
theorem d_R_rows_114 : decode b_R_rows 114 = .ok (.ireturn, 1) := by decide +kernel
theorem d_R_agree_0 : decode b_R_agree 0 = .ok (.iconst 1, 1) := by decide +kernel
theorem d_R_agree_1 : decode b_R_agree 1 = .ok (.istore_n 3, 1) := by decide +kernel
theorem d_R_agree_2 : decode b_R_agree 2 = .ok (.iconst 0, 1) := by decide +kernel
theorem d_R_agree_3 : decode b_R_agree 3 = .ok (.istore 4, 2) := by decide +kernel
theorem d_R_agree_5 : decode b_R_agree 5 = .ok (.iload 4, 2) := by decide +kernel
theorem d_R_agree_7 : decode b_R_agree 7 = .ok (.iconst 3, 1) := by decide +kernel
theorem d_R_agree_8 : decode b_R_agree 8 = .ok (.if_icmp .ge 43, 3) := by decide +kernel
theorem d_R_agree_11 : decode b_R_agree 11 = .ok (.iload_n 3, 1) := by decide +kernel
theorem d_R_agree_12 : decode b_R_agree 12 = .ok (.ifCond .eq 31, 3) := by decide +kernel
theorem d_R_agree_15 : decode b_R_agree 15 = .ok (.iload_n 2, 1) := by decide +kernel
theorem d_R_agree_16 : decode b_R_agree 16 = .ok (.iload 4, 2) := by decide +kernel
theorem d_R_agree_18 : decode b_R_agree 18 = .ok (.ishr, 1) := by decide +kernel
theorem d_R_agree_19 : decode b_R_agree 19 = .ok (.iconst 1, 1) := by decide +kernel
theorem d_R_agree_20 : decode b_R_agree 20 = .ok (.iand, 1) := by decide +kernel
theorem d_R_agree_21 : decode b_R_agree 21 = .ok (.ifCond .eq 18, 3) := by decide +kernel
theorem d_R_agree_24 : decode b_R_agree 24 = .ok (.iload 4, 2) := by decide +kernel
theorem d_R_agree_26 : decode b_R_agree 26 = .ok (.iload_n 0, 1) := by decide +kernel
theorem d_R_agree_27 : decode b_R_agree 27 = .ok (.invokestatic 114, 3) := by decide +kernel
theorem d_R_agree_30 : decode b_R_agree 30 = .ok (.iload 4, 2) := by decide +kernel
theorem d_R_agree_32 : decode b_R_agree 32 = .ok (.iload_n 1, 1) := by decide +kernel
theorem d_R_agree_33 : decode b_R_agree 33 = .ok (.invokestatic 114, 3) := by decide +kernel
theorem d_R_agree_36 : decode b_R_agree 36 = .ok (.if_icmp .ne 7, 3) := by decide +kernel
theorem d_R_agree_39 : decode b_R_agree 39 = .ok (.iconst 1, 1) := by decide +kernel
theorem d_R_agree_40 : decode b_R_agree 40 = .ok (.goto 4, 3) := by decide +kernel
theorem d_R_agree_43 : decode b_R_agree 43 = .ok (.iconst 0, 1) := by decide +kernel
theorem d_R_agree_44 : decode b_R_agree 44 = .ok (.istore_n 3, 1) := by decide +kernel
theorem d_R_agree_45 : decode b_R_agree 45 = .ok (.iinc 4 1, 3) := by decide +kernel
theorem d_R_agree_48 : decode b_R_agree 48 = .ok (.goto (-43), 3) := by decide +kernel
theorem d_R_agree_51 : decode b_R_agree 51 = .ok (.iload_n 3, 1) := by decide +kernel
theorem d_R_agree_52 : decode b_R_agree 52 = .ok (.ireturn, 1) := by decide +kernel
