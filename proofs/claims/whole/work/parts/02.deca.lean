theorem d_M_init_0 : decode b_M_init 0 = .ok (.aload_n 0, 1) := by decide +kernel
theorem d_M_init_1 : decode b_M_init 1 = .ok (.invokespecial 1, 3) := by decide +kernel
theorem d_M_init_4 : decode b_M_init 4 = .ok (.aload_n 0, 1) := by decide +kernel
theorem d_M_init_5 : decode b_M_init 5 = .ok (.new 7, 3) := by decide +kernel
theorem d_M_init_8 : decode b_M_init 8 = .ok (.dup, 1) := by decide +kernel
theorem d_M_init_9 : decode b_M_init 9 = .ok (.invokespecial 9, 3) := by decide +kernel
theorem d_M_init_12 : decode b_M_init 12 = .ok (.putfield 10, 3) := by decide +kernel
theorem d_M_init_15 : decode b_M_init 15 = .ok (.aload_n 0, 1) := by decide +kernel
theorem d_M_init_16 : decode b_M_init 16 = .ok (.new 16, 3) := by decide +kernel
theorem d_M_init_19 : decode b_M_init 19 = .ok (.dup, 1) := by decide +kernel
theorem d_M_init_20 : decode b_M_init 20 = .ok (.invokespecial 18, 3) := by decide +kernel
theorem d_M_init_23 : decode b_M_init 23 = .ok (.putfield 19, 3) := by decide +kernel
theorem d_M_init_26 : decode b_M_init 26 = .ok (.aload_n 0, 1) := by decide +kernel
theorem d_M_init_27 : decode b_M_init 27 = .ok (.iconst 0, 1) := by decide +kernel
theorem d_M_init_28 : decode b_M_init 28 = .ok (.putfield 23, 3) := by decide +kernel
theorem d_M_init_31 : decode b_M_init 31 = .ok (.return_, 1) := by decide +kernel
theorem d_Log_init_0 : decode b_Log_init 0 = .ok (.aload_n 0, 1) := by decide +kernel
theorem d_Log_init_1 : decode b_Log_init 1 = .ok (.invokespecial 3, 3) := by decide +kernel
theorem d_Log_init_4 : decode b_Log_init 4 = .ok (.aload_n 0, 1) := by decide +kernel
theorem d_Log_init_5 : decode b_Log_init 5 = .ok (.bipush 24, 2) := by decide +kernel
theorem d_Log_init_7 : decode b_Log_init 7 = .ok (.newarray .int, 2) := by decide +kernel
theorem d_Log_init_9 : decode b_Log_init 9 = .ok (.putfield 9, 3) := by decide +kernel
theorem d_Log_init_12 : decode b_Log_init 12 = .ok (.aload_n 0, 1) := by decide +kernel
theorem d_Log_init_13 : decode b_Log_init 13 = .ok (.bipush 24, 2) := by decide +kernel
theorem d_Log_init_15 : decode b_Log_init 15 = .ok (.newarray .long, 2) := by decide +kernel
theorem d_Log_init_17 : decode b_Log_init 17 = .ok (.putfield 15, 3) := by decide +kernel
theorem d_Log_init_20 : decode b_Log_init 20 = .ok (.return_, 1) := by decide +kernel
theorem d_M_atom_0 : decode b_M_atom 0 = .ok (.aload_n 0, 1) := by decide +kernel
theorem d_M_atom_1 : decode b_M_atom 1 = .ok (.invokevirtual 27, 3) := by decide +kernel
theorem d_M_atom_4 : decode b_M_atom 4 = .ok (.ifCond .eq 24, 3) := by decide +kernel
theorem d_M_atom_7 : decode b_M_atom 7 = .ok (.iload_n 1, 1) := by decide +kernel
theorem d_M_atom_8 : decode b_M_atom 8 = .ok (.invokestatic 31, 3) := by decide +kernel
theorem d_M_atom_11 : decode b_M_atom 11 = .ok (.ifCond .eq 17, 3) := by decide +kernel
theorem d_M_atom_14 : decode b_M_atom 14 = .ok (.iload_n 2, 1) := by decide +kernel
theorem d_M_atom_15 : decode b_M_atom 15 = .ok (.invokestatic 35, 3) := by decide +kernel
theorem d_M_atom_18 : decode b_M_atom 18 = .ok (.ifCond .eq 10, 3) := by decide +kernel
theorem d_M_atom_21 : decode b_M_atom 21 = .ok (.iload_n 3, 1) := by decide +kernel
theorem d_M_atom_22 : decode b_M_atom 22 = .ok (.invokestatic 35, 3) := by decide +kernel
theorem d_M_atom_25 : decode b_M_atom 25 = .ok (.ifCond .ne 5, 3) := by decide +kernel
theorem d_M_atom_28 : decode b_M_atom 28 = .ok (.iconst (-1), 1) := by decide +kernel
theorem d_M_atom_29 : decode b_M_atom 29 = .ok (.ireturn, 1) := by decide +kernel
theorem d_M_atom_30 : decode b_M_atom 30 = .ok (.aload_n 0, 1) := by decide +kernel
theorem d_M_atom_31 : decode b_M_atom 31 = .ok (.new 38, 3) := by decide +kernel
theorem d_M_atom_34 : decode b_M_atom 34 = .ok (.dup, 1) := by decide +kernel
theorem d_M_atom_35 : decode b_M_atom 35 = .ok (.iload_n 1, 1) := by decide +kernel
theorem d_M_atom_36 : decode b_M_atom 36 = .ok (.iload_n 2, 1) := by decide +kernel
theorem d_M_atom_37 : decode b_M_atom 37 = .ok (.iload_n 3, 1) := by decide +kernel
theorem d_M_atom_38 : decode b_M_atom 38 = .ok (.invokespecial 40, 3) := by decide +kernel
theorem d_M_atom_41 : decode b_M_atom 41 = .ok (.invokevirtual 43, 3) := by decide +kernel
theorem d_M_atom_44 : decode b_M_atom 44 = .ok (.ireturn, 1) := by decide +kernel
theorem d_M_mayMake_0 : decode b_M_mayMake 0 = .ok (.aload_n 0, 1) := by decide +kernel
theorem d_M_mayMake_1 : decode b_M_mayMake 1 = .ok (.getfield 23, 3) := by decide +kernel
theorem d_M_mayMake_4 : decode b_M_mayMake 4 = .ok (.ifCond .ne 19, 3) := by decide +kernel
theorem d_M_mayMake_7 : decode b_M_mayMake 7 = .ok (.aload_n 0, 1) := by decide +kernel
theorem d_M_mayMake_8 : decode b_M_mayMake 8 = .ok (.getfield 10, 3) := by decide +kernel
theorem d_M_mayMake_11 : decode b_M_mayMake 11 = .ok (.invokevirtual 127, 3) := by decide +kernel
theorem d_M_mayMake_14 : decode b_M_mayMake 14 = .ok (.bipush 12, 2) := by decide +kernel
theorem d_M_mayMake_16 : decode b_M_mayMake 16 = .ok (.if_icmp .ge 7, 3) := by decide +kernel
theorem d_M_mayMake_19 : decode b_M_mayMake 19 = .ok (.iconst 1, 1) := by decide +kernel
theorem d_M_mayMake_20 : decode b_M_mayMake 20 = .ok (.goto 4, 3) := by decide +kernel
theorem d_M_mayMake_23 : decode b_M_mayMake 23 = .ok (.iconst 0, 1) := by decide +kernel
theorem d_M_mayMake_24 : decode b_M_mayMake 24 = .ok (.ireturn, 1) := by decide +kernel
theorem d_M_isRelation_0 : decode b_M_isRelation 0 = .ok (.iload_n 0, 1) := by decide +kernel
theorem d_M_isRelation_1 : decode b_M_isRelation 1 = .ok (.ifCond .lt 12, 3) := by decide +kernel
theorem d_M_isRelation_4 : decode b_M_isRelation 4 = .ok (.iload_n 0, 1) := by decide +kernel
theorem d_M_isRelation_5 : decode b_M_isRelation 5 = .ok (.iconst 3, 1) := by decide +kernel
theorem d_M_isRelation_6 : decode b_M_isRelation 6 = .ok (.if_icmp .ge 7, 3) := by decide +kernel
theorem d_M_isRelation_9 : decode b_M_isRelation 9 = .ok (.iconst 1, 1) := by decide +kernel
theorem d_M_isRelation_10 : decode b_M_isRelation 10 = .ok (.goto 4, 3) := by decide +kernel
theorem d_M_isRelation_13 : decode b_M_isRelation 13 = .ok (.iconst 0, 1) := by decide +kernel
theorem d_M_isRelation_14 : decode b_M_isRelation 14 = .ok (.ireturn, 1) := by decide +kernel
theorem d_M_isTerm_0 : decode b_M_isTerm 0 = .ok (.iload_n 0, 1) := by decide +kernel
theorem d_M_isTerm_1 : decode b_M_isTerm 1 = .ok (.invokestatic 66, 3) := by decide +kernel
theorem d_M_isTerm_4 : decode b_M_isTerm 4 = .ok (.ifCond .ne 10, 3) := by decide +kernel
theorem d_M_isTerm_7 : decode b_M_isTerm 7 = .ok (.iload_n 0, 1) := by decide +kernel
theorem d_M_isTerm_8 : decode b_M_isTerm 8 = .ok (.invokestatic 175, 3) := by decide +kernel
theorem d_M_isTerm_11 : decode b_M_isTerm 11 = .ok (.ifCond .eq 7, 3) := by decide +kernel
theorem d_M_isTerm_14 : decode b_M_isTerm 14 = .ok (.iconst 1, 1) := by decide +kernel
theorem d_M_isTerm_15 : decode b_M_isTerm 15 = .ok (.goto 4, 3) := by decide +kernel
theorem d_M_isTerm_18 : decode b_M_isTerm 18 = .ok (.iconst 0, 1) := by decide +kernel
theorem d_M_isTerm_19 : decode b_M_isTerm 19 = .ok (.ireturn, 1) := by decide +kernel
theorem d_M_isVariable_0 : decode b_M_isVariable 0 = .ok (.iload_n 0, 1) := by decide +kernel
theorem d_M_isVariable_1 : decode b_M_isVariable 1 = .ok (.ifCond .lt 12, 3) := by decide +kernel
theorem d_M_isVariable_4 : decode b_M_isVariable 4 = .ok (.iload_n 0, 1) := by decide +kernel
theorem d_M_isVariable_5 : decode b_M_isVariable 5 = .ok (.iconst 3, 1) := by decide +kernel
theorem d_M_isVariable_6 : decode b_M_isVariable 6 = .ok (.if_icmp .ge 7, 3) := by decide +kernel
theorem d_M_isVariable_9 : decode b_M_isVariable 9 = .ok (.iconst 1, 1) := by decide +kernel
theorem d_M_isVariable_10 : decode b_M_isVariable 10 = .ok (.goto 4, 3) := by decide +kernel
theorem d_M_isVariable_13 : decode b_M_isVariable 13 = .ok (.iconst 0, 1) := by decide +kernel
theorem d_M_isVariable_14 : decode b_M_isVariable 14 = .ok (.ireturn, 1) := by decide +kernel
theorem d_M_isValueTerm_0 : decode b_M_isValueTerm 0 = .ok (.iload_n 0, 1) := by decide +kernel
theorem d_M_isValueTerm_1 : decode b_M_isValueTerm 1 = .ok (.iconst 4, 1) := by decide +kernel
theorem d_M_isValueTerm_2 : decode b_M_isValueTerm 2 = .ok (.if_icmp .lt 13, 3) := by decide +kernel
theorem d_M_isValueTerm_5 : decode b_M_isValueTerm 5 = .ok (.iload_n 0, 1) := by decide +kernel
theorem d_M_isValueTerm_6 : decode b_M_isValueTerm 6 = .ok (.bipush 8, 2) := by decide +kernel
theorem d_M_isValueTerm_8 : decode b_M_isValueTerm 8 = .ok (.if_icmp .ge 7, 3) := by decide +kernel
theorem d_M_isValueTerm_11 : decode b_M_isValueTerm 11 = .ok (.iconst 1, 1) := by decide +kernel
theorem d_M_isValueTerm_12 : decode b_M_isValueTerm 12 = .ok (.goto 4, 3) := by decide +kernel
theorem d_M_isValueTerm_15 : decode b_M_isValueTerm 15 = .ok (.iconst 0, 1) := by decide +kernel
theorem d_M_isValueTerm_16 : decode b_M_isValueTerm 16 = .ok (.ireturn, 1) := by decide +kernel
theorem d_Atom_init_0 : decode b_Atom_init 0 = .ok (.aload_n 0, 1) := by decide +kernel
theorem d_Atom_init_1 : decode b_Atom_init 1 = .ok (.iload_n 2, 1) := by decide +kernel
theorem d_Atom_init_2 : decode b_Atom_init 2 = .ok (.iload_n 3, 1) := by decide +kernel
theorem d_Atom_init_3 : decode b_Atom_init 3 = .ok (.invokestatic 3, 3) := by decide +kernel
theorem d_Atom_init_6 : decode b_Atom_init 6 = .ok (.iload_n 2, 1) := by decide +kernel
theorem d_Atom_init_7 : decode b_Atom_init 7 = .ok (.iload_n 3, 1) := by decide +kernel
theorem d_Atom_init_8 : decode b_Atom_init 8 = .ok (.invokestatic 3, 3) := by decide +kernel
theorem d_Atom_init_11 : decode b_Atom_init 11 = .ok (.iconst 1, 1) := by decide +kernel
theorem d_Atom_init_12 : decode b_Atom_init 12 = .ok (.invokespecial 7, 3) := by decide +kernel
theorem d_Atom_init_15 : decode b_Atom_init 15 = .ok (.aload_n 0, 1) := by decide +kernel
theorem d_Atom_init_16 : decode b_Atom_init 16 = .ok (.iload_n 1, 1) := by decide +kernel
theorem d_Atom_init_17 : decode b_Atom_init 17 = .ok (.putfield 13, 3) := by decide +kernel
theorem d_Atom_init_20 : decode b_Atom_init 20 = .ok (.aload_n 0, 1) := by decide +kernel
theorem d_Atom_init_21 : decode b_Atom_init 21 = .ok (.iload_n 2, 1) := by decide +kernel
theorem d_Atom_init_22 : decode b_Atom_init 22 = .ok (.putfield 19, 3) := by decide +kernel
theorem d_Atom_init_25 : decode b_Atom_init 25 = .ok (.aload_n 0, 1) := by decide +kernel
theorem d_Atom_init_26 : decode b_Atom_init 26 = .ok (.iload_n 3, 1) := by decide +kernel
theorem d_Atom_init_27 : decode b_Atom_init 27 = .ok (.putfield 22, 3) := by decide +kernel
theorem d_Atom_init_30 : decode b_Atom_init 30 = .ok (.return_, 1) := by decide +kernel
theorem d_M_variablesAmong_0 : decode b_M_variablesAmong 0 = .ok (.iconst 0, 1) := by decide +kernel
theorem d_M_variablesAmong_1 : decode b_M_variablesAmong 1 = .ok (.istore_n 2, 1) := by decide +kernel
theorem d_M_variablesAmong_2 : decode b_M_variablesAmong 2 = .ok (.iload_n 0, 1) := by decide +kernel
theorem d_M_variablesAmong_3 : decode b_M_variablesAmong 3 = .ok (.invokestatic 66, 3) := by decide +kernel
theorem d_M_variablesAmong_6 : decode b_M_variablesAmong 6 = .ok (.ifCond .eq 10, 3) := by decide +kernel
theorem d_M_variablesAmong_9 : decode b_M_variablesAmong 9 = .ok (.iload_n 2, 1) := by decide +kernel
theorem d_M_variablesAmong_10 : decode b_M_variablesAmong 10 = .ok (.iload_n 0, 1) := by decide +kernel
theorem d_M_variablesAmong_11 : decode b_M_variablesAmong 11 = .ok (.invokestatic 158, 3) := by decide +kernel
theorem d_M_variablesAmong_14 : decode b_M_variablesAmong 14 = .ok (.ior, 1) := by decide +kernel
theorem d_M_variablesAmong_15 : decode b_M_variablesAmong 15 = .ok (.istore_n 2, 1) := by decide +kernel
theorem d_M_variablesAmong_16 : decode b_M_variablesAmong 16 = .ok (.iload_n 1, 1) := by decide +kernel
theorem d_M_variablesAmong_17 : decode b_M_variablesAmong 17 = .ok (.invokestatic 66, 3) := by decide +kernel
theorem d_M_variablesAmong_20 : decode b_M_variablesAmong 20 = .ok (.ifCond .eq 10, 3) := by decide +kernel
theorem d_M_variablesAmong_23 : decode b_M_variablesAmong 23 = .ok (.iload_n 2, 1) := by decide +kernel
theorem d_M_variablesAmong_24 : decode b_M_variablesAmong 24 = .ok (.iload_n 1, 1) := by decide +kernel
theorem d_M_variablesAmong_25 : decode b_M_variablesAmong 25 = .ok (.invokestatic 158, 3) := by decide +kernel
theorem d_M_variablesAmong_28 : decode b_M_variablesAmong 28 = .ok (.ior, 1) := by decide +kernel
theorem d_M_variablesAmong_29 : decode b_M_variablesAmong 29 = .ok (.istore_n 2, 1) := by decide +kernel
theorem d_M_variablesAmong_30 : decode b_M_variablesAmong 30 = .ok (.iload_n 2, 1) := by decide +kernel
theorem d_M_variablesAmong_31 : decode b_M_variablesAmong 31 = .ok (.ireturn, 1) := by decide +kernel
theorem d_M_variableBit_0 : decode b_M_variableBit 0 = .ok (.iconst 1, 1) := by decide +kernel
theorem d_M_variableBit_1 : decode b_M_variableBit 1 = .ok (.iload_n 0, 1) := by decide +kernel
theorem d_M_variableBit_2 : decode b_M_variableBit 2 = .ok (.ishl, 1) := by decide +kernel
theorem d_M_variableBit_3 : decode b_M_variableBit 3 = .ok (.ireturn, 1) := by decide +kernel
theorem d_Form_init_0 : decode b_Form_init 0 = .ok (.aload_n 0, 1) := by decide +kernel
theorem d_Form_init_1 : decode b_Form_init 1 = .ok (.invokespecial 3, 3) := by decide +kernel
theorem d_Form_init_4 : decode b_Form_init 4 = .ok (.aload_n 0, 1) := by decide +kernel
theorem d_Form_init_5 : decode b_Form_init 5 = .ok (.bipush 24, 2) := by decide +kernel
theorem d_Form_init_7 : decode b_Form_init 7 = .ok (.newarray .long, 2) := by decide +kernel
theorem d_Form_init_9 : decode b_Form_init 9 = .ok (.putfield 9, 3) := by decide +kernel
theorem d_Form_init_12 : decode b_Form_init 12 = .ok (.aload_n 0, 1) := by decide +kernel
theorem d_Form_init_13 : decode b_Form_init 13 = .ok (.iload_n 1, 1) := by decide +kernel
theorem d_Form_init_14 : decode b_Form_init 14 = .ok (.putfield 15, 3) := by decide +kernel
theorem d_Form_init_17 : decode b_Form_init 17 = .ok (.aload_n 0, 1) := by decide +kernel
theorem d_Form_init_18 : decode b_Form_init 18 = .ok (.iload_n 2, 1) := by decide +kernel
theorem d_Form_init_19 : decode b_Form_init 19 = .ok (.putfield 19, 3) := by decide +kernel
theorem d_Form_init_22 : decode b_Form_init 22 = .ok (.aload_n 0, 1) := by decide +kernel
theorem d_Form_init_23 : decode b_Form_init 23 = .ok (.iload_n 3, 1) := by decide +kernel
theorem d_Form_init_24 : decode b_Form_init 24 = .ok (.putfield 22, 3) := by decide +kernel
theorem d_Form_init_27 : decode b_Form_init 27 = .ok (.return_, 1) := by decide +kernel
theorem d_M_add_0 : decode b_M_add 0 = .ok (.aload_n 0, 1) := by decide +kernel
theorem d_M_add_1 : decode b_M_add 1 = .ok (.getfield 10, 3) := by decide +kernel
theorem d_M_add_4 : decode b_M_add 4 = .ok (.aload_n 1, 1) := by decide +kernel
theorem d_M_add_5 : decode b_M_add 5 = .ok (.invokevirtual 172, 3) := by decide +kernel
theorem d_M_add_8 : decode b_M_add 8 = .ok (.pop, 1) := by decide +kernel
theorem d_M_add_9 : decode b_M_add 9 = .ok (.aload_n 0, 1) := by decide +kernel
theorem d_M_add_10 : decode b_M_add 10 = .ok (.getfield 10, 3) := by decide +kernel
theorem d_M_add_13 : decode b_M_add 13 = .ok (.invokevirtual 127, 3) := by decide +kernel
theorem d_M_add_16 : decode b_M_add 16 = .ok (.iconst 1, 1) := by decide +kernel
theorem d_M_add_17 : decode b_M_add 17 = .ok (.isub, 1) := by decide +kernel
theorem d_M_add_18 : decode b_M_add 18 = .ok (.ireturn, 1) := by decide +kernel
theorem d_M_compare_0 : decode b_M_compare 0 = .ok (.aload_n 0, 1) := by decide +kernel
theorem d_M_compare_1 : decode b_M_compare 1 = .ok (.invokevirtual 27, 3) := by decide +kernel
theorem d_M_compare_4 : decode b_M_compare 4 = .ok (.ifCond .eq 17, 3) := by decide +kernel
theorem d_M_compare_7 : decode b_M_compare 7 = .ok (.iload_n 2, 1) := by decide +kernel
theorem d_M_compare_8 : decode b_M_compare 8 = .ok (.invokestatic 35, 3) := by decide +kernel
theorem d_M_compare_11 : decode b_M_compare 11 = .ok (.ifCond .eq 10, 3) := by decide +kernel
theorem d_M_compare_14 : decode b_M_compare 14 = .ok (.iload_n 3, 1) := by decide +kernel
theorem d_M_compare_15 : decode b_M_compare 15 = .ok (.invokestatic 35, 3) := by decide +kernel
theorem d_M_compare_18 : decode b_M_compare 18 = .ok (.ifCond .ne 5, 3) := by decide +kernel
theorem d_M_compare_21 : decode b_M_compare 21 = .ok (.iconst (-1), 1) := by decide +kernel
theorem d_M_compare_22 : decode b_M_compare 22 = .ok (.ireturn, 1) := by decide +kernel
theorem d_M_compare_23 : decode b_M_compare 23 = .ok (.aload_n 0, 1) := by decide +kernel
theorem d_M_compare_24 : decode b_M_compare 24 = .ok (.new 47, 3) := by decide +kernel
theorem d_M_compare_27 : decode b_M_compare 27 = .ok (.dup, 1) := by decide +kernel
theorem d_M_compare_28 : decode b_M_compare 28 = .ok (.iload_n 1, 1) := by decide +kernel
theorem d_M_compare_29 : decode b_M_compare 29 = .ok (.iload_n 2, 1) := by decide +kernel
theorem d_M_compare_30 : decode b_M_compare 30 = .ok (.iload_n 3, 1) := by decide +kernel
theorem d_M_compare_31 : decode b_M_compare 31 = .ok (.invokespecial 49, 3) := by decide +kernel
theorem d_M_compare_34 : decode b_M_compare 34 = .ok (.invokevirtual 43, 3) := by decide +kernel
theorem d_M_compare_37 : decode b_M_compare 37 = .ok (.ireturn, 1) := by decide +kernel
theorem d_Comp_init_0 : decode b_Comp_init 0 = .ok (.aload_n 0, 1) := by decide +kernel
theorem d_Comp_init_1 : decode b_Comp_init 1 = .ok (.iload_n 2, 1) := by decide +kernel
theorem d_Comp_init_2 : decode b_Comp_init 2 = .ok (.iload_n 3, 1) := by decide +kernel
theorem d_Comp_init_3 : decode b_Comp_init 3 = .ok (.invokestatic 3, 3) := by decide +kernel
theorem d_Comp_init_6 : decode b_Comp_init 6 = .ok (.iload_n 1, 1) := by decide +kernel
theorem d_Comp_init_7 : decode b_Comp_init 7 = .ok (.iload_n 2, 1) := by decide +kernel
theorem d_Comp_init_8 : decode b_Comp_init 8 = .ok (.iload_n 3, 1) := by decide +kernel
theorem d_Comp_init_9 : decode b_Comp_init 9 = .ok (.invokestatic 7, 3) := by decide +kernel
theorem d_Comp_init_12 : decode b_Comp_init 12 = .ok (.iconst 1, 1) := by decide +kernel
theorem d_Comp_init_13 : decode b_Comp_init 13 = .ok (.invokespecial 13, 3) := by decide +kernel
theorem d_Comp_init_16 : decode b_Comp_init 16 = .ok (.aload_n 0, 1) := by decide +kernel
theorem d_Comp_init_17 : decode b_Comp_init 17 = .ok (.iload_n 1, 1) := by decide +kernel
theorem d_Comp_init_18 : decode b_Comp_init 18 = .ok (.putfield 19, 3) := by decide +kernel
theorem d_Comp_init_21 : decode b_Comp_init 21 = .ok (.aload_n 0, 1) := by decide +kernel
theorem d_Comp_init_22 : decode b_Comp_init 22 = .ok (.iload_n 2, 1) := by decide +kernel
theorem d_Comp_init_23 : decode b_Comp_init 23 = .ok (.putfield 23, 3) := by decide +kernel
theorem d_Comp_init_26 : decode b_Comp_init 26 = .ok (.aload_n 0, 1) := by decide +kernel
theorem d_Comp_init_27 : decode b_Comp_init 27 = .ok (.iload_n 3, 1) := by decide +kernel
theorem d_Comp_init_28 : decode b_Comp_init 28 = .ok (.putfield 27, 3) := by decide +kernel
theorem d_Comp_init_31 : decode b_Comp_init 31 = .ok (.return_, 1) := by decide +kernel
theorem d_Comp_rangedBy_0 : decode b_Comp_rangedBy 0 = .ok (.iload_n 0, 1) := by decide +kernel
theorem d_Comp_rangedBy_1 : decode b_Comp_rangedBy 1 = .ok (.ifCond .ne 22, 3) := by decide +kernel
theorem d_Comp_rangedBy_4 : decode b_Comp_rangedBy 4 = .ok (.iload_n 1, 1) := by decide +kernel
theorem d_Comp_rangedBy_5 : decode b_Comp_rangedBy 5 = .ok (.invokestatic 30, 3) := by decide +kernel
theorem d_Comp_rangedBy_8 : decode b_Comp_rangedBy 8 = .ok (.iload_n 2, 1) := by decide +kernel
theorem d_Comp_rangedBy_9 : decode b_Comp_rangedBy 9 = .ok (.invokestatic 30, 3) := by decide +kernel
theorem d_Comp_rangedBy_12 : decode b_Comp_rangedBy 12 = .ok (.if_icmp .eq 11, 3) := by decide +kernel
theorem d_Comp_rangedBy_15 : decode b_Comp_rangedBy 15 = .ok (.iload_n 1, 1) := by decide +kernel
theorem d_Comp_rangedBy_16 : decode b_Comp_rangedBy 16 = .ok (.iload_n 2, 1) := by decide +kernel
theorem d_Comp_rangedBy_17 : decode b_Comp_rangedBy 17 = .ok (.invokestatic 3, 3) := by decide +kernel
theorem d_Comp_rangedBy_20 : decode b_Comp_rangedBy 20 = .ok (.goto 4, 3) := by decide +kernel
theorem d_Comp_rangedBy_23 : decode b_Comp_rangedBy 23 = .ok (.iconst 0, 1) := by decide +kernel
theorem d_Comp_rangedBy_24 : decode b_Comp_rangedBy 24 = .ok (.ireturn, 1) := by decide +kernel
theorem d_M_not_0 : decode b_M_not 0 = .ok (.aload_n 0, 1) := by decide +kernel
theorem d_M_not_1 : decode b_M_not 1 = .ok (.iload_n 1, 1) := by decide +kernel
theorem d_M_not_2 : decode b_M_not 2 = .ok (.invokevirtual 52, 3) := by decide +kernel
theorem d_M_not_5 : decode b_M_not 5 = .ok (.astore_n 2, 1) := by decide +kernel
theorem d_M_not_6 : decode b_M_not 6 = .ok (.aload_n 0, 1) := by decide +kernel
theorem d_M_not_7 : decode b_M_not 7 = .ok (.invokevirtual 27, 3) := by decide +kernel
theorem d_M_not_10 : decode b_M_not 10 = .ok (.ifCond .eq 7, 3) := by decide +kernel
theorem d_M_not_13 : decode b_M_not 13 = .ok (.aload_n 2, 1) := by decide +kernel
theorem d_M_not_14 : decode b_M_not 14 = .ok (.ifnonnull 5, 3) := by decide +kernel
theorem d_M_not_17 : decode b_M_not 17 = .ok (.iconst (-1), 1) := by decide +kernel
theorem d_M_not_18 : decode b_M_not 18 = .ok (.ireturn, 1) := by decide +kernel
theorem d_M_not_19 : decode b_M_not 19 = .ok (.aload_n 0, 1) := by decide +kernel
theorem d_M_not_20 : decode b_M_not 20 = .ok (.new 56, 3) := by decide +kernel
theorem d_M_not_23 : decode b_M_not 23 = .ok (.dup, 1) := by decide +kernel
theorem d_M_not_24 : decode b_M_not 24 = .ok (.aload_n 2, 1) := by decide +kernel
theorem d_M_not_25 : decode b_M_not 25 = .ok (.invokespecial 58, 3) := by decide +kernel
theorem d_M_not_28 : decode b_M_not 28 = .ok (.invokevirtual 43, 3) := by decide +kernel
theorem d_M_not_31 : decode b_M_not 31 = .ok (.ireturn, 1) := by decide +kernel
theorem d_M_find_0 : decode b_M_find 0 = .ok (.iload_n 1, 1) := by decide +kernel
theorem d_M_find_1 : decode b_M_find 1 = .ok (.ifCond .lt 28, 3) := by decide +kernel
theorem d_M_find_4 : decode b_M_find 4 = .ok (.iload_n 1, 1) := by decide +kernel
theorem d_M_find_5 : decode b_M_find 5 = .ok (.aload_n 0, 1) := by decide +kernel
theorem d_M_find_6 : decode b_M_find 6 = .ok (.getfield 10, 3) := by decide +kernel
theorem d_M_find_9 : decode b_M_find 9 = .ok (.invokevirtual 127, 3) := by decide +kernel
theorem d_M_find_12 : decode b_M_find 12 = .ok (.if_icmp .ge 17, 3) := by decide +kernel
theorem d_M_find_15 : decode b_M_find 15 = .ok (.aload_n 0, 1) := by decide +kernel
theorem d_M_find_16 : decode b_M_find 16 = .ok (.getfield 10, 3) := by decide +kernel
theorem d_M_find_19 : decode b_M_find 19 = .ok (.iload_n 1, 1) := by decide +kernel
theorem d_M_find_20 : decode b_M_find 20 = .ok (.invokevirtual 131, 3) := by decide +kernel
theorem d_M_find_23 : decode b_M_find 23 = .ok (.checkcast 95, 3) := by decide +kernel
theorem d_M_find_26 : decode b_M_find 26 = .ok (.goto 4, 3) := by decide +kernel
theorem d_M_find_29 : decode b_M_find 29 = .ok (.aconst_null, 1) := by decide +kernel
theorem d_M_find_30 : decode b_M_find 30 = .ok (.areturn, 1) := by decide +kernel
theorem d_Not_init_0 : decode b_Not_init 0 = .ok (.aload_n 0, 1) := by decide +kernel
theorem d_Not_init_1 : decode b_Not_init 1 = .ok (.aload_n 1, 1) := by decide +kernel
theorem d_Not_init_2 : decode b_Not_init 2 = .ok (.getfield 1, 3) := by decide +kernel
theorem d_Not_init_5 : decode b_Not_init 5 = .ok (.iconst 0, 1) := by decide +kernel
theorem d_Not_init_6 : decode b_Not_init 6 = .ok (.aload_n 1, 1) := by decide +kernel
theorem d_Not_init_7 : decode b_Not_init 7 = .ok (.getfield 7, 3) := by decide +kernel
theorem d_Not_init_10 : decode b_Not_init 10 = .ok (.invokespecial 11, 3) := by decide +kernel
theorem d_Not_init_13 : decode b_Not_init 13 = .ok (.aload_n 0, 1) := by decide +kernel
theorem d_Not_init_14 : decode b_Not_init 14 = .ok (.aload_n 1, 1) := by decide +kernel
theorem d_Not_init_15 : decode b_Not_init 15 = .ok (.putfield 15, 3) := by decide +kernel
theorem d_Not_init_18 : decode b_Not_init 18 = .ok (.return_, 1) := by decide +kernel
theorem d_M_join_0 : decode b_M_join 0 = .ok (.aload_n 0, 1) := by decide +kernel
theorem d_M_join_1 : decode b_M_join 1 = .ok (.iload_n 2, 1) := by decide +kernel
theorem d_M_join_2 : decode b_M_join 2 = .ok (.invokevirtual 52, 3) := by decide +kernel
theorem d_M_join_5 : decode b_M_join 5 = .ok (.astore 4, 2) := by decide +kernel
theorem d_M_join_7 : decode b_M_join 7 = .ok (.aload_n 0, 1) := by decide +kernel
theorem d_M_join_8 : decode b_M_join 8 = .ok (.iload_n 3, 1) := by decide +kernel
theorem d_M_join_9 : decode b_M_join 9 = .ok (.invokevirtual 52, 3) := by decide +kernel
theorem d_M_join_12 : decode b_M_join 12 = .ok (.astore 5, 2) := by decide +kernel
theorem d_M_join_14 : decode b_M_join 14 = .ok (.aload_n 0, 1) := by decide +kernel
theorem d_M_join_15 : decode b_M_join 15 = .ok (.invokevirtual 27, 3) := by decide +kernel
theorem d_M_join_18 : decode b_M_join 18 = .ok (.ifCond .eq 13, 3) := by decide +kernel
theorem d_M_join_21 : decode b_M_join 21 = .ok (.aload 4, 2) := by decide +kernel
theorem d_M_join_23 : decode b_M_join 23 = .ok (.ifnull 8, 3) := by decide +kernel
theorem d_M_join_26 : decode b_M_join 26 = .ok (.aload 5, 2) := by decide +kernel
theorem d_M_join_28 : decode b_M_join 28 = .ok (.ifnonnull 5, 3) := by decide +kernel
theorem d_M_join_31 : decode b_M_join 31 = .ok (.iconst (-1), 1) := by decide +kernel
theorem d_M_join_32 : decode b_M_join 32 = .ok (.ireturn, 1) := by decide +kernel
theorem d_M_join_33 : decode b_M_join 33 = .ok (.aload_n 0, 1) := by decide +kernel
theorem d_M_join_34 : decode b_M_join 34 = .ok (.new 61, 3) := by decide +kernel
theorem d_M_join_37 : decode b_M_join 37 = .ok (.dup, 1) := by decide +kernel
theorem d_M_join_38 : decode b_M_join 38 = .ok (.iload_n 1, 1) := by decide +kernel
theorem d_M_join_39 : decode b_M_join 39 = .ok (.aload 4, 2) := by decide +kernel
theorem d_M_join_41 : decode b_M_join 41 = .ok (.aload 5, 2) := by decide +kernel
theorem d_M_join_43 : decode b_M_join 43 = .ok (.invokespecial 63, 3) := by decide +kernel
theorem d_M_join_46 : decode b_M_join 46 = .ok (.invokevirtual 43, 3) := by decide +kernel
theorem d_M_join_49 : decode b_M_join 49 = .ok (.ireturn, 1) := by decide +kernel
theorem d_Join_init_0 : decode b_Join_init 0 = .ok (.aload_n 0, 1) := by decide +kernel
theorem d_Join_init_1 : decode b_Join_init 1 = .ok (.aload_n 2, 1) := by decide +kernel
theorem d_Join_init_2 : decode b_Join_init 2 = .ok (.getfield 1, 3) := by decide +kernel
theorem d_Join_init_5 : decode b_Join_init 5 = .ok (.aload_n 3, 1) := by decide +kernel
theorem d_Join_init_6 : decode b_Join_init 6 = .ok (.getfield 1, 3) := by decide +kernel
theorem d_Join_init_9 : decode b_Join_init 9 = .ok (.ior, 1) := by decide +kernel
theorem d_Join_init_10 : decode b_Join_init 10 = .ok (.iload_n 1, 1) := by decide +kernel
theorem d_Join_init_11 : decode b_Join_init 11 = .ok (.aload_n 2, 1) := by decide +kernel
theorem d_Join_init_12 : decode b_Join_init 12 = .ok (.aload_n 3, 1) := by decide +kernel
theorem d_Join_init_13 : decode b_Join_init 13 = .ok (.invokestatic 7, 3) := by decide +kernel
theorem d_Join_init_16 : decode b_Join_init 16 = .ok (.aload_n 2, 1) := by decide +kernel
theorem d_Join_init_17 : decode b_Join_init 17 = .ok (.getfield 13, 3) := by decide +kernel
theorem d_Join_init_20 : decode b_Join_init 20 = .ok (.ifCond .eq 14, 3) := by decide +kernel
theorem d_Join_init_23 : decode b_Join_init 23 = .ok (.aload_n 3, 1) := by decide +kernel
theorem d_Join_init_24 : decode b_Join_init 24 = .ok (.getfield 13, 3) := by decide +kernel
theorem d_Join_init_27 : decode b_Join_init 27 = .ok (.ifCond .eq 7, 3) := by decide +kernel
theorem d_Join_init_30 : decode b_Join_init 30 = .ok (.iconst 1, 1) := by decide +kernel
theorem d_Join_init_31 : decode b_Join_init 31 = .ok (.goto 4, 3) := by decide +kernel
theorem d_Join_init_34 : decode b_Join_init 34 = .ok (.iconst 0, 1) := by decide +kernel
theorem d_Join_init_35 : decode b_Join_init 35 = .ok (.invokespecial 17, 3) := by decide +kernel
theorem d_Join_init_38 : decode b_Join_init 38 = .ok (.aload_n 0, 1) := by decide +kernel
theorem d_Join_init_39 : decode b_Join_init 39 = .ok (.iload_n 1, 1) := by decide +kernel
theorem d_Join_init_40 : decode b_Join_init 40 = .ok (.putfield 21, 3) := by decide +kernel
theorem d_Join_init_43 : decode b_Join_init 43 = .ok (.aload_n 0, 1) := by decide +kernel
theorem d_Join_init_44 : decode b_Join_init 44 = .ok (.aload_n 2, 1) := by decide +kernel
theorem d_Join_init_45 : decode b_Join_init 45 = .ok (.putfield 24, 3) := by decide +kernel
theorem d_Join_init_48 : decode b_Join_init 48 = .ok (.aload_n 0, 1) := by decide +kernel
theorem d_Join_init_49 : decode b_Join_init 49 = .ok (.aload_n 3, 1) := by decide +kernel
theorem d_Join_init_50 : decode b_Join_init 50 = .ok (.putfield 28, 3) := by decide +kernel
theorem d_Join_init_53 : decode b_Join_init 53 = .ok (.return_, 1) := by decide +kernel
theorem d_Join_rangedBy_0 : decode b_Join_rangedBy 0 = .ok (.iload_n 0, 1) := by decide +kernel
theorem d_Join_rangedBy_1 : decode b_Join_rangedBy 1 = .ok (.ifCond .eq 15, 3) := by decide +kernel
theorem d_Join_rangedBy_4 : decode b_Join_rangedBy 4 = .ok (.aload_n 1, 1) := by decide +kernel
theorem d_Join_rangedBy_5 : decode b_Join_rangedBy 5 = .ok (.getfield 31, 3) := by decide +kernel
theorem d_Join_rangedBy_8 : decode b_Join_rangedBy 8 = .ok (.aload_n 2, 1) := by decide +kernel
theorem d_Join_rangedBy_9 : decode b_Join_rangedBy 9 = .ok (.getfield 31, 3) := by decide +kernel
theorem d_Join_rangedBy_12 : decode b_Join_rangedBy 12 = .ok (.ior, 1) := by decide +kernel
theorem d_Join_rangedBy_13 : decode b_Join_rangedBy 13 = .ok (.goto 12, 3) := by decide +kernel
theorem d_Join_rangedBy_16 : decode b_Join_rangedBy 16 = .ok (.aload_n 1, 1) := by decide +kernel
theorem d_Join_rangedBy_17 : decode b_Join_rangedBy 17 = .ok (.getfield 31, 3) := by decide +kernel
theorem d_Join_rangedBy_20 : decode b_Join_rangedBy 20 = .ok (.aload_n 2, 1) := by decide +kernel
theorem d_Join_rangedBy_21 : decode b_Join_rangedBy 21 = .ok (.getfield 31, 3) := by decide +kernel
theorem d_Join_rangedBy_24 : decode b_Join_rangedBy 24 = .ok (.iand, 1) := by decide +kernel
theorem d_Join_rangedBy_25 : decode b_Join_rangedBy 25 = .ok (.ireturn, 1) := by decide +kernel
theorem d_M_exists_0 : decode b_M_exists 0 = .ok (.aload_n 0, 1) := by decide +kernel
theorem d_M_exists_1 : decode b_M_exists 1 = .ok (.iload_n 2, 1) := by decide +kernel
theorem d_M_exists_2 : decode b_M_exists 2 = .ok (.invokevirtual 52, 3) := by decide +kernel
theorem d_M_exists_5 : decode b_M_exists 5 = .ok (.astore_n 3, 1) := by decide +kernel
theorem d_M_exists_6 : decode b_M_exists 6 = .ok (.aload_n 0, 1) := by decide +kernel
theorem d_M_exists_7 : decode b_M_exists 7 = .ok (.invokevirtual 27, 3) := by decide +kernel
theorem d_M_exists_10 : decode b_M_exists 10 = .ok (.ifCond .eq 14, 3) := by decide +kernel
theorem d_M_exists_13 : decode b_M_exists 13 = .ok (.iload_n 1, 1) := by decide +kernel
theorem d_M_exists_14 : decode b_M_exists 14 = .ok (.invokestatic 66, 3) := by decide +kernel
theorem d_M_exists_17 : decode b_M_exists 17 = .ok (.ifCond .eq 7, 3) := by decide +kernel
theorem d_M_exists_20 : decode b_M_exists 20 = .ok (.aload_n 3, 1) := by decide +kernel
theorem d_M_exists_21 : decode b_M_exists 21 = .ok (.ifnonnull 5, 3) := by decide +kernel
theorem d_M_exists_24 : decode b_M_exists 24 = .ok (.iconst (-1), 1) := by decide +kernel
theorem d_M_exists_25 : decode b_M_exists 25 = .ok (.ireturn, 1) := by decide +kernel
theorem d_M_exists_26 : decode b_M_exists 26 = .ok (.aload_n 0, 1) := by decide +kernel
theorem d_M_exists_27 : decode b_M_exists 27 = .ok (.new 69, 3) := by decide +kernel
theorem d_M_exists_30 : decode b_M_exists 30 = .ok (.dup, 1) := by decide +kernel
theorem d_M_exists_31 : decode b_M_exists 31 = .ok (.iload_n 1, 1) := by decide +kernel
theorem d_M_exists_32 : decode b_M_exists 32 = .ok (.aload_n 3, 1) := by decide +kernel
theorem d_M_exists_33 : decode b_M_exists 33 = .ok (.invokespecial 71, 3) := by decide +kernel
theorem d_M_exists_36 : decode b_M_exists 36 = .ok (.invokevirtual 43, 3) := by decide +kernel
theorem d_M_exists_39 : decode b_M_exists 39 = .ok (.ireturn, 1) := by decide +kernel
theorem d_Exi_init_0 : decode b_Exi_init 0 = .ok (.aload_n 0, 1) := by decide +kernel
theorem d_Exi_init_1 : decode b_Exi_init 1 = .ok (.aload_n 2, 1) := by decide +kernel
theorem d_Exi_init_2 : decode b_Exi_init 2 = .ok (.getfield 1, 3) := by decide +kernel
theorem d_Exi_init_5 : decode b_Exi_init 5 = .ok (.iload_n 1, 1) := by decide +kernel
theorem d_Exi_init_6 : decode b_Exi_init 6 = .ok (.invokestatic 7, 3) := by decide +kernel
theorem d_Exi_init_9 : decode b_Exi_init 9 = .ok (.iconst (-1), 1) := by decide +kernel
theorem d_Exi_init_10 : decode b_Exi_init 10 = .ok (.ixor, 1) := by decide +kernel
theorem d_Exi_init_11 : decode b_Exi_init 11 = .ok (.iand, 1) := by decide +kernel
theorem d_Exi_init_12 : decode b_Exi_init 12 = .ok (.aload_n 2, 1) := by decide +kernel
theorem d_Exi_init_13 : decode b_Exi_init 13 = .ok (.getfield 13, 3) := by decide +kernel
theorem d_Exi_init_16 : decode b_Exi_init 16 = .ok (.iload_n 1, 1) := by decide +kernel
theorem d_Exi_init_17 : decode b_Exi_init 17 = .ok (.invokestatic 7, 3) := by decide +kernel
theorem d_Exi_init_20 : decode b_Exi_init 20 = .ok (.iconst (-1), 1) := by decide +kernel
theorem d_Exi_init_21 : decode b_Exi_init 21 = .ok (.ixor, 1) := by decide +kernel
theorem d_Exi_init_22 : decode b_Exi_init 22 = .ok (.iand, 1) := by decide +kernel
theorem d_Exi_init_23 : decode b_Exi_init 23 = .ok (.aload_n 2, 1) := by decide +kernel
theorem d_Exi_init_24 : decode b_Exi_init 24 = .ok (.getfield 16, 3) := by decide +kernel
theorem d_Exi_init_27 : decode b_Exi_init 27 = .ok (.ifCond .eq 19, 3) := by decide +kernel
theorem d_Exi_init_30 : decode b_Exi_init 30 = .ok (.aload_n 2, 1) := by decide +kernel
theorem d_Exi_init_31 : decode b_Exi_init 31 = .ok (.getfield 13, 3) := by decide +kernel
theorem d_Exi_init_34 : decode b_Exi_init 34 = .ok (.iload_n 1, 1) := by decide +kernel
theorem d_Exi_init_35 : decode b_Exi_init 35 = .ok (.invokestatic 7, 3) := by decide +kernel
theorem d_Exi_init_38 : decode b_Exi_init 38 = .ok (.iand, 1) := by decide +kernel
theorem d_Exi_init_39 : decode b_Exi_init 39 = .ok (.ifCond .eq 7, 3) := by decide +kernel
theorem d_Exi_init_42 : decode b_Exi_init 42 = .ok (.iconst 1, 1) := by decide +kernel
theorem d_Exi_init_43 : decode b_Exi_init 43 = .ok (.goto 4, 3) := by decide +kernel
theorem d_Exi_init_46 : decode b_Exi_init 46 = .ok (.iconst 0, 1) := by decide +kernel
theorem d_Exi_init_47 : decode b_Exi_init 47 = .ok (.invokespecial 20, 3) := by decide +kernel
theorem d_Exi_init_50 : decode b_Exi_init 50 = .ok (.aload_n 0, 1) := by decide +kernel
theorem d_Exi_init_51 : decode b_Exi_init 51 = .ok (.iload_n 1, 1) := by decide +kernel
theorem d_Exi_init_52 : decode b_Exi_init 52 = .ok (.putfield 24, 3) := by decide +kernel
theorem d_Exi_init_55 : decode b_Exi_init 55 = .ok (.aload_n 0, 1) := by decide +kernel
theorem d_Exi_init_56 : decode b_Exi_init 56 = .ok (.aload_n 2, 1) := by decide +kernel
theorem d_Exi_init_57 : decode b_Exi_init 57 = .ok (.putfield 29, 3) := by decide +kernel
theorem d_Exi_init_60 : decode b_Exi_init 60 = .ok (.return_, 1) := by decide +kernel
theorem d_M_previous_0 : decode b_M_previous 0 = .ok (.aload_n 0, 1) := by decide +kernel
theorem d_M_previous_1 : decode b_M_previous 1 = .ok (.iload_n 3, 1) := by decide +kernel
theorem d_M_previous_2 : decode b_M_previous 2 = .ok (.invokevirtual 52, 3) := by decide +kernel
theorem d_M_previous_5 : decode b_M_previous 5 = .ok (.astore 4, 2) := by decide +kernel
theorem d_M_previous_7 : decode b_M_previous 7 = .ok (.aload_n 0, 1) := by decide +kernel
theorem d_M_previous_8 : decode b_M_previous 8 = .ok (.invokevirtual 27, 3) := by decide +kernel
theorem d_M_previous_11 : decode b_M_previous 11 = .ok (.ifCond .eq 16, 3) := by decide +kernel
theorem d_M_previous_14 : decode b_M_previous 14 = .ok (.iload_n 1, 1) := by decide +kernel
theorem d_M_previous_15 : decode b_M_previous 15 = .ok (.iload_n 2, 1) := by decide +kernel
theorem d_M_previous_16 : decode b_M_previous 16 = .ok (.invokestatic 74, 3) := by decide +kernel
theorem d_M_previous_19 : decode b_M_previous 19 = .ok (.ifCond .eq 8, 3) := by decide +kernel
theorem d_M_previous_22 : decode b_M_previous 22 = .ok (.aload 4, 2) := by decide +kernel
theorem d_M_previous_24 : decode b_M_previous 24 = .ok (.ifnonnull 5, 3) := by decide +kernel
theorem d_M_previous_27 : decode b_M_previous 27 = .ok (.iconst (-1), 1) := by decide +kernel
theorem d_M_previous_28 : decode b_M_previous 28 = .ok (.ireturn, 1) := by decide +kernel
theorem d_M_previous_29 : decode b_M_previous 29 = .ok (.aload_n 0, 1) := by decide +kernel
theorem d_M_previous_30 : decode b_M_previous 30 = .ok (.new 78, 3) := by decide +kernel
theorem d_M_previous_33 : decode b_M_previous 33 = .ok (.dup, 1) := by decide +kernel
theorem d_M_previous_34 : decode b_M_previous 34 = .ok (.iload_n 1, 1) := by decide +kernel
theorem d_M_previous_35 : decode b_M_previous 35 = .ok (.iload_n 2, 1) := by decide +kernel
theorem d_M_previous_36 : decode b_M_previous 36 = .ok (.aload 4, 2) := by decide +kernel
theorem d_M_previous_38 : decode b_M_previous 38 = .ok (.invokespecial 80, 3) := by decide +kernel
theorem d_M_previous_41 : decode b_M_previous 41 = .ok (.invokevirtual 43, 3) := by decide +kernel
theorem d_M_previous_44 : decode b_M_previous 44 = .ok (.ireturn, 1) := by decide +kernel
theorem d_M_isPastInterval_0 : decode b_M_isPastInterval 0 = .ok (.iload_n 1, 1) := by decide +kernel
theorem d_M_isPastInterval_1 : decode b_M_isPastInterval 1 = .ok (.iconst (-1), 1) := by decide +kernel
theorem d_M_isPastInterval_2 : decode b_M_isPastInterval 2 = .ok (.if_icmp .ne 10, 3) := by decide +kernel
theorem d_M_isPastInterval_5 : decode b_M_isPastInterval 5 = .ok (.iload_n 0, 1) := by decide +kernel
theorem d_M_isPastInterval_6 : decode b_M_isPastInterval 6 = .ok (.invokestatic 179, 3) := by decide +kernel
theorem d_M_isPastInterval_9 : decode b_M_isPastInterval 9 = .ok (.goto 8, 3) := by decide +kernel
theorem d_M_isPastInterval_12 : decode b_M_isPastInterval 12 = .ok (.iload_n 0, 1) := by decide +kernel
theorem d_M_isPastInterval_13 : decode b_M_isPastInterval 13 = .ok (.iload_n 1, 1) := by decide +kernel
theorem d_M_isPastInterval_14 : decode b_M_isPastInterval 14 = .ok (.invokestatic 88, 3) := by decide +kernel
theorem d_M_isPastInterval_17 : decode b_M_isPastInterval 17 = .ok (.ireturn, 1) := by decide +kernel
theorem d_M_isTime_0 : decode b_M_isTime 0 = .ok (.iload_n 0, 1) := by decide +kernel
theorem d_M_isTime_1 : decode b_M_isTime 1 = .ok (.ifCond .lt 13, 3) := by decide +kernel
theorem d_M_isTime_4 : decode b_M_isTime 4 = .ok (.iload_n 0, 1) := by decide +kernel
theorem d_M_isTime_5 : decode b_M_isTime 5 = .ok (.ldc 178, 2) := by decide +kernel
theorem d_M_isTime_7 : decode b_M_isTime 7 = .ok (.if_icmp .gt 7, 3) := by decide +kernel
theorem d_M_isTime_10 : decode b_M_isTime 10 = .ok (.iconst 1, 1) := by decide +kernel
theorem d_M_isTime_11 : decode b_M_isTime 11 = .ok (.goto 4, 3) := by decide +kernel
theorem d_M_isTime_14 : decode b_M_isTime 14 = .ok (.iconst 0, 1) := by decide +kernel
theorem d_M_isTime_15 : decode b_M_isTime 15 = .ok (.ireturn, 1) := by decide +kernel
theorem d_M_isInterval_0 : decode b_M_isInterval 0 = .ok (.iload_n 0, 1) := by decide +kernel
theorem d_M_isInterval_1 : decode b_M_isInterval 1 = .ok (.invokestatic 179, 3) := by decide +kernel
theorem d_M_isInterval_4 : decode b_M_isInterval 4 = .ok (.ifCond .eq 19, 3) := by decide +kernel
theorem d_M_isInterval_7 : decode b_M_isInterval 7 = .ok (.iload_n 1, 1) := by decide +kernel
theorem d_M_isInterval_8 : decode b_M_isInterval 8 = .ok (.invokestatic 179, 3) := by decide +kernel
theorem d_M_isInterval_11 : decode b_M_isInterval 11 = .ok (.ifCond .eq 12, 3) := by decide +kernel
theorem d_M_isInterval_14 : decode b_M_isInterval 14 = .ok (.iload_n 0, 1) := by decide +kernel
theorem d_M_isInterval_15 : decode b_M_isInterval 15 = .ok (.iload_n 1, 1) := by decide +kernel
theorem d_M_isInterval_16 : decode b_M_isInterval 16 = .ok (.if_icmp .gt 7, 3) := by decide +kernel
theorem d_M_isInterval_19 : decode b_M_isInterval 19 = .ok (.iconst 1, 1) := by decide +kernel
theorem d_M_isInterval_20 : decode b_M_isInterval 20 = .ok (.goto 4, 3) := by decide +kernel
theorem d_M_isInterval_23 : decode b_M_isInterval 23 = .ok (.iconst 0, 1) := by decide +kernel
theorem d_M_isInterval_24 : decode b_M_isInterval 24 = .ok (.ireturn, 1) := by decide +kernel
theorem d_Prev_init_0 : decode b_Prev_init 0 = .ok (.aload_n 0, 1) := by decide +kernel
theorem d_Prev_init_1 : decode b_Prev_init 1 = .ok (.aload_n 3, 1) := by decide +kernel
theorem d_Prev_init_2 : decode b_Prev_init 2 = .ok (.getfield 1, 3) := by decide +kernel
theorem d_Prev_init_5 : decode b_Prev_init 5 = .ok (.aload_n 3, 1) := by decide +kernel
theorem d_Prev_init_6 : decode b_Prev_init 6 = .ok (.getfield 7, 3) := by decide +kernel
theorem d_Prev_init_9 : decode b_Prev_init 9 = .ok (.aload_n 3, 1) := by decide +kernel
theorem d_Prev_init_10 : decode b_Prev_init 10 = .ok (.getfield 10, 3) := by decide +kernel
theorem d_Prev_init_13 : decode b_Prev_init 13 = .ok (.invokespecial 14, 3) := by decide +kernel
theorem d_Prev_init_16 : decode b_Prev_init 16 = .ok (.aload_n 0, 1) := by decide +kernel
theorem d_Prev_init_17 : decode b_Prev_init 17 = .ok (.iload_n 1, 1) := by decide +kernel
theorem d_Prev_init_18 : decode b_Prev_init 18 = .ok (.putfield 18, 3) := by decide +kernel
theorem d_Prev_init_21 : decode b_Prev_init 21 = .ok (.aload_n 0, 1) := by decide +kernel
theorem d_Prev_init_22 : decode b_Prev_init 22 = .ok (.iload_n 2, 1) := by decide +kernel
theorem d_Prev_init_23 : decode b_Prev_init 23 = .ok (.putfield 23, 3) := by decide +kernel
theorem d_Prev_init_26 : decode b_Prev_init 26 = .ok (.aload_n 0, 1) := by decide +kernel
theorem d_Prev_init_27 : decode b_Prev_init 27 = .ok (.aload_n 3, 1) := by decide +kernel
theorem d_Prev_init_28 : decode b_Prev_init 28 = .ok (.putfield 26, 3) := by decide +kernel
theorem d_Prev_init_31 : decode b_Prev_init 31 = .ok (.return_, 1) := by decide +kernel
theorem d_M_since_0 : decode b_M_since 0 = .ok (.aload_n 0, 1) := by decide +kernel
theorem d_M_since_1 : decode b_M_since 1 = .ok (.iload_n 3, 1) := by decide +kernel
theorem d_M_since_2 : decode b_M_since 2 = .ok (.invokevirtual 52, 3) := by decide +kernel
theorem d_M_since_5 : decode b_M_since 5 = .ok (.astore 5, 2) := by decide +kernel
theorem d_M_since_7 : decode b_M_since 7 = .ok (.aload_n 0, 1) := by decide +kernel
theorem d_M_since_8 : decode b_M_since 8 = .ok (.iload 4, 2) := by decide +kernel
theorem d_M_since_10 : decode b_M_since 10 = .ok (.invokevirtual 52, 3) := by decide +kernel
theorem d_M_since_13 : decode b_M_since 13 = .ok (.astore 6, 2) := by decide +kernel
theorem d_M_since_15 : decode b_M_since 15 = .ok (.aload_n 0, 1) := by decide +kernel
theorem d_M_since_16 : decode b_M_since 16 = .ok (.invokevirtual 27, 3) := by decide +kernel
theorem d_M_since_19 : decode b_M_since 19 = .ok (.ifCond .eq 21, 3) := by decide +kernel
theorem d_M_since_22 : decode b_M_since 22 = .ok (.iload_n 1, 1) := by decide +kernel
theorem d_M_since_23 : decode b_M_since 23 = .ok (.iload_n 2, 1) := by decide +kernel
theorem d_M_since_24 : decode b_M_since 24 = .ok (.invokestatic 74, 3) := by decide +kernel
theorem d_M_since_27 : decode b_M_since 27 = .ok (.ifCond .eq 13, 3) := by decide +kernel
theorem d_M_since_30 : decode b_M_since 30 = .ok (.aload 5, 2) := by decide +kernel
theorem d_M_since_32 : decode b_M_since 32 = .ok (.ifnull 8, 3) := by decide +kernel
theorem d_M_since_35 : decode b_M_since 35 = .ok (.aload 6, 2) := by decide +kernel
theorem d_M_since_37 : decode b_M_since 37 = .ok (.ifnonnull 5, 3) := by decide +kernel
theorem d_M_since_40 : decode b_M_since 40 = .ok (.iconst (-1), 1) := by decide +kernel
theorem d_M_since_41 : decode b_M_since 41 = .ok (.ireturn, 1) := by decide +kernel
theorem d_M_since_42 : decode b_M_since 42 = .ok (.aload_n 0, 1) := by decide +kernel
theorem d_M_since_43 : decode b_M_since 43 = .ok (.new 83, 3) := by decide +kernel
theorem d_M_since_46 : decode b_M_since 46 = .ok (.dup, 1) := by decide +kernel
theorem d_M_since_47 : decode b_M_since 47 = .ok (.iload_n 1, 1) := by decide +kernel
theorem d_M_since_48 : decode b_M_since 48 = .ok (.iload_n 2, 1) := by decide +kernel
theorem d_M_since_49 : decode b_M_since 49 = .ok (.aload 5, 2) := by decide +kernel
theorem d_M_since_51 : decode b_M_since 51 = .ok (.aload 6, 2) := by decide +kernel
theorem d_M_since_53 : decode b_M_since 53 = .ok (.invokespecial 85, 3) := by decide +kernel
theorem d_M_since_56 : decode b_M_since 56 = .ok (.invokevirtual 43, 3) := by decide +kernel
theorem d_M_since_59 : decode b_M_since 59 = .ok (.ireturn, 1) := by decide +kernel
theorem d_Since_init_0 : decode b_Since_init 0 = .ok (.aload_n 0, 1) := by decide +kernel
theorem d_Since_init_1 : decode b_Since_init 1 = .ok (.aload_n 3, 1) := by decide +kernel
theorem d_Since_init_2 : decode b_Since_init 2 = .ok (.getfield 3, 3) := by decide +kernel
theorem d_Since_init_5 : decode b_Since_init 5 = .ok (.aload 4, 2) := by decide +kernel
theorem d_Since_init_7 : decode b_Since_init 7 = .ok (.getfield 3, 3) := by decide +kernel
theorem d_Since_init_10 : decode b_Since_init 10 = .ok (.ior, 1) := by decide +kernel
theorem d_Since_init_11 : decode b_Since_init 11 = .ok (.aload 4, 2) := by decide +kernel
theorem d_Since_init_13 : decode b_Since_init 13 = .ok (.getfield 9, 3) := by decide +kernel
theorem d_Since_init_16 : decode b_Since_init 16 = .ok (.aload_n 3, 1) := by decide +kernel
theorem d_Since_init_17 : decode b_Since_init 17 = .ok (.getfield 12, 3) := by decide +kernel
theorem d_Since_init_20 : decode b_Since_init 20 = .ok (.ifCond .eq 15, 3) := by decide +kernel
theorem d_Since_init_23 : decode b_Since_init 23 = .ok (.aload 4, 2) := by decide +kernel
theorem d_Since_init_25 : decode b_Since_init 25 = .ok (.getfield 12, 3) := by decide +kernel
theorem d_Since_init_28 : decode b_Since_init 28 = .ok (.ifCond .eq 7, 3) := by decide +kernel
theorem d_Since_init_31 : decode b_Since_init 31 = .ok (.iconst 1, 1) := by decide +kernel
theorem d_Since_init_32 : decode b_Since_init 32 = .ok (.goto 4, 3) := by decide +kernel
theorem d_Since_init_35 : decode b_Since_init 35 = .ok (.iconst 0, 1) := by decide +kernel
theorem d_Since_init_36 : decode b_Since_init 36 = .ok (.invokespecial 16, 3) := by decide +kernel
theorem d_Since_init_39 : decode b_Since_init 39 = .ok (.aload_n 0, 1) := by decide +kernel
theorem d_Since_init_40 : decode b_Since_init 40 = .ok (.iload_n 1, 1) := by decide +kernel
theorem d_Since_init_41 : decode b_Since_init 41 = .ok (.putfield 20, 3) := by decide +kernel
theorem d_Since_init_44 : decode b_Since_init 44 = .ok (.aload_n 0, 1) := by decide +kernel
theorem d_Since_init_45 : decode b_Since_init 45 = .ok (.iload_n 2, 1) := by decide +kernel
theorem d_Since_init_46 : decode b_Since_init 46 = .ok (.putfield 25, 3) := by decide +kernel
theorem d_Since_init_49 : decode b_Since_init 49 = .ok (.aload_n 0, 1) := by decide +kernel
theorem d_Since_init_50 : decode b_Since_init 50 = .ok (.aload_n 3, 1) := by decide +kernel
theorem d_Since_init_51 : decode b_Since_init 51 = .ok (.putfield 28, 3) := by decide +kernel
theorem d_Since_init_54 : decode b_Since_init 54 = .ok (.aload_n 0, 1) := by decide +kernel
theorem d_Since_init_55 : decode b_Since_init 55 = .ok (.aload 4, 2) := by decide +kernel
theorem d_Since_init_57 : decode b_Since_init 57 = .ok (.putfield 32, 3) := by decide +kernel
theorem d_Since_init_60 : decode b_Since_init 60 = .ok (.return_, 1) := by decide +kernel
theorem d_M_until_0 : decode b_M_until 0 = .ok (.aload_n 0, 1) := by decide +kernel
theorem d_M_until_1 : decode b_M_until 1 = .ok (.iload_n 3, 1) := by decide +kernel
theorem d_M_until_2 : decode b_M_until 2 = .ok (.invokevirtual 52, 3) := by decide +kernel
theorem d_M_until_5 : decode b_M_until 5 = .ok (.astore 5, 2) := by decide +kernel
theorem d_M_until_7 : decode b_M_until 7 = .ok (.aload_n 0, 1) := by decide +kernel
theorem d_M_until_8 : decode b_M_until 8 = .ok (.iload 4, 2) := by decide +kernel
theorem d_M_until_10 : decode b_M_until 10 = .ok (.invokevirtual 52, 3) := by decide +kernel
theorem d_M_until_13 : decode b_M_until 13 = .ok (.astore 6, 2) := by decide +kernel
theorem d_M_until_15 : decode b_M_until 15 = .ok (.aload_n 0, 1) := by decide +kernel
theorem d_M_until_16 : decode b_M_until 16 = .ok (.invokevirtual 27, 3) := by decide +kernel
theorem d_M_until_19 : decode b_M_until 19 = .ok (.ifCond .eq 21, 3) := by decide +kernel
theorem d_M_until_22 : decode b_M_until 22 = .ok (.iload_n 1, 1) := by decide +kernel
theorem d_M_until_23 : decode b_M_until 23 = .ok (.iload_n 2, 1) := by decide +kernel
theorem d_M_until_24 : decode b_M_until 24 = .ok (.invokestatic 88, 3) := by decide +kernel
theorem d_M_until_27 : decode b_M_until 27 = .ok (.ifCond .eq 13, 3) := by decide +kernel
theorem d_M_until_30 : decode b_M_until 30 = .ok (.aload 5, 2) := by decide +kernel
theorem d_M_until_32 : decode b_M_until 32 = .ok (.ifnull 8, 3) := by decide +kernel
theorem d_M_until_35 : decode b_M_until 35 = .ok (.aload 6, 2) := by decide +kernel
theorem d_M_until_37 : decode b_M_until 37 = .ok (.ifnonnull 5, 3) := by decide +kernel
theorem d_M_until_40 : decode b_M_until 40 = .ok (.iconst (-1), 1) := by decide +kernel
theorem d_M_until_41 : decode b_M_until 41 = .ok (.ireturn, 1) := by decide +kernel
theorem d_M_until_42 : decode b_M_until 42 = .ok (.aload_n 0, 1) := by decide +kernel
theorem d_M_until_43 : decode b_M_until 43 = .ok (.new 91, 3) := by decide +kernel
theorem d_M_until_46 : decode b_M_until 46 = .ok (.dup, 1) := by decide +kernel
theorem d_M_until_47 : decode b_M_until 47 = .ok (.iload_n 1, 1) := by decide +kernel
theorem d_M_until_48 : decode b_M_until 48 = .ok (.iload_n 2, 1) := by decide +kernel
theorem d_M_until_49 : decode b_M_until 49 = .ok (.aload 5, 2) := by decide +kernel
theorem d_M_until_51 : decode b_M_until 51 = .ok (.aload 6, 2) := by decide +kernel
theorem d_M_until_53 : decode b_M_until 53 = .ok (.invokespecial 93, 3) := by decide +kernel
theorem d_M_until_56 : decode b_M_until 56 = .ok (.invokevirtual 43, 3) := by decide +kernel
theorem d_M_until_59 : decode b_M_until 59 = .ok (.ireturn, 1) := by decide +kernel
theorem d_Until_init_0 : decode b_Until_init 0 = .ok (.aload_n 0, 1) := by decide +kernel
theorem d_Until_init_1 : decode b_Until_init 1 = .ok (.aload_n 3, 1) := by decide +kernel
theorem d_Until_init_2 : decode b_Until_init 2 = .ok (.getfield 3, 3) := by decide +kernel
theorem d_Until_init_5 : decode b_Until_init 5 = .ok (.aload 4, 2) := by decide +kernel
theorem d_Until_init_7 : decode b_Until_init 7 = .ok (.getfield 3, 3) := by decide +kernel
theorem d_Until_init_10 : decode b_Until_init 10 = .ok (.ior, 1) := by decide +kernel
theorem d_Until_init_11 : decode b_Until_init 11 = .ok (.aload 4, 2) := by decide +kernel
theorem d_Until_init_13 : decode b_Until_init 13 = .ok (.getfield 9, 3) := by decide +kernel
theorem d_Until_init_16 : decode b_Until_init 16 = .ok (.aload_n 3, 1) := by decide +kernel
theorem d_Until_init_17 : decode b_Until_init 17 = .ok (.getfield 12, 3) := by decide +kernel
theorem d_Until_init_20 : decode b_Until_init 20 = .ok (.ifCond .eq 15, 3) := by decide +kernel
theorem d_Until_init_23 : decode b_Until_init 23 = .ok (.aload 4, 2) := by decide +kernel
theorem d_Until_init_25 : decode b_Until_init 25 = .ok (.getfield 12, 3) := by decide +kernel
theorem d_Until_init_28 : decode b_Until_init 28 = .ok (.ifCond .eq 7, 3) := by decide +kernel
theorem d_Until_init_31 : decode b_Until_init 31 = .ok (.iconst 1, 1) := by decide +kernel
theorem d_Until_init_32 : decode b_Until_init 32 = .ok (.goto 4, 3) := by decide +kernel
theorem d_Until_init_35 : decode b_Until_init 35 = .ok (.iconst 0, 1) := by decide +kernel
theorem d_Until_init_36 : decode b_Until_init 36 = .ok (.invokespecial 16, 3) := by decide +kernel
theorem d_Until_init_39 : decode b_Until_init 39 = .ok (.aload_n 0, 1) := by decide +kernel
theorem d_Until_init_40 : decode b_Until_init 40 = .ok (.iload_n 1, 1) := by decide +kernel
theorem d_Until_init_41 : decode b_Until_init 41 = .ok (.putfield 20, 3) := by decide +kernel
theorem d_Until_init_44 : decode b_Until_init 44 = .ok (.aload_n 0, 1) := by decide +kernel
theorem d_Until_init_45 : decode b_Until_init 45 = .ok (.iload_n 2, 1) := by decide +kernel
theorem d_Until_init_46 : decode b_Until_init 46 = .ok (.putfield 25, 3) := by decide +kernel
theorem d_Until_init_49 : decode b_Until_init 49 = .ok (.aload_n 0, 1) := by decide +kernel
theorem d_Until_init_50 : decode b_Until_init 50 = .ok (.aload_n 3, 1) := by decide +kernel
theorem d_Until_init_51 : decode b_Until_init 51 = .ok (.putfield 28, 3) := by decide +kernel
theorem d_Until_init_54 : decode b_Until_init 54 = .ok (.aload_n 0, 1) := by decide +kernel
theorem d_Until_init_55 : decode b_Until_init 55 = .ok (.aload 4, 2) := by decide +kernel
theorem d_Until_init_57 : decode b_Until_init 57 = .ok (.putfield 32, 3) := by decide +kernel
theorem d_Until_init_60 : decode b_Until_init 60 = .ok (.return_, 1) := by decide +kernel
theorem d_M_free_0 : decode b_M_free 0 = .ok (.aload_n 0, 1) := by decide +kernel
theorem d_M_free_1 : decode b_M_free 1 = .ok (.iload_n 1, 1) := by decide +kernel
theorem d_M_free_2 : decode b_M_free 2 = .ok (.invokevirtual 52, 3) := by decide +kernel
theorem d_M_free_5 : decode b_M_free 5 = .ok (.astore_n 2, 1) := by decide +kernel
theorem d_M_free_6 : decode b_M_free 6 = .ok (.aload_n 2, 1) := by decide +kernel
theorem d_M_free_7 : decode b_M_free 7 = .ok (.ifnonnull 7, 3) := by decide +kernel
theorem d_M_free_10 : decode b_M_free 10 = .ok (.iconst (-1), 1) := by decide +kernel
theorem d_M_free_11 : decode b_M_free 11 = .ok (.goto 7, 3) := by decide +kernel
theorem d_M_free_14 : decode b_M_free 14 = .ok (.aload_n 2, 1) := by decide +kernel
theorem d_M_free_15 : decode b_M_free 15 = .ok (.getfield 94, 3) := by decide +kernel
theorem d_M_free_18 : decode b_M_free 18 = .ok (.ireturn, 1) := by decide +kernel
theorem d_M_ranged_0 : decode b_M_ranged 0 = .ok (.aload_n 0, 1) := by decide +kernel
theorem d_M_ranged_1 : decode b_M_ranged 1 = .ok (.iload_n 1, 1) := by decide +kernel
theorem d_M_ranged_2 : decode b_M_ranged 2 = .ok (.invokevirtual 52, 3) := by decide +kernel
theorem d_M_ranged_5 : decode b_M_ranged 5 = .ok (.astore_n 2, 1) := by decide +kernel
theorem d_M_ranged_6 : decode b_M_ranged 6 = .ok (.aload_n 2, 1) := by decide +kernel
theorem d_M_ranged_7 : decode b_M_ranged 7 = .ok (.ifnonnull 7, 3) := by decide +kernel
theorem d_M_ranged_10 : decode b_M_ranged 10 = .ok (.iconst (-1), 1) := by decide +kernel
theorem d_M_ranged_11 : decode b_M_ranged 11 = .ok (.goto 7, 3) := by decide +kernel
theorem d_M_ranged_14 : decode b_M_ranged 14 = .ok (.aload_n 2, 1) := by decide +kernel
theorem d_M_ranged_15 : decode b_M_ranged 15 = .ok (.getfield 100, 3) := by decide +kernel
theorem d_M_ranged_18 : decode b_M_ranged 18 = .ok (.ireturn, 1) := by decide +kernel
theorem d_M_bounded_0 : decode b_M_bounded 0 = .ok (.aload_n 0, 1) := by decide +kernel
theorem d_M_bounded_1 : decode b_M_bounded 1 = .ok (.iload_n 1, 1) := by decide +kernel
theorem d_M_bounded_2 : decode b_M_bounded 2 = .ok (.invokevirtual 52, 3) := by decide +kernel
theorem d_M_bounded_5 : decode b_M_bounded 5 = .ok (.astore_n 2, 1) := by decide +kernel
theorem d_M_bounded_6 : decode b_M_bounded 6 = .ok (.aload_n 2, 1) := by decide +kernel
theorem d_M_bounded_7 : decode b_M_bounded 7 = .ok (.ifnull 14, 3) := by decide +kernel
theorem d_M_bounded_10 : decode b_M_bounded 10 = .ok (.aload_n 2, 1) := by decide +kernel
theorem d_M_bounded_11 : decode b_M_bounded 11 = .ok (.invokevirtual 103, 3) := by decide +kernel
theorem d_M_bounded_14 : decode b_M_bounded 14 = .ok (.ifCond .eq 7, 3) := by decide +kernel
theorem d_M_bounded_17 : decode b_M_bounded 17 = .ok (.iconst 1, 1) := by decide +kernel
theorem d_M_bounded_18 : decode b_M_bounded 18 = .ok (.goto 4, 3) := by decide +kernel
theorem d_M_bounded_21 : decode b_M_bounded 21 = .ok (.iconst 0, 1) := by decide +kernel
theorem d_M_bounded_22 : decode b_M_bounded 22 = .ok (.ireturn, 1) := by decide +kernel
theorem d_Form_isBounded_0 : decode b_Form_isBounded 0 = .ok (.aload_n 0, 1) := by decide +kernel
theorem d_Form_isBounded_1 : decode b_Form_isBounded 1 = .ok (.getfield 22, 3) := by decide +kernel
theorem d_Form_isBounded_4 : decode b_Form_isBounded 4 = .ok (.ifCond .eq 21, 3) := by decide +kernel
theorem d_Form_isBounded_7 : decode b_Form_isBounded 7 = .ok (.aload_n 0, 1) := by decide +kernel
theorem d_Form_isBounded_8 : decode b_Form_isBounded 8 = .ok (.getfield 15, 3) := by decide +kernel
theorem d_Form_isBounded_11 : decode b_Form_isBounded 11 = .ok (.aload_n 0, 1) := by decide +kernel
theorem d_Form_isBounded_12 : decode b_Form_isBounded 12 = .ok (.getfield 19, 3) := by decide +kernel
theorem d_Form_isBounded_15 : decode b_Form_isBounded 15 = .ok (.iconst (-1), 1) := by decide +kernel
theorem d_Form_isBounded_16 : decode b_Form_isBounded 16 = .ok (.ixor, 1) := by decide +kernel
theorem d_Form_isBounded_17 : decode b_Form_isBounded 17 = .ok (.iand, 1) := by decide +kernel
theorem d_Form_isBounded_18 : decode b_Form_isBounded 18 = .ok (.ifCond .ne 7, 3) := by decide +kernel
theorem d_Form_isBounded_21 : decode b_Form_isBounded 21 = .ok (.iconst 1, 1) := by decide +kernel
theorem d_Form_isBounded_22 : decode b_Form_isBounded 22 = .ok (.goto 4, 3) := by decide +kernel
theorem d_Form_isBounded_25 : decode b_Form_isBounded 25 = .ok (.iconst 0, 1) := by decide +kernel
theorem d_Form_isBounded_26 : decode b_Form_isBounded 26 = .ok (.ireturn, 1) := by decide +kernel
theorem d_M_watch_0 : decode b_M_watch 0 = .ok (.aload_n 0, 1) := by decide +kernel
theorem d_M_watch_1 : decode b_M_watch 1 = .ok (.getfield 23, 3) := by decide +kernel
theorem d_M_watch_4 : decode b_M_watch 4 = .ok (.ifCond .ne 13, 3) := by decide +kernel
theorem d_M_watch_7 : decode b_M_watch 7 = .ok (.aload_n 0, 1) := by decide +kernel
theorem d_M_watch_8 : decode b_M_watch 8 = .ok (.getfield 10, 3) := by decide +kernel
theorem d_M_watch_11 : decode b_M_watch 11 = .ok (.invokevirtual 106, 3) := by decide +kernel
theorem d_M_watch_14 : decode b_M_watch 14 = .ok (.ifCond .eq 5, 3) := by decide +kernel
theorem d_M_watch_17 : decode b_M_watch 17 = .ok (.iconst 0, 1) := by decide +kernel
theorem d_M_watch_18 : decode b_M_watch 18 = .ok (.ireturn, 1) := by decide +kernel
theorem d_M_watch_19 : decode b_M_watch 19 = .ok (.aload_n 0, 1) := by decide +kernel
theorem d_M_watch_20 : decode b_M_watch 20 = .ok (.iconst 1, 1) := by decide +kernel
theorem d_M_watch_21 : decode b_M_watch 21 = .ok (.putfield 23, 3) := by decide +kernel
theorem d_M_watch_24 : decode b_M_watch 24 = .ok (.iconst 1, 1) := by decide +kernel
theorem d_M_watch_25 : decode b_M_watch 25 = .ok (.ireturn, 1) := by decide +kernel
theorem d_M_gather_0 : decode b_M_gather 0 = .ok (.aload_n 0, 1) := by decide +kernel
theorem d_M_gather_1 : decode b_M_gather 1 = .ok (.getfield 23, 3) := by decide +kernel
theorem d_M_gather_4 : decode b_M_gather 4 = .ok (.ifCond .eq 24, 3) := by decide +kernel
theorem d_M_gather_7 : decode b_M_gather 7 = .ok (.iload_n 1, 1) := by decide +kernel
theorem d_M_gather_8 : decode b_M_gather 8 = .ok (.invokestatic 31, 3) := by decide +kernel
theorem d_M_gather_11 : decode b_M_gather 11 = .ok (.ifCond .eq 17, 3) := by decide +kernel
theorem d_M_gather_14 : decode b_M_gather 14 = .ok (.iload_n 2, 1) := by decide +kernel
theorem d_M_gather_15 : decode b_M_gather 15 = .ok (.invokestatic 109, 3) := by decide +kernel
theorem d_M_gather_18 : decode b_M_gather 18 = .ok (.ifCond .eq 10, 3) := by decide +kernel
theorem d_M_gather_21 : decode b_M_gather 21 = .ok (.iload_n 3, 1) := by decide +kernel
theorem d_M_gather_22 : decode b_M_gather 22 = .ok (.invokestatic 109, 3) := by decide +kernel
theorem d_M_gather_25 : decode b_M_gather 25 = .ok (.ifCond .ne 5, 3) := by decide +kernel
theorem d_M_gather_28 : decode b_M_gather 28 = .ok (.iconst 0, 1) := by decide +kernel
theorem d_M_gather_29 : decode b_M_gather 29 = .ok (.ireturn, 1) := by decide +kernel
theorem d_M_gather_30 : decode b_M_gather 30 = .ok (.aload_n 0, 1) := by decide +kernel
theorem d_M_gather_31 : decode b_M_gather 31 = .ok (.getfield 19, 3) := by decide +kernel
theorem d_M_gather_34 : decode b_M_gather 34 = .ok (.iload_n 1, 1) := by decide +kernel
theorem d_M_gather_35 : decode b_M_gather 35 = .ok (.iload_n 2, 1) := by decide +kernel
theorem d_M_gather_36 : decode b_M_gather 36 = .ok (.iload_n 3, 1) := by decide +kernel
theorem d_M_gather_37 : decode b_M_gather 37 = .ok (.invokestatic 112, 3) := by decide +kernel
theorem d_M_gather_40 : decode b_M_gather 40 = .ok (.invokevirtual 116, 3) := by decide +kernel
theorem d_M_gather_43 : decode b_M_gather 43 = .ok (.ireturn, 1) := by decide +kernel
theorem d_M_isValue_0 : decode b_M_isValue 0 = .ok (.iload_n 0, 1) := by decide +kernel
theorem d_M_isValue_1 : decode b_M_isValue 1 = .ok (.ifCond .lt 12, 3) := by decide +kernel
theorem d_M_isValue_4 : decode b_M_isValue 4 = .ok (.iload_n 0, 1) := by decide +kernel
theorem d_M_isValue_5 : decode b_M_isValue 5 = .ok (.iconst 4, 1) := by decide +kernel
theorem d_M_isValue_6 : decode b_M_isValue 6 = .ok (.if_icmp .ge 7, 3) := by decide +kernel
theorem d_M_isValue_9 : decode b_M_isValue 9 = .ok (.iconst 1, 1) := by decide +kernel
theorem d_M_isValue_10 : decode b_M_isValue 10 = .ok (.goto 4, 3) := by decide +kernel
theorem d_M_isValue_13 : decode b_M_isValue 13 = .ok (.iconst 0, 1) := by decide +kernel
theorem d_M_isValue_14 : decode b_M_isValue 14 = .ok (.ireturn, 1) := by decide +kernel
theorem d_M_pairBit_0 : decode b_M_pairBit 0 = .ok (.lconst 1, 1) := by decide +kernel
theorem d_M_pairBit_1 : decode b_M_pairBit 1 = .ok (.bipush 16, 2) := by decide +kernel
theorem d_M_pairBit_3 : decode b_M_pairBit 3 = .ok (.iload_n 0, 1) := by decide +kernel
theorem d_M_pairBit_4 : decode b_M_pairBit 4 = .ok (.imul, 1) := by decide +kernel
theorem d_M_pairBit_5 : decode b_M_pairBit 5 = .ok (.iconst 4, 1) := by decide +kernel
theorem d_M_pairBit_6 : decode b_M_pairBit 6 = .ok (.iload_n 1, 1) := by decide +kernel
theorem d_M_pairBit_7 : decode b_M_pairBit 7 = .ok (.imul, 1) := by decide +kernel
theorem d_M_pairBit_8 : decode b_M_pairBit 8 = .ok (.iadd, 1) := by decide +kernel
theorem d_M_pairBit_9 : decode b_M_pairBit 9 = .ok (.iload_n 2, 1) := by decide +kernel
theorem d_M_pairBit_10 : decode b_M_pairBit 10 = .ok (.iadd, 1) := by decide +kernel
theorem d_M_pairBit_11 : decode b_M_pairBit 11 = .ok (.lshl, 1) := by decide +kernel
theorem d_M_pairBit_12 : decode b_M_pairBit 12 = .ok (.lreturn, 1) := by decide +kernel
theorem d_Log_collect_0 : decode b_Log_collect 0 = .ok (.aload_n 0, 1) := by decide +kernel
theorem d_Log_collect_1 : decode b_Log_collect 1 = .ok (.getfield 19, 3) := by decide +kernel
theorem d_Log_collect_4 : decode b_Log_collect 4 = .ok (.lload_n 1, 1) := by decide +kernel
theorem d_Log_collect_5 : decode b_Log_collect 5 = .ok (.land, 1) := by decide +kernel
theorem d_Log_collect_6 : decode b_Log_collect 6 = .ok (.lconst 0, 1) := by decide +kernel
theorem d_Log_collect_7 : decode b_Log_collect 7 = .ok (.lcmp, 1) := by decide +kernel
theorem d_Log_collect_8 : decode b_Log_collect 8 = .ok (.ifCond .ne 7, 3) := by decide +kernel
theorem d_Log_collect_11 : decode b_Log_collect 11 = .ok (.iconst 1, 1) := by decide +kernel
theorem d_Log_collect_12 : decode b_Log_collect 12 = .ok (.goto 4, 3) := by decide +kernel
theorem d_Log_collect_15 : decode b_Log_collect 15 = .ok (.iconst 0, 1) := by decide +kernel
theorem d_Log_collect_16 : decode b_Log_collect 16 = .ok (.istore_n 3, 1) := by decide +kernel
theorem d_Log_collect_17 : decode b_Log_collect 17 = .ok (.aload_n 0, 1) := by decide +kernel
theorem d_Log_collect_18 : decode b_Log_collect 18 = .ok (.dup, 1) := by decide +kernel
theorem d_Log_collect_19 : decode b_Log_collect 19 = .ok (.getfield 19, 3) := by decide +kernel
theorem d_Log_collect_22 : decode b_Log_collect 22 = .ok (.lload_n 1, 1) := by decide +kernel
theorem d_Log_collect_23 : decode b_Log_collect 23 = .ok (.lor, 1) := by decide +kernel
theorem d_Log_collect_24 : decode b_Log_collect 24 = .ok (.putfield 19, 3) := by decide +kernel
theorem d_Log_collect_27 : decode b_Log_collect 27 = .ok (.iload_n 3, 1) := by decide +kernel
theorem d_Log_collect_28 : decode b_Log_collect 28 = .ok (.ireturn, 1) := by decide +kernel
theorem d_M_place_0 : decode b_M_place 0 = .ok (.aload_n 0, 1) := by decide +kernel
theorem d_M_place_1 : decode b_M_place 1 = .ok (.getfield 23, 3) := by decide +kernel
theorem d_M_place_4 : decode b_M_place 4 = .ok (.ifCond .eq 14, 3) := by decide +kernel
theorem d_M_place_7 : decode b_M_place 7 = .ok (.aload_n 0, 1) := by decide +kernel
theorem d_M_place_8 : decode b_M_place 8 = .ok (.getfield 19, 3) := by decide +kernel
theorem d_M_place_11 : decode b_M_place 11 = .ok (.iload_n 1, 1) := by decide +kernel
theorem d_M_place_12 : decode b_M_place 12 = .ok (.invokevirtual 120, 3) := by decide +kernel
theorem d_M_place_15 : decode b_M_place 15 = .ok (.ifCond .ne 5, 3) := by decide +kernel
theorem d_M_place_18 : decode b_M_place 18 = .ok (.iconst (-1), 1) := by decide +kernel
theorem d_M_place_19 : decode b_M_place 19 = .ok (.ireturn, 1) := by decide +kernel
theorem d_M_place_20 : decode b_M_place 20 = .ok (.aload_n 0, 1) := by decide +kernel
theorem d_M_place_21 : decode b_M_place 21 = .ok (.getfield 19, 3) := by decide +kernel
theorem d_M_place_24 : decode b_M_place 24 = .ok (.iload_n 1, 1) := by decide +kernel
theorem d_M_place_25 : decode b_M_place 25 = .ok (.invokevirtual 123, 3) := by decide +kernel
theorem d_M_place_28 : decode b_M_place 28 = .ok (.iconst 0, 1) := by decide +kernel
theorem d_M_place_29 : decode b_M_place 29 = .ok (.istore_n 2, 1) := by decide +kernel
theorem d_M_place_30 : decode b_M_place 30 = .ok (.iload_n 2, 1) := by decide +kernel
theorem d_M_place_31 : decode b_M_place 31 = .ok (.aload_n 0, 1) := by decide +kernel
theorem d_M_place_32 : decode b_M_place 32 = .ok (.getfield 10, 3) := by decide +kernel
theorem d_M_place_35 : decode b_M_place 35 = .ok (.invokevirtual 127, 3) := by decide +kernel
theorem d_M_place_38 : decode b_M_place 38 = .ok (.if_icmp .ge 27, 3) := by decide +kernel
theorem d_M_place_41 : decode b_M_place 41 = .ok (.aload_n 0, 1) := by decide +kernel
theorem d_M_place_42 : decode b_M_place 42 = .ok (.getfield 10, 3) := by decide +kernel
theorem d_M_place_45 : decode b_M_place 45 = .ok (.iload_n 2, 1) := by decide +kernel
theorem d_M_place_46 : decode b_M_place 46 = .ok (.invokevirtual 131, 3) := by decide +kernel
theorem d_M_place_49 : decode b_M_place 49 = .ok (.checkcast 95, 3) := by decide +kernel
theorem d_M_place_52 : decode b_M_place 52 = .ok (.aload_n 0, 1) := by decide +kernel
theorem d_M_place_53 : decode b_M_place 53 = .ok (.getfield 19, 3) := by decide +kernel
theorem d_M_place_56 : decode b_M_place 56 = .ok (.invokevirtual 135, 3) := by decide +kernel
theorem d_M_place_59 : decode b_M_place 59 = .ok (.iinc 2 1, 3) := by decide +kernel
theorem d_M_place_62 : decode b_M_place 62 = .ok (.goto (-32), 3) := by decide +kernel
theorem d_M_place_65 : decode b_M_place 65 = .ok (.aload_n 0, 1) := by decide +kernel
theorem d_M_place_66 : decode b_M_place 66 = .ok (.getfield 19, 3) := by decide +kernel
theorem d_M_place_69 : decode b_M_place 69 = .ok (.getfield 139, 3) := by decide +kernel
theorem d_M_place_72 : decode b_M_place 72 = .ok (.iconst 1, 1) := by decide +kernel
theorem d_M_place_73 : decode b_M_place 73 = .ok (.isub, 1) := by decide +kernel
theorem d_M_place_74 : decode b_M_place 74 = .ok (.ireturn, 1) := by decide +kernel
theorem d_Log_accepts_0 : decode b_Log_accepts 0 = .ok (.iload_n 1, 1) := by decide +kernel
theorem d_Log_accepts_1 : decode b_Log_accepts 1 = .ok (.invokestatic 23, 3) := by decide +kernel
theorem d_Log_accepts_4 : decode b_Log_accepts 4 = .ok (.ifCond .eq 38, 3) := by decide +kernel
theorem d_Log_accepts_7 : decode b_Log_accepts 7 = .ok (.aload_n 0, 1) := by decide +kernel
theorem d_Log_accepts_8 : decode b_Log_accepts 8 = .ok (.getfield 27, 3) := by decide +kernel
theorem d_Log_accepts_11 : decode b_Log_accepts 11 = .ok (.bipush 24, 2) := by decide +kernel
theorem d_Log_accepts_13 : decode b_Log_accepts 13 = .ok (.if_icmp .ge 29, 3) := by decide +kernel
theorem d_Log_accepts_16 : decode b_Log_accepts 16 = .ok (.aload_n 0, 1) := by decide +kernel
theorem d_Log_accepts_17 : decode b_Log_accepts 17 = .ok (.getfield 27, 3) := by decide +kernel
theorem d_Log_accepts_20 : decode b_Log_accepts 20 = .ok (.ifCond .eq 18, 3) := by decide +kernel
theorem d_Log_accepts_23 : decode b_Log_accepts 23 = .ok (.iload_n 1, 1) := by decide +kernel
theorem d_Log_accepts_24 : decode b_Log_accepts 24 = .ok (.aload_n 0, 1) := by decide +kernel
theorem d_Log_accepts_25 : decode b_Log_accepts 25 = .ok (.getfield 9, 3) := by decide +kernel
theorem d_Log_accepts_28 : decode b_Log_accepts 28 = .ok (.aload_n 0, 1) := by decide +kernel
theorem d_Log_accepts_29 : decode b_Log_accepts 29 = .ok (.getfield 27, 3) := by decide +kernel
theorem d_Log_accepts_32 : decode b_Log_accepts 32 = .ok (.iconst 1, 1) := by decide +kernel
theorem d_Log_accepts_33 : decode b_Log_accepts 33 = .ok (.isub, 1) := by decide +kernel
theorem d_Log_accepts_34 : decode b_Log_accepts 34 = .ok (.iaload, 1) := by decide +kernel
theorem d_Log_accepts_35 : decode b_Log_accepts 35 = .ok (.if_icmp .lt 7, 3) := by decide +kernel
theorem d_Log_accepts_38 : decode b_Log_accepts 38 = .ok (.iconst 1, 1) := by decide +kernel
theorem d_Log_accepts_39 : decode b_Log_accepts 39 = .ok (.goto 4, 3) := by decide +kernel
theorem d_Log_accepts_42 : decode b_Log_accepts 42 = .ok (.iconst 0, 1) := by decide +kernel
theorem d_Log_accepts_43 : decode b_Log_accepts 43 = .ok (.ireturn, 1) := by decide +kernel
theorem d_Log_append_0 : decode b_Log_append 0 = .ok (.aload_n 0, 1) := by decide +kernel
theorem d_Log_append_1 : decode b_Log_append 1 = .ok (.getfield 9, 3) := by decide +kernel
theorem d_Log_append_4 : decode b_Log_append 4 = .ok (.aload_n 0, 1) := by decide +kernel
theorem d_Log_append_5 : decode b_Log_append 5 = .ok (.getfield 27, 3) := by decide +kernel
theorem d_Log_append_8 : decode b_Log_append 8 = .ok (.iload_n 1, 1) := by decide +kernel
theorem d_Log_append_9 : decode b_Log_append 9 = .ok (.iastore, 1) := by decide +kernel
theorem d_Log_append_10 : decode b_Log_append 10 = .ok (.aload_n 0, 1) := by decide +kernel
theorem d_Log_append_11 : decode b_Log_append 11 = .ok (.getfield 15, 3) := by decide +kernel
theorem d_Log_append_14 : decode b_Log_append 14 = .ok (.aload_n 0, 1) := by decide +kernel
theorem d_Log_append_15 : decode b_Log_append 15 = .ok (.getfield 27, 3) := by decide +kernel
theorem d_Log_append_18 : decode b_Log_append 18 = .ok (.aload_n 0, 1) := by decide +kernel
theorem d_Log_append_19 : decode b_Log_append 19 = .ok (.getfield 19, 3) := by decide +kernel
theorem d_Log_append_22 : decode b_Log_append 22 = .ok (.lastore, 1) := by decide +kernel
theorem d_Log_append_23 : decode b_Log_append 23 = .ok (.aload_n 0, 1) := by decide +kernel
theorem d_Log_append_24 : decode b_Log_append 24 = .ok (.dup, 1) := by decide +kernel
theorem d_Log_append_25 : decode b_Log_append 25 = .ok (.getfield 27, 3) := by decide +kernel
theorem d_Log_append_28 : decode b_Log_append 28 = .ok (.iconst 1, 1) := by decide +kernel
theorem d_Log_append_29 : decode b_Log_append 29 = .ok (.iadd, 1) := by decide +kernel
theorem d_Log_append_30 : decode b_Log_append 30 = .ok (.putfield 27, 3) := by decide +kernel
theorem d_Log_append_33 : decode b_Log_append 33 = .ok (.aload_n 0, 1) := by decide +kernel
theorem d_Log_append_34 : decode b_Log_append 34 = .ok (.lconst 0, 1) := by decide +kernel
theorem d_Log_append_35 : decode b_Log_append 35 = .ok (.putfield 19, 3) := by decide +kernel
theorem d_Log_append_38 : decode b_Log_append 38 = .ok (.return_, 1) := by decide +kernel
theorem d_Form_advance_0 : decode b_Form_advance 0 = .ok (.aload_n 0, 1) := by decide +kernel
theorem d_Form_advance_1 : decode b_Form_advance 1 = .ok (.aload_n 1, 1) := by decide +kernel
theorem d_Form_advance_2 : decode b_Form_advance 2 = .ok (.invokevirtual 26, 3) := by decide +kernel
theorem d_Form_advance_5 : decode b_Form_advance 5 = .ok (.bipush 24, 2) := by decide +kernel
theorem d_Form_advance_7 : decode b_Form_advance 7 = .ok (.invokestatic 30, 3) := by decide +kernel
theorem d_Form_advance_10 : decode b_Form_advance 10 = .ok (.istore_n 2, 1) := by decide +kernel
theorem d_Form_advance_11 : decode b_Form_advance 11 = .ok (.aload_n 0, 1) := by decide +kernel
theorem d_Form_advance_12 : decode b_Form_advance 12 = .ok (.getfield 36, 3) := by decide +kernel
theorem d_Form_advance_15 : decode b_Form_advance 15 = .ok (.istore_n 3, 1) := by decide +kernel
theorem d_Form_advance_16 : decode b_Form_advance 16 = .ok (.iload_n 3, 1) := by decide +kernel
theorem d_Form_advance_17 : decode b_Form_advance 17 = .ok (.iload_n 2, 1) := by decide +kernel
theorem d_Form_advance_18 : decode b_Form_advance 18 = .ok (.if_icmp .ge 21, 3) := by decide +kernel
theorem d_Form_advance_21 : decode b_Form_advance 21 = .ok (.aload_n 0, 1) := by decide +kernel
theorem d_Form_advance_22 : decode b_Form_advance 22 = .ok (.getfield 9, 3) := by decide +kernel
theorem d_Form_advance_25 : decode b_Form_advance 25 = .ok (.iload_n 3, 1) := by decide +kernel
theorem d_Form_advance_26 : decode b_Form_advance 26 = .ok (.aload_n 0, 1) := by decide +kernel
theorem d_Form_advance_27 : decode b_Form_advance 27 = .ok (.aload_n 1, 1) := by decide +kernel
theorem d_Form_advance_28 : decode b_Form_advance 28 = .ok (.iload_n 3, 1) := by decide +kernel
theorem d_Form_advance_29 : decode b_Form_advance 29 = .ok (.invokevirtual 39, 3) := by decide +kernel
theorem d_Form_advance_32 : decode b_Form_advance 32 = .ok (.lastore, 1) := by decide +kernel
theorem d_Form_advance_33 : decode b_Form_advance 33 = .ok (.iinc 3 1, 3) := by decide +kernel
theorem d_Form_advance_36 : decode b_Form_advance 36 = .ok (.goto (-20), 3) := by decide +kernel
theorem d_Form_advance_39 : decode b_Form_advance 39 = .ok (.aload_n 0, 1) := by decide +kernel
theorem d_Form_advance_40 : decode b_Form_advance 40 = .ok (.iload_n 2, 1) := by decide +kernel
theorem d_Form_advance_41 : decode b_Form_advance 41 = .ok (.putfield 36, 3) := by decide +kernel
theorem d_Form_advance_44 : decode b_Form_advance 44 = .ok (.return_, 1) := by decide +kernel
theorem d_Atom_reach_0 : decode b_Atom_reach 0 = .ok (.aload_n 1, 1) := by decide +kernel
theorem d_Atom_reach_1 : decode b_Atom_reach 1 = .ok (.getfield 25, 3) := by decide +kernel
theorem d_Atom_reach_4 : decode b_Atom_reach 4 = .ok (.ireturn, 1) := by decide +kernel
theorem d_Comp_reach_0 : decode b_Comp_reach 0 = .ok (.aload_n 1, 1) := by decide +kernel
theorem d_Comp_reach_1 : decode b_Comp_reach 1 = .ok (.getfield 34, 3) := by decide +kernel
theorem d_Comp_reach_4 : decode b_Comp_reach 4 = .ok (.ireturn, 1) := by decide +kernel
theorem d_Exi_reach_0 : decode b_Exi_reach 0 = .ok (.aload_n 0, 1) := by decide +kernel
theorem d_Exi_reach_1 : decode b_Exi_reach 1 = .ok (.getfield 29, 3) := by decide +kernel
theorem d_Exi_reach_4 : decode b_Exi_reach 4 = .ok (.getfield 33, 3) := by decide +kernel
theorem d_Exi_reach_7 : decode b_Exi_reach 7 = .ok (.ireturn, 1) := by decide +kernel
theorem d_Join_reach_0 : decode b_Join_reach 0 = .ok (.aload_n 0, 1) := by decide +kernel
theorem d_Join_reach_1 : decode b_Join_reach 1 = .ok (.getfield 24, 3) := by decide +kernel
theorem d_Join_reach_4 : decode b_Join_reach 4 = .ok (.getfield 34, 3) := by decide +kernel
theorem d_Join_reach_7 : decode b_Join_reach 7 = .ok (.aload_n 0, 1) := by decide +kernel
theorem d_Join_reach_8 : decode b_Join_reach 8 = .ok (.getfield 28, 3) := by decide +kernel
theorem d_Join_reach_11 : decode b_Join_reach 11 = .ok (.getfield 34, 3) := by decide +kernel
theorem d_Join_reach_14 : decode b_Join_reach 14 = .ok (.invokestatic 37, 3) := by decide +kernel
theorem d_Join_reach_17 : decode b_Join_reach 17 = .ok (.ireturn, 1) := by decide +kernel
theorem d_Not_reach_0 : decode b_Not_reach 0 = .ok (.aload_n 0, 1) := by decide +kernel
theorem d_Not_reach_1 : decode b_Not_reach 1 = .ok (.getfield 15, 3) := by decide +kernel
theorem d_Not_reach_4 : decode b_Not_reach 4 = .ok (.getfield 21, 3) := by decide +kernel
theorem d_Not_reach_7 : decode b_Not_reach 7 = .ok (.ireturn, 1) := by decide +kernel
theorem d_Prev_reach_0 : decode b_Prev_reach 0 = .ok (.aload_n 1, 1) := by decide +kernel
theorem d_Prev_reach_1 : decode b_Prev_reach 1 = .ok (.getfield 30, 3) := by decide +kernel
theorem d_Prev_reach_4 : decode b_Prev_reach 4 = .ok (.iconst 1, 1) := by decide +kernel
theorem d_Prev_reach_5 : decode b_Prev_reach 5 = .ok (.aload_n 0, 1) := by decide +kernel
theorem d_Prev_reach_6 : decode b_Prev_reach 6 = .ok (.getfield 26, 3) := by decide +kernel
theorem d_Prev_reach_9 : decode b_Prev_reach 9 = .ok (.getfield 35, 3) := by decide +kernel
theorem d_Prev_reach_12 : decode b_Prev_reach 12 = .ok (.iadd, 1) := by decide +kernel
theorem d_Prev_reach_13 : decode b_Prev_reach 13 = .ok (.invokestatic 38, 3) := by decide +kernel
theorem d_Prev_reach_16 : decode b_Prev_reach 16 = .ok (.ireturn, 1) := by decide +kernel
theorem d_Since_reach_0 : decode b_Since_reach 0 = .ok (.aload_n 0, 1) := by decide +kernel
theorem d_Since_reach_1 : decode b_Since_reach 1 = .ok (.getfield 28, 3) := by decide +kernel
theorem d_Since_reach_4 : decode b_Since_reach 4 = .ok (.getfield 35, 3) := by decide +kernel
theorem d_Since_reach_7 : decode b_Since_reach 7 = .ok (.aload_n 0, 1) := by decide +kernel
theorem d_Since_reach_8 : decode b_Since_reach 8 = .ok (.getfield 32, 3) := by decide +kernel
theorem d_Since_reach_11 : decode b_Since_reach 11 = .ok (.getfield 35, 3) := by decide +kernel
theorem d_Since_reach_14 : decode b_Since_reach 14 = .ok (.invokestatic 38, 3) := by decide +kernel
theorem d_Since_reach_17 : decode b_Since_reach 17 = .ok (.ireturn, 1) := by decide +kernel
theorem d_Until_reach_0 : decode b_Until_reach 0 = .ok (.aload_n 0, 1) := by decide +kernel
theorem d_Until_reach_1 : decode b_Until_reach 1 = .ok (.getfield 28, 3) := by decide +kernel
theorem d_Until_reach_4 : decode b_Until_reach 4 = .ok (.getfield 35, 3) := by decide +kernel
theorem d_Until_reach_7 : decode b_Until_reach 7 = .ok (.aload_n 0, 1) := by decide +kernel
theorem d_Until_reach_8 : decode b_Until_reach 8 = .ok (.getfield 32, 3) := by decide +kernel
theorem d_Until_reach_11 : decode b_Until_reach 11 = .ok (.getfield 35, 3) := by decide +kernel
theorem d_Until_reach_14 : decode b_Until_reach 14 = .ok (.invokestatic 38, 3) := by decide +kernel
theorem d_Until_reach_17 : decode b_Until_reach 17 = .ok (.aload_n 1, 1) := by decide +kernel
theorem d_Until_reach_18 : decode b_Until_reach 18 = .ok (.getfield 44, 3) := by decide +kernel
theorem d_Until_reach_21 : decode b_Until_reach 21 = .ok (.iconst 1, 1) := by decide +kernel
theorem d_Until_reach_22 : decode b_Until_reach 22 = .ok (.isub, 1) := by decide +kernel
theorem d_Until_reach_23 : decode b_Until_reach 23 = .ok (.invokestatic 38, 3) := by decide +kernel
theorem d_Until_reach_26 : decode b_Until_reach 26 = .ok (.istore_n 2, 1) := by decide +kernel
theorem d_Until_reach_27 : decode b_Until_reach 27 = .ok (.iconst 0, 1) := by decide +kernel
theorem d_Until_reach_28 : decode b_Until_reach 28 = .ok (.istore_n 3, 1) := by decide +kernel
theorem d_Until_reach_29 : decode b_Until_reach 29 = .ok (.iconst 0, 1) := by decide +kernel
theorem d_Until_reach_30 : decode b_Until_reach 30 = .ok (.istore 4, 2) := by decide +kernel
theorem d_Until_reach_32 : decode b_Until_reach 32 = .ok (.iload 4, 2) := by decide +kernel
theorem d_Until_reach_34 : decode b_Until_reach 34 = .ok (.iload_n 2, 1) := by decide +kernel
theorem d_Until_reach_35 : decode b_Until_reach 35 = .ok (.if_icmp .ge 26, 3) := by decide +kernel
theorem d_Until_reach_38 : decode b_Until_reach 38 = .ok (.aload_n 1, 1) := by decide +kernel
theorem d_Until_reach_39 : decode b_Until_reach 39 = .ok (.iload 4, 2) := by decide +kernel
theorem d_Until_reach_41 : decode b_Until_reach 41 = .ok (.iload_n 2, 1) := by decide +kernel
theorem d_Until_reach_42 : decode b_Until_reach 42 = .ok (.invokevirtual 49, 3) := by decide +kernel
theorem d_Until_reach_45 : decode b_Until_reach 45 = .ok (.aload_n 0, 1) := by decide +kernel
theorem d_Until_reach_46 : decode b_Until_reach 46 = .ok (.getfield 25, 3) := by decide +kernel
theorem d_Until_reach_49 : decode b_Until_reach 49 = .ok (.if_icmp .le 6, 3) := by decide +kernel
theorem d_Until_reach_52 : decode b_Until_reach 52 = .ok (.iinc 3 1, 3) := by decide +kernel
theorem d_Until_reach_55 : decode b_Until_reach 55 = .ok (.iinc 4 1, 3) := by decide +kernel
theorem d_Until_reach_58 : decode b_Until_reach 58 = .ok (.goto (-26), 3) := by decide +kernel
theorem d_Until_reach_61 : decode b_Until_reach 61 = .ok (.iload_n 3, 1) := by decide +kernel
theorem d_Until_reach_62 : decode b_Until_reach 62 = .ok (.ireturn, 1) := by decide +kernel
theorem d_Log_duration_0 : decode b_Log_duration 0 = .ok (.aload_n 0, 1) := by decide +kernel
theorem d_Log_duration_1 : decode b_Log_duration 1 = .ok (.getfield 9, 3) := by decide +kernel
theorem d_Log_duration_4 : decode b_Log_duration 4 = .ok (.iload_n 2, 1) := by decide +kernel
theorem d_Log_duration_5 : decode b_Log_duration 5 = .ok (.iaload, 1) := by decide +kernel
theorem d_Log_duration_6 : decode b_Log_duration 6 = .ok (.aload_n 0, 1) := by decide +kernel
theorem d_Log_duration_7 : decode b_Log_duration 7 = .ok (.getfield 9, 3) := by decide +kernel
theorem d_Log_duration_10 : decode b_Log_duration 10 = .ok (.iload_n 1, 1) := by decide +kernel
theorem d_Log_duration_11 : decode b_Log_duration 11 = .ok (.iaload, 1) := by decide +kernel
theorem d_Log_duration_12 : decode b_Log_duration 12 = .ok (.isub, 1) := by decide +kernel
theorem d_Log_duration_13 : decode b_Log_duration 13 = .ok (.ireturn, 1) := by decide +kernel
theorem d_Atom_evaluate_0 : decode b_Atom_evaluate 0 = .ok (.lconst 0, 1) := by decide +kernel
theorem d_Atom_evaluate_1 : decode b_Atom_evaluate 1 = .ok (.lstore_n 3, 1) := by decide +kernel
theorem d_Atom_evaluate_2 : decode b_Atom_evaluate 2 = .ok (.iconst 0, 1) := by decide +kernel
theorem d_Atom_evaluate_3 : decode b_Atom_evaluate 3 = .ok (.istore 5, 2) := by decide +kernel
theorem d_Atom_evaluate_5 : decode b_Atom_evaluate 5 = .ok (.iload 5, 2) := by decide +kernel
theorem d_Atom_evaluate_7 : decode b_Atom_evaluate 7 = .ok (.bipush 64, 2) := by decide +kernel
theorem d_Atom_evaluate_9 : decode b_Atom_evaluate 9 = .ok (.if_icmp .ge 53, 3) := by decide +kernel
theorem d_Atom_evaluate_12 : decode b_Atom_evaluate 12 = .ok (.aload_n 1, 1) := by decide +kernel
theorem d_Atom_evaluate_13 : decode b_Atom_evaluate 13 = .ok (.getfield 30, 3) := by decide +kernel
theorem d_Atom_evaluate_16 : decode b_Atom_evaluate 16 = .ok (.iload_n 2, 1) := by decide +kernel
theorem d_Atom_evaluate_17 : decode b_Atom_evaluate 17 = .ok (.laload, 1) := by decide +kernel
theorem d_Atom_evaluate_18 : decode b_Atom_evaluate 18 = .ok (.aload_n 0, 1) := by decide +kernel
theorem d_Atom_evaluate_19 : decode b_Atom_evaluate 19 = .ok (.getfield 13, 3) := by decide +kernel
theorem d_Atom_evaluate_22 : decode b_Atom_evaluate 22 = .ok (.aload_n 0, 1) := by decide +kernel
theorem d_Atom_evaluate_23 : decode b_Atom_evaluate 23 = .ok (.getfield 19, 3) := by decide +kernel
theorem d_Atom_evaluate_26 : decode b_Atom_evaluate 26 = .ok (.iload 5, 2) := by decide +kernel
theorem d_Atom_evaluate_28 : decode b_Atom_evaluate 28 = .ok (.invokestatic 34, 3) := by decide +kernel
theorem d_Atom_evaluate_31 : decode b_Atom_evaluate 31 = .ok (.aload_n 0, 1) := by decide +kernel
theorem d_Atom_evaluate_32 : decode b_Atom_evaluate 32 = .ok (.getfield 22, 3) := by decide +kernel
theorem d_Atom_evaluate_35 : decode b_Atom_evaluate 35 = .ok (.iload 5, 2) := by decide +kernel
theorem d_Atom_evaluate_37 : decode b_Atom_evaluate 37 = .ok (.invokestatic 34, 3) := by decide +kernel
theorem d_Atom_evaluate_40 : decode b_Atom_evaluate 40 = .ok (.invokestatic 37, 3) := by decide +kernel
theorem d_Atom_evaluate_43 : decode b_Atom_evaluate 43 = .ok (.land, 1) := by decide +kernel
theorem d_Atom_evaluate_44 : decode b_Atom_evaluate 44 = .ok (.lconst 0, 1) := by decide +kernel
theorem d_Atom_evaluate_45 : decode b_Atom_evaluate 45 = .ok (.lcmp, 1) := by decide +kernel
theorem d_Atom_evaluate_46 : decode b_Atom_evaluate 46 = .ok (.ifCond .eq 10, 3) := by decide +kernel
theorem d_Atom_evaluate_49 : decode b_Atom_evaluate 49 = .ok (.lload_n 3, 1) := by decide +kernel
theorem d_Atom_evaluate_50 : decode b_Atom_evaluate 50 = .ok (.lconst 1, 1) := by decide +kernel
theorem d_Atom_evaluate_51 : decode b_Atom_evaluate 51 = .ok (.iload 5, 2) := by decide +kernel
theorem d_Atom_evaluate_53 : decode b_Atom_evaluate 53 = .ok (.lshl, 1) := by decide +kernel
theorem d_Atom_evaluate_54 : decode b_Atom_evaluate 54 = .ok (.lor, 1) := by decide +kernel
theorem d_Atom_evaluate_55 : decode b_Atom_evaluate 55 = .ok (.lstore_n 3, 1) := by decide +kernel
theorem d_Atom_evaluate_56 : decode b_Atom_evaluate 56 = .ok (.iinc 5 1, 3) := by decide +kernel
theorem d_Atom_evaluate_59 : decode b_Atom_evaluate 59 = .ok (.goto (-54), 3) := by decide +kernel
theorem d_Atom_evaluate_62 : decode b_Atom_evaluate 62 = .ok (.lload_n 3, 1) := by decide +kernel
theorem d_Atom_evaluate_63 : decode b_Atom_evaluate 63 = .ok (.lreturn, 1) := by decide +kernel
theorem d_M_valueOf_0 : decode b_M_valueOf 0 = .ok (.iload_n 0, 1) := by decide +kernel
theorem d_M_valueOf_1 : decode b_M_valueOf 1 = .ok (.invokestatic 66, 3) := by decide +kernel
theorem d_M_valueOf_4 : decode b_M_valueOf 4 = .ok (.ifCond .eq 13, 3) := by decide +kernel
theorem d_M_valueOf_7 : decode b_M_valueOf 7 = .ok (.iload_n 1, 1) := by decide +kernel
theorem d_M_valueOf_8 : decode b_M_valueOf 8 = .ok (.iconst 2, 1) := by decide +kernel
theorem d_M_valueOf_9 : decode b_M_valueOf 9 = .ok (.iload_n 0, 1) := by decide +kernel
theorem d_M_valueOf_10 : decode b_M_valueOf 10 = .ok (.imul, 1) := by decide +kernel
theorem d_M_valueOf_11 : decode b_M_valueOf 11 = .ok (.ishr, 1) := by decide +kernel
theorem d_M_valueOf_12 : decode b_M_valueOf 12 = .ok (.iconst 3, 1) := by decide +kernel
theorem d_M_valueOf_13 : decode b_M_valueOf 13 = .ok (.iand, 1) := by decide +kernel
theorem d_M_valueOf_14 : decode b_M_valueOf 14 = .ok (.goto 6, 3) := by decide +kernel
theorem d_M_valueOf_17 : decode b_M_valueOf 17 = .ok (.iload_n 0, 1) := by decide +kernel
theorem d_M_valueOf_18 : decode b_M_valueOf 18 = .ok (.iconst 4, 1) := by decide +kernel
theorem d_M_valueOf_19 : decode b_M_valueOf 19 = .ok (.isub, 1) := by decide +kernel
theorem d_M_valueOf_20 : decode b_M_valueOf 20 = .ok (.ireturn, 1) := by decide +kernel
theorem d_Comp_evaluate_0 : decode b_Comp_evaluate 0 = .ok (.lconst 0, 1) := by decide +kernel
theorem d_Comp_evaluate_1 : decode b_Comp_evaluate 1 = .ok (.lstore_n 3, 1) := by decide +kernel
theorem d_Comp_evaluate_2 : decode b_Comp_evaluate 2 = .ok (.iconst 0, 1) := by decide +kernel
theorem d_Comp_evaluate_3 : decode b_Comp_evaluate 3 = .ok (.istore 5, 2) := by decide +kernel
theorem d_Comp_evaluate_5 : decode b_Comp_evaluate 5 = .ok (.iload 5, 2) := by decide +kernel
theorem d_Comp_evaluate_7 : decode b_Comp_evaluate 7 = .ok (.bipush 64, 2) := by decide +kernel
theorem d_Comp_evaluate_9 : decode b_Comp_evaluate 9 = .ok (.if_icmp .ge 62, 3) := by decide +kernel
theorem d_Comp_evaluate_12 : decode b_Comp_evaluate 12 = .ok (.aload_n 0, 1) := by decide +kernel
theorem d_Comp_evaluate_13 : decode b_Comp_evaluate 13 = .ok (.getfield 23, 3) := by decide +kernel
theorem d_Comp_evaluate_16 : decode b_Comp_evaluate 16 = .ok (.iload 5, 2) := by decide +kernel
theorem d_Comp_evaluate_18 : decode b_Comp_evaluate 18 = .ok (.invokestatic 39, 3) := by decide +kernel
theorem d_Comp_evaluate_21 : decode b_Comp_evaluate 21 = .ok (.istore 6, 2) := by decide +kernel
theorem d_Comp_evaluate_23 : decode b_Comp_evaluate 23 = .ok (.aload_n 0, 1) := by decide +kernel
theorem d_Comp_evaluate_24 : decode b_Comp_evaluate 24 = .ok (.getfield 27, 3) := by decide +kernel
theorem d_Comp_evaluate_27 : decode b_Comp_evaluate 27 = .ok (.iload 5, 2) := by decide +kernel
theorem d_Comp_evaluate_29 : decode b_Comp_evaluate 29 = .ok (.invokestatic 39, 3) := by decide +kernel
theorem d_Comp_evaluate_32 : decode b_Comp_evaluate 32 = .ok (.istore 7, 2) := by decide +kernel
theorem d_Comp_evaluate_34 : decode b_Comp_evaluate 34 = .ok (.aload_n 0, 1) := by decide +kernel
theorem d_Comp_evaluate_35 : decode b_Comp_evaluate 35 = .ok (.getfield 19, 3) := by decide +kernel
theorem d_Comp_evaluate_38 : decode b_Comp_evaluate 38 = .ok (.ifCond .eq 13, 3) := by decide +kernel
theorem d_Comp_evaluate_41 : decode b_Comp_evaluate 41 = .ok (.iload 6, 2) := by decide +kernel
theorem d_Comp_evaluate_43 : decode b_Comp_evaluate 43 = .ok (.iload 7, 2) := by decide +kernel
theorem d_Comp_evaluate_45 : decode b_Comp_evaluate 45 = .ok (.if_icmp .ge 20, 3) := by decide +kernel
theorem d_Comp_evaluate_48 : decode b_Comp_evaluate 48 = .ok (.goto 10, 3) := by decide +kernel
theorem d_Comp_evaluate_51 : decode b_Comp_evaluate 51 = .ok (.iload 6, 2) := by decide +kernel
theorem d_Comp_evaluate_53 : decode b_Comp_evaluate 53 = .ok (.iload 7, 2) := by decide +kernel
theorem d_Comp_evaluate_55 : decode b_Comp_evaluate 55 = .ok (.if_icmp .ne 10, 3) := by decide +kernel
theorem d_Comp_evaluate_58 : decode b_Comp_evaluate 58 = .ok (.lload_n 3, 1) := by decide +kernel
theorem d_Comp_evaluate_59 : decode b_Comp_evaluate 59 = .ok (.lconst 1, 1) := by decide +kernel
theorem d_Comp_evaluate_60 : decode b_Comp_evaluate 60 = .ok (.iload 5, 2) := by decide +kernel
theorem d_Comp_evaluate_62 : decode b_Comp_evaluate 62 = .ok (.lshl, 1) := by decide +kernel
theorem d_Comp_evaluate_63 : decode b_Comp_evaluate 63 = .ok (.lor, 1) := by decide +kernel
theorem d_Comp_evaluate_64 : decode b_Comp_evaluate 64 = .ok (.lstore_n 3, 1) := by decide +kernel
theorem d_Comp_evaluate_65 : decode b_Comp_evaluate 65 = .ok (.iinc 5 1, 3) := by decide +kernel
theorem d_Comp_evaluate_68 : decode b_Comp_evaluate 68 = .ok (.goto (-63), 3) := by decide +kernel
theorem d_Comp_evaluate_71 : decode b_Comp_evaluate 71 = .ok (.lload_n 3, 1) := by decide +kernel
theorem d_Comp_evaluate_72 : decode b_Comp_evaluate 72 = .ok (.lreturn, 1) := by decide +kernel
theorem d_Exi_evaluate_0 : decode b_Exi_evaluate 0 = .ok (.aload_n 0, 1) := by decide +kernel
theorem d_Exi_evaluate_1 : decode b_Exi_evaluate 1 = .ok (.getfield 24, 3) := by decide +kernel
theorem d_Exi_evaluate_4 : decode b_Exi_evaluate 4 = .ok (.aload_n 0, 1) := by decide +kernel
theorem d_Exi_evaluate_5 : decode b_Exi_evaluate 5 = .ok (.getfield 24, 3) := by decide +kernel
theorem d_Exi_evaluate_8 : decode b_Exi_evaluate 8 = .ok (.aload_n 0, 1) := by decide +kernel
theorem d_Exi_evaluate_9 : decode b_Exi_evaluate 9 = .ok (.getfield 29, 3) := by decide +kernel
theorem d_Exi_evaluate_12 : decode b_Exi_evaluate 12 = .ok (.iload_n 2, 1) := by decide +kernel
theorem d_Exi_evaluate_13 : decode b_Exi_evaluate 13 = .ok (.invokevirtual 36, 3) := by decide +kernel
theorem d_Exi_evaluate_16 : decode b_Exi_evaluate 16 = .ok (.invokestatic 40, 3) := by decide +kernel
theorem d_Exi_evaluate_19 : decode b_Exi_evaluate 19 = .ok (.invokestatic 44, 3) := by decide +kernel
theorem d_Exi_evaluate_22 : decode b_Exi_evaluate 22 = .ok (.lreturn, 1) := by decide +kernel
theorem d_Form_setAt_0 : decode b_Form_setAt 0 = .ok (.aload_n 0, 1) := by decide +kernel
theorem d_Form_setAt_1 : decode b_Form_setAt 1 = .ok (.iload_n 1, 1) := by decide +kernel
theorem d_Form_setAt_2 : decode b_Form_setAt 2 = .ok (.invokevirtual 43, 3) := by decide +kernel
theorem d_Form_setAt_5 : decode b_Form_setAt 5 = .ok (.ifCond .eq 12, 3) := by decide +kernel
theorem d_Form_setAt_8 : decode b_Form_setAt 8 = .ok (.aload_n 0, 1) := by decide +kernel
theorem d_Form_setAt_9 : decode b_Form_setAt 9 = .ok (.getfield 9, 3) := by decide +kernel
theorem d_Form_setAt_12 : decode b_Form_setAt 12 = .ok (.iload_n 1, 1) := by decide +kernel
theorem d_Form_setAt_13 : decode b_Form_setAt 13 = .ok (.laload, 1) := by decide +kernel
theorem d_Form_setAt_14 : decode b_Form_setAt 14 = .ok (.goto 4, 3) := by decide +kernel
theorem d_Form_setAt_17 : decode b_Form_setAt 17 = .ok (.lconst 0, 1) := by decide +kernel
theorem d_Form_setAt_18 : decode b_Form_setAt 18 = .ok (.lreturn, 1) := by decide +kernel
theorem d_Form_isDecidedAt_0 : decode b_Form_isDecidedAt 0 = .ok (.iload_n 1, 1) := by decide +kernel
theorem d_Form_isDecidedAt_1 : decode b_Form_isDecidedAt 1 = .ok (.ifCond .lt 15, 3) := by decide +kernel
theorem d_Form_isDecidedAt_4 : decode b_Form_isDecidedAt 4 = .ok (.iload_n 1, 1) := by decide +kernel
theorem d_Form_isDecidedAt_5 : decode b_Form_isDecidedAt 5 = .ok (.aload_n 0, 1) := by decide +kernel
theorem d_Form_isDecidedAt_6 : decode b_Form_isDecidedAt 6 = .ok (.getfield 36, 3) := by decide +kernel
theorem d_Form_isDecidedAt_9 : decode b_Form_isDecidedAt 9 = .ok (.if_icmp .ge 7, 3) := by decide +kernel
theorem d_Form_isDecidedAt_12 : decode b_Form_isDecidedAt 12 = .ok (.iconst 1, 1) := by decide +kernel
theorem d_Form_isDecidedAt_13 : decode b_Form_isDecidedAt 13 = .ok (.goto 4, 3) := by decide +kernel
theorem d_Form_isDecidedAt_16 : decode b_Form_isDecidedAt 16 = .ok (.iconst 0, 1) := by decide +kernel
theorem d_Form_isDecidedAt_17 : decode b_Form_isDecidedAt 17 = .ok (.ireturn, 1) := by decide +kernel
theorem d_M_fold_0 : decode b_M_fold 0 = .ok (.iconst 1, 1) := by decide +kernel
theorem d_M_fold_1 : decode b_M_fold 1 = .ok (.iconst 2, 1) := by decide +kernel
theorem d_M_fold_2 : decode b_M_fold 2 = .ok (.iload_n 0, 1) := by decide +kernel
theorem d_M_fold_3 : decode b_M_fold 3 = .ok (.imul, 1) := by decide +kernel
theorem d_M_fold_4 : decode b_M_fold 4 = .ok (.ishl, 1) := by decide +kernel
theorem d_M_fold_5 : decode b_M_fold 5 = .ok (.istore_n 3, 1) := by decide +kernel
theorem d_M_fold_6 : decode b_M_fold 6 = .ok (.lload_n 1, 1) := by decide +kernel
theorem d_M_fold_7 : decode b_M_fold 7 = .ok (.lload_n 1, 1) := by decide +kernel
theorem d_M_fold_8 : decode b_M_fold 8 = .ok (.iload_n 3, 1) := by decide +kernel
theorem d_M_fold_9 : decode b_M_fold 9 = .ok (.lushr, 1) := by decide +kernel
theorem d_M_fold_10 : decode b_M_fold 10 = .ok (.lor, 1) := by decide +kernel
theorem d_M_fold_11 : decode b_M_fold 11 = .ok (.lload_n 1, 1) := by decide +kernel
theorem d_M_fold_12 : decode b_M_fold 12 = .ok (.iconst 2, 1) := by decide +kernel
theorem d_M_fold_13 : decode b_M_fold 13 = .ok (.iload_n 3, 1) := by decide +kernel
theorem d_M_fold_14 : decode b_M_fold 14 = .ok (.imul, 1) := by decide +kernel
theorem d_M_fold_15 : decode b_M_fold 15 = .ok (.lushr, 1) := by decide +kernel
theorem d_M_fold_16 : decode b_M_fold 16 = .ok (.lor, 1) := by decide +kernel
theorem d_M_fold_17 : decode b_M_fold 17 = .ok (.lload_n 1, 1) := by decide +kernel
theorem d_M_fold_18 : decode b_M_fold 18 = .ok (.iconst 3, 1) := by decide +kernel
theorem d_M_fold_19 : decode b_M_fold 19 = .ok (.iload_n 3, 1) := by decide +kernel
theorem d_M_fold_20 : decode b_M_fold 20 = .ok (.imul, 1) := by decide +kernel
theorem d_M_fold_21 : decode b_M_fold 21 = .ok (.lushr, 1) := by decide +kernel
theorem d_M_fold_22 : decode b_M_fold 22 = .ok (.lor, 1) := by decide +kernel
theorem d_M_fold_23 : decode b_M_fold 23 = .ok (.getstatic 182, 3) := by decide +kernel
theorem d_M_fold_26 : decode b_M_fold 26 = .ok (.iload_n 0, 1) := by decide +kernel
theorem d_M_fold_27 : decode b_M_fold 27 = .ok (.laload, 1) := by decide +kernel
theorem d_M_fold_28 : decode b_M_fold 28 = .ok (.land, 1) := by decide +kernel
theorem d_M_fold_29 : decode b_M_fold 29 = .ok (.lreturn, 1) := by decide +kernel
theorem d_M_unfold_0 : decode b_M_unfold 0 = .ok (.iconst 1, 1) := by decide +kernel
theorem d_M_unfold_1 : decode b_M_unfold 1 = .ok (.iconst 2, 1) := by decide +kernel
theorem d_M_unfold_2 : decode b_M_unfold 2 = .ok (.iload_n 0, 1) := by decide +kernel
theorem d_M_unfold_3 : decode b_M_unfold 3 = .ok (.imul, 1) := by decide +kernel
theorem d_M_unfold_4 : decode b_M_unfold 4 = .ok (.ishl, 1) := by decide +kernel
theorem d_M_unfold_5 : decode b_M_unfold 5 = .ok (.istore_n 3, 1) := by decide +kernel
theorem d_M_unfold_6 : decode b_M_unfold 6 = .ok (.lload_n 1, 1) := by decide +kernel
theorem d_M_unfold_7 : decode b_M_unfold 7 = .ok (.lload_n 1, 1) := by decide +kernel
theorem d_M_unfold_8 : decode b_M_unfold 8 = .ok (.iload_n 3, 1) := by decide +kernel
theorem d_M_unfold_9 : decode b_M_unfold 9 = .ok (.lshl, 1) := by decide +kernel
theorem d_M_unfold_10 : decode b_M_unfold 10 = .ok (.lor, 1) := by decide +kernel
theorem d_M_unfold_11 : decode b_M_unfold 11 = .ok (.lload_n 1, 1) := by decide +kernel
theorem d_M_unfold_12 : decode b_M_unfold 12 = .ok (.iconst 2, 1) := by decide +kernel
theorem d_M_unfold_13 : decode b_M_unfold 13 = .ok (.iload_n 3, 1) := by decide +kernel
theorem d_M_unfold_14 : decode b_M_unfold 14 = .ok (.imul, 1) := by decide +kernel
theorem d_M_unfold_15 : decode b_M_unfold 15 = .ok (.lshl, 1) := by decide +kernel
theorem d_M_unfold_16 : decode b_M_unfold 16 = .ok (.lor, 1) := by decide +kernel
theorem d_M_unfold_17 : decode b_M_unfold 17 = .ok (.lload_n 1, 1) := by decide +kernel
theorem d_M_unfold_18 : decode b_M_unfold 18 = .ok (.iconst 3, 1) := by decide +kernel
theorem d_M_unfold_19 : decode b_M_unfold 19 = .ok (.iload_n 3, 1) := by decide +kernel
theorem d_M_unfold_20 : decode b_M_unfold 20 = .ok (.imul, 1) := by decide +kernel
theorem d_M_unfold_21 : decode b_M_unfold 21 = .ok (.lshl, 1) := by decide +kernel
theorem d_M_unfold_22 : decode b_M_unfold 22 = .ok (.lor, 1) := by decide +kernel
theorem d_M_unfold_23 : decode b_M_unfold 23 = .ok (.lreturn, 1) := by decide +kernel
theorem d_Join_evaluate_0 : decode b_Join_evaluate 0 = .ok (.aload_n 0, 1) := by decide +kernel
theorem d_Join_evaluate_1 : decode b_Join_evaluate 1 = .ok (.getfield 21, 3) := by decide +kernel
theorem d_Join_evaluate_4 : decode b_Join_evaluate 4 = .ok (.ifCond .eq 23, 3) := by decide +kernel
theorem d_Join_evaluate_7 : decode b_Join_evaluate 7 = .ok (.aload_n 0, 1) := by decide +kernel
theorem d_Join_evaluate_8 : decode b_Join_evaluate 8 = .ok (.getfield 24, 3) := by decide +kernel
theorem d_Join_evaluate_11 : decode b_Join_evaluate 11 = .ok (.iload_n 2, 1) := by decide +kernel
theorem d_Join_evaluate_12 : decode b_Join_evaluate 12 = .ok (.invokevirtual 43, 3) := by decide +kernel
theorem d_Join_evaluate_15 : decode b_Join_evaluate 15 = .ok (.aload_n 0, 1) := by decide +kernel
theorem d_Join_evaluate_16 : decode b_Join_evaluate 16 = .ok (.getfield 28, 3) := by decide +kernel
theorem d_Join_evaluate_19 : decode b_Join_evaluate 19 = .ok (.iload_n 2, 1) := by decide +kernel
theorem d_Join_evaluate_20 : decode b_Join_evaluate 20 = .ok (.invokevirtual 43, 3) := by decide +kernel
theorem d_Join_evaluate_23 : decode b_Join_evaluate 23 = .ok (.land, 1) := by decide +kernel
theorem d_Join_evaluate_24 : decode b_Join_evaluate 24 = .ok (.goto 20, 3) := by decide +kernel
theorem d_Join_evaluate_27 : decode b_Join_evaluate 27 = .ok (.aload_n 0, 1) := by decide +kernel
theorem d_Join_evaluate_28 : decode b_Join_evaluate 28 = .ok (.getfield 24, 3) := by decide +kernel
theorem d_Join_evaluate_31 : decode b_Join_evaluate 31 = .ok (.iload_n 2, 1) := by decide +kernel
theorem d_Join_evaluate_32 : decode b_Join_evaluate 32 = .ok (.invokevirtual 43, 3) := by decide +kernel
theorem d_Join_evaluate_35 : decode b_Join_evaluate 35 = .ok (.aload_n 0, 1) := by decide +kernel
theorem d_Join_evaluate_36 : decode b_Join_evaluate 36 = .ok (.getfield 28, 3) := by decide +kernel
theorem d_Join_evaluate_39 : decode b_Join_evaluate 39 = .ok (.iload_n 2, 1) := by decide +kernel
theorem d_Join_evaluate_40 : decode b_Join_evaluate 40 = .ok (.invokevirtual 43, 3) := by decide +kernel
theorem d_Join_evaluate_43 : decode b_Join_evaluate 43 = .ok (.lor, 1) := by decide +kernel
theorem d_Join_evaluate_44 : decode b_Join_evaluate 44 = .ok (.lreturn, 1) := by decide +kernel
theorem d_Not_evaluate_0 : decode b_Not_evaluate 0 = .ok (.aload_n 0, 1) := by decide +kernel
theorem d_Not_evaluate_1 : decode b_Not_evaluate 1 = .ok (.getfield 15, 3) := by decide +kernel
theorem d_Not_evaluate_4 : decode b_Not_evaluate 4 = .ok (.iload_n 2, 1) := by decide +kernel
theorem d_Not_evaluate_5 : decode b_Not_evaluate 5 = .ok (.invokevirtual 24, 3) := by decide +kernel
theorem d_Not_evaluate_8 : decode b_Not_evaluate 8 = .ok (.ldc2_w 28, 3) := by decide +kernel
theorem d_Not_evaluate_11 : decode b_Not_evaluate 11 = .ok (.lxor, 1) := by decide +kernel
theorem d_Not_evaluate_12 : decode b_Not_evaluate 12 = .ok (.lreturn, 1) := by decide +kernel
theorem d_Prev_evaluate_0 : decode b_Prev_evaluate 0 = .ok (.iload_n 2, 1) := by decide +kernel
theorem d_Prev_evaluate_1 : decode b_Prev_evaluate 1 = .ok (.ifCond .le 38, 3) := by decide +kernel
theorem d_Prev_evaluate_4 : decode b_Prev_evaluate 4 = .ok (.aload_n 1, 1) := by decide +kernel
theorem d_Prev_evaluate_5 : decode b_Prev_evaluate 5 = .ok (.iload_n 2, 1) := by decide +kernel
theorem d_Prev_evaluate_6 : decode b_Prev_evaluate 6 = .ok (.iconst 1, 1) := by decide +kernel
theorem d_Prev_evaluate_7 : decode b_Prev_evaluate 7 = .ok (.isub, 1) := by decide +kernel
theorem d_Prev_evaluate_8 : decode b_Prev_evaluate 8 = .ok (.iload_n 2, 1) := by decide +kernel
theorem d_Prev_evaluate_9 : decode b_Prev_evaluate 9 = .ok (.invokevirtual 44, 3) := by decide +kernel
theorem d_Prev_evaluate_12 : decode b_Prev_evaluate 12 = .ok (.aload_n 0, 1) := by decide +kernel
theorem d_Prev_evaluate_13 : decode b_Prev_evaluate 13 = .ok (.getfield 18, 3) := by decide +kernel
theorem d_Prev_evaluate_16 : decode b_Prev_evaluate 16 = .ok (.aload_n 0, 1) := by decide +kernel
theorem d_Prev_evaluate_17 : decode b_Prev_evaluate 17 = .ok (.getfield 23, 3) := by decide +kernel
theorem d_Prev_evaluate_20 : decode b_Prev_evaluate 20 = .ok (.invokestatic 47, 3) := by decide +kernel
theorem d_Prev_evaluate_23 : decode b_Prev_evaluate 23 = .ok (.ifCond .eq 16, 3) := by decide +kernel
theorem d_Prev_evaluate_26 : decode b_Prev_evaluate 26 = .ok (.aload_n 0, 1) := by decide +kernel
theorem d_Prev_evaluate_27 : decode b_Prev_evaluate 27 = .ok (.getfield 26, 3) := by decide +kernel
theorem d_Prev_evaluate_30 : decode b_Prev_evaluate 30 = .ok (.iload_n 2, 1) := by decide +kernel
theorem d_Prev_evaluate_31 : decode b_Prev_evaluate 31 = .ok (.iconst 1, 1) := by decide +kernel
theorem d_Prev_evaluate_32 : decode b_Prev_evaluate 32 = .ok (.isub, 1) := by decide +kernel
theorem d_Prev_evaluate_33 : decode b_Prev_evaluate 33 = .ok (.invokevirtual 53, 3) := by decide +kernel
theorem d_Prev_evaluate_36 : decode b_Prev_evaluate 36 = .ok (.goto 4, 3) := by decide +kernel
theorem d_Prev_evaluate_39 : decode b_Prev_evaluate 39 = .ok (.lconst 0, 1) := by decide +kernel
theorem d_Prev_evaluate_40 : decode b_Prev_evaluate 40 = .ok (.lreturn, 1) := by decide +kernel
theorem d_M_liesIn_0 : decode b_M_liesIn 0 = .ok (.iload_n 1, 1) := by decide +kernel
theorem d_M_liesIn_1 : decode b_M_liesIn 1 = .ok (.iload_n 0, 1) := by decide +kernel
theorem d_M_liesIn_2 : decode b_M_liesIn 2 = .ok (.if_icmp .gt 17, 3) := by decide +kernel
theorem d_M_liesIn_5 : decode b_M_liesIn 5 = .ok (.iload_n 2, 1) := by decide +kernel
theorem d_M_liesIn_6 : decode b_M_liesIn 6 = .ok (.iconst (-1), 1) := by decide +kernel
theorem d_M_liesIn_7 : decode b_M_liesIn 7 = .ok (.if_icmp .eq 8, 3) := by decide +kernel
theorem d_M_liesIn_10 : decode b_M_liesIn 10 = .ok (.iload_n 0, 1) := by decide +kernel
theorem d_M_liesIn_11 : decode b_M_liesIn 11 = .ok (.iload_n 2, 1) := by decide +kernel
theorem d_M_liesIn_12 : decode b_M_liesIn 12 = .ok (.if_icmp .gt 7, 3) := by decide +kernel
theorem d_M_liesIn_15 : decode b_M_liesIn 15 = .ok (.iconst 1, 1) := by decide +kernel
theorem d_M_liesIn_16 : decode b_M_liesIn 16 = .ok (.goto 4, 3) := by decide +kernel
theorem d_M_liesIn_19 : decode b_M_liesIn 19 = .ok (.iconst 0, 1) := by decide +kernel
theorem d_M_liesIn_20 : decode b_M_liesIn 20 = .ok (.ireturn, 1) := by decide +kernel
theorem d_Since_evaluate_0 : decode b_Since_evaluate 0 = .ok (.lconst 0, 1) := by decide +kernel
theorem d_Since_evaluate_1 : decode b_Since_evaluate 1 = .ok (.lstore_n 3, 1) := by decide +kernel
theorem d_Since_evaluate_2 : decode b_Since_evaluate 2 = .ok (.ldc2_w 44, 3) := by decide +kernel
theorem d_Since_evaluate_5 : decode b_Since_evaluate 5 = .ok (.lstore 5, 2) := by decide +kernel
theorem d_Since_evaluate_7 : decode b_Since_evaluate 7 = .ok (.iload_n 2, 1) := by decide +kernel
theorem d_Since_evaluate_8 : decode b_Since_evaluate 8 = .ok (.istore 7, 2) := by decide +kernel
theorem d_Since_evaluate_10 : decode b_Since_evaluate 10 = .ok (.iload 7, 2) := by decide +kernel
theorem d_Since_evaluate_12 : decode b_Since_evaluate 12 = .ok (.ifCond .lt 59, 3) := by decide +kernel
theorem d_Since_evaluate_15 : decode b_Since_evaluate 15 = .ok (.aload_n 1, 1) := by decide +kernel
theorem d_Since_evaluate_16 : decode b_Since_evaluate 16 = .ok (.iload 7, 2) := by decide +kernel
theorem d_Since_evaluate_18 : decode b_Since_evaluate 18 = .ok (.iload_n 2, 1) := by decide +kernel
theorem d_Since_evaluate_19 : decode b_Since_evaluate 19 = .ok (.invokevirtual 46, 3) := by decide +kernel
theorem d_Since_evaluate_22 : decode b_Since_evaluate 22 = .ok (.aload_n 0, 1) := by decide +kernel
theorem d_Since_evaluate_23 : decode b_Since_evaluate 23 = .ok (.getfield 20, 3) := by decide +kernel
theorem d_Since_evaluate_26 : decode b_Since_evaluate 26 = .ok (.aload_n 0, 1) := by decide +kernel
theorem d_Since_evaluate_27 : decode b_Since_evaluate 27 = .ok (.getfield 25, 3) := by decide +kernel
theorem d_Since_evaluate_30 : decode b_Since_evaluate 30 = .ok (.invokestatic 51, 3) := by decide +kernel
theorem d_Since_evaluate_33 : decode b_Since_evaluate 33 = .ok (.ifCond .eq 18, 3) := by decide +kernel
theorem d_Since_evaluate_36 : decode b_Since_evaluate 36 = .ok (.lload_n 3, 1) := by decide +kernel
theorem d_Since_evaluate_37 : decode b_Since_evaluate 37 = .ok (.lload 5, 2) := by decide +kernel
theorem d_Since_evaluate_39 : decode b_Since_evaluate 39 = .ok (.aload_n 0, 1) := by decide +kernel
theorem d_Since_evaluate_40 : decode b_Since_evaluate 40 = .ok (.getfield 32, 3) := by decide +kernel
theorem d_Since_evaluate_43 : decode b_Since_evaluate 43 = .ok (.iload 7, 2) := by decide +kernel
theorem d_Since_evaluate_45 : decode b_Since_evaluate 45 = .ok (.invokevirtual 55, 3) := by decide +kernel
theorem d_Since_evaluate_48 : decode b_Since_evaluate 48 = .ok (.land, 1) := by decide +kernel
theorem d_Since_evaluate_49 : decode b_Since_evaluate 49 = .ok (.lor, 1) := by decide +kernel
theorem d_Since_evaluate_50 : decode b_Since_evaluate 50 = .ok (.lstore_n 3, 1) := by decide +kernel
theorem d_Since_evaluate_51 : decode b_Since_evaluate 51 = .ok (.lload 5, 2) := by decide +kernel
theorem d_Since_evaluate_53 : decode b_Since_evaluate 53 = .ok (.aload_n 0, 1) := by decide +kernel
theorem d_Since_evaluate_54 : decode b_Since_evaluate 54 = .ok (.getfield 28, 3) := by decide +kernel
theorem d_Since_evaluate_57 : decode b_Since_evaluate 57 = .ok (.iload 7, 2) := by decide +kernel
theorem d_Since_evaluate_59 : decode b_Since_evaluate 59 = .ok (.invokevirtual 55, 3) := by decide +kernel
theorem d_Since_evaluate_62 : decode b_Since_evaluate 62 = .ok (.land, 1) := by decide +kernel
theorem d_Since_evaluate_63 : decode b_Since_evaluate 63 = .ok (.lstore 5, 2) := by decide +kernel
theorem d_Since_evaluate_65 : decode b_Since_evaluate 65 = .ok (.iinc 7 (-1), 3) := by decide +kernel
theorem d_Since_evaluate_68 : decode b_Since_evaluate 68 = .ok (.goto (-58), 3) := by decide +kernel
theorem d_Since_evaluate_71 : decode b_Since_evaluate 71 = .ok (.lload_n 3, 1) := by decide +kernel
theorem d_Since_evaluate_72 : decode b_Since_evaluate 72 = .ok (.lreturn, 1) := by decide +kernel
theorem d_Until_evaluate_0 : decode b_Until_evaluate 0 = .ok (.lconst 0, 1) := by decide +kernel
theorem d_Until_evaluate_1 : decode b_Until_evaluate 1 = .ok (.lstore_n 3, 1) := by decide +kernel
theorem d_Until_evaluate_2 : decode b_Until_evaluate 2 = .ok (.ldc2_w 52, 3) := by decide +kernel
theorem d_Until_evaluate_5 : decode b_Until_evaluate 5 = .ok (.lstore 5, 2) := by decide +kernel
theorem d_Until_evaluate_7 : decode b_Until_evaluate 7 = .ok (.iload_n 2, 1) := by decide +kernel
theorem d_Until_evaluate_8 : decode b_Until_evaluate 8 = .ok (.istore 7, 2) := by decide +kernel
theorem d_Until_evaluate_10 : decode b_Until_evaluate 10 = .ok (.iload 7, 2) := by decide +kernel
theorem d_Until_evaluate_12 : decode b_Until_evaluate 12 = .ok (.aload_n 1, 1) := by decide +kernel
theorem d_Until_evaluate_13 : decode b_Until_evaluate 13 = .ok (.getfield 44, 3) := by decide +kernel
theorem d_Until_evaluate_16 : decode b_Until_evaluate 16 = .ok (.if_icmp .ge 66, 3) := by decide +kernel
theorem d_Until_evaluate_19 : decode b_Until_evaluate 19 = .ok (.aload_n 1, 1) := by decide +kernel
theorem d_Until_evaluate_20 : decode b_Until_evaluate 20 = .ok (.iload_n 2, 1) := by decide +kernel
theorem d_Until_evaluate_21 : decode b_Until_evaluate 21 = .ok (.iload 7, 2) := by decide +kernel
theorem d_Until_evaluate_23 : decode b_Until_evaluate 23 = .ok (.invokevirtual 49, 3) := by decide +kernel
theorem d_Until_evaluate_26 : decode b_Until_evaluate 26 = .ok (.aload_n 0, 1) := by decide +kernel
theorem d_Until_evaluate_27 : decode b_Until_evaluate 27 = .ok (.getfield 25, 3) := by decide +kernel
theorem d_Until_evaluate_30 : decode b_Until_evaluate 30 = .ok (.if_icmp .gt 52, 3) := by decide +kernel
theorem d_Until_evaluate_33 : decode b_Until_evaluate 33 = .ok (.aload_n 1, 1) := by decide +kernel
theorem d_Until_evaluate_34 : decode b_Until_evaluate 34 = .ok (.iload_n 2, 1) := by decide +kernel
theorem d_Until_evaluate_35 : decode b_Until_evaluate 35 = .ok (.iload 7, 2) := by decide +kernel
theorem d_Until_evaluate_37 : decode b_Until_evaluate 37 = .ok (.invokevirtual 49, 3) := by decide +kernel
theorem d_Until_evaluate_40 : decode b_Until_evaluate 40 = .ok (.aload_n 0, 1) := by decide +kernel
theorem d_Until_evaluate_41 : decode b_Until_evaluate 41 = .ok (.getfield 20, 3) := by decide +kernel
theorem d_Until_evaluate_44 : decode b_Until_evaluate 44 = .ok (.if_icmp .lt 18, 3) := by decide +kernel
theorem d_Until_evaluate_47 : decode b_Until_evaluate 47 = .ok (.lload_n 3, 1) := by decide +kernel
theorem d_Until_evaluate_48 : decode b_Until_evaluate 48 = .ok (.lload 5, 2) := by decide +kernel
theorem d_Until_evaluate_50 : decode b_Until_evaluate 50 = .ok (.aload_n 0, 1) := by decide +kernel
theorem d_Until_evaluate_51 : decode b_Until_evaluate 51 = .ok (.getfield 32, 3) := by decide +kernel
theorem d_Until_evaluate_54 : decode b_Until_evaluate 54 = .ok (.iload 7, 2) := by decide +kernel
theorem d_Until_evaluate_56 : decode b_Until_evaluate 56 = .ok (.invokevirtual 54, 3) := by decide +kernel
theorem d_Until_evaluate_59 : decode b_Until_evaluate 59 = .ok (.land, 1) := by decide +kernel
theorem d_Until_evaluate_60 : decode b_Until_evaluate 60 = .ok (.lor, 1) := by decide +kernel
theorem d_Until_evaluate_61 : decode b_Until_evaluate 61 = .ok (.lstore_n 3, 1) := by decide +kernel
theorem d_Until_evaluate_62 : decode b_Until_evaluate 62 = .ok (.lload 5, 2) := by decide +kernel
theorem d_Until_evaluate_64 : decode b_Until_evaluate 64 = .ok (.aload_n 0, 1) := by decide +kernel
theorem d_Until_evaluate_65 : decode b_Until_evaluate 65 = .ok (.getfield 28, 3) := by decide +kernel
theorem d_Until_evaluate_68 : decode b_Until_evaluate 68 = .ok (.iload 7, 2) := by decide +kernel
theorem d_Until_evaluate_70 : decode b_Until_evaluate 70 = .ok (.invokevirtual 54, 3) := by decide +kernel
theorem d_Until_evaluate_73 : decode b_Until_evaluate 73 = .ok (.land, 1) := by decide +kernel
theorem d_Until_evaluate_74 : decode b_Until_evaluate 74 = .ok (.lstore 5, 2) := by decide +kernel
theorem d_Until_evaluate_76 : decode b_Until_evaluate 76 = .ok (.iinc 7 1, 3) := by decide +kernel
theorem d_Until_evaluate_79 : decode b_Until_evaluate 79 = .ok (.goto (-69), 3) := by decide +kernel
theorem d_Until_evaluate_82 : decode b_Until_evaluate 82 = .ok (.lload_n 3, 1) := by decide +kernel
theorem d_Until_evaluate_83 : decode b_Until_evaluate 83 = .ok (.lreturn, 1) := by decide +kernel
theorem d_M_stop_0 : decode b_M_stop 0 = .ok (.aload_n 0, 1) := by decide +kernel
theorem d_M_stop_1 : decode b_M_stop 1 = .ok (.iconst 0, 1) := by decide +kernel
theorem d_M_stop_2 : decode b_M_stop 2 = .ok (.putfield 23, 3) := by decide +kernel
theorem d_M_stop_5 : decode b_M_stop 5 = .ok (.aload_n 0, 1) := by decide +kernel
theorem d_M_stop_6 : decode b_M_stop 6 = .ok (.getfield 19, 3) := by decide +kernel
theorem d_M_stop_9 : decode b_M_stop 9 = .ok (.invokevirtual 141, 3) := by decide +kernel
theorem d_M_stop_12 : decode b_M_stop 12 = .ok (.iconst 0, 1) := by decide +kernel
theorem d_M_stop_13 : decode b_M_stop 13 = .ok (.istore_n 2, 1) := by decide +kernel
theorem d_M_stop_14 : decode b_M_stop 14 = .ok (.iload_n 2, 1) := by decide +kernel
theorem d_M_stop_15 : decode b_M_stop 15 = .ok (.aload_n 0, 1) := by decide +kernel
theorem d_M_stop_16 : decode b_M_stop 16 = .ok (.getfield 10, 3) := by decide +kernel
theorem d_M_stop_19 : decode b_M_stop 19 = .ok (.invokevirtual 127, 3) := by decide +kernel
theorem d_M_stop_22 : decode b_M_stop 22 = .ok (.if_icmp .ge 23, 3) := by decide +kernel
theorem d_M_stop_25 : decode b_M_stop 25 = .ok (.aload_n 0, 1) := by decide +kernel
theorem d_M_stop_26 : decode b_M_stop 26 = .ok (.getfield 10, 3) := by decide +kernel
theorem d_M_stop_29 : decode b_M_stop 29 = .ok (.iload_n 2, 1) := by decide +kernel
theorem d_M_stop_30 : decode b_M_stop 30 = .ok (.invokevirtual 131, 3) := by decide +kernel
theorem d_M_stop_33 : decode b_M_stop 33 = .ok (.checkcast 95, 3) := by decide +kernel
theorem d_M_stop_36 : decode b_M_stop 36 = .ok (.invokevirtual 144, 3) := by decide +kernel
theorem d_M_stop_39 : decode b_M_stop 39 = .ok (.iinc 2 1, 3) := by decide +kernel
theorem d_M_stop_42 : decode b_M_stop 42 = .ok (.goto (-28), 3) := by decide +kernel
theorem d_M_stop_45 : decode b_M_stop 45 = .ok (.iload_n 1, 1) := by decide +kernel
theorem d_M_stop_46 : decode b_M_stop 46 = .ok (.ifCond .eq 10, 3) := by decide +kernel
theorem d_M_stop_49 : decode b_M_stop 49 = .ok (.aload_n 0, 1) := by decide +kernel
theorem d_M_stop_50 : decode b_M_stop 50 = .ok (.getfield 10, 3) := by decide +kernel
theorem d_M_stop_53 : decode b_M_stop 53 = .ok (.invokevirtual 147, 3) := by decide +kernel
theorem d_M_stop_56 : decode b_M_stop 56 = .ok (.return_, 1) := by decide +kernel
theorem d_Log_clear_0 : decode b_Log_clear 0 = .ok (.aload_n 0, 1) := by decide +kernel
theorem d_Log_clear_1 : decode b_Log_clear 1 = .ok (.iconst 0, 1) := by decide +kernel
theorem d_Log_clear_2 : decode b_Log_clear 2 = .ok (.putfield 27, 3) := by decide +kernel
theorem d_Log_clear_5 : decode b_Log_clear 5 = .ok (.aload_n 0, 1) := by decide +kernel
theorem d_Log_clear_6 : decode b_Log_clear 6 = .ok (.lconst 0, 1) := by decide +kernel
theorem d_Log_clear_7 : decode b_Log_clear 7 = .ok (.putfield 19, 3) := by decide +kernel
theorem d_Log_clear_10 : decode b_Log_clear 10 = .ok (.return_, 1) := by decide +kernel
theorem d_Form_forget_0 : decode b_Form_forget 0 = .ok (.aload_n 0, 1) := by decide +kernel
theorem d_Form_forget_1 : decode b_Form_forget 1 = .ok (.iconst 0, 1) := by decide +kernel
theorem d_Form_forget_2 : decode b_Form_forget 2 = .ok (.putfield 36, 3) := by decide +kernel
theorem d_Form_forget_5 : decode b_Form_forget 5 = .ok (.return_, 1) := by decide +kernel
theorem d_M_progress_0 : decode b_M_progress 0 = .ok (.aload_n 0, 1) := by decide +kernel
theorem d_M_progress_1 : decode b_M_progress 1 = .ok (.iload_n 1, 1) := by decide +kernel
theorem d_M_progress_2 : decode b_M_progress 2 = .ok (.invokevirtual 52, 3) := by decide +kernel
theorem d_M_progress_5 : decode b_M_progress 5 = .ok (.astore_n 2, 1) := by decide +kernel
theorem d_M_progress_6 : decode b_M_progress 6 = .ok (.aload_n 2, 1) := by decide +kernel
theorem d_M_progress_7 : decode b_M_progress 7 = .ok (.ifnonnull 7, 3) := by decide +kernel
theorem d_M_progress_10 : decode b_M_progress 10 = .ok (.iconst (-1), 1) := by decide +kernel
theorem d_M_progress_11 : decode b_M_progress 11 = .ok (.goto 7, 3) := by decide +kernel
theorem d_M_progress_14 : decode b_M_progress 14 = .ok (.aload_n 2, 1) := by decide +kernel
theorem d_M_progress_15 : decode b_M_progress 15 = .ok (.getfield 148, 3) := by decide +kernel
theorem d_M_progress_18 : decode b_M_progress 18 = .ok (.ireturn, 1) := by decide +kernel
theorem d_M_satisfied_0 : decode b_M_satisfied 0 = .ok (.aload_n 0, 1) := by decide +kernel
theorem d_M_satisfied_1 : decode b_M_satisfied 1 = .ok (.iload_n 1, 1) := by decide +kernel
theorem d_M_satisfied_2 : decode b_M_satisfied 2 = .ok (.invokevirtual 52, 3) := by decide +kernel
theorem d_M_satisfied_5 : decode b_M_satisfied 5 = .ok (.astore_n 3, 1) := by decide +kernel
theorem d_M_satisfied_6 : decode b_M_satisfied 6 = .ok (.aload_n 3, 1) := by decide +kernel
theorem d_M_satisfied_7 : decode b_M_satisfied 7 = .ok (.ifnonnull 7, 3) := by decide +kernel
theorem d_M_satisfied_10 : decode b_M_satisfied 10 = .ok (.lconst 0, 1) := by decide +kernel
theorem d_M_satisfied_11 : decode b_M_satisfied 11 = .ok (.goto 8, 3) := by decide +kernel
theorem d_M_satisfied_14 : decode b_M_satisfied 14 = .ok (.aload_n 3, 1) := by decide +kernel
theorem d_M_satisfied_15 : decode b_M_satisfied 15 = .ok (.iload_n 2, 1) := by decide +kernel
theorem d_M_satisfied_16 : decode b_M_satisfied 16 = .ok (.invokevirtual 151, 3) := by decide +kernel
theorem d_M_satisfied_19 : decode b_M_satisfied 19 = .ok (.lreturn, 1) := by decide +kernel
theorem d_M_rows_0 : decode b_M_rows 0 = .ok (.aload_n 0, 1) := by decide +kernel
theorem d_M_rows_1 : decode b_M_rows 1 = .ok (.iload_n 1, 1) := by decide +kernel
theorem d_M_rows_2 : decode b_M_rows 2 = .ok (.invokevirtual 52, 3) := by decide +kernel
theorem d_M_rows_5 : decode b_M_rows 5 = .ok (.astore_n 3, 1) := by decide +kernel
theorem d_M_rows_6 : decode b_M_rows 6 = .ok (.aload_n 3, 1) := by decide +kernel
theorem d_M_rows_7 : decode b_M_rows 7 = .ok (.ifnull 11, 3) := by decide +kernel
theorem d_M_rows_10 : decode b_M_rows 10 = .ok (.aload_n 3, 1) := by decide +kernel
theorem d_M_rows_11 : decode b_M_rows 11 = .ok (.iload_n 2, 1) := by decide +kernel
theorem d_M_rows_12 : decode b_M_rows 12 = .ok (.invokevirtual 155, 3) := by decide +kernel
theorem d_M_rows_15 : decode b_M_rows 15 = .ok (.ifCond .ne 5, 3) := by decide +kernel
theorem d_M_rows_18 : decode b_M_rows 18 = .ok (.iconst (-1), 1) := by decide +kernel
theorem d_M_rows_19 : decode b_M_rows 19 = .ok (.ireturn, 1) := by decide +kernel
theorem d_M_rows_20 : decode b_M_rows 20 = .ok (.aload_n 3, 1) := by decide +kernel
theorem d_M_rows_21 : decode b_M_rows 21 = .ok (.iload_n 2, 1) := by decide +kernel
theorem d_M_rows_22 : decode b_M_rows 22 = .ok (.invokevirtual 151, 3) := by decide +kernel
theorem d_M_rows_25 : decode b_M_rows 25 = .ok (.lstore 4, 2) := by decide +kernel
theorem d_M_rows_27 : decode b_M_rows 27 = .ok (.iconst 0, 1) := by decide +kernel
theorem d_M_rows_28 : decode b_M_rows 28 = .ok (.istore 6, 2) := by decide +kernel
theorem d_M_rows_30 : decode b_M_rows 30 = .ok (.iload 6, 2) := by decide +kernel
theorem d_M_rows_32 : decode b_M_rows 32 = .ok (.iconst 3, 1) := by decide +kernel
theorem d_M_rows_33 : decode b_M_rows 33 = .ok (.if_icmp .ge 31, 3) := by decide +kernel
theorem d_M_rows_36 : decode b_M_rows 36 = .ok (.aload_n 3, 1) := by decide +kernel
theorem d_M_rows_37 : decode b_M_rows 37 = .ok (.getfield 94, 3) := by decide +kernel
theorem d_M_rows_40 : decode b_M_rows 40 = .ok (.iload 6, 2) := by decide +kernel
theorem d_M_rows_42 : decode b_M_rows 42 = .ok (.invokestatic 158, 3) := by decide +kernel
theorem d_M_rows_45 : decode b_M_rows 45 = .ok (.iand, 1) := by decide +kernel
theorem d_M_rows_46 : decode b_M_rows 46 = .ok (.ifCond .ne 12, 3) := by decide +kernel
theorem d_M_rows_49 : decode b_M_rows 49 = .ok (.iload 6, 2) := by decide +kernel
theorem d_M_rows_51 : decode b_M_rows 51 = .ok (.lload 4, 2) := by decide +kernel
theorem d_M_rows_53 : decode b_M_rows 53 = .ok (.invokestatic 162, 3) := by decide +kernel
theorem d_M_rows_56 : decode b_M_rows 56 = .ok (.lstore 4, 2) := by decide +kernel
theorem d_M_rows_58 : decode b_M_rows 58 = .ok (.iinc 6 1, 3) := by decide +kernel
theorem d_M_rows_61 : decode b_M_rows 61 = .ok (.goto (-31), 3) := by decide +kernel
theorem d_M_rows_64 : decode b_M_rows 64 = .ok (.lload 4, 2) := by decide +kernel
theorem d_M_rows_66 : decode b_M_rows 66 = .ok (.invokestatic 166, 3) := by decide +kernel
theorem d_M_rows_69 : decode b_M_rows 69 = .ok (.ireturn, 1) := by decide +kernel
theorem d_AL_init_0 : decode b_AL_init 0 = .ok (.aload_n 0, 1) := by decide +kernel
theorem d_AL_init_1 : decode b_AL_init 1 = .ok (.invokespecial 1, 3) := by decide +kernel
theorem d_AL_init_4 : decode b_AL_init 4 = .ok (.aload_n 0, 1) := by decide +kernel
theorem d_AL_init_5 : decode b_AL_init 5 = .ok (.getstatic 39, 3) := by decide +kernel
theorem d_AL_init_8 : decode b_AL_init 8 = .ok (.putfield 9, 3) := by decide +kernel
theorem d_AL_init_11 : decode b_AL_init 11 = .ok (.return_, 1) := by decide +kernel
theorem d_AbsL_init_0 : decode b_AbsL_init 0 = .ok (.aload_n 0, 1) := by decide +kernel
theorem d_AbsL_init_1 : decode b_AbsL_init 1 = .ok (.invokespecial 1, 3) := by decide +kernel
theorem d_AbsL_init_4 : decode b_AbsL_init 4 = .ok (.aload_n 0, 1) := by decide +kernel
theorem d_AbsL_init_5 : decode b_AbsL_init 5 = .ok (.iconst 0, 1) := by decide +kernel
theorem d_AbsL_init_6 : decode b_AbsL_init 6 = .ok (.putfield 7, 3) := by decide +kernel
theorem d_AbsL_init_9 : decode b_AbsL_init 9 = .ok (.return_, 1) := by decide +kernel
theorem d_AbsC_init_0 : decode b_AbsC_init 0 = .ok (.aload_n 0, 1) := by decide +kernel
theorem d_AbsC_init_1 : decode b_AbsC_init 1 = .ok (.invokespecial 1, 3) := by decide +kernel
theorem d_AbsC_init_4 : decode b_AbsC_init 4 = .ok (.return_, 1) := by decide +kernel
theorem d_AL_size_0 : decode b_AL_size 0 = .ok (.aload_n 0, 1) := by decide +kernel
theorem d_AL_size_1 : decode b_AL_size 1 = .ok (.getfield 48, 3) := by decide +kernel
theorem d_AL_size_4 : decode b_AL_size 4 = .ok (.ireturn, 1) := by decide +kernel
theorem d_AL_add_0 : decode b_AL_add 0 = .ok (.aload_n 0, 1) := by decide +kernel
theorem d_AL_add_1 : decode b_AL_add 1 = .ok (.dup, 1) := by decide +kernel
theorem d_AL_add_2 : decode b_AL_add 2 = .ok (.getfield 63, 3) := by decide +kernel
theorem d_AL_add_5 : decode b_AL_add 5 = .ok (.iconst 1, 1) := by decide +kernel
theorem d_AL_add_6 : decode b_AL_add 6 = .ok (.iadd, 1) := by decide +kernel
theorem d_AL_add_7 : decode b_AL_add 7 = .ok (.putfield 63, 3) := by decide +kernel
theorem d_AL_add_10 : decode b_AL_add 10 = .ok (.aload_n 0, 1) := by decide +kernel
theorem d_AL_add_11 : decode b_AL_add 11 = .ok (.aload_n 1, 1) := by decide +kernel
theorem d_AL_add_12 : decode b_AL_add 12 = .ok (.aload_n 0, 1) := by decide +kernel
theorem d_AL_add_13 : decode b_AL_add 13 = .ok (.getfield 9, 3) := by decide +kernel
theorem d_AL_add_16 : decode b_AL_add 16 = .ok (.aload_n 0, 1) := by decide +kernel
theorem d_AL_add_17 : decode b_AL_add 17 = .ok (.getfield 48, 3) := by decide +kernel
theorem d_AL_add_20 : decode b_AL_add 20 = .ok (.invokevirtual 131, 3) := by decide +kernel
theorem d_AL_add_23 : decode b_AL_add 23 = .ok (.iconst 1, 1) := by decide +kernel
theorem d_AL_add_24 : decode b_AL_add 24 = .ok (.ireturn, 1) := by decide +kernel
theorem d_AL_add3_0 : decode b_AL_add3 0 = .ok (.iload_n 3, 1) := by decide +kernel
theorem d_AL_add3_1 : decode b_AL_add3 1 = .ok (.aload_n 2, 1) := by decide +kernel
theorem d_AL_add3_2 : decode b_AL_add3 2 = .ok (.arraylength, 1) := by decide +kernel
theorem d_AL_add3_3 : decode b_AL_add3 3 = .ok (.if_icmp .ne 8, 3) := by decide +kernel
theorem d_AL_add3_6 : decode b_AL_add3 6 = .ok (.aload_n 0, 1) := by decide +kernel
theorem d_AL_add3_7 : decode b_AL_add3 7 = .ok (.invokevirtual 129, 3) := by decide +kernel
theorem d_AL_add3_10 : decode b_AL_add3 10 = .ok (.astore_n 2, 1) := by decide +kernel
theorem d_AL_add3_11 : decode b_AL_add3 11 = .ok (.aload_n 2, 1) := by decide +kernel
theorem d_AL_add3_12 : decode b_AL_add3 12 = .ok (.iload_n 3, 1) := by decide +kernel
theorem d_AL_add3_13 : decode b_AL_add3 13 = .ok (.aload_n 1, 1) := by decide +kernel
theorem d_AL_add3_14 : decode b_AL_add3 14 = .ok (.aastore, 1) := by decide +kernel
theorem d_AL_add3_15 : decode b_AL_add3 15 = .ok (.aload_n 0, 1) := by decide +kernel
theorem d_AL_add3_16 : decode b_AL_add3 16 = .ok (.iload_n 3, 1) := by decide +kernel
theorem d_AL_add3_17 : decode b_AL_add3 17 = .ok (.iconst 1, 1) := by decide +kernel
theorem d_AL_add3_18 : decode b_AL_add3 18 = .ok (.iadd, 1) := by decide +kernel
theorem d_AL_add3_19 : decode b_AL_add3 19 = .ok (.putfield 48, 3) := by decide +kernel
theorem d_AL_add3_22 : decode b_AL_add3 22 = .ok (.return_, 1) := by decide +kernel
theorem d_AL_grow0_0 : decode b_AL_grow0 0 = .ok (.aload_n 0, 1) := by decide +kernel
theorem d_AL_grow0_1 : decode b_AL_grow0 1 = .ok (.aload_n 0, 1) := by decide +kernel
theorem d_AL_grow0_2 : decode b_AL_grow0 2 = .ok (.getfield 48, 3) := by decide +kernel
theorem d_AL_grow0_5 : decode b_AL_grow0 5 = .ok (.iconst 1, 1) := by decide +kernel
theorem d_AL_grow0_6 : decode b_AL_grow0 6 = .ok (.iadd, 1) := by decide +kernel
theorem d_AL_grow0_7 : decode b_AL_grow0 7 = .ok (.invokevirtual 69, 3) := by decide +kernel
theorem d_AL_grow0_10 : decode b_AL_grow0 10 = .ok (.areturn, 1) := by decide +kernel
theorem d_AL_grow_0 : decode b_AL_grow 0 = .ok (.aload_n 0, 1) := by decide +kernel
theorem d_AL_grow_1 : decode b_AL_grow 1 = .ok (.getfield 9, 3) := by decide +kernel
theorem d_AL_grow_4 : decode b_AL_grow 4 = .ok (.arraylength, 1) := by decide +kernel
theorem d_AL_grow_5 : decode b_AL_grow 5 = .ok (.istore_n 2, 1) := by decide +kernel
theorem d_AL_grow_6 : decode b_AL_grow 6 = .ok (.iload_n 2, 1) := by decide +kernel
theorem d_AL_grow_7 : decode b_AL_grow 7 = .ok (.ifCond .gt 13, 3) := by decide +kernel
theorem d_AL_grow_10 : decode b_AL_grow 10 = .ok (.aload_n 0, 1) := by decide +kernel
theorem d_AL_grow_11 : decode b_AL_grow 11 = .ok (.getfield 9, 3) := by decide +kernel
theorem d_AL_grow_14 : decode b_AL_grow 14 = .ok (.getstatic 39, 3) := by decide +kernel
theorem d_AL_grow_17 : decode b_AL_grow 17 = .ok (.if_acmp .eq 28, 3) := by decide +kernel
theorem d_AL_grow_20 : decode b_AL_grow 20 = .ok (.iload_n 2, 1) := by decide +kernel
theorem d_AL_grow_21 : decode b_AL_grow 21 = .ok (.iload_n 1, 1) := by decide +kernel
theorem d_AL_grow_22 : decode b_AL_grow 22 = .ok (.iload_n 2, 1) := by decide +kernel
theorem d_AL_grow_23 : decode b_AL_grow 23 = .ok (.isub, 1) := by decide +kernel
theorem d_AL_grow_24 : decode b_AL_grow 24 = .ok (.iload_n 2, 1) := by decide +kernel
theorem d_AL_grow_25 : decode b_AL_grow 25 = .ok (.iconst 1, 1) := by decide +kernel
theorem d_AL_grow_26 : decode b_AL_grow 26 = .ok (.ishr, 1) := by decide +kernel
theorem d_AL_grow_27 : decode b_AL_grow 27 = .ok (.invokestatic 73, 3) := by decide +kernel
theorem d_AL_grow_30 : decode b_AL_grow 30 = .ok (.istore_n 3, 1) := by decide +kernel
theorem d_AL_grow_31 : decode b_AL_grow 31 = .ok (.aload_n 0, 1) := by decide +kernel
theorem d_AL_grow_32 : decode b_AL_grow 32 = .ok (.aload_n 0, 1) := by decide +kernel
theorem d_AL_grow_33 : decode b_AL_grow 33 = .ok (.getfield 9, 3) := by decide +kernel
theorem d_AL_grow_36 : decode b_AL_grow 36 = .ok (.iload_n 3, 1) := by decide +kernel
theorem d_AL_grow_37 : decode b_AL_grow 37 = .ok (.invokestatic 66, 3) := by decide +kernel
theorem d_AL_grow_40 : decode b_AL_grow 40 = .ok (.dup_x1, 1) := by decide +kernel
theorem d_AL_grow_41 : decode b_AL_grow 41 = .ok (.putfield 9, 3) := by decide +kernel
theorem d_AL_grow_44 : decode b_AL_grow 44 = .ok (.areturn, 1) := by decide +kernel
theorem d_AL_grow_45 : decode b_AL_grow 45 = .ok (.aload_n 0, 1) := by decide +kernel
theorem d_AL_grow_46 : decode b_AL_grow 46 = .ok (.bipush 10, 2) := by decide +kernel
theorem d_AL_grow_48 : decode b_AL_grow 48 = .ok (.iload_n 1, 1) := by decide +kernel
theorem d_AL_grow_49 : decode b_AL_grow 49 = .ok (.invokestatic 79, 3) := by decide +kernel
theorem d_AL_grow_52 : decode b_AL_grow 52 = .ok (.anewarray 7, 3) := by decide +kernel
theorem d_AL_grow_55 : decode b_AL_grow 55 = .ok (.dup_x1, 1) := by decide +kernel
theorem d_AL_grow_56 : decode b_AL_grow 56 = .ok (.putfield 9, 3) := by decide +kernel
theorem d_AL_grow_59 : decode b_AL_grow 59 = .ok (.areturn, 1) := by decide +kernel
theorem d_ArraysSupport_newLength_0 : decode b_ArraysSupport_newLength 0 = .ok (.iload_n 0, 1) := by decide +kernel
theorem d_ArraysSupport_newLength_1 : decode b_ArraysSupport_newLength 1 = .ok (.iload_n 1, 1) := by decide +kernel
theorem d_ArraysSupport_newLength_2 : decode b_ArraysSupport_newLength 2 = .ok (.iload_n 2, 1) := by decide +kernel
theorem d_ArraysSupport_newLength_3 : decode b_ArraysSupport_newLength 3 = .ok (.invokestatic 194, 3) := by decide +kernel
theorem d_ArraysSupport_newLength_6 : decode b_ArraysSupport_newLength 6 = .ok (.iadd, 1) := by decide +kernel
theorem d_ArraysSupport_newLength_7 : decode b_ArraysSupport_newLength 7 = .ok (.istore_n 3, 1) := by decide +kernel
theorem d_ArraysSupport_newLength_8 : decode b_ArraysSupport_newLength 8 = .ok (.iconst 0, 1) := by decide +kernel
theorem d_ArraysSupport_newLength_9 : decode b_ArraysSupport_newLength 9 = .ok (.iload_n 3, 1) := by decide +kernel
theorem d_ArraysSupport_newLength_10 : decode b_ArraysSupport_newLength 10 = .ok (.if_icmp .ge 11, 3) := by decide +kernel
theorem d_ArraysSupport_newLength_13 : decode b_ArraysSupport_newLength 13 = .ok (.iload_n 3, 1) := by decide +kernel
theorem d_ArraysSupport_newLength_14 : decode b_ArraysSupport_newLength 14 = .ok (.ldc 200, 2) := by decide +kernel
theorem d_ArraysSupport_newLength_16 : decode b_ArraysSupport_newLength 16 = .ok (.if_icmp .gt 5, 3) := by decide +kernel
theorem d_ArraysSupport_newLength_19 : decode b_ArraysSupport_newLength 19 = .ok (.iload_n 3, 1) := by decide +kernel
theorem d_ArraysSupport_newLength_20 : decode b_ArraysSupport_newLength 20 = .ok (.ireturn, 1) := by decide +kernel
theorem d_ArraysSupport_newLength_21 : decode b_ArraysSupport_newLength 21 = .ok (.iload_n 0, 1) := by decide +kernel
theorem d_ArraysSupport_newLength_22 : decode b_ArraysSupport_newLength 22 = .ok (.iload_n 1, 1) := by decide +kernel
theorem d_ArraysSupport_newLength_23 : decode b_ArraysSupport_newLength 23 = .ok (.invokestatic 201, 3) := by decide +kernel
theorem d_ArraysSupport_newLength_26 : decode b_ArraysSupport_newLength 26 = .ok (.ireturn, 1) := by decide +kernel
theorem d_Math_max_0 : decode b_Math_max 0 = .ok (.iload_n 0, 1) := by decide +kernel
theorem d_Math_max_1 : decode b_Math_max 1 = .ok (.iload_n 1, 1) := by decide +kernel
theorem d_Math_max_2 : decode b_Math_max 2 = .ok (.if_icmp .lt 7, 3) := by decide +kernel
theorem d_Math_max_5 : decode b_Math_max 5 = .ok (.iload_n 0, 1) := by decide +kernel
theorem d_Math_max_6 : decode b_Math_max 6 = .ok (.goto 4, 3) := by decide +kernel
theorem d_Math_max_9 : decode b_Math_max 9 = .ok (.iload_n 1, 1) := by decide +kernel
theorem d_Math_max_10 : decode b_Math_max 10 = .ok (.ireturn, 1) := by decide +kernel
theorem d_ArraysSupport_hugeLength_0 : decode b_ArraysSupport_hugeLength 0 = .ok (.iload_n 0, 1) := by decide +kernel
theorem d_ArraysSupport_hugeLength_1 : decode b_ArraysSupport_hugeLength 1 = .ok (.iload_n 1, 1) := by decide +kernel
theorem d_ArraysSupport_hugeLength_2 : decode b_ArraysSupport_hugeLength 2 = .ok (.iadd, 1) := by decide +kernel
theorem d_ArraysSupport_hugeLength_3 : decode b_ArraysSupport_hugeLength 3 = .ok (.istore_n 2, 1) := by decide +kernel
theorem d_ArraysSupport_hugeLength_4 : decode b_ArraysSupport_hugeLength 4 = .ok (.iload_n 2, 1) := by decide +kernel
theorem d_ArraysSupport_hugeLength_5 : decode b_ArraysSupport_hugeLength 5 = .ok (.ifCond .ge 44, 3) := by decide +kernel
theorem d_ArraysSupport_hugeLength_8 : decode b_ArraysSupport_hugeLength 8 = .ok (.new 204, 3) := by decide +kernel
theorem d_ArraysSupport_hugeLength_11 : decode b_ArraysSupport_hugeLength 11 = .ok (.dup, 1) := by decide +kernel
theorem d_ArraysSupport_hugeLength_12 : decode b_ArraysSupport_hugeLength 12 = .ok (.new 89, 3) := by decide +kernel
theorem d_ArraysSupport_hugeLength_15 : decode b_ArraysSupport_hugeLength 15 = .ok (.dup, 1) := by decide +kernel
theorem d_ArraysSupport_hugeLength_16 : decode b_ArraysSupport_hugeLength 16 = .ok (.invokespecial 91, 3) := by decide +kernel
theorem d_ArraysSupport_hugeLength_19 : decode b_ArraysSupport_hugeLength 19 = .ok (.ldc 206, 2) := by decide +kernel
theorem d_ArraysSupport_hugeLength_21 : decode b_ArraysSupport_hugeLength 21 = .ok (.invokevirtual 94, 3) := by decide +kernel
theorem d_ArraysSupport_hugeLength_24 : decode b_ArraysSupport_hugeLength 24 = .ok (.iload_n 0, 1) := by decide +kernel
theorem d_ArraysSupport_hugeLength_25 : decode b_ArraysSupport_hugeLength 25 = .ok (.invokevirtual 98, 3) := by decide +kernel
theorem d_ArraysSupport_hugeLength_28 : decode b_ArraysSupport_hugeLength 28 = .ok (.ldc 208, 2) := by decide +kernel
theorem d_ArraysSupport_hugeLength_30 : decode b_ArraysSupport_hugeLength 30 = .ok (.invokevirtual 94, 3) := by decide +kernel
theorem d_ArraysSupport_hugeLength_33 : decode b_ArraysSupport_hugeLength 33 = .ok (.iload_n 1, 1) := by decide +kernel
theorem d_ArraysSupport_hugeLength_34 : decode b_ArraysSupport_hugeLength 34 = .ok (.invokevirtual 98, 3) := by decide +kernel
theorem d_ArraysSupport_hugeLength_37 : decode b_ArraysSupport_hugeLength 37 = .ok (.ldc 210, 2) := by decide +kernel
theorem d_ArraysSupport_hugeLength_39 : decode b_ArraysSupport_hugeLength 39 = .ok (.invokevirtual 94, 3) := by decide +kernel
theorem d_ArraysSupport_hugeLength_42 : decode b_ArraysSupport_hugeLength 42 = .ok (.invokevirtual 101, 3) := by decide +kernel
theorem d_ArraysSupport_hugeLength_45 : decode b_ArraysSupport_hugeLength 45 = .ok (.invokespecial 212, 3) := by decide +kernel
theorem d_ArraysSupport_hugeLength_48 : decode b_ArraysSupport_hugeLength 48 = .ok (.athrow, 1) := by decide +kernel
theorem d_ArraysSupport_hugeLength_49 : decode b_ArraysSupport_hugeLength 49 = .ok (.iload_n 2, 1) := by decide +kernel
theorem d_ArraysSupport_hugeLength_50 : decode b_ArraysSupport_hugeLength 50 = .ok (.ldc 200, 2) := by decide +kernel
theorem d_ArraysSupport_hugeLength_52 : decode b_ArraysSupport_hugeLength 52 = .ok (.if_icmp .gt 6, 3) := by decide +kernel
theorem d_ArraysSupport_hugeLength_55 : decode b_ArraysSupport_hugeLength 55 = .ok (.ldc 200, 2) := by decide +kernel
theorem d_ArraysSupport_hugeLength_57 : decode b_ArraysSupport_hugeLength 57 = .ok (.ireturn, 1) := by decide +kernel
theorem d_ArraysSupport_hugeLength_58 : decode b_ArraysSupport_hugeLength 58 = .ok (.iload_n 2, 1) := by decide +kernel
theorem d_ArraysSupport_hugeLength_59 : decode b_ArraysSupport_hugeLength 59 = .ok (.ireturn, 1) := by decide +kernel
theorem d_Arrays_copyOf2_0 : decode b_Arrays_copyOf2 0 = .ok (.aload_n 0, 1) := by decide +kernel
theorem d_Arrays_copyOf2_1 : decode b_Arrays_copyOf2 1 = .ok (.iload_n 1, 1) := by decide +kernel
theorem d_Arrays_copyOf2_2 : decode b_Arrays_copyOf2 2 = .ok (.aload_n 0, 1) := by decide +kernel
theorem d_Arrays_copyOf2_3 : decode b_Arrays_copyOf2 3 = .ok (.invokevirtual 86, 3) := by decide +kernel
theorem d_Arrays_copyOf2_6 : decode b_Arrays_copyOf2 6 = .ok (.invokestatic 300, 3) := by decide +kernel
theorem d_Arrays_copyOf2_9 : decode b_Arrays_copyOf2 9 = .ok (.areturn, 1) := by decide +kernel
theorem d_Arrays_copyOf3_0 : decode b_Arrays_copyOf3 0 = .ok (.aload_n 2, 1) := by decide +kernel
theorem d_Arrays_copyOf3_1 : decode b_Arrays_copyOf3 1 = .ok (.ldc 110, 2) := by decide +kernel
theorem d_Arrays_copyOf3_3 : decode b_Arrays_copyOf3 3 = .ok (.if_acmp .ne 10, 3) := by decide +kernel
theorem d_Arrays_copyOf3_6 : decode b_Arrays_copyOf3 6 = .ok (.iload_n 1, 1) := by decide +kernel
theorem d_Arrays_copyOf3_7 : decode b_Arrays_copyOf3 7 = .ok (.anewarray 2, 3) := by decide +kernel
theorem d_Arrays_copyOf3_10 : decode b_Arrays_copyOf3 10 = .ok (.goto 14, 3) := by decide +kernel
theorem d_Arrays_copyOf3_13 : decode b_Arrays_copyOf3 13 = .ok (.aload_n 2, 1) := by decide +kernel
theorem d_Arrays_copyOf3_14 : decode b_Arrays_copyOf3 14 = .ok (.invokevirtual 90, 3) := by decide +kernel
theorem d_Arrays_copyOf3_17 : decode b_Arrays_copyOf3 17 = .ok (.iload_n 1, 1) := by decide +kernel
theorem d_Arrays_copyOf3_18 : decode b_Arrays_copyOf3 18 = .ok (.invokestatic 95, 3) := by decide +kernel
theorem d_Arrays_copyOf3_21 : decode b_Arrays_copyOf3 21 = .ok (.checkcast 110, 3) := by decide +kernel
theorem d_Arrays_copyOf3_24 : decode b_Arrays_copyOf3 24 = .ok (.astore_n 3, 1) := by decide +kernel
theorem d_Arrays_copyOf3_25 : decode b_Arrays_copyOf3 25 = .ok (.aload_n 0, 1) := by decide +kernel
theorem d_Arrays_copyOf3_26 : decode b_Arrays_copyOf3 26 = .ok (.iconst 0, 1) := by decide +kernel
theorem d_Arrays_copyOf3_27 : decode b_Arrays_copyOf3 27 = .ok (.aload_n 3, 1) := by decide +kernel
theorem d_Arrays_copyOf3_28 : decode b_Arrays_copyOf3 28 = .ok (.iconst 0, 1) := by decide +kernel
theorem d_Arrays_copyOf3_29 : decode b_Arrays_copyOf3 29 = .ok (.aload_n 0, 1) := by decide +kernel
theorem d_Arrays_copyOf3_30 : decode b_Arrays_copyOf3 30 = .ok (.arraylength, 1) := by decide +kernel
theorem d_Arrays_copyOf3_31 : decode b_Arrays_copyOf3 31 = .ok (.iload_n 1, 1) := by decide +kernel
theorem d_Arrays_copyOf3_32 : decode b_Arrays_copyOf3 32 = .ok (.invokestatic 304, 3) := by decide +kernel
theorem d_Arrays_copyOf3_35 : decode b_Arrays_copyOf3 35 = .ok (.invokestatic 150, 3) := by decide +kernel
theorem d_Arrays_copyOf3_38 : decode b_Arrays_copyOf3 38 = .ok (.aload_n 3, 1) := by decide +kernel
theorem d_Arrays_copyOf3_39 : decode b_Arrays_copyOf3 39 = .ok (.areturn, 1) := by decide +kernel
theorem d_Math_min_0 : decode b_Math_min 0 = .ok (.iload_n 0, 1) := by decide +kernel
theorem d_Math_min_1 : decode b_Math_min 1 = .ok (.iload_n 1, 1) := by decide +kernel
theorem d_Math_min_2 : decode b_Math_min 2 = .ok (.if_icmp .gt 7, 3) := by decide +kernel
theorem d_Math_min_5 : decode b_Math_min 5 = .ok (.iload_n 0, 1) := by decide +kernel
theorem d_Math_min_6 : decode b_Math_min 6 = .ok (.goto 4, 3) := by decide +kernel
theorem d_Math_min_9 : decode b_Math_min 9 = .ok (.iload_n 1, 1) := by decide +kernel
theorem d_Math_min_10 : decode b_Math_min 10 = .ok (.ireturn, 1) := by decide +kernel
theorem d_AL_get_0 : decode b_AL_get 0 = .ok (.iload_n 1, 1) := by decide +kernel
theorem d_AL_get_1 : decode b_AL_get 1 = .ok (.aload_n 0, 1) := by decide +kernel
theorem d_AL_get_2 : decode b_AL_get 2 = .ok (.getfield 48, 3) := by decide +kernel
theorem d_AL_get_5 : decode b_AL_get 5 = .ok (.invokestatic 118, 3) := by decide +kernel
theorem d_AL_get_8 : decode b_AL_get 8 = .ok (.pop, 1) := by decide +kernel
theorem d_AL_get_9 : decode b_AL_get 9 = .ok (.aload_n 0, 1) := by decide +kernel
theorem d_AL_get_10 : decode b_AL_get 10 = .ok (.iload_n 1, 1) := by decide +kernel
theorem d_AL_get_11 : decode b_AL_get 11 = .ok (.invokevirtual 123, 3) := by decide +kernel
theorem d_AL_get_14 : decode b_AL_get 14 = .ok (.areturn, 1) := by decide +kernel
theorem d_Objects_checkIndex_0 : decode b_Objects_checkIndex 0 = .ok (.iload_n 0, 1) := by decide +kernel
theorem d_Objects_checkIndex_1 : decode b_Objects_checkIndex 1 = .ok (.iload_n 1, 1) := by decide +kernel
theorem d_Objects_checkIndex_2 : decode b_Objects_checkIndex 2 = .ok (.aconst_null, 1) := by decide +kernel
theorem d_Objects_checkIndex_3 : decode b_Objects_checkIndex 3 = .ok (.invokestatic 105, 3) := by decide +kernel
theorem d_Objects_checkIndex_6 : decode b_Objects_checkIndex 6 = .ok (.ireturn, 1) := by decide +kernel
theorem d_Preconditions_checkIndex_0 : decode b_Preconditions_checkIndex 0 = .ok (.iload_n 0, 1) := by decide +kernel
theorem d_Preconditions_checkIndex_1 : decode b_Preconditions_checkIndex 1 = .ok (.ifCond .lt 8, 3) := by decide +kernel
theorem d_Preconditions_checkIndex_4 : decode b_Preconditions_checkIndex 4 = .ok (.iload_n 0, 1) := by decide +kernel
theorem d_Preconditions_checkIndex_5 : decode b_Preconditions_checkIndex 5 = .ok (.iload_n 1, 1) := by decide +kernel
theorem d_Preconditions_checkIndex_6 : decode b_Preconditions_checkIndex 6 = .ok (.if_icmp .lt 10, 3) := by decide +kernel
theorem d_Preconditions_checkIndex_9 : decode b_Preconditions_checkIndex 9 = .ok (.aload_n 2, 1) := by decide +kernel
theorem d_Preconditions_checkIndex_10 : decode b_Preconditions_checkIndex 10 = .ok (.iload_n 0, 1) := by decide +kernel
theorem d_Preconditions_checkIndex_11 : decode b_Preconditions_checkIndex 11 = .ok (.iload_n 1, 1) := by decide +kernel
theorem d_Preconditions_checkIndex_12 : decode b_Preconditions_checkIndex 12 = .ok (.invokestatic 95, 3) := by decide +kernel
theorem d_Preconditions_checkIndex_15 : decode b_Preconditions_checkIndex 15 = .ok (.athrow, 1) := by decide +kernel
theorem d_Preconditions_checkIndex_16 : decode b_Preconditions_checkIndex 16 = .ok (.iload_n 0, 1) := by decide +kernel
theorem d_Preconditions_checkIndex_17 : decode b_Preconditions_checkIndex 17 = .ok (.ireturn, 1) := by decide +kernel
theorem d_AL_elementData_0 : decode b_AL_elementData 0 = .ok (.aload_n 0, 1) := by decide +kernel
theorem d_AL_elementData_1 : decode b_AL_elementData 1 = .ok (.getfield 9, 3) := by decide +kernel
theorem d_AL_elementData_4 : decode b_AL_elementData 4 = .ok (.iload_n 1, 1) := by decide +kernel
theorem d_AL_elementData_5 : decode b_AL_elementData 5 = .ok (.aaload, 1) := by decide +kernel
theorem d_AL_elementData_6 : decode b_AL_elementData 6 = .ok (.areturn, 1) := by decide +kernel
theorem d_AL_isEmpty_0 : decode b_AL_isEmpty 0 = .ok (.aload_n 0, 1) := by decide +kernel
theorem d_AL_isEmpty_1 : decode b_AL_isEmpty 1 = .ok (.getfield 48, 3) := by decide +kernel
theorem d_AL_isEmpty_4 : decode b_AL_isEmpty 4 = .ok (.ifCond .ne 7, 3) := by decide +kernel
theorem d_AL_isEmpty_7 : decode b_AL_isEmpty 7 = .ok (.iconst 1, 1) := by decide +kernel
theorem d_AL_isEmpty_8 : decode b_AL_isEmpty 8 = .ok (.goto 4, 3) := by decide +kernel
theorem d_AL_isEmpty_11 : decode b_AL_isEmpty 11 = .ok (.iconst 0, 1) := by decide +kernel
theorem d_AL_isEmpty_12 : decode b_AL_isEmpty 12 = .ok (.ireturn, 1) := by decide +kernel
theorem d_AL_clear_0 : decode b_AL_clear 0 = .ok (.aload_n 0, 1) := by decide +kernel
theorem d_AL_clear_1 : decode b_AL_clear 1 = .ok (.dup, 1) := by decide +kernel
theorem d_AL_clear_2 : decode b_AL_clear 2 = .ok (.getfield 63, 3) := by decide +kernel
theorem d_AL_clear_5 : decode b_AL_clear 5 = .ok (.iconst 1, 1) := by decide +kernel
theorem d_AL_clear_6 : decode b_AL_clear 6 = .ok (.iadd, 1) := by decide +kernel
theorem d_AL_clear_7 : decode b_AL_clear 7 = .ok (.putfield 63, 3) := by decide +kernel
theorem d_AL_clear_10 : decode b_AL_clear 10 = .ok (.aload_n 0, 1) := by decide +kernel
theorem d_AL_clear_11 : decode b_AL_clear 11 = .ok (.getfield 9, 3) := by decide +kernel
theorem d_AL_clear_14 : decode b_AL_clear 14 = .ok (.astore_n 1, 1) := by decide +kernel
theorem d_AL_clear_15 : decode b_AL_clear 15 = .ok (.aload_n 0, 1) := by decide +kernel
theorem d_AL_clear_16 : decode b_AL_clear 16 = .ok (.getfield 48, 3) := by decide +kernel
theorem d_AL_clear_19 : decode b_AL_clear 19 = .ok (.istore_n 2, 1) := by decide +kernel
theorem d_AL_clear_20 : decode b_AL_clear 20 = .ok (.aload_n 0, 1) := by decide +kernel
theorem d_AL_clear_21 : decode b_AL_clear 21 = .ok (.iconst 0, 1) := by decide +kernel
theorem d_AL_clear_22 : decode b_AL_clear 22 = .ok (.dup_x1, 1) := by decide +kernel
theorem d_AL_clear_23 : decode b_AL_clear 23 = .ok (.putfield 48, 3) := by decide +kernel
theorem d_AL_clear_26 : decode b_AL_clear 26 = .ok (.istore_n 3, 1) := by decide +kernel
theorem d_AL_clear_27 : decode b_AL_clear 27 = .ok (.iload_n 3, 1) := by decide +kernel
theorem d_AL_clear_28 : decode b_AL_clear 28 = .ok (.iload_n 2, 1) := by decide +kernel
theorem d_AL_clear_29 : decode b_AL_clear 29 = .ok (.if_icmp .ge 13, 3) := by decide +kernel
theorem d_AL_clear_32 : decode b_AL_clear 32 = .ok (.aload_n 1, 1) := by decide +kernel
theorem d_AL_clear_33 : decode b_AL_clear 33 = .ok (.iload_n 3, 1) := by decide +kernel
theorem d_AL_clear_34 : decode b_AL_clear 34 = .ok (.aconst_null, 1) := by decide +kernel
theorem d_AL_clear_35 : decode b_AL_clear 35 = .ok (.aastore, 1) := by decide +kernel
theorem d_AL_clear_36 : decode b_AL_clear 36 = .ok (.iinc 3 1, 3) := by decide +kernel
theorem d_AL_clear_39 : decode b_AL_clear 39 = .ok (.goto (-12), 3) := by decide +kernel
theorem d_AL_clear_42 : decode b_AL_clear 42 = .ok (.return_, 1) := by decide +kernel
theorem d_Long_bitCount_0 : decode b_Long_bitCount 0 = .ok (.lload_n 0, 1) := by decide +kernel
theorem d_Long_bitCount_1 : decode b_Long_bitCount 1 = .ok (.lload_n 0, 1) := by decide +kernel
theorem d_Long_bitCount_2 : decode b_Long_bitCount 2 = .ok (.iconst 1, 1) := by decide +kernel
theorem d_Long_bitCount_3 : decode b_Long_bitCount 3 = .ok (.lushr, 1) := by decide +kernel
theorem d_Long_bitCount_4 : decode b_Long_bitCount 4 = .ok (.ldc2_w 314, 3) := by decide +kernel
theorem d_Long_bitCount_7 : decode b_Long_bitCount 7 = .ok (.land, 1) := by decide +kernel
theorem d_Long_bitCount_8 : decode b_Long_bitCount 8 = .ok (.lsub, 1) := by decide +kernel
theorem d_Long_bitCount_9 : decode b_Long_bitCount 9 = .ok (.lstore_n 0, 1) := by decide +kernel
theorem d_Long_bitCount_10 : decode b_Long_bitCount 10 = .ok (.lload_n 0, 1) := by decide +kernel
theorem d_Long_bitCount_11 : decode b_Long_bitCount 11 = .ok (.ldc2_w 316, 3) := by decide +kernel
theorem d_Long_bitCount_14 : decode b_Long_bitCount 14 = .ok (.land, 1) := by decide +kernel
theorem d_Long_bitCount_15 : decode b_Long_bitCount 15 = .ok (.lload_n 0, 1) := by decide +kernel
theorem d_Long_bitCount_16 : decode b_Long_bitCount 16 = .ok (.iconst 2, 1) := by decide +kernel
theorem d_Long_bitCount_17 : decode b_Long_bitCount 17 = .ok (.lushr, 1) := by decide +kernel
theorem d_Long_bitCount_18 : decode b_Long_bitCount 18 = .ok (.ldc2_w 316, 3) := by decide +kernel
theorem d_Long_bitCount_21 : decode b_Long_bitCount 21 = .ok (.land, 1) := by decide +kernel
theorem d_Long_bitCount_22 : decode b_Long_bitCount 22 = .ok (.ladd, 1) := by decide +kernel
theorem d_Long_bitCount_23 : decode b_Long_bitCount 23 = .ok (.lstore_n 0, 1) := by decide +kernel
theorem d_Long_bitCount_24 : decode b_Long_bitCount 24 = .ok (.lload_n 0, 1) := by decide +kernel
theorem d_Long_bitCount_25 : decode b_Long_bitCount 25 = .ok (.lload_n 0, 1) := by decide +kernel
theorem d_Long_bitCount_26 : decode b_Long_bitCount 26 = .ok (.iconst 4, 1) := by decide +kernel
theorem d_Long_bitCount_27 : decode b_Long_bitCount 27 = .ok (.lushr, 1) := by decide +kernel
theorem d_Long_bitCount_28 : decode b_Long_bitCount 28 = .ok (.ladd, 1) := by decide +kernel
theorem d_Long_bitCount_29 : decode b_Long_bitCount 29 = .ok (.ldc2_w 318, 3) := by decide +kernel
theorem d_Long_bitCount_32 : decode b_Long_bitCount 32 = .ok (.land, 1) := by decide +kernel
theorem d_Long_bitCount_33 : decode b_Long_bitCount 33 = .ok (.lstore_n 0, 1) := by decide +kernel
theorem d_Long_bitCount_34 : decode b_Long_bitCount 34 = .ok (.lload_n 0, 1) := by decide +kernel
theorem d_Long_bitCount_35 : decode b_Long_bitCount 35 = .ok (.lload_n 0, 1) := by decide +kernel
theorem d_Long_bitCount_36 : decode b_Long_bitCount 36 = .ok (.bipush 8, 2) := by decide +kernel
theorem d_Long_bitCount_38 : decode b_Long_bitCount 38 = .ok (.lushr, 1) := by decide +kernel
theorem d_Long_bitCount_39 : decode b_Long_bitCount 39 = .ok (.ladd, 1) := by decide +kernel
theorem d_Long_bitCount_40 : decode b_Long_bitCount 40 = .ok (.lstore_n 0, 1) := by decide +kernel
theorem d_Long_bitCount_41 : decode b_Long_bitCount 41 = .ok (.lload_n 0, 1) := by decide +kernel
theorem d_Long_bitCount_42 : decode b_Long_bitCount 42 = .ok (.lload_n 0, 1) := by decide +kernel
theorem d_Long_bitCount_43 : decode b_Long_bitCount 43 = .ok (.bipush 16, 2) := by decide +kernel
theorem d_Long_bitCount_45 : decode b_Long_bitCount 45 = .ok (.lushr, 1) := by decide +kernel
theorem d_Long_bitCount_46 : decode b_Long_bitCount 46 = .ok (.ladd, 1) := by decide +kernel
theorem d_Long_bitCount_47 : decode b_Long_bitCount 47 = .ok (.lstore_n 0, 1) := by decide +kernel
theorem d_Long_bitCount_48 : decode b_Long_bitCount 48 = .ok (.lload_n 0, 1) := by decide +kernel
theorem d_Long_bitCount_49 : decode b_Long_bitCount 49 = .ok (.lload_n 0, 1) := by decide +kernel
theorem d_Long_bitCount_50 : decode b_Long_bitCount 50 = .ok (.bipush 32, 2) := by decide +kernel
theorem d_Long_bitCount_52 : decode b_Long_bitCount 52 = .ok (.lushr, 1) := by decide +kernel
theorem d_Long_bitCount_53 : decode b_Long_bitCount 53 = .ok (.ladd, 1) := by decide +kernel
theorem d_Long_bitCount_54 : decode b_Long_bitCount 54 = .ok (.lstore_n 0, 1) := by decide +kernel
theorem d_Long_bitCount_55 : decode b_Long_bitCount 55 = .ok (.lload_n 0, 1) := by decide +kernel
theorem d_Long_bitCount_56 : decode b_Long_bitCount 56 = .ok (.l2i, 1) := by decide +kernel
theorem d_Long_bitCount_57 : decode b_Long_bitCount 57 = .ok (.bipush 127, 2) := by decide +kernel
theorem d_Long_bitCount_59 : decode b_Long_bitCount 59 = .ok (.iand, 1) := by decide +kernel
theorem d_Long_bitCount_60 : decode b_Long_bitCount 60 = .ok (.ireturn, 1) := by decide +kernel
