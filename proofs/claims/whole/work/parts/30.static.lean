/-! what is asked of callees and of classes; the small static methods of the class and of the reference, each as a function of numbers -/
theorem nz {x : Int32} (h : x = 0 ∨ x = 1) : narrow .boolean (.int x) = .int x := by
  rcases h with rfl | rfl <;> rfl
theorem kc_M_init : kC y_M_init b_M_init 1 none 0 := ⟨q_27, q_1, by decide, by decide, by decide +kernel⟩
theorem kc_AL_init : kC y_AL_init b_AL_init 1 none 0 := ⟨q_35, q_4, by decide, by decide, by decide +kernel⟩
theorem kc_AbsL_init : kC y_AbsL_init b_AbsL_init 1 none 0 := ⟨q_38, q_3, by decide, by decide, by decide +kernel⟩
theorem kc_AbsC_init : kC y_AbsC_init b_AbsC_init 1 none 0 := ⟨q_41, q_2, by decide, by decide, by decide +kernel⟩
theorem kc_Log_init : kC y_Log_init b_Log_init 1 none 0 := ⟨q_61, q_5, by decide, by decide, by decide +kernel⟩
theorem kc_M_atom : kC y_M_atom b_M_atom 4 (some Jvm.ClassFile.FieldType.int) 3 := ⟨q_97, q_1, by decide, by decide, by decide +kernel⟩
theorem kc_M_mayMake : kC y_M_mayMake b_M_mayMake 1 (some Jvm.ClassFile.FieldType.boolean) 0 := ⟨q_101, q_1, by decide, by decide, by decide +kernel⟩
theorem kc_AL_size : kC y_AL_size b_AL_size 1 (some Jvm.ClassFile.FieldType.int) 0 := ⟨q_105, q_4, by decide, by decide, by decide +kernel⟩
theorem kc_M_isRelation : kC y_M_isRelation b_M_isRelation 1 (some Jvm.ClassFile.FieldType.boolean) 1 := ⟨q_108, q_1, by decide, by decide, by decide +kernel⟩
theorem kc_M_isTerm : kC y_M_isTerm b_M_isTerm 1 (some Jvm.ClassFile.FieldType.boolean) 1 := ⟨q_111, q_1, by decide, by decide, by decide +kernel⟩
theorem kc_M_isVariable : kC y_M_isVariable b_M_isVariable 1 (some Jvm.ClassFile.FieldType.boolean) 1 := ⟨q_114, q_1, by decide, by decide, by decide +kernel⟩
theorem kc_M_isValueTerm : kC y_M_isValueTerm b_M_isValueTerm 1 (some Jvm.ClassFile.FieldType.boolean) 1 := ⟨q_117, q_1, by decide, by decide, by decide +kernel⟩
theorem kc_Atom_init : kC y_Atom_init b_Atom_init 4 none 3 := ⟨q_122, q_8, by decide, by decide, by decide +kernel⟩
theorem kc_M_variablesAmong : kC y_M_variablesAmong b_M_variablesAmong 3 (some Jvm.ClassFile.FieldType.int) 2 := ⟨q_125, q_1, by decide, by decide, by decide +kernel⟩
theorem kc_M_variableBit : kC y_M_variableBit b_M_variableBit 1 (some Jvm.ClassFile.FieldType.int) 1 := ⟨q_128, q_1, by decide, by decide, by decide +kernel⟩
theorem kc_Form_init : kC y_Form_init b_Form_init 4 none 3 := ⟨q_131, q_7, by decide, by decide, by decide +kernel⟩
theorem kc_M_add : kC y_M_add b_M_add 2 (some Jvm.ClassFile.FieldType.int) 1 := ⟨q_187, q_1, by decide, by decide, by decide +kernel⟩
theorem kc_AL_add : kC y_AL_add b_AL_add 2 (some Jvm.ClassFile.FieldType.boolean) 1 := ⟨q_191, q_4, by decide, by decide, by decide +kernel⟩
theorem kc_AL_add3 : kC y_AL_add3 b_AL_add3 4 none 3 := ⟨q_195, q_4, by decide, by decide, by decide +kernel⟩
theorem kc_AL_grow0 : kC y_AL_grow0 b_AL_grow0 1 (some (Jvm.ClassFile.FieldType.array (Jvm.ClassFile.FieldType.object "java/lang/Object"))) 0 := ⟨q_199, q_4, by decide, by decide, by decide +kernel⟩
theorem kc_AL_grow : kC y_AL_grow b_AL_grow 4 (some (Jvm.ClassFile.FieldType.array (Jvm.ClassFile.FieldType.object "java/lang/Object"))) 1 := ⟨q_203, q_4, by decide, by decide, by decide +kernel⟩
theorem kc_ArraysSupport_newLength : kC y_ArraysSupport_newLength b_ArraysSupport_newLength 4 (some Jvm.ClassFile.FieldType.int) 3 := ⟨q_206, q_9, by decide, by decide, by decide +kernel⟩
theorem kc_Math_max : kC y_Math_max b_Math_max 2 (some Jvm.ClassFile.FieldType.int) 2 := ⟨q_209, q_10, by decide, by decide, by decide +kernel⟩
theorem kc_ArraysSupport_hugeLength : kC y_ArraysSupport_hugeLength b_ArraysSupport_hugeLength 3 (some Jvm.ClassFile.FieldType.int) 2 := ⟨q_213, q_9, by decide, by decide, by decide +kernel⟩
theorem kc_Arrays_copyOf2 : kC y_Arrays_copyOf2 b_Arrays_copyOf2 2 (some (Jvm.ClassFile.FieldType.array (Jvm.ClassFile.FieldType.object "java/lang/Object"))) 2 := ⟨q_216, q_11, by decide, by decide, by decide +kernel⟩
theorem kc_Arrays_copyOf3 : kC y_Arrays_copyOf3 b_Arrays_copyOf3 4 (some (Jvm.ClassFile.FieldType.array (Jvm.ClassFile.FieldType.object "java/lang/Object"))) 3 := ⟨q_235, q_11, by decide, by decide, by decide +kernel⟩
theorem kc_Math_min : kC y_Math_min b_Math_min 2 (some Jvm.ClassFile.FieldType.int) 2 := ⟨q_241, q_10, by decide, by decide, by decide +kernel⟩
theorem kc_M_compare : kC y_M_compare b_M_compare 4 (some Jvm.ClassFile.FieldType.int) 3 := ⟨q_250, q_1, by decide, by decide, by decide +kernel⟩
theorem kc_Comp_init : kC y_Comp_init b_Comp_init 4 none 3 := ⟨q_255, q_13, by decide, by decide, by decide +kernel⟩
theorem kc_Comp_rangedBy : kC y_Comp_rangedBy b_Comp_rangedBy 3 (some Jvm.ClassFile.FieldType.int) 3 := ⟨q_259, q_13, by decide, by decide, by decide +kernel⟩
theorem kc_M_not : kC y_M_not b_M_not 3 (some Jvm.ClassFile.FieldType.int) 1 := ⟨q_280, q_1, by decide, by decide, by decide +kernel⟩
theorem kc_M_find : kC y_M_find b_M_find 2 (some (Jvm.ClassFile.FieldType.object "MetricLogMonitor$Formula")) 1 := ⟨q_284, q_1, by decide, by decide, by decide +kernel⟩
theorem kc_AL_get : kC y_AL_get b_AL_get 2 (some (Jvm.ClassFile.FieldType.object "java/lang/Object")) 1 := ⟨q_288, q_4, by decide, by decide, by decide +kernel⟩
theorem kc_Objects_checkIndex : kC y_Objects_checkIndex b_Objects_checkIndex 2 (some Jvm.ClassFile.FieldType.int) 2 := ⟨q_291, q_14, by decide, by decide, by decide +kernel⟩
theorem kc_Preconditions_checkIndex : kC y_Preconditions_checkIndex b_Preconditions_checkIndex 3 (some Jvm.ClassFile.FieldType.int) 3 := ⟨q_294, q_15, by decide, by decide, by decide +kernel⟩
theorem kc_AL_elementData : kC y_AL_elementData b_AL_elementData 2 (some (Jvm.ClassFile.FieldType.object "java/lang/Object")) 1 := ⟨q_298, q_4, by decide, by decide, by decide +kernel⟩
theorem kc_Not_init : kC y_Not_init b_Not_init 2 none 1 := ⟨q_304, q_16, by decide, by decide, by decide +kernel⟩
theorem kc_M_join : kC y_M_join b_M_join 6 (some Jvm.ClassFile.FieldType.int) 3 := ⟨q_318, q_1, by decide, by decide, by decide +kernel⟩
theorem kc_Join_init : kC y_Join_init b_Join_init 4 none 3 := ⟨q_323, q_17, by decide, by decide, by decide +kernel⟩
theorem kc_Join_rangedBy : kC y_Join_rangedBy b_Join_rangedBy 3 (some Jvm.ClassFile.FieldType.int) 3 := ⟨q_326, q_17, by decide, by decide, by decide +kernel⟩
theorem kc_M_exists : kC y_M_exists b_M_exists 4 (some Jvm.ClassFile.FieldType.int) 2 := ⟨q_346, q_1, by decide, by decide, by decide +kernel⟩
theorem kc_Exi_init : kC y_Exi_init b_Exi_init 3 none 2 := ⟨q_351, q_18, by decide, by decide, by decide +kernel⟩
theorem kc_M_previous : kC y_M_previous b_M_previous 5 (some Jvm.ClassFile.FieldType.int) 3 := ⟨q_369, q_1, by decide, by decide, by decide +kernel⟩
theorem kc_M_isPastInterval : kC y_M_isPastInterval b_M_isPastInterval 2 (some Jvm.ClassFile.FieldType.boolean) 2 := ⟨q_372, q_1, by decide, by decide, by decide +kernel⟩
theorem kc_M_isTime : kC y_M_isTime b_M_isTime 1 (some Jvm.ClassFile.FieldType.boolean) 1 := ⟨q_375, q_1, by decide, by decide, by decide +kernel⟩
theorem kc_M_isInterval : kC y_M_isInterval b_M_isInterval 2 (some Jvm.ClassFile.FieldType.boolean) 2 := ⟨q_379, q_1, by decide, by decide, by decide +kernel⟩
theorem kc_Prev_init : kC y_Prev_init b_Prev_init 4 none 3 := ⟨q_384, q_19, by decide, by decide, by decide +kernel⟩
theorem kc_M_since : kC y_M_since b_M_since 7 (some Jvm.ClassFile.FieldType.int) 4 := ⟨q_404, q_1, by decide, by decide, by decide +kernel⟩
theorem kc_Since_init : kC y_Since_init b_Since_init 5 none 4 := ⟨q_409, q_20, by decide, by decide, by decide +kernel⟩
theorem kc_M_until : kC y_M_until b_M_until 7 (some Jvm.ClassFile.FieldType.int) 4 := ⟨q_432, q_1, by decide, by decide, by decide +kernel⟩
theorem kc_Until_init : kC y_Until_init b_Until_init 5 none 4 := ⟨q_437, q_21, by decide, by decide, by decide +kernel⟩
theorem kc_M_free : kC y_M_free b_M_free 3 (some Jvm.ClassFile.FieldType.int) 1 := ⟨q_460, q_1, by decide, by decide, by decide +kernel⟩
theorem kc_M_ranged : kC y_M_ranged b_M_ranged 3 (some Jvm.ClassFile.FieldType.int) 1 := ⟨q_464, q_1, by decide, by decide, by decide +kernel⟩
theorem kc_M_bounded : kC y_M_bounded b_M_bounded 3 (some Jvm.ClassFile.FieldType.boolean) 1 := ⟨q_468, q_1, by decide, by decide, by decide +kernel⟩
theorem kc_Form_isBounded : kC y_Form_isBounded b_Form_isBounded 1 (some Jvm.ClassFile.FieldType.boolean) 0 := ⟨q_480, q_7, by decide, by decide, by decide +kernel⟩
theorem kc_M_watch : kC y_M_watch b_M_watch 1 (some Jvm.ClassFile.FieldType.boolean) 0 := ⟨q_484, q_1, by decide, by decide, by decide +kernel⟩
theorem kc_AL_isEmpty : kC y_AL_isEmpty b_AL_isEmpty 1 (some Jvm.ClassFile.FieldType.boolean) 0 := ⟨q_488, q_4, by decide, by decide, by decide +kernel⟩
theorem kc_M_gather : kC y_M_gather b_M_gather 4 (some Jvm.ClassFile.FieldType.boolean) 3 := ⟨q_492, q_1, by decide, by decide, by decide +kernel⟩
theorem kc_M_isValue : kC y_M_isValue b_M_isValue 1 (some Jvm.ClassFile.FieldType.boolean) 1 := ⟨q_495, q_1, by decide, by decide, by decide +kernel⟩
theorem kc_M_pairBit : kC y_M_pairBit b_M_pairBit 3 (some Jvm.ClassFile.FieldType.long) 3 := ⟨q_498, q_1, by decide, by decide, by decide +kernel⟩
theorem kc_Log_collect : kC y_Log_collect b_Log_collect 4 (some Jvm.ClassFile.FieldType.boolean) 1 := ⟨q_502, q_5, by decide, by decide, by decide +kernel⟩
theorem kc_M_place : kC y_M_place b_M_place 3 (some Jvm.ClassFile.FieldType.int) 1 := ⟨q_506, q_1, by decide, by decide, by decide +kernel⟩
theorem kc_Log_accepts : kC y_Log_accepts b_Log_accepts 2 (some Jvm.ClassFile.FieldType.boolean) 1 := ⟨q_510, q_5, by decide, by decide, by decide +kernel⟩
theorem kc_Log_append : kC y_Log_append b_Log_append 2 none 1 := ⟨q_515, q_5, by decide, by decide, by decide +kernel⟩
theorem kc_Form_advance : kC y_Form_advance b_Form_advance 4 none 1 := ⟨q_527, q_7, by decide, by decide, by decide +kernel⟩
theorem kc_Atom_reach : kC y_Atom_reach b_Atom_reach 2 (some Jvm.ClassFile.FieldType.int) 1 := ⟨q_533, q_8, by decide, by decide, by decide +kernel⟩
theorem kc_Comp_reach : kC y_Comp_reach b_Comp_reach 2 (some Jvm.ClassFile.FieldType.int) 1 := ⟨q_536, q_13, by decide, by decide, by decide +kernel⟩
theorem kc_Exi_reach : kC y_Exi_reach b_Exi_reach 2 (some Jvm.ClassFile.FieldType.int) 1 := ⟨q_539, q_18, by decide, by decide, by decide +kernel⟩
theorem kc_Join_reach : kC y_Join_reach b_Join_reach 2 (some Jvm.ClassFile.FieldType.int) 1 := ⟨q_542, q_17, by decide, by decide, by decide +kernel⟩
theorem kc_Not_reach : kC y_Not_reach b_Not_reach 2 (some Jvm.ClassFile.FieldType.int) 1 := ⟨q_546, q_16, by decide, by decide, by decide +kernel⟩
theorem kc_Prev_reach : kC y_Prev_reach b_Prev_reach 2 (some Jvm.ClassFile.FieldType.int) 1 := ⟨q_549, q_19, by decide, by decide, by decide +kernel⟩
theorem kc_Since_reach : kC y_Since_reach b_Since_reach 2 (some Jvm.ClassFile.FieldType.int) 1 := ⟨q_553, q_20, by decide, by decide, by decide +kernel⟩
theorem kc_Until_reach : kC y_Until_reach b_Until_reach 5 (some Jvm.ClassFile.FieldType.int) 1 := ⟨q_557, q_21, by decide, by decide, by decide +kernel⟩
theorem kc_Log_duration : kC y_Log_duration b_Log_duration 3 (some Jvm.ClassFile.FieldType.int) 2 := ⟨q_562, q_5, by decide, by decide, by decide +kernel⟩
theorem kc_Atom_evaluate : kC y_Atom_evaluate b_Atom_evaluate 6 (some Jvm.ClassFile.FieldType.long) 2 := ⟨q_569, q_8, by decide, by decide, by decide +kernel⟩
theorem kc_M_valueOf : kC y_M_valueOf b_M_valueOf 2 (some Jvm.ClassFile.FieldType.int) 2 := ⟨q_572, q_1, by decide, by decide, by decide +kernel⟩
theorem kc_Comp_evaluate : kC y_Comp_evaluate b_Comp_evaluate 8 (some Jvm.ClassFile.FieldType.long) 2 := ⟨q_576, q_13, by decide, by decide, by decide +kernel⟩
theorem kc_Exi_evaluate : kC y_Exi_evaluate b_Exi_evaluate 3 (some Jvm.ClassFile.FieldType.long) 2 := ⟨q_580, q_18, by decide, by decide, by decide +kernel⟩
theorem kc_Form_setAt : kC y_Form_setAt b_Form_setAt 2 (some Jvm.ClassFile.FieldType.long) 1 := ⟨q_592, q_7, by decide, by decide, by decide +kernel⟩
theorem kc_Form_isDecidedAt : kC y_Form_isDecidedAt b_Form_isDecidedAt 2 (some Jvm.ClassFile.FieldType.boolean) 1 := ⟨q_604, q_7, by decide, by decide, by decide +kernel⟩
theorem kc_M_fold : kC y_M_fold b_M_fold 4 (some Jvm.ClassFile.FieldType.long) 2 := ⟨q_607, q_1, by decide, by decide, by decide +kernel⟩
theorem kc_M_unfold : kC y_M_unfold b_M_unfold 4 (some Jvm.ClassFile.FieldType.long) 2 := ⟨q_612, q_1, by decide, by decide, by decide +kernel⟩
theorem kc_Join_evaluate : kC y_Join_evaluate b_Join_evaluate 3 (some Jvm.ClassFile.FieldType.long) 2 := ⟨q_615, q_17, by decide, by decide, by decide +kernel⟩
theorem kc_Not_evaluate : kC y_Not_evaluate b_Not_evaluate 3 (some Jvm.ClassFile.FieldType.long) 2 := ⟨q_619, q_16, by decide, by decide, by decide +kernel⟩
theorem kc_Prev_evaluate : kC y_Prev_evaluate b_Prev_evaluate 3 (some Jvm.ClassFile.FieldType.long) 2 := ⟨q_624, q_19, by decide, by decide, by decide +kernel⟩
theorem kc_M_liesIn : kC y_M_liesIn b_M_liesIn 3 (some Jvm.ClassFile.FieldType.boolean) 3 := ⟨q_628, q_1, by decide, by decide, by decide +kernel⟩
theorem kc_Since_evaluate : kC y_Since_evaluate b_Since_evaluate 8 (some Jvm.ClassFile.FieldType.long) 2 := ⟨q_632, q_20, by decide, by decide, by decide +kernel⟩
theorem kc_Until_evaluate : kC y_Until_evaluate b_Until_evaluate 8 (some Jvm.ClassFile.FieldType.long) 2 := ⟨q_639, q_21, by decide, by decide, by decide +kernel⟩
theorem kc_M_stop : kC y_M_stop b_M_stop 3 none 1 := ⟨q_645, q_1, by decide, by decide, by decide +kernel⟩
theorem kc_Log_clear : kC y_Log_clear b_Log_clear 1 none 0 := ⟨q_649, q_5, by decide, by decide, by decide +kernel⟩
theorem kc_Form_forget : kC y_Form_forget b_Form_forget 1 none 0 := ⟨q_661, q_7, by decide, by decide, by decide +kernel⟩
theorem kc_AL_clear : kC y_AL_clear b_AL_clear 4 none 0 := ⟨q_665, q_4, by decide, by decide, by decide +kernel⟩
theorem kc_M_progress : kC y_M_progress b_M_progress 3 (some Jvm.ClassFile.FieldType.int) 1 := ⟨q_669, q_1, by decide, by decide, by decide +kernel⟩
theorem kc_M_satisfied : kC y_M_satisfied b_M_satisfied 4 (some Jvm.ClassFile.FieldType.long) 2 := ⟨q_673, q_1, by decide, by decide, by decide +kernel⟩
theorem kc_M_rows : kC y_M_rows b_M_rows 7 (some Jvm.ClassFile.FieldType.int) 2 := ⟨q_678, q_1, by decide, by decide, by decide +kernel⟩
theorem kc_Long_bitCount : kC y_Long_bitCount b_Long_bitCount 2 (some Jvm.ClassFile.FieldType.int) 1 := ⟨q_683, q_22, by decide, by decide, by decide +kernel⟩
theorem kc_R_init : kC y_R_init b_R_init 1 none 0 := ⟨q_691, q_6, by decide, by decide, by decide +kernel⟩
theorem kc_R_atom : kC y_R_atom b_R_atom 4 (some Jvm.ClassFile.FieldType.int) 3 := ⟨q_749, q_6, by decide, by decide, by decide +kernel⟩
theorem kc_R_mayMake : kC y_R_mayMake b_R_mayMake 1 (some Jvm.ClassFile.FieldType.boolean) 0 := ⟨q_753, q_6, by decide, by decide, by decide +kernel⟩
theorem kc_R_isTerm : kC y_R_isTerm b_R_isTerm 1 (some Jvm.ClassFile.FieldType.boolean) 1 := ⟨q_756, q_6, by decide, by decide, by decide +kernel⟩
theorem kc_R_make : kC y_R_make b_R_make 5 (some Jvm.ClassFile.FieldType.int) 4 := ⟨q_760, q_6, by decide, by decide, by decide +kernel⟩
theorem kc_R_compare : kC y_R_compare b_R_compare 4 (some Jvm.ClassFile.FieldType.int) 3 := ⟨q_764, q_6, by decide, by decide, by decide +kernel⟩
theorem kc_R_not : kC y_R_not b_R_not 2 (some Jvm.ClassFile.FieldType.int) 1 := ⟨q_768, q_6, by decide, by decide, by decide +kernel⟩
theorem kc_R_isFormula : kC y_R_isFormula b_R_isFormula 2 (some Jvm.ClassFile.FieldType.boolean) 1 := ⟨q_772, q_6, by decide, by decide, by decide +kernel⟩
theorem kc_R_join : kC y_R_join b_R_join 4 (some Jvm.ClassFile.FieldType.int) 3 := ⟨q_776, q_6, by decide, by decide, by decide +kernel⟩
theorem kc_R_exists : kC y_R_exists b_R_exists 3 (some Jvm.ClassFile.FieldType.int) 2 := ⟨q_780, q_6, by decide, by decide, by decide +kernel⟩
theorem kc_R_previous : kC y_R_previous b_R_previous 4 (some Jvm.ClassFile.FieldType.int) 3 := ⟨q_784, q_6, by decide, by decide, by decide +kernel⟩
theorem kc_R_isInterval : kC y_R_isInterval b_R_isInterval 3 (some Jvm.ClassFile.FieldType.boolean) 3 := ⟨q_787, q_6, by decide, by decide, by decide +kernel⟩
theorem kc_R_makeTimed : kC y_R_makeTimed b_R_makeTimed 7 (some Jvm.ClassFile.FieldType.int) 5 := ⟨q_792, q_6, by decide, by decide, by decide +kernel⟩
theorem kc_R_since : kC y_R_since b_R_since 5 (some Jvm.ClassFile.FieldType.int) 4 := ⟨q_796, q_6, by decide, by decide, by decide +kernel⟩
theorem kc_R_until : kC y_R_until b_R_until 5 (some Jvm.ClassFile.FieldType.int) 4 := ⟨q_800, q_6, by decide, by decide, by decide +kernel⟩
theorem kc_R_free : kC y_R_free b_R_free 2 (some Jvm.ClassFile.FieldType.int) 1 := ⟨q_804, q_6, by decide, by decide, by decide +kernel⟩
theorem kc_R_freeOf : kC y_R_freeOf b_R_freeOf 3 (some Jvm.ClassFile.FieldType.int) 1 := ⟨q_808, q_6, by decide, by decide, by decide +kernel⟩
theorem kc_R_variable : kC y_R_variable b_R_variable 1 (some Jvm.ClassFile.FieldType.int) 1 := ⟨q_811, q_6, by decide, by decide, by decide +kernel⟩
theorem kc_R_ranged : kC y_R_ranged b_R_ranged 2 (some Jvm.ClassFile.FieldType.int) 1 := ⟨q_815, q_6, by decide, by decide, by decide +kernel⟩
theorem kc_R_rangedOf : kC y_R_rangedOf b_R_rangedOf 5 (some Jvm.ClassFile.FieldType.int) 1 := ⟨q_819, q_6, by decide, by decide, by decide +kernel⟩
theorem kc_R_bounded : kC y_R_bounded b_R_bounded 3 (some Jvm.ClassFile.FieldType.boolean) 1 := ⟨q_823, q_6, by decide, by decide, by decide +kernel⟩
theorem kc_R_watch : kC y_R_watch b_R_watch 1 (some Jvm.ClassFile.FieldType.boolean) 0 := ⟨q_827, q_6, by decide, by decide, by decide +kernel⟩
theorem kc_R_empty : kC y_R_empty b_R_empty 2 none 0 := ⟨q_831, q_6, by decide, by decide, by decide +kernel⟩
theorem kc_R_gather : kC y_R_gather b_R_gather 5 (some Jvm.ClassFile.FieldType.boolean) 3 := ⟨q_835, q_6, by decide, by decide, by decide +kernel⟩
theorem kc_R_place : kC y_R_place b_R_place 4 (some Jvm.ClassFile.FieldType.int) 1 := ⟨q_839, q_6, by decide, by decide, by decide +kernel⟩
theorem kc_R_look : kC y_R_look b_R_look 6 none 2 := ⟨q_843, q_6, by decide, by decide, by decide +kernel⟩
theorem kc_R_satisfies : kC y_R_satisfies b_R_satisfies 6 (some Jvm.ClassFile.FieldType.boolean) 3 := ⟨q_847, q_6, by decide, by decide, by decide +kernel⟩
theorem kc_R_value : kC y_R_value b_R_value 2 (some Jvm.ClassFile.FieldType.int) 2 := ⟨q_850, q_6, by decide, by decide, by decide +kernel⟩
theorem kc_R_at : kC y_R_at b_R_at 4 (some Jvm.ClassFile.FieldType.boolean) 3 := ⟨q_854, q_6, by decide, by decide, by decide +kernel⟩
theorem kc_R_existsAt : kC y_R_existsAt b_R_existsAt 7 (some Jvm.ClassFile.FieldType.boolean) 3 := ⟨q_858, q_6, by decide, by decide, by decide +kernel⟩
theorem kc_R_lies : kC y_R_lies b_R_lies 3 (some Jvm.ClassFile.FieldType.boolean) 2 := ⟨q_862, q_6, by decide, by decide, by decide +kernel⟩
theorem kc_R_sinceAt : kC y_R_sinceAt b_R_sinceAt 5 (some Jvm.ClassFile.FieldType.boolean) 3 := ⟨q_866, q_6, by decide, by decide, by decide +kernel⟩
theorem kc_R_untilAt : kC y_R_untilAt b_R_untilAt 5 (some Jvm.ClassFile.FieldType.boolean) 3 := ⟨q_870, q_6, by decide, by decide, by decide +kernel⟩
theorem kc_R_stop : kC y_R_stop b_R_stop 2 none 1 := ⟨q_874, q_6, by decide, by decide, by decide +kernel⟩
theorem kc_R_progress : kC y_R_progress b_R_progress 4 (some Jvm.ClassFile.FieldType.int) 1 := ⟨q_878, q_6, by decide, by decide, by decide +kernel⟩
theorem kc_R_lesser : kC y_R_lesser b_R_lesser 3 (some Jvm.ClassFile.FieldType.int) 2 := ⟨q_882, q_6, by decide, by decide, by decide +kernel⟩
theorem kc_R_decided : kC y_R_decided b_R_decided 7 (some Jvm.ClassFile.FieldType.int) 2 := ⟨q_886, q_6, by decide, by decide, by decide +kernel⟩
theorem kc_R_satisfied : kC y_R_satisfied b_R_satisfied 3 (some Jvm.ClassFile.FieldType.long) 2 := ⟨q_890, q_6, by decide, by decide, by decide +kernel⟩
theorem kc_R_isKnown : kC y_R_isKnown b_R_isKnown 3 (some Jvm.ClassFile.FieldType.boolean) 2 := ⟨q_894, q_6, by decide, by decide, by decide +kernel⟩
theorem kc_R_rows : kC y_R_rows b_R_rows 8 (some Jvm.ClassFile.FieldType.int) 2 := ⟨q_899, q_6, by decide, by decide, by decide +kernel⟩
theorem kc_R_agree : kC y_R_agree b_R_agree 5 (some Jvm.ClassFile.FieldType.boolean) 3 := ⟨q_903, q_6, by decide, by decide, by decide +kernel⟩
theorem kf_Atom : kF "MetricLogMonitor$Atom" F_Atom 8 := ⟨by
    intro w hw
    obtain ⟨k, hk, rfl⟩ := List.mem_map.mp hw
    have hk := List.mem_range.mp hk
    rcases (show k = 0 ∨ k = 1 ∨ k = 2 ∨ k = 3 ∨ k = 4 ∨ k = 5 ∨ k = 6 ∨ k = 7 by omega) with rfl | rfl | rfl | rfl | rfl | rfl | rfl | rfl
    · exact q_173
    · exact q_175
    · exact q_177
    · exact q_179
    · exact q_181
    · exact q_167
    · exact q_169
    · exact q_171
  , ⟨t_Atom, by decide +kernel⟩, by decide +kernel⟩
theorem kf_Comp : kF "MetricLogMonitor$Comparison" F_Comp 8 := ⟨by
    intro w hw
    obtain ⟨k, hk, rfl⟩ := List.mem_map.mp hw
    have hk := List.mem_range.mp hk
    rcases (show k = 0 ∨ k = 1 ∨ k = 2 ∨ k = 3 ∨ k = 4 ∨ k = 5 ∨ k = 6 ∨ k = 7 by omega) with rfl | rfl | rfl | rfl | rfl | rfl | rfl | rfl
    · exact q_271
    · exact q_272
    · exact q_273
    · exact q_274
    · exact q_275
    · exact q_265
    · exact q_267
    · exact q_269
  , ⟨t_Comp, by decide +kernel⟩, by decide +kernel⟩
theorem kf_Not : kF "MetricLogMonitor$Not" F_Not 6 := ⟨by
    intro w hw
    obtain ⟨k, hk, rfl⟩ := List.mem_map.mp hw
    have hk := List.mem_range.mp hk
    rcases (show k = 0 ∨ k = 1 ∨ k = 2 ∨ k = 3 ∨ k = 4 ∨ k = 5 by omega) with rfl | rfl | rfl | rfl | rfl | rfl
    · exact q_309
    · exact q_310
    · exact q_311
    · exact q_312
    · exact q_313
    · exact q_307
  , ⟨t_Not, by decide +kernel⟩, by decide +kernel⟩
theorem kf_Join : kF "MetricLogMonitor$Join" F_Join 8 := ⟨by
    intro w hw
    obtain ⟨k, hk, rfl⟩ := List.mem_map.mp hw
    have hk := List.mem_range.mp hk
    rcases (show k = 0 ∨ k = 1 ∨ k = 2 ∨ k = 3 ∨ k = 4 ∨ k = 5 ∨ k = 6 ∨ k = 7 by omega) with rfl | rfl | rfl | rfl | rfl | rfl | rfl | rfl
    · exact q_337
    · exact q_338
    · exact q_339
    · exact q_340
    · exact q_341
    · exact q_331
    · exact q_333
    · exact q_335
  , ⟨t_Join, by decide +kernel⟩, by decide +kernel⟩
theorem kf_Exi : kF "MetricLogMonitor$Exists" F_Exi 7 := ⟨by
    intro w hw
    obtain ⟨k, hk, rfl⟩ := List.mem_map.mp hw
    have hk := List.mem_range.mp hk
    rcases (show k = 0 ∨ k = 1 ∨ k = 2 ∨ k = 3 ∨ k = 4 ∨ k = 5 ∨ k = 6 by omega) with rfl | rfl | rfl | rfl | rfl | rfl | rfl
    · exact q_360
    · exact q_361
    · exact q_362
    · exact q_363
    · exact q_364
    · exact q_356
    · exact q_358
  , ⟨t_Exi, by decide +kernel⟩, by decide +kernel⟩
theorem kf_Prev : kF "MetricLogMonitor$Previous" F_Prev 8 := ⟨by
    intro w hw
    obtain ⟨k, hk, rfl⟩ := List.mem_map.mp hw
    have hk := List.mem_range.mp hk
    rcases (show k = 0 ∨ k = 1 ∨ k = 2 ∨ k = 3 ∨ k = 4 ∨ k = 5 ∨ k = 6 ∨ k = 7 by omega) with rfl | rfl | rfl | rfl | rfl | rfl | rfl | rfl
    · exact q_395
    · exact q_396
    · exact q_397
    · exact q_398
    · exact q_399
    · exact q_389
    · exact q_391
    · exact q_393
  , ⟨t_Prev, by decide +kernel⟩, by decide +kernel⟩
theorem kf_Since : kF "MetricLogMonitor$Since" F_Since 9 := ⟨by
    intro w hw
    obtain ⟨k, hk, rfl⟩ := List.mem_map.mp hw
    have hk := List.mem_range.mp hk
    rcases (show k = 0 ∨ k = 1 ∨ k = 2 ∨ k = 3 ∨ k = 4 ∨ k = 5 ∨ k = 6 ∨ k = 7 ∨ k = 8 by omega) with rfl | rfl | rfl | rfl | rfl | rfl | rfl | rfl | rfl
    · exact q_423
    · exact q_424
    · exact q_425
    · exact q_426
    · exact q_427
    · exact q_415
    · exact q_417
    · exact q_419
    · exact q_421
  , ⟨t_Since, by decide +kernel⟩, by decide +kernel⟩
theorem kf_Until : kF "MetricLogMonitor$Until" F_Until 9 := ⟨by
    intro w hw
    obtain ⟨k, hk, rfl⟩ := List.mem_map.mp hw
    have hk := List.mem_range.mp hk
    rcases (show k = 0 ∨ k = 1 ∨ k = 2 ∨ k = 3 ∨ k = 4 ∨ k = 5 ∨ k = 6 ∨ k = 7 ∨ k = 8 by omega) with rfl | rfl | rfl | rfl | rfl | rfl | rfl | rfl | rfl
    · exact q_451
    · exact q_452
    · exact q_453
    · exact q_454
    · exact q_455
    · exact q_443
    · exact q_445
    · exact q_447
    · exact q_449
  , ⟨t_Until, by decide +kernel⟩, by decide +kernel⟩
theorem kf_M : kF "MetricLogMonitor" F_M 3 := ⟨by
    intro w hw
    obtain ⟨k, hk, rfl⟩ := List.mem_map.mp hw
    have hk := List.mem_range.mp hk
    rcases (show k = 0 ∨ k = 1 ∨ k = 2 by omega) with rfl | rfl | rfl
    · exact q_87
    · exact q_89
    · exact q_91
  , ⟨t_M, by decide +kernel⟩, by decide +kernel⟩
theorem kf_Log : kF "MetricLogMonitor$Log" F_Log 4 := ⟨by
    intro w hw
    obtain ⟨k, hk, rfl⟩ := List.mem_map.mp hw
    have hk := List.mem_range.mp hk
    rcases (show k = 0 ∨ k = 1 ∨ k = 2 ∨ k = 3 by omega) with rfl | rfl | rfl | rfl
    · exact q_73
    · exact q_75
    · exact q_77
    · exact q_79
  , ⟨t_Log, by decide +kernel⟩, by decide +kernel⟩
theorem kf_AL : kF "java/util/ArrayList" F_AL 3 := ⟨by
    intro w hw
    obtain ⟨k, hk, rfl⟩ := List.mem_map.mp hw
    have hk := List.mem_range.mp hk
    rcases (show k = 0 ∨ k = 1 ∨ k = 2 by omega) with rfl | rfl | rfl
    · exact q_54
    · exact q_50
    · exact q_52
  , ⟨t_AL, by decide +kernel⟩, by decide +kernel⟩
theorem kf_R : kF "MetricLogMonitorModel" F_R 17 := ⟨by
    intro w hw
    obtain ⟨k, hk, rfl⟩ := List.mem_map.mp hw
    have hk := List.mem_range.mp hk
    rcases (show k = 0 ∨ k = 1 ∨ k = 2 ∨ k = 3 ∨ k = 4 ∨ k = 5 ∨ k = 6 ∨ k = 7 ∨ k = 8 ∨ k = 9 ∨ k = 10 ∨ k = 11 ∨ k = 12 ∨ k = 13 ∨ k = 14 ∨ k = 15 ∨ k = 16 by omega) with rfl | rfl | rfl | rfl | rfl | rfl | rfl | rfl | rfl | rfl | rfl | rfl | rfl | rfl | rfl | rfl | rfl
    · exact q_710
    · exact q_724
    · exact q_726
    · exact q_712
    · exact q_714
    · exact q_716
    · exact q_718
    · exact q_720
    · exact q_722
    · exact q_728
    · exact q_730
    · exact q_732
    · exact q_734
    · exact q_736
    · exact q_738
    · exact q_740
    · exact q_742
  , ⟨t_R, by decide +kernel⟩, by decide +kernel⟩
def f_M_isRelation (x : Int32) : Int32 := (if x < 0 then 0 else (if 3 ≤ x then 0 else 1))
theorem z_M_isRelation (x : Int32) : f_M_isRelation x = 0 ∨ f_M_isRelation x = 1 := by
  unfold f_M_isRelation
  repeat' split
  all_goals first | exact Or.inl rfl | exact Or.inr rfl
set_option maxHeartbeats 4000000 in
set_option maxRecDepth 100000 in
theorem c_M_isRelation (l : Launch) {K : KT} (x : Int32) : Met l y_M_isRelation (Cond.code y_M_isRelation b_M_isRelation 1 (some Jvm.ClassFile.FieldType.boolean) :: WALL) { frames := 0, cells := 0, slots := 0, locals := 0 } (pc0 K [.int x] (fun _ => True)) (vp_Si (fun r => r = f_M_isRelation x)) 0 0 (fun _ => False) := by
  refine met0 (own := "MetricLogMonitor") (by decide) rfl (Nat.le_of_ble_eq_true rfl) (fun p e s m below meth c ls S hr hk hnm hC hH hl => ?_)
  have hl : lv_has ls 1 [(0, .int x)] := hl
  refine lv_iload_n S.1 S.2.1 d_M_isRelation_0 rfl (lv_at hl 0 rfl) ?_
  refine lv_if_lt (tgt := 13) S.1 S.2.1 d_M_isRelation_1 (by decide) (fun hbr1 => ?_) (fun hbr1 => ?_)
  · refine lv_iconst (v := 0) S.1 S.2.1 d_M_isRelation_13 (by decide) ?_
    exact r_z S hr hk rfl d_M_isRelation_14 (by unfold f_M_isRelation; simp only [if_pos hbr1])
  · refine lv_iload_n S.1 S.2.1 d_M_isRelation_4 rfl (lv_at hl 0 rfl) ?_
    refine lv_iconst (v := 3) S.1 S.2.1 d_M_isRelation_5 (by decide) ?_
    refine lv_icmp_ge (tgt := 13) S.1 S.2.1 d_M_isRelation_6 (by decide) (fun hbr2 => ?_) (fun hbr2 => ?_)
    · refine lv_iconst (v := 0) S.1 S.2.1 d_M_isRelation_13 (by decide) ?_
      exact r_z S hr hk rfl d_M_isRelation_14 (by unfold f_M_isRelation; simp only [if_neg hbr1, if_pos hbr2])
    · refine lv_iconst (v := 1) S.1 S.2.1 d_M_isRelation_9 (by decide) ?_
      refine lv_goto (tgt := 14) S.1 S.2.1 d_M_isRelation_10 (by decide) ?_
      exact r_z S hr hk rfl d_M_isRelation_14 (by unfold f_M_isRelation; simp only [if_neg hbr1, if_neg hbr2])
def f_M_isVariable (x : Int32) : Int32 := (if x < 0 then 0 else (if 3 ≤ x then 0 else 1))
theorem z_M_isVariable (x : Int32) : f_M_isVariable x = 0 ∨ f_M_isVariable x = 1 := by
  unfold f_M_isVariable
  repeat' split
  all_goals first | exact Or.inl rfl | exact Or.inr rfl | exact z_M_isRelation _ _ | exact z_M_isRelation _
set_option maxHeartbeats 4000000 in
set_option maxRecDepth 100000 in
theorem c_M_isVariable (l : Launch) {K : KT} (x : Int32) : Met l y_M_isVariable (Cond.code y_M_isVariable b_M_isVariable 1 (some Jvm.ClassFile.FieldType.boolean) :: WALL) { frames := 0, cells := 0, slots := 0, locals := 0 } (pc0 K [.int x] (fun _ => True)) (vp_Si (fun r => r = f_M_isVariable x)) 0 0 (fun _ => False) := by
  refine met0 (own := "MetricLogMonitor") (by decide) rfl (Nat.le_of_ble_eq_true rfl) (fun p e s m below meth c ls S hr hk hnm hC hH hl => ?_)
  have hl : lv_has ls 1 [(0, .int x)] := hl
  refine lv_iload_n S.1 S.2.1 d_M_isVariable_0 rfl (lv_at hl 0 rfl) ?_
  refine lv_if_lt (tgt := 13) S.1 S.2.1 d_M_isVariable_1 (by decide) (fun hbr1 => ?_) (fun hbr1 => ?_)
  · refine lv_iconst (v := 0) S.1 S.2.1 d_M_isVariable_13 (by decide) ?_
    exact r_z S hr hk rfl d_M_isVariable_14 (by unfold f_M_isVariable; simp only [if_pos hbr1])
  · refine lv_iload_n S.1 S.2.1 d_M_isVariable_4 rfl (lv_at hl 0 rfl) ?_
    refine lv_iconst (v := 3) S.1 S.2.1 d_M_isVariable_5 (by decide) ?_
    refine lv_icmp_ge (tgt := 13) S.1 S.2.1 d_M_isVariable_6 (by decide) (fun hbr2 => ?_) (fun hbr2 => ?_)
    · refine lv_iconst (v := 0) S.1 S.2.1 d_M_isVariable_13 (by decide) ?_
      exact r_z S hr hk rfl d_M_isVariable_14 (by unfold f_M_isVariable; simp only [if_neg hbr1, if_pos hbr2])
    · refine lv_iconst (v := 1) S.1 S.2.1 d_M_isVariable_9 (by decide) ?_
      refine lv_goto (tgt := 14) S.1 S.2.1 d_M_isVariable_10 (by decide) ?_
      exact r_z S hr hk rfl d_M_isVariable_14 (by unfold f_M_isVariable; simp only [if_neg hbr1, if_neg hbr2])
def f_M_isValue (x : Int32) : Int32 := (if x < 0 then 0 else (if 4 ≤ x then 0 else 1))
theorem z_M_isValue (x : Int32) : f_M_isValue x = 0 ∨ f_M_isValue x = 1 := by
  unfold f_M_isValue
  repeat' split
  all_goals first | exact Or.inl rfl | exact Or.inr rfl | exact z_M_isRelation _ _ | exact z_M_isRelation _ | exact z_M_isVariable _ _ | exact z_M_isVariable _
set_option maxHeartbeats 4000000 in
set_option maxRecDepth 100000 in
theorem c_M_isValue (l : Launch) {K : KT} (x : Int32) : Met l y_M_isValue (Cond.code y_M_isValue b_M_isValue 1 (some Jvm.ClassFile.FieldType.boolean) :: WALL) { frames := 0, cells := 0, slots := 0, locals := 0 } (pc0 K [.int x] (fun _ => True)) (vp_Si (fun r => r = f_M_isValue x)) 0 0 (fun _ => False) := by
  refine met0 (own := "MetricLogMonitor") (by decide) rfl (Nat.le_of_ble_eq_true rfl) (fun p e s m below meth c ls S hr hk hnm hC hH hl => ?_)
  have hl : lv_has ls 1 [(0, .int x)] := hl
  refine lv_iload_n S.1 S.2.1 d_M_isValue_0 rfl (lv_at hl 0 rfl) ?_
  refine lv_if_lt (tgt := 13) S.1 S.2.1 d_M_isValue_1 (by decide) (fun hbr1 => ?_) (fun hbr1 => ?_)
  · refine lv_iconst (v := 0) S.1 S.2.1 d_M_isValue_13 (by decide) ?_
    exact r_z S hr hk rfl d_M_isValue_14 (by unfold f_M_isValue; simp only [if_pos hbr1])
  · refine lv_iload_n S.1 S.2.1 d_M_isValue_4 rfl (lv_at hl 0 rfl) ?_
    refine lv_iconst (v := 4) S.1 S.2.1 d_M_isValue_5 (by decide) ?_
    refine lv_icmp_ge (tgt := 13) S.1 S.2.1 d_M_isValue_6 (by decide) (fun hbr2 => ?_) (fun hbr2 => ?_)
    · refine lv_iconst (v := 0) S.1 S.2.1 d_M_isValue_13 (by decide) ?_
      exact r_z S hr hk rfl d_M_isValue_14 (by unfold f_M_isValue; simp only [if_neg hbr1, if_pos hbr2])
    · refine lv_iconst (v := 1) S.1 S.2.1 d_M_isValue_9 (by decide) ?_
      refine lv_goto (tgt := 14) S.1 S.2.1 d_M_isValue_10 (by decide) ?_
      exact r_z S hr hk rfl d_M_isValue_14 (by unfold f_M_isValue; simp only [if_neg hbr1, if_neg hbr2])
def f_M_isValueTerm (x : Int32) : Int32 := (if x < 4 then 0 else (if 8 ≤ x then 0 else 1))
theorem z_M_isValueTerm (x : Int32) : f_M_isValueTerm x = 0 ∨ f_M_isValueTerm x = 1 := by
  unfold f_M_isValueTerm
  repeat' split
  all_goals first | exact Or.inl rfl | exact Or.inr rfl | exact z_M_isRelation _ _ | exact z_M_isRelation _ | exact z_M_isVariable _ _ | exact z_M_isVariable _ | exact z_M_isValue _ _ | exact z_M_isValue _
set_option maxHeartbeats 4000000 in
set_option maxRecDepth 100000 in
theorem c_M_isValueTerm (l : Launch) {K : KT} (x : Int32) : Met l y_M_isValueTerm (Cond.code y_M_isValueTerm b_M_isValueTerm 1 (some Jvm.ClassFile.FieldType.boolean) :: WALL) { frames := 0, cells := 0, slots := 0, locals := 0 } (pc0 K [.int x] (fun _ => True)) (vp_Si (fun r => r = f_M_isValueTerm x)) 0 0 (fun _ => False) := by
  refine met0 (own := "MetricLogMonitor") (by decide) rfl (Nat.le_of_ble_eq_true rfl) (fun p e s m below meth c ls S hr hk hnm hC hH hl => ?_)
  have hl : lv_has ls 1 [(0, .int x)] := hl
  refine lv_iload_n S.1 S.2.1 d_M_isValueTerm_0 rfl (lv_at hl 0 rfl) ?_
  refine lv_iconst (v := 4) S.1 S.2.1 d_M_isValueTerm_1 (by decide) ?_
  refine lv_icmp_lt (tgt := 15) S.1 S.2.1 d_M_isValueTerm_2 (by decide) (fun hbr1 => ?_) (fun hbr1 => ?_)
  · refine lv_iconst (v := 0) S.1 S.2.1 d_M_isValueTerm_15 (by decide) ?_
    exact r_z S hr hk rfl d_M_isValueTerm_16 (by unfold f_M_isValueTerm; simp only [if_pos hbr1])
  · refine lv_iload_n S.1 S.2.1 d_M_isValueTerm_5 rfl (lv_at hl 0 rfl) ?_
    refine lv_bipush (v := 8) S.1 S.2.1 d_M_isValueTerm_6 (by decide) ?_
    refine lv_icmp_ge (tgt := 15) S.1 S.2.1 d_M_isValueTerm_8 (by decide) (fun hbr2 => ?_) (fun hbr2 => ?_)
    · refine lv_iconst (v := 0) S.1 S.2.1 d_M_isValueTerm_15 (by decide) ?_
      exact r_z S hr hk rfl d_M_isValueTerm_16 (by unfold f_M_isValueTerm; simp only [if_neg hbr1, if_pos hbr2])
    · refine lv_iconst (v := 1) S.1 S.2.1 d_M_isValueTerm_11 (by decide) ?_
      refine lv_goto (tgt := 16) S.1 S.2.1 d_M_isValueTerm_12 (by decide) ?_
      exact r_z S hr hk rfl d_M_isValueTerm_16 (by unfold f_M_isValueTerm; simp only [if_neg hbr1, if_neg hbr2])
def f_M_isTerm (x : Int32) : Int32 := (if (f_M_isVariable x) = 0 then (if (f_M_isValueTerm x) = 0 then 0 else 1) else 1)
theorem z_M_isTerm (x : Int32) : f_M_isTerm x = 0 ∨ f_M_isTerm x = 1 := by
  unfold f_M_isTerm
  repeat' split
  all_goals first | exact Or.inl rfl | exact Or.inr rfl | exact z_M_isRelation _ _ | exact z_M_isRelation _ | exact z_M_isVariable _ _ | exact z_M_isVariable _ | exact z_M_isValue _ _ | exact z_M_isValue _ | exact z_M_isValueTerm _ _ | exact z_M_isValueTerm _
set_option maxHeartbeats 4000000 in
set_option maxRecDepth 100000 in
theorem c_M_isTerm (l : Launch) {K : KT} (x : Int32) : Met l y_M_isTerm (Cond.code y_M_isTerm b_M_isTerm 1 (some Jvm.ClassFile.FieldType.boolean) :: WALL) { frames := 1, cells := 0, slots := 0, locals := 20 } (pc0 K [.int x] (fun _ => True)) (vp_Si (fun r => r = f_M_isTerm x)) 0 0 (fun _ => False) := by
  refine met0 (own := "MetricLogMonitor") (by decide) rfl (Nat.le_of_ble_eq_true rfl) (fun p e s m below meth c ls S hr hk hnm hC hH hl => ?_)
  have hl : lv_has ls 1 [(0, .int x)] := hl
  refine lv_iload_n S.1 S.2.1 d_M_isTerm_0 rfl (lv_at hl 0 rfl) ?_
  refine kSi (rest := []) S (c_M_isVariable l x) kc_M_isVariable ⟨q_112, q_113⟩ rfl rfl ⟨Nat.le_of_ble_eq_true rfl, Nat.le_of_ble_eq_true rfl⟩ hC (hSF s) (hAF K) trivial ⟨Nat.zero_le _, Nat.zero_le _⟩ hl.1 rfl rfl (Nat.le_of_ble_eq_true rfl) d_M_isTerm_1 (fun r er => ?_)
  subst er
  refine lv_if_ne (tgt := 14) S.1 S.2.1 d_M_isTerm_4 (by decide) (fun hbr1 => ?_) (fun hbr1 => ?_)
  · refine lv_iconst (v := 1) S.1 S.2.1 d_M_isTerm_14 (by decide) ?_
    refine lv_goto (tgt := 19) S.1 S.2.1 d_M_isTerm_15 (by decide) ?_
    exact r_z S hr hk rfl d_M_isTerm_19 (by unfold f_M_isTerm; simp only [if_neg hbr1])
  · refine lv_iload_n S.1 S.2.1 d_M_isTerm_7 rfl (lv_at hl 0 rfl) ?_
    refine kSi (rest := []) S (c_M_isValueTerm l x) kc_M_isValueTerm ⟨q_115, q_116⟩ rfl rfl ⟨Nat.le_of_ble_eq_true rfl, Nat.le_of_ble_eq_true rfl⟩ hC (hSF s) (hAF K) trivial ⟨Nat.zero_le _, Nat.zero_le _⟩ hl.1 rfl rfl (Nat.le_of_ble_eq_true rfl) d_M_isTerm_8 (fun r er => ?_)
    subst er
    refine lv_if_eq (tgt := 18) S.1 S.2.1 d_M_isTerm_11 (by decide) (fun hbr2 => ?_) (fun hbr2 => ?_)
    · refine lv_iconst (v := 0) S.1 S.2.1 d_M_isTerm_18 (by decide) ?_
      exact r_z S hr hk rfl d_M_isTerm_19 (by unfold f_M_isTerm; simp only [if_pos hbr1, if_pos hbr2])
    · refine lv_iconst (v := 1) S.1 S.2.1 d_M_isTerm_14 (by decide) ?_
      refine lv_goto (tgt := 19) S.1 S.2.1 d_M_isTerm_15 (by decide) ?_
      exact r_z S hr hk rfl d_M_isTerm_19 (by unfold f_M_isTerm; simp only [if_pos hbr1, if_neg hbr2])
def f_M_isTime (x : Int32) : Int32 := (if x < 0 then 0 else (if 1000000 < x then 0 else 1))
theorem z_M_isTime (x : Int32) : f_M_isTime x = 0 ∨ f_M_isTime x = 1 := by
  unfold f_M_isTime
  repeat' split
  all_goals first | exact Or.inl rfl | exact Or.inr rfl | exact z_M_isRelation _ _ | exact z_M_isRelation _ | exact z_M_isVariable _ _ | exact z_M_isVariable _ | exact z_M_isValue _ _ | exact z_M_isValue _ | exact z_M_isValueTerm _ _ | exact z_M_isValueTerm _ | exact z_M_isTerm _ _ | exact z_M_isTerm _
set_option maxHeartbeats 4000000 in
set_option maxRecDepth 100000 in
theorem c_M_isTime (l : Launch) {K : KT} (x : Int32) : Met l y_M_isTime (Cond.code y_M_isTime b_M_isTime 1 (some Jvm.ClassFile.FieldType.boolean) :: WALL) { frames := 0, cells := 0, slots := 0, locals := 0 } (pc0 K [.int x] (fun _ => True)) (vp_Si (fun r => r = f_M_isTime x)) 0 0 (fun _ => False) := by
  refine met0 (own := "MetricLogMonitor") (by decide) rfl (Nat.le_of_ble_eq_true rfl) (fun p e s m below meth c ls S hr hk hnm hC hH hl => ?_)
  have hl : lv_has ls 1 [(0, .int x)] := hl
  refine lv_iload_n S.1 S.2.1 d_M_isTime_0 rfl (lv_at hl 0 rfl) ?_
  refine lv_if_lt (tgt := 14) S.1 S.2.1 d_M_isTime_1 (by decide) (fun hbr1 => ?_) (fun hbr1 => ?_)
  · refine lv_iconst (v := 0) S.1 S.2.1 d_M_isTime_14 (by decide) ?_
    exact r_z S hr hk rfl d_M_isTime_15 (by unfold f_M_isTime; simp only [if_pos hbr1])
  · refine lv_iload_n S.1 S.2.1 d_M_isTime_4 rfl (lv_at hl 0 rfl) ?_
    refine lv_ldc (v := 1000000) S.1 S.2.1 S.2.2.2.1 (S.2.2.2.2 _ q_376) d_M_isTime_5 ?_
    refine lv_icmp_gt (tgt := 14) S.1 S.2.1 d_M_isTime_7 (by decide) (fun hbr2 => ?_) (fun hbr2 => ?_)
    · refine lv_iconst (v := 0) S.1 S.2.1 d_M_isTime_14 (by decide) ?_
      exact r_z S hr hk rfl d_M_isTime_15 (by unfold f_M_isTime; simp only [if_neg hbr1, if_pos hbr2])
    · refine lv_iconst (v := 1) S.1 S.2.1 d_M_isTime_10 (by decide) ?_
      refine lv_goto (tgt := 15) S.1 S.2.1 d_M_isTime_11 (by decide) ?_
      exact r_z S hr hk rfl d_M_isTime_15 (by unfold f_M_isTime; simp only [if_neg hbr1, if_neg hbr2])
def f_M_isInterval (x : Int32) (y : Int32) : Int32 := (if (f_M_isTime x) = 0 then 0 else (if (f_M_isTime y) = 0 then 0 else (if y < x then 0 else 1)))
theorem z_M_isInterval (x : Int32) (y : Int32) : f_M_isInterval x y = 0 ∨ f_M_isInterval x y = 1 := by
  unfold f_M_isInterval
  repeat' split
  all_goals first | exact Or.inl rfl | exact Or.inr rfl | exact z_M_isRelation _ _ | exact z_M_isRelation _ | exact z_M_isVariable _ _ | exact z_M_isVariable _ | exact z_M_isValue _ _ | exact z_M_isValue _ | exact z_M_isValueTerm _ _ | exact z_M_isValueTerm _ | exact z_M_isTerm _ _ | exact z_M_isTerm _ | exact z_M_isTime _ _ | exact z_M_isTime _
set_option maxHeartbeats 4000000 in
set_option maxRecDepth 100000 in
theorem c_M_isInterval (l : Launch) {K : KT} (x : Int32) (y : Int32) : Met l y_M_isInterval (Cond.code y_M_isInterval b_M_isInterval 2 (some Jvm.ClassFile.FieldType.boolean) :: WALL) { frames := 1, cells := 0, slots := 0, locals := 20 } (pc0 K [.int x, .int y] (fun _ => True)) (vp_Si (fun r => r = f_M_isInterval x y)) 0 0 (fun _ => False) := by
  refine met0 (own := "MetricLogMonitor") (by decide) rfl (Nat.le_of_ble_eq_true rfl) (fun p e s m below meth c ls S hr hk hnm hC hH hl => ?_)
  have hl : lv_has ls 2 [(0, .int x), (1, .int y)] := hl
  refine lv_iload_n S.1 S.2.1 d_M_isInterval_0 rfl (lv_at hl 0 rfl) ?_
  refine kSi (rest := []) S (c_M_isTime l x) kc_M_isTime ⟨q_373, q_374⟩ rfl rfl ⟨Nat.le_of_ble_eq_true rfl, Nat.le_of_ble_eq_true rfl⟩ hC (hSF s) (hAF K) trivial ⟨Nat.zero_le _, Nat.zero_le _⟩ hl.1 rfl rfl (Nat.le_of_ble_eq_true rfl) d_M_isInterval_1 (fun r er => ?_)
  subst er
  refine lv_if_eq (tgt := 23) S.1 S.2.1 d_M_isInterval_4 (by decide) (fun hbr1 => ?_) (fun hbr1 => ?_)
  · refine lv_iconst (v := 0) S.1 S.2.1 d_M_isInterval_23 (by decide) ?_
    exact r_z S hr hk rfl d_M_isInterval_24 (by unfold f_M_isInterval; simp only [if_pos hbr1])
  · refine lv_iload_n S.1 S.2.1 d_M_isInterval_7 rfl (lv_at hl 1 rfl) ?_
    refine kSi (rest := []) S (c_M_isTime l y) kc_M_isTime ⟨q_373, q_374⟩ rfl rfl ⟨Nat.le_of_ble_eq_true rfl, Nat.le_of_ble_eq_true rfl⟩ hC (hSF s) (hAF K) trivial ⟨Nat.zero_le _, Nat.zero_le _⟩ hl.1 rfl rfl (Nat.le_of_ble_eq_true rfl) d_M_isInterval_8 (fun r er => ?_)
    subst er
    refine lv_if_eq (tgt := 23) S.1 S.2.1 d_M_isInterval_11 (by decide) (fun hbr2 => ?_) (fun hbr2 => ?_)
    · refine lv_iconst (v := 0) S.1 S.2.1 d_M_isInterval_23 (by decide) ?_
      exact r_z S hr hk rfl d_M_isInterval_24 (by unfold f_M_isInterval; simp only [if_neg hbr1, if_pos hbr2])
    · refine lv_iload_n S.1 S.2.1 d_M_isInterval_14 rfl (lv_at hl 0 rfl) ?_
      refine lv_iload_n S.1 S.2.1 d_M_isInterval_15 rfl (lv_at hl 1 rfl) ?_
      refine lv_icmp_gt (tgt := 23) S.1 S.2.1 d_M_isInterval_16 (by decide) (fun hbr3 => ?_) (fun hbr3 => ?_)
      · refine lv_iconst (v := 0) S.1 S.2.1 d_M_isInterval_23 (by decide) ?_
        exact r_z S hr hk rfl d_M_isInterval_24 (by unfold f_M_isInterval; simp only [if_neg hbr1, if_neg hbr2, if_pos hbr3])
      · refine lv_iconst (v := 1) S.1 S.2.1 d_M_isInterval_19 (by decide) ?_
        refine lv_goto (tgt := 24) S.1 S.2.1 d_M_isInterval_20 (by decide) ?_
        exact r_z S hr hk rfl d_M_isInterval_24 (by unfold f_M_isInterval; simp only [if_neg hbr1, if_neg hbr2, if_neg hbr3])
def f_M_isPastInterval (x : Int32) (y : Int32) : Int32 := (if y = (-1) then (f_M_isTime x) else (f_M_isInterval x y))
theorem z_M_isPastInterval (x : Int32) (y : Int32) : f_M_isPastInterval x y = 0 ∨ f_M_isPastInterval x y = 1 := by
  unfold f_M_isPastInterval
  repeat' split
  all_goals first | exact Or.inl rfl | exact Or.inr rfl | exact z_M_isRelation _ _ | exact z_M_isRelation _ | exact z_M_isVariable _ _ | exact z_M_isVariable _ | exact z_M_isValue _ _ | exact z_M_isValue _ | exact z_M_isValueTerm _ _ | exact z_M_isValueTerm _ | exact z_M_isTerm _ _ | exact z_M_isTerm _ | exact z_M_isTime _ _ | exact z_M_isTime _ | exact z_M_isInterval _ _ | exact z_M_isInterval _
set_option maxHeartbeats 4000000 in
set_option maxRecDepth 100000 in
theorem c_M_isPastInterval (l : Launch) {K : KT} (x : Int32) (y : Int32) : Met l y_M_isPastInterval (Cond.code y_M_isPastInterval b_M_isPastInterval 2 (some Jvm.ClassFile.FieldType.boolean) :: WALL) { frames := 2, cells := 0, slots := 0, locals := 41 } (pc0 K [.int x, .int y] (fun _ => True)) (vp_Si (fun r => r = f_M_isPastInterval x y)) 0 0 (fun _ => False) := by
  refine met0 (own := "MetricLogMonitor") (by decide) rfl (Nat.le_of_ble_eq_true rfl) (fun p e s m below meth c ls S hr hk hnm hC hH hl => ?_)
  have hl : lv_has ls 2 [(0, .int x), (1, .int y)] := hl
  refine lv_iload_n S.1 S.2.1 d_M_isPastInterval_0 rfl (lv_at hl 1 rfl) ?_
  refine lv_iconst (v := (-1)) S.1 S.2.1 d_M_isPastInterval_1 (by decide) ?_
  refine lv_icmp_ne (tgt := 12) S.1 S.2.1 d_M_isPastInterval_2 (by decide) (fun hbr1 => ?_) (fun hbr1 => ?_)
  · refine lv_iload_n S.1 S.2.1 d_M_isPastInterval_12 rfl (lv_at hl 0 rfl) ?_
    refine lv_iload_n S.1 S.2.1 d_M_isPastInterval_13 rfl (lv_at hl 1 rfl) ?_
    refine kSi (rest := []) S (c_M_isInterval l x y) kc_M_isInterval ⟨q_377, q_378⟩ rfl rfl ⟨Nat.le_of_ble_eq_true rfl, Nat.le_of_ble_eq_true rfl⟩ hC (hSF s) (hAF K) trivial ⟨Nat.zero_le _, Nat.zero_le _⟩ hl.1 rfl rfl (Nat.le_of_ble_eq_true rfl) d_M_isPastInterval_14 (fun r er => ?_)
    subst er
    exact r_z S hr hk (nz (z_M_isInterval ..)) d_M_isPastInterval_17 (by unfold f_M_isPastInterval; simp only [if_neg hbr1])
  · refine lv_iload_n S.1 S.2.1 d_M_isPastInterval_5 rfl (lv_at hl 0 rfl) ?_
    refine kSi (rest := []) S (c_M_isTime l x) kc_M_isTime ⟨q_373, q_374⟩ rfl rfl ⟨Nat.le_of_ble_eq_true rfl, Nat.le_of_ble_eq_true rfl⟩ hC (hSF s) (hAF K) trivial ⟨Nat.zero_le _, Nat.zero_le _⟩ hl.1 rfl rfl (Nat.le_of_ble_eq_true rfl) d_M_isPastInterval_6 (fun r er => ?_)
    subst er
    refine lv_goto (tgt := 17) S.1 S.2.1 d_M_isPastInterval_9 (by decide) ?_
    exact r_z S hr hk (nz (z_M_isTime ..)) d_M_isPastInterval_17 (by unfold f_M_isPastInterval; simp only [if_pos hbr1])
def f_M_liesIn (x : Int32) (y : Int32) (z : Int32) : Int32 := (if x < y then 0 else (if z = (-1) then 1 else (if z < x then 0 else 1)))
theorem z_M_liesIn (x : Int32) (y : Int32) (z : Int32) : f_M_liesIn x y z = 0 ∨ f_M_liesIn x y z = 1 := by
  unfold f_M_liesIn
  repeat' split
  all_goals first | exact Or.inl rfl | exact Or.inr rfl | exact z_M_isRelation _ _ | exact z_M_isRelation _ | exact z_M_isVariable _ _ | exact z_M_isVariable _ | exact z_M_isValue _ _ | exact z_M_isValue _ | exact z_M_isValueTerm _ _ | exact z_M_isValueTerm _ | exact z_M_isTerm _ _ | exact z_M_isTerm _ | exact z_M_isTime _ _ | exact z_M_isTime _ | exact z_M_isInterval _ _ | exact z_M_isInterval _ | exact z_M_isPastInterval _ _ | exact z_M_isPastInterval _
set_option maxHeartbeats 4000000 in
set_option maxRecDepth 100000 in
theorem c_M_liesIn (l : Launch) {K : KT} (x : Int32) (y : Int32) (z : Int32) : Met l y_M_liesIn (Cond.code y_M_liesIn b_M_liesIn 3 (some Jvm.ClassFile.FieldType.boolean) :: WALL) { frames := 0, cells := 0, slots := 0, locals := 0 } (pc0 K [.int x, .int y, .int z] (fun _ => True)) (vp_Si (fun r => r = f_M_liesIn x y z)) 0 0 (fun _ => False) := by
  refine met0 (own := "MetricLogMonitor") (by decide) rfl (Nat.le_of_ble_eq_true rfl) (fun p e s m below meth c ls S hr hk hnm hC hH hl => ?_)
  have hl : lv_has ls 3 [(0, .int x), (1, .int y), (2, .int z)] := hl
  refine lv_iload_n S.1 S.2.1 d_M_liesIn_0 rfl (lv_at hl 1 rfl) ?_
  refine lv_iload_n S.1 S.2.1 d_M_liesIn_1 rfl (lv_at hl 0 rfl) ?_
  refine lv_icmp_gt (tgt := 19) S.1 S.2.1 d_M_liesIn_2 (by decide) (fun hbr1 => ?_) (fun hbr1 => ?_)
  · refine lv_iconst (v := 0) S.1 S.2.1 d_M_liesIn_19 (by decide) ?_
    exact r_z S hr hk rfl d_M_liesIn_20 (by unfold f_M_liesIn; simp only [if_pos hbr1])
  · refine lv_iload_n S.1 S.2.1 d_M_liesIn_5 rfl (lv_at hl 2 rfl) ?_
    refine lv_iconst (v := (-1)) S.1 S.2.1 d_M_liesIn_6 (by decide) ?_
    refine lv_icmp_eq (tgt := 15) S.1 S.2.1 d_M_liesIn_7 (by decide) (fun hbr2 => ?_) (fun hbr2 => ?_)
    · refine lv_iconst (v := 1) S.1 S.2.1 d_M_liesIn_15 (by decide) ?_
      refine lv_goto (tgt := 20) S.1 S.2.1 d_M_liesIn_16 (by decide) ?_
      exact r_z S hr hk rfl d_M_liesIn_20 (by unfold f_M_liesIn; simp only [if_neg hbr1, if_pos hbr2])
    · refine lv_iload_n S.1 S.2.1 d_M_liesIn_10 rfl (lv_at hl 0 rfl) ?_
      refine lv_iload_n S.1 S.2.1 d_M_liesIn_11 rfl (lv_at hl 2 rfl) ?_
      refine lv_icmp_gt (tgt := 19) S.1 S.2.1 d_M_liesIn_12 (by decide) (fun hbr3 => ?_) (fun hbr3 => ?_)
      · refine lv_iconst (v := 0) S.1 S.2.1 d_M_liesIn_19 (by decide) ?_
        exact r_z S hr hk rfl d_M_liesIn_20 (by unfold f_M_liesIn; simp only [if_neg hbr1, if_neg hbr2, if_pos hbr3])
      · refine lv_iconst (v := 1) S.1 S.2.1 d_M_liesIn_15 (by decide) ?_
        refine lv_goto (tgt := 20) S.1 S.2.1 d_M_liesIn_16 (by decide) ?_
        exact r_z S hr hk rfl d_M_liesIn_20 (by unfold f_M_liesIn; simp only [if_neg hbr1, if_neg hbr2, if_neg hbr3])
def f_M_valueOf (x : Int32) (y : Int32) : Int32 := (if (f_M_isVariable x) = 0 then (x - 4) else (((y : Int32) >>> (((2 * x) : Int32) &&& 31)) &&& 3))
set_option maxHeartbeats 4000000 in
set_option maxRecDepth 100000 in
theorem c_M_valueOf (l : Launch) {K : KT} (x : Int32) (y : Int32) : Met l y_M_valueOf (Cond.code y_M_valueOf b_M_valueOf 2 (some Jvm.ClassFile.FieldType.int) :: WALL) { frames := 1, cells := 0, slots := 0, locals := 20 } (pc0 K [.int x, .int y] (fun _ => True)) (vp_Si (fun r => r = f_M_valueOf x y)) 0 0 (fun _ => False) := by
  refine met0 (own := "MetricLogMonitor") (by decide) rfl (Nat.le_of_ble_eq_true rfl) (fun p e s m below meth c ls S hr hk hnm hC hH hl => ?_)
  have hl : lv_has ls 2 [(0, .int x), (1, .int y)] := hl
  refine lv_iload_n S.1 S.2.1 d_M_valueOf_0 rfl (lv_at hl 0 rfl) ?_
  refine kSi (rest := []) S (c_M_isVariable l x) kc_M_isVariable ⟨q_112, q_113⟩ rfl rfl ⟨Nat.le_of_ble_eq_true rfl, Nat.le_of_ble_eq_true rfl⟩ hC (hSF s) (hAF K) trivial ⟨Nat.zero_le _, Nat.zero_le _⟩ hl.1 rfl rfl (Nat.le_of_ble_eq_true rfl) d_M_valueOf_1 (fun r er => ?_)
  subst er
  refine lv_if_eq (tgt := 17) S.1 S.2.1 d_M_valueOf_4 (by decide) (fun hbr1 => ?_) (fun hbr1 => ?_)
  · refine lv_iload_n S.1 S.2.1 d_M_valueOf_17 rfl (lv_at hl 0 rfl) ?_
    refine lv_iconst (v := 4) S.1 S.2.1 d_M_valueOf_18 (by decide) ?_
    refine lv_isub S.1 S.2.1 d_M_valueOf_19 ?_
    exact r_i S hr hk d_M_valueOf_20 (by unfold f_M_valueOf; simp only [if_pos hbr1])
  · refine lv_iload_n S.1 S.2.1 d_M_valueOf_7 rfl (lv_at hl 1 rfl) ?_
    refine lv_iconst (v := 2) S.1 S.2.1 d_M_valueOf_8 (by decide) ?_
    refine lv_iload_n S.1 S.2.1 d_M_valueOf_9 rfl (lv_at hl 0 rfl) ?_
    refine lv_imul S.1 S.2.1 d_M_valueOf_10 ?_
    refine lv_ishr S.1 S.2.1 d_M_valueOf_11 ?_
    refine lv_iconst (v := 3) S.1 S.2.1 d_M_valueOf_12 (by decide) ?_
    refine lv_iand S.1 S.2.1 d_M_valueOf_13 ?_
    refine lv_goto (tgt := 20) S.1 S.2.1 d_M_valueOf_14 (by decide) ?_
    exact r_i S hr hk d_M_valueOf_20 (by unfold f_M_valueOf; simp only [if_neg hbr1])
def f_M_variableBit (x : Int32) : Int32 := ((1 : Int32) <<< ((x : Int32) &&& 31))
set_option maxHeartbeats 4000000 in
set_option maxRecDepth 100000 in
theorem c_M_variableBit (l : Launch) {K : KT} (x : Int32) : Met l y_M_variableBit (Cond.code y_M_variableBit b_M_variableBit 1 (some Jvm.ClassFile.FieldType.int) :: WALL) { frames := 0, cells := 0, slots := 0, locals := 0 } (pc0 K [.int x] (fun _ => True)) (vp_Si (fun r => r = f_M_variableBit x)) 0 0 (fun _ => False) := by
  refine met0 (own := "MetricLogMonitor") (by decide) rfl (Nat.le_of_ble_eq_true rfl) (fun p e s m below meth c ls S hr hk hnm hC hH hl => ?_)
  have hl : lv_has ls 1 [(0, .int x)] := hl
  refine lv_iconst (v := 1) S.1 S.2.1 d_M_variableBit_0 (by decide) ?_
  refine lv_iload_n S.1 S.2.1 d_M_variableBit_1 rfl (lv_at hl 0 rfl) ?_
  refine lv_ishl S.1 S.2.1 d_M_variableBit_2 ?_
  exact r_i S hr hk d_M_variableBit_3 (by unfold f_M_variableBit; rfl)
def f_M_variablesAmong (x : Int32) (y : Int32) : Int32 := (if (f_M_isVariable x) = 0 then (if (f_M_isVariable y) = 0 then 0 else (0 ||| (f_M_variableBit y))) else (if (f_M_isVariable y) = 0 then (0 ||| (f_M_variableBit x)) else ((0 ||| (f_M_variableBit x)) ||| (f_M_variableBit y))))
set_option maxHeartbeats 4000000 in
set_option maxRecDepth 100000 in
theorem c_M_variablesAmong (l : Launch) {K : KT} (x : Int32) (y : Int32) : Met l y_M_variablesAmong (Cond.code y_M_variablesAmong b_M_variablesAmong 3 (some Jvm.ClassFile.FieldType.int) :: WALL) { frames := 1, cells := 0, slots := 0, locals := 20 } (pc0 K [.int x, .int y] (fun _ => True)) (vp_Si (fun r => r = f_M_variablesAmong x y)) 0 0 (fun _ => False) := by
  refine met0 (own := "MetricLogMonitor") (by decide) rfl (Nat.le_of_ble_eq_true rfl) (fun p e s m below meth c ls S hr hk hnm hC hH hl => ?_)
  have hl : lv_has ls 3 [(0, .int x), (1, .int y)] := hl
  refine lv_iconst (v := 0) S.1 S.2.1 d_M_variablesAmong_0 (by decide) ?_
  refine lv_istore_n S.1 S.2.1 d_M_variablesAmong_1 rfl hl (by decide) rfl (fun ls hl => ?_)
  have hl : lv_has ls 3 [(2, .int 0), (0, .int x), (1, .int y)] := hl
  refine lv_iload_n S.1 S.2.1 d_M_variablesAmong_2 rfl (lv_at hl 1 rfl) ?_
  refine kSi (rest := []) S (c_M_isVariable l x) kc_M_isVariable ⟨q_112, q_113⟩ rfl rfl ⟨Nat.le_of_ble_eq_true rfl, Nat.le_of_ble_eq_true rfl⟩ hC (hSF s) (hAF K) trivial ⟨Nat.zero_le _, Nat.zero_le _⟩ hl.1 rfl rfl (Nat.le_of_ble_eq_true rfl) d_M_variablesAmong_3 (fun r er => ?_)
  subst er
  refine lv_if_eq (tgt := 16) S.1 S.2.1 d_M_variablesAmong_6 (by decide) (fun hbr1 => ?_) (fun hbr1 => ?_)
  · refine lv_iload_n S.1 S.2.1 d_M_variablesAmong_16 rfl (lv_at hl 2 rfl) ?_
    refine kSi (rest := []) S (c_M_isVariable l y) kc_M_isVariable ⟨q_112, q_113⟩ rfl rfl ⟨Nat.le_of_ble_eq_true rfl, Nat.le_of_ble_eq_true rfl⟩ hC (hSF s) (hAF K) trivial ⟨Nat.zero_le _, Nat.zero_le _⟩ hl.1 rfl rfl (Nat.le_of_ble_eq_true rfl) d_M_variablesAmong_17 (fun r er => ?_)
    subst er
    refine lv_if_eq (tgt := 30) S.1 S.2.1 d_M_variablesAmong_20 (by decide) (fun hbr2 => ?_) (fun hbr2 => ?_)
    · refine lv_iload_n S.1 S.2.1 d_M_variablesAmong_30 rfl (lv_at hl 0 rfl) ?_
      exact r_i S hr hk d_M_variablesAmong_31 (by unfold f_M_variablesAmong; simp only [if_pos hbr1, if_pos hbr2])
    · refine lv_iload_n S.1 S.2.1 d_M_variablesAmong_23 rfl (lv_at hl 0 rfl) ?_
      refine lv_iload_n S.1 S.2.1 d_M_variablesAmong_24 rfl (lv_at hl 2 rfl) ?_
      refine kSi (rest := [.int 0]) S (c_M_variableBit l y) kc_M_variableBit ⟨q_126, q_127⟩ rfl rfl ⟨Nat.le_of_ble_eq_true rfl, Nat.le_of_ble_eq_true rfl⟩ hC (hSF s) (hAF K) trivial ⟨Nat.zero_le _, Nat.zero_le _⟩ hl.1 rfl rfl (Nat.le_of_ble_eq_true rfl) d_M_variablesAmong_25 (fun r er => ?_)
      subst er
      refine lv_ior S.1 S.2.1 d_M_variablesAmong_28 ?_
      refine lv_istore_n S.1 S.2.1 d_M_variablesAmong_29 rfl hl (by decide) rfl (fun ls hl => ?_)
      have hl : lv_has ls 3 [(2, .int (0 ||| (f_M_variableBit y))), (0, .int x), (1, .int y)] := hl
      refine lv_iload_n S.1 S.2.1 d_M_variablesAmong_30 rfl (lv_at hl 0 rfl) ?_
      exact r_i S hr hk d_M_variablesAmong_31 (by unfold f_M_variablesAmong; simp only [if_pos hbr1, if_neg hbr2])
  · refine lv_iload_n S.1 S.2.1 d_M_variablesAmong_9 rfl (lv_at hl 0 rfl) ?_
    refine lv_iload_n S.1 S.2.1 d_M_variablesAmong_10 rfl (lv_at hl 1 rfl) ?_
    refine kSi (rest := [.int 0]) S (c_M_variableBit l x) kc_M_variableBit ⟨q_126, q_127⟩ rfl rfl ⟨Nat.le_of_ble_eq_true rfl, Nat.le_of_ble_eq_true rfl⟩ hC (hSF s) (hAF K) trivial ⟨Nat.zero_le _, Nat.zero_le _⟩ hl.1 rfl rfl (Nat.le_of_ble_eq_true rfl) d_M_variablesAmong_11 (fun r er => ?_)
    subst er
    refine lv_ior S.1 S.2.1 d_M_variablesAmong_14 ?_
    refine lv_istore_n S.1 S.2.1 d_M_variablesAmong_15 rfl hl (by decide) rfl (fun ls hl => ?_)
    have hl : lv_has ls 3 [(2, .int (0 ||| (f_M_variableBit x))), (0, .int x), (1, .int y)] := hl
    refine lv_iload_n S.1 S.2.1 d_M_variablesAmong_16 rfl (lv_at hl 2 rfl) ?_
    refine kSi (rest := []) S (c_M_isVariable l y) kc_M_isVariable ⟨q_112, q_113⟩ rfl rfl ⟨Nat.le_of_ble_eq_true rfl, Nat.le_of_ble_eq_true rfl⟩ hC (hSF s) (hAF K) trivial ⟨Nat.zero_le _, Nat.zero_le _⟩ hl.1 rfl rfl (Nat.le_of_ble_eq_true rfl) d_M_variablesAmong_17 (fun r er => ?_)
    subst er
    refine lv_if_eq (tgt := 30) S.1 S.2.1 d_M_variablesAmong_20 (by decide) (fun hbr3 => ?_) (fun hbr3 => ?_)
    · refine lv_iload_n S.1 S.2.1 d_M_variablesAmong_30 rfl (lv_at hl 0 rfl) ?_
      exact r_i S hr hk d_M_variablesAmong_31 (by unfold f_M_variablesAmong; simp only [if_neg hbr1, if_pos hbr3])
    · refine lv_iload_n S.1 S.2.1 d_M_variablesAmong_23 rfl (lv_at hl 0 rfl) ?_
      refine lv_iload_n S.1 S.2.1 d_M_variablesAmong_24 rfl (lv_at hl 2 rfl) ?_
      refine kSi (rest := [.int (0 ||| (f_M_variableBit x))]) S (c_M_variableBit l y) kc_M_variableBit ⟨q_126, q_127⟩ rfl rfl ⟨Nat.le_of_ble_eq_true rfl, Nat.le_of_ble_eq_true rfl⟩ hC (hSF s) (hAF K) trivial ⟨Nat.zero_le _, Nat.zero_le _⟩ hl.1 rfl rfl (Nat.le_of_ble_eq_true rfl) d_M_variablesAmong_25 (fun r er => ?_)
      subst er
      refine lv_ior S.1 S.2.1 d_M_variablesAmong_28 ?_
      refine lv_istore_n S.1 S.2.1 d_M_variablesAmong_29 rfl hl (by decide) rfl (fun ls hl => ?_)
      have hl : lv_has ls 3 [(2, .int ((0 ||| (f_M_variableBit x)) ||| (f_M_variableBit y))), (0, .int x), (1, .int y)] := hl
      refine lv_iload_n S.1 S.2.1 d_M_variablesAmong_30 rfl (lv_at hl 0 rfl) ?_
      exact r_i S hr hk d_M_variablesAmong_31 (by unfold f_M_variablesAmong; simp only [if_neg hbr1, if_neg hbr3])
def f_M_pairBit (x : Int32) (y : Int32) (z : Int32) : Int64 := ((1 : Int64) <<< (((((16 * x) + (4 * y)) + z) : Int32).toInt64 &&& 63))
set_option maxHeartbeats 4000000 in
set_option maxRecDepth 100000 in
theorem c_M_pairBit (l : Launch) {K : KT} (x : Int32) (y : Int32) (z : Int32) : Met l y_M_pairBit (Cond.code y_M_pairBit b_M_pairBit 3 (some Jvm.ClassFile.FieldType.long) :: WALL) { frames := 0, cells := 0, slots := 0, locals := 0 } (pc0 K [.int x, .int y, .int z] (fun _ => True)) (vp_Sl (fun r => r = f_M_pairBit x y z)) 0 0 (fun _ => False) := by
  refine met0 (own := "MetricLogMonitor") (by decide) rfl (Nat.le_of_ble_eq_true rfl) (fun p e s m below meth c ls S hr hk hnm hC hH hl => ?_)
  have hl : lv_has ls 3 [(0, .int x), (1, .int y), (2, .int z)] := hl
  refine lv_lconst (v := 1) S.1 S.2.1 d_M_pairBit_0 (by decide) ?_
  refine lv_bipush (v := 16) S.1 S.2.1 d_M_pairBit_1 (by decide) ?_
  refine lv_iload_n S.1 S.2.1 d_M_pairBit_3 rfl (lv_at hl 0 rfl) ?_
  refine lv_imul S.1 S.2.1 d_M_pairBit_4 ?_
  refine lv_iconst (v := 4) S.1 S.2.1 d_M_pairBit_5 (by decide) ?_
  refine lv_iload_n S.1 S.2.1 d_M_pairBit_6 rfl (lv_at hl 1 rfl) ?_
  refine lv_imul S.1 S.2.1 d_M_pairBit_7 ?_
  refine lv_iadd S.1 S.2.1 d_M_pairBit_8 ?_
  refine lv_iload_n S.1 S.2.1 d_M_pairBit_9 rfl (lv_at hl 2 rfl) ?_
  refine lv_iadd S.1 S.2.1 d_M_pairBit_10 ?_
  refine lv_lshl (v := ((1 : Int64) <<< (((((16 * x) + (4 * y)) + z) : Int32).toInt64 &&& 63))) S.1 S.2.1 d_M_pairBit_11 rfl ?_
  exact r_l S hr hk d_M_pairBit_12 (by unfold f_M_pairBit; rfl)
def f_M_unfold (v : Int32) (x : Int64) : Int64 := (((x ||| ((x : Int64) <<< ((((1 : Int32) <<< (((2 * v) : Int32) &&& 31)) : Int32).toInt64 &&& 63))) ||| ((x : Int64) <<< (((2 * ((1 : Int32) <<< (((2 * v) : Int32) &&& 31))) : Int32).toInt64 &&& 63))) ||| ((x : Int64) <<< (((3 * ((1 : Int32) <<< (((2 * v) : Int32) &&& 31))) : Int32).toInt64 &&& 63)))
set_option maxHeartbeats 4000000 in
set_option maxRecDepth 100000 in
theorem c_M_unfold (l : Launch) {K : KT} (v : Int32) (x : Int64) : Met l y_M_unfold (Cond.code y_M_unfold b_M_unfold 4 (some Jvm.ClassFile.FieldType.long) :: WALL) { frames := 0, cells := 0, slots := 0, locals := 0 } (pc0 K [.int v, .long x] (fun _ => True)) (vp_Sl (fun r => r = f_M_unfold v x)) 0 0 (fun _ => False) := by
  refine met0 (own := "MetricLogMonitor") (by decide) rfl (Nat.le_of_ble_eq_true rfl) (fun p e s m below meth c ls S hr hk hnm hC hH hl => ?_)
  have hl : lv_has ls 4 [(0, .int v), (1, .long x)] := hl
  refine lv_iconst (v := 1) S.1 S.2.1 d_M_unfold_0 (by decide) ?_
  refine lv_iconst (v := 2) S.1 S.2.1 d_M_unfold_1 (by decide) ?_
  refine lv_iload_n S.1 S.2.1 d_M_unfold_2 rfl (lv_at hl 0 rfl) ?_
  refine lv_imul S.1 S.2.1 d_M_unfold_3 ?_
  refine lv_ishl S.1 S.2.1 d_M_unfold_4 ?_
  refine lv_istore_n S.1 S.2.1 d_M_unfold_5 rfl hl (by decide) rfl (fun ls hl => ?_)
  have hl : lv_has ls 4 [(3, .int ((1 : Int32) <<< (((2 * v) : Int32) &&& 31))), (0, .int v), (1, .long x)] := hl
  refine lv_lload_n S.1 S.2.1 d_M_unfold_6 rfl (lv_at hl 2 rfl) ?_
  refine lv_lload_n S.1 S.2.1 d_M_unfold_7 rfl (lv_at hl 2 rfl) ?_
  refine lv_iload_n S.1 S.2.1 d_M_unfold_8 rfl (lv_at hl 0 rfl) ?_
  refine lv_lshl (v := ((x : Int64) <<< ((((1 : Int32) <<< (((2 * v) : Int32) &&& 31)) : Int32).toInt64 &&& 63))) S.1 S.2.1 d_M_unfold_9 rfl ?_
  refine lv_lor S.1 S.2.1 d_M_unfold_10 ?_
  refine lv_lload_n S.1 S.2.1 d_M_unfold_11 rfl (lv_at hl 2 rfl) ?_
  refine lv_iconst (v := 2) S.1 S.2.1 d_M_unfold_12 (by decide) ?_
  refine lv_iload_n S.1 S.2.1 d_M_unfold_13 rfl (lv_at hl 0 rfl) ?_
  refine lv_imul S.1 S.2.1 d_M_unfold_14 ?_
  refine lv_lshl (v := ((x : Int64) <<< (((2 * ((1 : Int32) <<< (((2 * v) : Int32) &&& 31))) : Int32).toInt64 &&& 63))) S.1 S.2.1 d_M_unfold_15 rfl ?_
  refine lv_lor S.1 S.2.1 d_M_unfold_16 ?_
  refine lv_lload_n S.1 S.2.1 d_M_unfold_17 rfl (lv_at hl 2 rfl) ?_
  refine lv_iconst (v := 3) S.1 S.2.1 d_M_unfold_18 (by decide) ?_
  refine lv_iload_n S.1 S.2.1 d_M_unfold_19 rfl (lv_at hl 0 rfl) ?_
  refine lv_imul S.1 S.2.1 d_M_unfold_20 ?_
  refine lv_lshl (v := ((x : Int64) <<< (((3 * ((1 : Int32) <<< (((2 * v) : Int32) &&& 31))) : Int32).toInt64 &&& 63))) S.1 S.2.1 d_M_unfold_21 rfl ?_
  refine lv_lor S.1 S.2.1 d_M_unfold_22 ?_
  exact r_l S hr hk d_M_unfold_23 (by unfold f_M_unfold; rfl)
def f_Comp_rangedBy (x : Int32) (y : Int32) (z : Int32) : Int32 := (if x = 0 then (if (f_M_isVariable y) = (f_M_isVariable z) then 0 else (f_M_variablesAmong y z)) else 0)
set_option maxHeartbeats 4000000 in
set_option maxRecDepth 100000 in
theorem c_Comp_rangedBy (l : Launch) {K : KT} (x : Int32) (y : Int32) (z : Int32) : Met l y_Comp_rangedBy (Cond.code y_Comp_rangedBy b_Comp_rangedBy 3 (some Jvm.ClassFile.FieldType.int) :: WALL) { frames := 2, cells := 0, slots := 0, locals := 42 } (pc0 K [.int x, .int y, .int z] (fun _ => True)) (vp_Si (fun r => r = f_Comp_rangedBy x y z)) 0 0 (fun _ => False) := by
  refine met0 (own := "MetricLogMonitor$Comparison") (by decide) rfl (Nat.le_of_ble_eq_true rfl) (fun p e s m below meth c ls S hr hk hnm hC hH hl => ?_)
  have hl : lv_has ls 3 [(0, .int x), (1, .int y), (2, .int z)] := hl
  refine lv_iload_n S.1 S.2.1 d_Comp_rangedBy_0 rfl (lv_at hl 0 rfl) ?_
  refine lv_if_ne (tgt := 23) S.1 S.2.1 d_Comp_rangedBy_1 (by decide) (fun hbr1 => ?_) (fun hbr1 => ?_)
  · refine lv_iconst (v := 0) S.1 S.2.1 d_Comp_rangedBy_23 (by decide) ?_
    exact r_i S hr hk d_Comp_rangedBy_24 (by unfold f_Comp_rangedBy; simp only [if_neg hbr1])
  · refine lv_iload_n S.1 S.2.1 d_Comp_rangedBy_4 rfl (lv_at hl 1 rfl) ?_
    refine kNi (rest := []) S (c_M_isVariable l y) kc_M_isVariable ⟨qn_260, q_113⟩ rfl rfl ⟨Nat.le_of_ble_eq_true rfl, Nat.le_of_ble_eq_true rfl⟩ hC (hSF s) (hAF K) trivial ⟨Nat.zero_le _, Nat.zero_le _⟩ hl.1 rfl rfl (Nat.le_of_ble_eq_true rfl) d_Comp_rangedBy_5 (fun r er => ?_)
    subst er
    refine lv_iload_n S.1 S.2.1 d_Comp_rangedBy_8 rfl (lv_at hl 2 rfl) ?_
    refine kNi (rest := [.int (f_M_isVariable y)]) S (c_M_isVariable l z) kc_M_isVariable ⟨qn_260, q_113⟩ rfl rfl ⟨Nat.le_of_ble_eq_true rfl, Nat.le_of_ble_eq_true rfl⟩ hC (hSF s) (hAF K) trivial ⟨Nat.zero_le _, Nat.zero_le _⟩ hl.1 rfl rfl (Nat.le_of_ble_eq_true rfl) d_Comp_rangedBy_9 (fun r er => ?_)
    subst er
    refine lv_icmp_eq (tgt := 23) S.1 S.2.1 d_Comp_rangedBy_12 (by decide) (fun hbr2 => ?_) (fun hbr2 => ?_)
    · refine lv_iconst (v := 0) S.1 S.2.1 d_Comp_rangedBy_23 (by decide) ?_
      exact r_i S hr hk d_Comp_rangedBy_24 (by unfold f_Comp_rangedBy; simp only [if_pos hbr1, if_pos hbr2])
    · refine lv_iload_n S.1 S.2.1 d_Comp_rangedBy_15 rfl (lv_at hl 1 rfl) ?_
      refine lv_iload_n S.1 S.2.1 d_Comp_rangedBy_16 rfl (lv_at hl 2 rfl) ?_
      refine kNi (rest := []) S (c_M_variablesAmong l y z) kc_M_variablesAmong ⟨qn_256, q_124⟩ rfl rfl ⟨Nat.le_of_ble_eq_true rfl, Nat.le_of_ble_eq_true rfl⟩ hC (hSF s) (hAF K) trivial ⟨Nat.zero_le _, Nat.zero_le _⟩ hl.1 rfl rfl (Nat.le_of_ble_eq_true rfl) d_Comp_rangedBy_17 (fun r er => ?_)
      subst er
      refine lv_goto (tgt := 24) S.1 S.2.1 d_Comp_rangedBy_20 (by decide) ?_
      exact r_i S hr hk d_Comp_rangedBy_24 (by unfold f_Comp_rangedBy; simp only [if_pos hbr1, if_neg hbr2])
def f_R_isTerm (x : Int32) : Int32 := (if x < 0 then (if x < 4 then 0 else (if 7 < x then 0 else 1)) else (if x ≤ 2 then 1 else (if x < 4 then 0 else (if 7 < x then 0 else 1))))
theorem z_R_isTerm (x : Int32) : f_R_isTerm x = 0 ∨ f_R_isTerm x = 1 := by
  unfold f_R_isTerm
  repeat' split
  all_goals first | exact Or.inl rfl | exact Or.inr rfl | exact z_M_isRelation _ _ | exact z_M_isRelation _ | exact z_M_isVariable _ _ | exact z_M_isVariable _ | exact z_M_isValue _ _ | exact z_M_isValue _ | exact z_M_isValueTerm _ _ | exact z_M_isValueTerm _ | exact z_M_isTerm _ _ | exact z_M_isTerm _ | exact z_M_isTime _ _ | exact z_M_isTime _ | exact z_M_isInterval _ _ | exact z_M_isInterval _ | exact z_M_isPastInterval _ _ | exact z_M_isPastInterval _ | exact z_M_liesIn _ _ | exact z_M_liesIn _
set_option maxHeartbeats 4000000 in
set_option maxRecDepth 100000 in
theorem c_R_isTerm (l : Launch) {K : KT} (x : Int32) : Met l y_R_isTerm (Cond.code y_R_isTerm b_R_isTerm 1 (some Jvm.ClassFile.FieldType.boolean) :: WALL) { frames := 0, cells := 0, slots := 0, locals := 0 } (pc0 K [.int x] (fun _ => True)) (vp_Si (fun r => r = f_R_isTerm x)) 0 0 (fun _ => False) := by
  refine met0 (own := "MetricLogMonitorModel") (by decide) rfl (Nat.le_of_ble_eq_true rfl) (fun p e s m below meth c ls S hr hk hnm hC hH hl => ?_)
  have hl : lv_has ls 1 [(0, .int x)] := hl
  refine lv_iload_n S.1 S.2.1 d_R_isTerm_0 rfl (lv_at hl 0 rfl) ?_
  refine lv_if_lt (tgt := 9) S.1 S.2.1 d_R_isTerm_1 (by decide) (fun hbr1 => ?_) (fun hbr1 => ?_)
  · refine lv_iload_n S.1 S.2.1 d_R_isTerm_9 rfl (lv_at hl 0 rfl) ?_
    refine lv_iconst (v := 4) S.1 S.2.1 d_R_isTerm_10 (by decide) ?_
    refine lv_icmp_lt (tgt := 24) S.1 S.2.1 d_R_isTerm_11 (by decide) (fun hbr2 => ?_) (fun hbr2 => ?_)
    · refine lv_iconst (v := 0) S.1 S.2.1 d_R_isTerm_24 (by decide) ?_
      exact r_z S hr hk rfl d_R_isTerm_25 (by unfold f_R_isTerm; simp only [if_pos hbr1, if_pos hbr2])
    · refine lv_iload_n S.1 S.2.1 d_R_isTerm_14 rfl (lv_at hl 0 rfl) ?_
      refine lv_bipush (v := 7) S.1 S.2.1 d_R_isTerm_15 (by decide) ?_
      refine lv_icmp_gt (tgt := 24) S.1 S.2.1 d_R_isTerm_17 (by decide) (fun hbr3 => ?_) (fun hbr3 => ?_)
      · refine lv_iconst (v := 0) S.1 S.2.1 d_R_isTerm_24 (by decide) ?_
        exact r_z S hr hk rfl d_R_isTerm_25 (by unfold f_R_isTerm; simp only [if_pos hbr1, if_neg hbr2, if_pos hbr3])
      · refine lv_iconst (v := 1) S.1 S.2.1 d_R_isTerm_20 (by decide) ?_
        refine lv_goto (tgt := 25) S.1 S.2.1 d_R_isTerm_21 (by decide) ?_
        exact r_z S hr hk rfl d_R_isTerm_25 (by unfold f_R_isTerm; simp only [if_pos hbr1, if_neg hbr2, if_neg hbr3])
  · refine lv_iload_n S.1 S.2.1 d_R_isTerm_4 rfl (lv_at hl 0 rfl) ?_
    refine lv_iconst (v := 2) S.1 S.2.1 d_R_isTerm_5 (by decide) ?_
    refine lv_icmp_le (tgt := 20) S.1 S.2.1 d_R_isTerm_6 (by decide) (fun hbr4 => ?_) (fun hbr4 => ?_)
    · refine lv_iconst (v := 1) S.1 S.2.1 d_R_isTerm_20 (by decide) ?_
      refine lv_goto (tgt := 25) S.1 S.2.1 d_R_isTerm_21 (by decide) ?_
      exact r_z S hr hk rfl d_R_isTerm_25 (by unfold f_R_isTerm; simp only [if_neg hbr1, if_pos hbr4])
    · refine lv_iload_n S.1 S.2.1 d_R_isTerm_9 rfl (lv_at hl 0 rfl) ?_
      refine lv_iconst (v := 4) S.1 S.2.1 d_R_isTerm_10 (by decide) ?_
      refine lv_icmp_lt (tgt := 24) S.1 S.2.1 d_R_isTerm_11 (by decide) (fun hbr5 => ?_) (fun hbr5 => ?_)
      · refine lv_iconst (v := 0) S.1 S.2.1 d_R_isTerm_24 (by decide) ?_
        exact r_z S hr hk rfl d_R_isTerm_25 (by unfold f_R_isTerm; simp only [if_neg hbr1, if_neg hbr4, if_pos hbr5])
      · refine lv_iload_n S.1 S.2.1 d_R_isTerm_14 rfl (lv_at hl 0 rfl) ?_
        refine lv_bipush (v := 7) S.1 S.2.1 d_R_isTerm_15 (by decide) ?_
        refine lv_icmp_gt (tgt := 24) S.1 S.2.1 d_R_isTerm_17 (by decide) (fun hbr6 => ?_) (fun hbr6 => ?_)
        · refine lv_iconst (v := 0) S.1 S.2.1 d_R_isTerm_24 (by decide) ?_
          exact r_z S hr hk rfl d_R_isTerm_25 (by unfold f_R_isTerm; simp only [if_neg hbr1, if_neg hbr4, if_neg hbr5, if_pos hbr6])
        · refine lv_iconst (v := 1) S.1 S.2.1 d_R_isTerm_20 (by decide) ?_
          refine lv_goto (tgt := 25) S.1 S.2.1 d_R_isTerm_21 (by decide) ?_
          exact r_z S hr hk rfl d_R_isTerm_25 (by unfold f_R_isTerm; simp only [if_neg hbr1, if_neg hbr4, if_neg hbr5, if_neg hbr6])
def f_R_isInterval (x : Int32) (y : Int32) (z : Int32) : Int32 := (if x < 0 then 0 else (if 1000000 < x then 0 else (if y < x then (if z = 0 then 0 else (if y = (-1) then 1 else 0)) else (if y ≤ 1000000 then 1 else (if z = 0 then 0 else (if y = (-1) then 1 else 0))))))
theorem z_R_isInterval (x : Int32) (y : Int32) (z : Int32) : f_R_isInterval x y z = 0 ∨ f_R_isInterval x y z = 1 := by
  unfold f_R_isInterval
  repeat' split
  all_goals first | exact Or.inl rfl | exact Or.inr rfl | exact z_M_isRelation _ _ | exact z_M_isRelation _ | exact z_M_isVariable _ _ | exact z_M_isVariable _ | exact z_M_isValue _ _ | exact z_M_isValue _ | exact z_M_isValueTerm _ _ | exact z_M_isValueTerm _ | exact z_M_isTerm _ _ | exact z_M_isTerm _ | exact z_M_isTime _ _ | exact z_M_isTime _ | exact z_M_isInterval _ _ | exact z_M_isInterval _ | exact z_M_isPastInterval _ _ | exact z_M_isPastInterval _ | exact z_M_liesIn _ _ | exact z_M_liesIn _ | exact z_R_isTerm _ _ | exact z_R_isTerm _
set_option maxHeartbeats 4000000 in
set_option maxRecDepth 100000 in
theorem c_R_isInterval (l : Launch) {K : KT} (x : Int32) (y : Int32) (z : Int32) : Met l y_R_isInterval (Cond.code y_R_isInterval b_R_isInterval 3 (some Jvm.ClassFile.FieldType.boolean) :: WALL) { frames := 0, cells := 0, slots := 0, locals := 0 } (pc0 K [.int x, .int y, .int z] (fun _ => True)) (vp_Si (fun r => r = f_R_isInterval x y z)) 0 0 (fun _ => False) := by
  refine met0 (own := "MetricLogMonitorModel") (by decide) rfl (Nat.le_of_ble_eq_true rfl) (fun p e s m below meth c ls S hr hk hnm hC hH hl => ?_)
  have hl : lv_has ls 3 [(0, .int x), (1, .int y), (2, .int z)] := hl
  refine lv_iload_n S.1 S.2.1 d_R_isInterval_0 rfl (lv_at hl 0 rfl) ?_
  refine lv_if_lt (tgt := 34) S.1 S.2.1 d_R_isInterval_1 (by decide) (fun hbr1 => ?_) (fun hbr1 => ?_)
  · refine lv_iconst (v := 0) S.1 S.2.1 d_R_isInterval_34 (by decide) ?_
    exact r_z S hr hk rfl d_R_isInterval_35 (by unfold f_R_isInterval; simp only [if_pos hbr1])
  · refine lv_iload_n S.1 S.2.1 d_R_isInterval_4 rfl (lv_at hl 0 rfl) ?_
    refine lv_ldc (v := 1000000) S.1 S.2.1 S.2.2.2.1 (S.2.2.2.2 _ q_788) d_R_isInterval_5 ?_
    refine lv_icmp_gt (tgt := 34) S.1 S.2.1 d_R_isInterval_7 (by decide) (fun hbr2 => ?_) (fun hbr2 => ?_)
    · refine lv_iconst (v := 0) S.1 S.2.1 d_R_isInterval_34 (by decide) ?_
      exact r_z S hr hk rfl d_R_isInterval_35 (by unfold f_R_isInterval; simp only [if_neg hbr1, if_pos hbr2])
    · refine lv_iload_n S.1 S.2.1 d_R_isInterval_10 rfl (lv_at hl 1 rfl) ?_
      refine lv_iload_n S.1 S.2.1 d_R_isInterval_11 rfl (lv_at hl 0 rfl) ?_
      refine lv_icmp_lt (tgt := 21) S.1 S.2.1 d_R_isInterval_12 (by decide) (fun hbr3 => ?_) (fun hbr3 => ?_)
      · refine lv_iload_n S.1 S.2.1 d_R_isInterval_21 rfl (lv_at hl 2 rfl) ?_
        refine lv_if_eq (tgt := 34) S.1 S.2.1 d_R_isInterval_22 (by decide) (fun hbr4 => ?_) (fun hbr4 => ?_)
        · refine lv_iconst (v := 0) S.1 S.2.1 d_R_isInterval_34 (by decide) ?_
          exact r_z S hr hk rfl d_R_isInterval_35 (by unfold f_R_isInterval; simp only [if_neg hbr1, if_neg hbr2, if_pos hbr3, if_pos hbr4])
        · refine lv_iload_n S.1 S.2.1 d_R_isInterval_25 rfl (lv_at hl 1 rfl) ?_
          refine lv_iconst (v := (-1)) S.1 S.2.1 d_R_isInterval_26 (by decide) ?_
          refine lv_icmp_ne (tgt := 34) S.1 S.2.1 d_R_isInterval_27 (by decide) (fun hbr5 => ?_) (fun hbr5 => ?_)
          · refine lv_iconst (v := 0) S.1 S.2.1 d_R_isInterval_34 (by decide) ?_
            exact r_z S hr hk rfl d_R_isInterval_35 (by unfold f_R_isInterval; simp only [if_neg hbr1, if_neg hbr2, if_pos hbr3, if_neg hbr4, if_neg hbr5])
          · refine lv_iconst (v := 1) S.1 S.2.1 d_R_isInterval_30 (by decide) ?_
            refine lv_goto (tgt := 35) S.1 S.2.1 d_R_isInterval_31 (by decide) ?_
            exact r_z S hr hk rfl d_R_isInterval_35 (by unfold f_R_isInterval; simp only [if_neg hbr1, if_neg hbr2, if_pos hbr3, if_neg hbr4, if_pos hbr5])
      · refine lv_iload_n S.1 S.2.1 d_R_isInterval_15 rfl (lv_at hl 1 rfl) ?_
        refine lv_ldc (v := 1000000) S.1 S.2.1 S.2.2.2.1 (S.2.2.2.2 _ q_788) d_R_isInterval_16 ?_
        refine lv_icmp_le (tgt := 30) S.1 S.2.1 d_R_isInterval_18 (by decide) (fun hbr6 => ?_) (fun hbr6 => ?_)
        · refine lv_iconst (v := 1) S.1 S.2.1 d_R_isInterval_30 (by decide) ?_
          refine lv_goto (tgt := 35) S.1 S.2.1 d_R_isInterval_31 (by decide) ?_
          exact r_z S hr hk rfl d_R_isInterval_35 (by unfold f_R_isInterval; simp only [if_neg hbr1, if_neg hbr2, if_neg hbr3, if_pos hbr6])
        · refine lv_iload_n S.1 S.2.1 d_R_isInterval_21 rfl (lv_at hl 2 rfl) ?_
          refine lv_if_eq (tgt := 34) S.1 S.2.1 d_R_isInterval_22 (by decide) (fun hbr7 => ?_) (fun hbr7 => ?_)
          · refine lv_iconst (v := 0) S.1 S.2.1 d_R_isInterval_34 (by decide) ?_
            exact r_z S hr hk rfl d_R_isInterval_35 (by unfold f_R_isInterval; simp only [if_neg hbr1, if_neg hbr2, if_neg hbr3, if_neg hbr6, if_pos hbr7])
          · refine lv_iload_n S.1 S.2.1 d_R_isInterval_25 rfl (lv_at hl 1 rfl) ?_
            refine lv_iconst (v := (-1)) S.1 S.2.1 d_R_isInterval_26 (by decide) ?_
            refine lv_icmp_ne (tgt := 34) S.1 S.2.1 d_R_isInterval_27 (by decide) (fun hbr8 => ?_) (fun hbr8 => ?_)
            · refine lv_iconst (v := 0) S.1 S.2.1 d_R_isInterval_34 (by decide) ?_
              exact r_z S hr hk rfl d_R_isInterval_35 (by unfold f_R_isInterval; simp only [if_neg hbr1, if_neg hbr2, if_neg hbr3, if_neg hbr6, if_neg hbr7, if_neg hbr8])
            · refine lv_iconst (v := 1) S.1 S.2.1 d_R_isInterval_30 (by decide) ?_
              refine lv_goto (tgt := 35) S.1 S.2.1 d_R_isInterval_31 (by decide) ?_
              exact r_z S hr hk rfl d_R_isInterval_35 (by unfold f_R_isInterval; simp only [if_neg hbr1, if_neg hbr2, if_neg hbr3, if_neg hbr6, if_neg hbr7, if_pos hbr8])
def f_R_variable (x : Int32) : Int32 := (if 2 < x then 0 else ((1 : Int32) <<< ((x : Int32) &&& 31)))
set_option maxHeartbeats 4000000 in
set_option maxRecDepth 100000 in
theorem c_R_variable (l : Launch) {K : KT} (x : Int32) : Met l y_R_variable (Cond.code y_R_variable b_R_variable 1 (some Jvm.ClassFile.FieldType.int) :: WALL) { frames := 0, cells := 0, slots := 0, locals := 0 } (pc0 K [.int x] (fun _ => True)) (vp_Si (fun r => r = f_R_variable x)) 0 0 (fun _ => False) := by
  refine met0 (own := "MetricLogMonitorModel") (by decide) rfl (Nat.le_of_ble_eq_true rfl) (fun p e s m below meth c ls S hr hk hnm hC hH hl => ?_)
  have hl : lv_has ls 1 [(0, .int x)] := hl
  refine lv_iload_n S.1 S.2.1 d_R_variable_0 rfl (lv_at hl 0 rfl) ?_
  refine lv_iconst (v := 2) S.1 S.2.1 d_R_variable_1 (by decide) ?_
  refine lv_icmp_gt (tgt := 11) S.1 S.2.1 d_R_variable_2 (by decide) (fun hbr1 => ?_) (fun hbr1 => ?_)
  · refine lv_iconst (v := 0) S.1 S.2.1 d_R_variable_11 (by decide) ?_
    exact r_i S hr hk d_R_variable_12 (by unfold f_R_variable; simp only [if_pos hbr1])
  · refine lv_iconst (v := 1) S.1 S.2.1 d_R_variable_5 (by decide) ?_
    refine lv_iload_n S.1 S.2.1 d_R_variable_6 rfl (lv_at hl 0 rfl) ?_
    refine lv_ishl S.1 S.2.1 d_R_variable_7 ?_
    refine lv_goto (tgt := 12) S.1 S.2.1 d_R_variable_8 (by decide) ?_
    exact r_i S hr hk d_R_variable_12 (by unfold f_R_variable; simp only [if_neg hbr1])
def f_R_value (x : Int32) (y : Int32) : Int32 := (if 2 < x then (x - 4) else (((y : Int32) >>> (((2 * x) : Int32) &&& 31)) &&& 3))
set_option maxHeartbeats 4000000 in
set_option maxRecDepth 100000 in
theorem c_R_value (l : Launch) {K : KT} (x : Int32) (y : Int32) : Met l y_R_value (Cond.code y_R_value b_R_value 2 (some Jvm.ClassFile.FieldType.int) :: WALL) { frames := 0, cells := 0, slots := 0, locals := 0 } (pc0 K [.int x, .int y] (fun _ => True)) (vp_Si (fun r => r = f_R_value x y)) 0 0 (fun _ => False) := by
  refine met0 (own := "MetricLogMonitorModel") (by decide) rfl (Nat.le_of_ble_eq_true rfl) (fun p e s m below meth c ls S hr hk hnm hC hH hl => ?_)
  have hl : lv_has ls 2 [(0, .int x), (1, .int y)] := hl
  refine lv_iload_n S.1 S.2.1 d_R_value_0 rfl (lv_at hl 0 rfl) ?_
  refine lv_iconst (v := 2) S.1 S.2.1 d_R_value_1 (by decide) ?_
  refine lv_icmp_gt (tgt := 15) S.1 S.2.1 d_R_value_2 (by decide) (fun hbr1 => ?_) (fun hbr1 => ?_)
  · refine lv_iload_n S.1 S.2.1 d_R_value_15 rfl (lv_at hl 0 rfl) ?_
    refine lv_iconst (v := 4) S.1 S.2.1 d_R_value_16 (by decide) ?_
    refine lv_isub S.1 S.2.1 d_R_value_17 ?_
    exact r_i S hr hk d_R_value_18 (by unfold f_R_value; simp only [if_pos hbr1])
  · refine lv_iload_n S.1 S.2.1 d_R_value_5 rfl (lv_at hl 1 rfl) ?_
    refine lv_iconst (v := 2) S.1 S.2.1 d_R_value_6 (by decide) ?_
    refine lv_iload_n S.1 S.2.1 d_R_value_7 rfl (lv_at hl 0 rfl) ?_
    refine lv_imul S.1 S.2.1 d_R_value_8 ?_
    refine lv_ishr S.1 S.2.1 d_R_value_9 ?_
    refine lv_iconst (v := 3) S.1 S.2.1 d_R_value_10 (by decide) ?_
    refine lv_iand S.1 S.2.1 d_R_value_11 ?_
    refine lv_goto (tgt := 18) S.1 S.2.1 d_R_value_12 (by decide) ?_
    exact r_i S hr hk d_R_value_18 (by unfold f_R_value; simp only [if_neg hbr1])
def f_Long_bitCount (x : Int64) : Int32 := ((((((((((x - ((((x : Int64).toUInt64 >>> ((1 : Int32).toInt64.toUInt64 &&& Int64.toUInt64 63)).toInt64) &&& 6148914691236517205)) &&& 3689348814741910323) + (((((x - ((((x : Int64).toUInt64 >>> ((1 : Int32).toInt64.toUInt64 &&& Int64.toUInt64 63)).toInt64) &&& 6148914691236517205)) : Int64).toUInt64 >>> ((2 : Int32).toInt64.toUInt64 &&& Int64.toUInt64 63)).toInt64) &&& 3689348814741910323)) + ((((((x - ((((x : Int64).toUInt64 >>> ((1 : Int32).toInt64.toUInt64 &&& Int64.toUInt64 63)).toInt64) &&& 6148914691236517205)) &&& 3689348814741910323) + (((((x - ((((x : Int64).toUInt64 >>> ((1 : Int32).toInt64.toUInt64 &&& Int64.toUInt64 63)).toInt64) &&& 6148914691236517205)) : Int64).toUInt64 >>> ((2 : Int32).toInt64.toUInt64 &&& Int64.toUInt64 63)).toInt64) &&& 3689348814741910323)) : Int64).toUInt64 >>> ((4 : Int32).toInt64.toUInt64 &&& Int64.toUInt64 63)).toInt64)) &&& 1085102592571150095) + ((((((((x - ((((x : Int64).toUInt64 >>> ((1 : Int32).toInt64.toUInt64 &&& Int64.toUInt64 63)).toInt64) &&& 6148914691236517205)) &&& 3689348814741910323) + (((((x - ((((x : Int64).toUInt64 >>> ((1 : Int32).toInt64.toUInt64 &&& Int64.toUInt64 63)).toInt64) &&& 6148914691236517205)) : Int64).toUInt64 >>> ((2 : Int32).toInt64.toUInt64 &&& Int64.toUInt64 63)).toInt64) &&& 3689348814741910323)) + ((((((x - ((((x : Int64).toUInt64 >>> ((1 : Int32).toInt64.toUInt64 &&& Int64.toUInt64 63)).toInt64) &&& 6148914691236517205)) &&& 3689348814741910323) + (((((x - ((((x : Int64).toUInt64 >>> ((1 : Int32).toInt64.toUInt64 &&& Int64.toUInt64 63)).toInt64) &&& 6148914691236517205)) : Int64).toUInt64 >>> ((2 : Int32).toInt64.toUInt64 &&& Int64.toUInt64 63)).toInt64) &&& 3689348814741910323)) : Int64).toUInt64 >>> ((4 : Int32).toInt64.toUInt64 &&& Int64.toUInt64 63)).toInt64)) &&& 1085102592571150095) : Int64).toUInt64 >>> ((8 : Int32).toInt64.toUInt64 &&& Int64.toUInt64 63)).toInt64)) + (((((((((x - ((((x : Int64).toUInt64 >>> ((1 : Int32).toInt64.toUInt64 &&& Int64.toUInt64 63)).toInt64) &&& 6148914691236517205)) &&& 3689348814741910323) + (((((x - ((((x : Int64).toUInt64 >>> ((1 : Int32).toInt64.toUInt64 &&& Int64.toUInt64 63)).toInt64) &&& 6148914691236517205)) : Int64).toUInt64 >>> ((2 : Int32).toInt64.toUInt64 &&& Int64.toUInt64 63)).toInt64) &&& 3689348814741910323)) + ((((((x - ((((x : Int64).toUInt64 >>> ((1 : Int32).toInt64.toUInt64 &&& Int64.toUInt64 63)).toInt64) &&& 6148914691236517205)) &&& 3689348814741910323) + (((((x - ((((x : Int64).toUInt64 >>> ((1 : Int32).toInt64.toUInt64 &&& Int64.toUInt64 63)).toInt64) &&& 6148914691236517205)) : Int64).toUInt64 >>> ((2 : Int32).toInt64.toUInt64 &&& Int64.toUInt64 63)).toInt64) &&& 3689348814741910323)) : Int64).toUInt64 >>> ((4 : Int32).toInt64.toUInt64 &&& Int64.toUInt64 63)).toInt64)) &&& 1085102592571150095) + ((((((((x - ((((x : Int64).toUInt64 >>> ((1 : Int32).toInt64.toUInt64 &&& Int64.toUInt64 63)).toInt64) &&& 6148914691236517205)) &&& 3689348814741910323) + (((((x - ((((x : Int64).toUInt64 >>> ((1 : Int32).toInt64.toUInt64 &&& Int64.toUInt64 63)).toInt64) &&& 6148914691236517205)) : Int64).toUInt64 >>> ((2 : Int32).toInt64.toUInt64 &&& Int64.toUInt64 63)).toInt64) &&& 3689348814741910323)) + ((((((x - ((((x : Int64).toUInt64 >>> ((1 : Int32).toInt64.toUInt64 &&& Int64.toUInt64 63)).toInt64) &&& 6148914691236517205)) &&& 3689348814741910323) + (((((x - ((((x : Int64).toUInt64 >>> ((1 : Int32).toInt64.toUInt64 &&& Int64.toUInt64 63)).toInt64) &&& 6148914691236517205)) : Int64).toUInt64 >>> ((2 : Int32).toInt64.toUInt64 &&& Int64.toUInt64 63)).toInt64) &&& 3689348814741910323)) : Int64).toUInt64 >>> ((4 : Int32).toInt64.toUInt64 &&& Int64.toUInt64 63)).toInt64)) &&& 1085102592571150095) : Int64).toUInt64 >>> ((8 : Int32).toInt64.toUInt64 &&& Int64.toUInt64 63)).toInt64)) : Int64).toUInt64 >>> ((16 : Int32).toInt64.toUInt64 &&& Int64.toUInt64 63)).toInt64)) + ((((((((((x - ((((x : Int64).toUInt64 >>> ((1 : Int32).toInt64.toUInt64 &&& Int64.toUInt64 63)).toInt64) &&& 6148914691236517205)) &&& 3689348814741910323) + (((((x - ((((x : Int64).toUInt64 >>> ((1 : Int32).toInt64.toUInt64 &&& Int64.toUInt64 63)).toInt64) &&& 6148914691236517205)) : Int64).toUInt64 >>> ((2 : Int32).toInt64.toUInt64 &&& Int64.toUInt64 63)).toInt64) &&& 3689348814741910323)) + ((((((x - ((((x : Int64).toUInt64 >>> ((1 : Int32).toInt64.toUInt64 &&& Int64.toUInt64 63)).toInt64) &&& 6148914691236517205)) &&& 3689348814741910323) + (((((x - ((((x : Int64).toUInt64 >>> ((1 : Int32).toInt64.toUInt64 &&& Int64.toUInt64 63)).toInt64) &&& 6148914691236517205)) : Int64).toUInt64 >>> ((2 : Int32).toInt64.toUInt64 &&& Int64.toUInt64 63)).toInt64) &&& 3689348814741910323)) : Int64).toUInt64 >>> ((4 : Int32).toInt64.toUInt64 &&& Int64.toUInt64 63)).toInt64)) &&& 1085102592571150095) + ((((((((x - ((((x : Int64).toUInt64 >>> ((1 : Int32).toInt64.toUInt64 &&& Int64.toUInt64 63)).toInt64) &&& 6148914691236517205)) &&& 3689348814741910323) + (((((x - ((((x : Int64).toUInt64 >>> ((1 : Int32).toInt64.toUInt64 &&& Int64.toUInt64 63)).toInt64) &&& 6148914691236517205)) : Int64).toUInt64 >>> ((2 : Int32).toInt64.toUInt64 &&& Int64.toUInt64 63)).toInt64) &&& 3689348814741910323)) + ((((((x - ((((x : Int64).toUInt64 >>> ((1 : Int32).toInt64.toUInt64 &&& Int64.toUInt64 63)).toInt64) &&& 6148914691236517205)) &&& 3689348814741910323) + (((((x - ((((x : Int64).toUInt64 >>> ((1 : Int32).toInt64.toUInt64 &&& Int64.toUInt64 63)).toInt64) &&& 6148914691236517205)) : Int64).toUInt64 >>> ((2 : Int32).toInt64.toUInt64 &&& Int64.toUInt64 63)).toInt64) &&& 3689348814741910323)) : Int64).toUInt64 >>> ((4 : Int32).toInt64.toUInt64 &&& Int64.toUInt64 63)).toInt64)) &&& 1085102592571150095) : Int64).toUInt64 >>> ((8 : Int32).toInt64.toUInt64 &&& Int64.toUInt64 63)).toInt64)) + (((((((((x - ((((x : Int64).toUInt64 >>> ((1 : Int32).toInt64.toUInt64 &&& Int64.toUInt64 63)).toInt64) &&& 6148914691236517205)) &&& 3689348814741910323) + (((((x - ((((x : Int64).toUInt64 >>> ((1 : Int32).toInt64.toUInt64 &&& Int64.toUInt64 63)).toInt64) &&& 6148914691236517205)) : Int64).toUInt64 >>> ((2 : Int32).toInt64.toUInt64 &&& Int64.toUInt64 63)).toInt64) &&& 3689348814741910323)) + ((((((x - ((((x : Int64).toUInt64 >>> ((1 : Int32).toInt64.toUInt64 &&& Int64.toUInt64 63)).toInt64) &&& 6148914691236517205)) &&& 3689348814741910323) + (((((x - ((((x : Int64).toUInt64 >>> ((1 : Int32).toInt64.toUInt64 &&& Int64.toUInt64 63)).toInt64) &&& 6148914691236517205)) : Int64).toUInt64 >>> ((2 : Int32).toInt64.toUInt64 &&& Int64.toUInt64 63)).toInt64) &&& 3689348814741910323)) : Int64).toUInt64 >>> ((4 : Int32).toInt64.toUInt64 &&& Int64.toUInt64 63)).toInt64)) &&& 1085102592571150095) + ((((((((x - ((((x : Int64).toUInt64 >>> ((1 : Int32).toInt64.toUInt64 &&& Int64.toUInt64 63)).toInt64) &&& 6148914691236517205)) &&& 3689348814741910323) + (((((x - ((((x : Int64).toUInt64 >>> ((1 : Int32).toInt64.toUInt64 &&& Int64.toUInt64 63)).toInt64) &&& 6148914691236517205)) : Int64).toUInt64 >>> ((2 : Int32).toInt64.toUInt64 &&& Int64.toUInt64 63)).toInt64) &&& 3689348814741910323)) + ((((((x - ((((x : Int64).toUInt64 >>> ((1 : Int32).toInt64.toUInt64 &&& Int64.toUInt64 63)).toInt64) &&& 6148914691236517205)) &&& 3689348814741910323) + (((((x - ((((x : Int64).toUInt64 >>> ((1 : Int32).toInt64.toUInt64 &&& Int64.toUInt64 63)).toInt64) &&& 6148914691236517205)) : Int64).toUInt64 >>> ((2 : Int32).toInt64.toUInt64 &&& Int64.toUInt64 63)).toInt64) &&& 3689348814741910323)) : Int64).toUInt64 >>> ((4 : Int32).toInt64.toUInt64 &&& Int64.toUInt64 63)).toInt64)) &&& 1085102592571150095) : Int64).toUInt64 >>> ((8 : Int32).toInt64.toUInt64 &&& Int64.toUInt64 63)).toInt64)) : Int64).toUInt64 >>> ((16 : Int32).toInt64.toUInt64 &&& Int64.toUInt64 63)).toInt64)) : Int64).toUInt64 >>> ((32 : Int32).toInt64.toUInt64 &&& Int64.toUInt64 63)).toInt64)) : Int64).toInt32 &&& 127)
set_option maxHeartbeats 4000000 in
set_option maxRecDepth 100000 in
theorem c_Long_bitCount (l : Launch) {K : KT} (x : Int64) : Met l y_Long_bitCount (Cond.code y_Long_bitCount b_Long_bitCount 2 (some Jvm.ClassFile.FieldType.int) :: WALL) { frames := 0, cells := 0, slots := 0, locals := 0 } (pc0 K [.long x] (fun _ => True)) (vp_Si (fun r => r = f_Long_bitCount x)) 0 0 (fun _ => False) := by
  refine met0 (own := "java/lang/Long") (by decide) rfl (Nat.le_of_ble_eq_true rfl) (fun p e s m below meth c ls S hr hk hnm hC hH hl => ?_)
  have hl : lv_has ls 2 [(0, .long x)] := hl
  refine lv_lload_n S.1 S.2.1 d_Long_bitCount_0 rfl (lv_at hl 0 rfl) ?_
  refine lv_lload_n S.1 S.2.1 d_Long_bitCount_1 rfl (lv_at hl 0 rfl) ?_
  refine lv_iconst (v := 1) S.1 S.2.1 d_Long_bitCount_2 (by decide) ?_
  refine lv_lushr (v := (((x : Int64).toUInt64 >>> ((1 : Int32).toInt64.toUInt64 &&& Int64.toUInt64 63)).toInt64)) S.1 S.2.1 d_Long_bitCount_3 rfl ?_
  refine lv_ldc2 (v := 6148914691236517205) S.1 S.2.1 S.2.2.2.1 (S.2.2.2.2 _ q_684) d_Long_bitCount_4 ?_
  refine lv_land S.1 S.2.1 d_Long_bitCount_7 ?_
  refine lv_lsub S.1 S.2.1 d_Long_bitCount_8 ?_
  refine lv_lstore_n S.1 S.2.1 d_Long_bitCount_9 rfl hl (by decide) rfl (fun ls hl => ?_)
  have hl : lv_has ls 2 [(0, .long (x - ((((x : Int64).toUInt64 >>> ((1 : Int32).toInt64.toUInt64 &&& Int64.toUInt64 63)).toInt64) &&& 6148914691236517205)))] := hl
  refine lv_lload_n S.1 S.2.1 d_Long_bitCount_10 rfl (lv_at hl 0 rfl) ?_
  refine lv_ldc2 (v := 3689348814741910323) S.1 S.2.1 S.2.2.2.1 (S.2.2.2.2 _ q_685) d_Long_bitCount_11 ?_
  refine lv_land S.1 S.2.1 d_Long_bitCount_14 ?_
  refine lv_lload_n S.1 S.2.1 d_Long_bitCount_15 rfl (lv_at hl 0 rfl) ?_
  refine lv_iconst (v := 2) S.1 S.2.1 d_Long_bitCount_16 (by decide) ?_
  refine lv_lushr (v := ((((x - ((((x : Int64).toUInt64 >>> ((1 : Int32).toInt64.toUInt64 &&& Int64.toUInt64 63)).toInt64) &&& 6148914691236517205)) : Int64).toUInt64 >>> ((2 : Int32).toInt64.toUInt64 &&& Int64.toUInt64 63)).toInt64)) S.1 S.2.1 d_Long_bitCount_17 rfl ?_
  refine lv_ldc2 (v := 3689348814741910323) S.1 S.2.1 S.2.2.2.1 (S.2.2.2.2 _ q_685) d_Long_bitCount_18 ?_
  refine lv_land S.1 S.2.1 d_Long_bitCount_21 ?_
  refine lv_ladd S.1 S.2.1 d_Long_bitCount_22 ?_
  refine lv_lstore_n S.1 S.2.1 d_Long_bitCount_23 rfl hl (by decide) rfl (fun ls hl => ?_)
  have hl : lv_has ls 2 [(0, .long (((x - ((((x : Int64).toUInt64 >>> ((1 : Int32).toInt64.toUInt64 &&& Int64.toUInt64 63)).toInt64) &&& 6148914691236517205)) &&& 3689348814741910323) + (((((x - ((((x : Int64).toUInt64 >>> ((1 : Int32).toInt64.toUInt64 &&& Int64.toUInt64 63)).toInt64) &&& 6148914691236517205)) : Int64).toUInt64 >>> ((2 : Int32).toInt64.toUInt64 &&& Int64.toUInt64 63)).toInt64) &&& 3689348814741910323)))] := hl
  refine lv_lload_n S.1 S.2.1 d_Long_bitCount_24 rfl (lv_at hl 0 rfl) ?_
  refine lv_lload_n S.1 S.2.1 d_Long_bitCount_25 rfl (lv_at hl 0 rfl) ?_
  refine lv_iconst (v := 4) S.1 S.2.1 d_Long_bitCount_26 (by decide) ?_
  refine lv_lushr (v := ((((((x - ((((x : Int64).toUInt64 >>> ((1 : Int32).toInt64.toUInt64 &&& Int64.toUInt64 63)).toInt64) &&& 6148914691236517205)) &&& 3689348814741910323) + (((((x - ((((x : Int64).toUInt64 >>> ((1 : Int32).toInt64.toUInt64 &&& Int64.toUInt64 63)).toInt64) &&& 6148914691236517205)) : Int64).toUInt64 >>> ((2 : Int32).toInt64.toUInt64 &&& Int64.toUInt64 63)).toInt64) &&& 3689348814741910323)) : Int64).toUInt64 >>> ((4 : Int32).toInt64.toUInt64 &&& Int64.toUInt64 63)).toInt64)) S.1 S.2.1 d_Long_bitCount_27 rfl ?_
  refine lv_ladd S.1 S.2.1 d_Long_bitCount_28 ?_
  refine lv_ldc2 (v := 1085102592571150095) S.1 S.2.1 S.2.2.2.1 (S.2.2.2.2 _ q_686) d_Long_bitCount_29 ?_
  refine lv_land S.1 S.2.1 d_Long_bitCount_32 ?_
  refine lv_lstore_n S.1 S.2.1 d_Long_bitCount_33 rfl hl (by decide) rfl (fun ls hl => ?_)
  have hl : lv_has ls 2 [(0, .long (((((x - ((((x : Int64).toUInt64 >>> ((1 : Int32).toInt64.toUInt64 &&& Int64.toUInt64 63)).toInt64) &&& 6148914691236517205)) &&& 3689348814741910323) + (((((x - ((((x : Int64).toUInt64 >>> ((1 : Int32).toInt64.toUInt64 &&& Int64.toUInt64 63)).toInt64) &&& 6148914691236517205)) : Int64).toUInt64 >>> ((2 : Int32).toInt64.toUInt64 &&& Int64.toUInt64 63)).toInt64) &&& 3689348814741910323)) + ((((((x - ((((x : Int64).toUInt64 >>> ((1 : Int32).toInt64.toUInt64 &&& Int64.toUInt64 63)).toInt64) &&& 6148914691236517205)) &&& 3689348814741910323) + (((((x - ((((x : Int64).toUInt64 >>> ((1 : Int32).toInt64.toUInt64 &&& Int64.toUInt64 63)).toInt64) &&& 6148914691236517205)) : Int64).toUInt64 >>> ((2 : Int32).toInt64.toUInt64 &&& Int64.toUInt64 63)).toInt64) &&& 3689348814741910323)) : Int64).toUInt64 >>> ((4 : Int32).toInt64.toUInt64 &&& Int64.toUInt64 63)).toInt64)) &&& 1085102592571150095))] := hl
  refine lv_lload_n S.1 S.2.1 d_Long_bitCount_34 rfl (lv_at hl 0 rfl) ?_
  refine lv_lload_n S.1 S.2.1 d_Long_bitCount_35 rfl (lv_at hl 0 rfl) ?_
  refine lv_bipush (v := 8) S.1 S.2.1 d_Long_bitCount_36 (by decide) ?_
  refine lv_lushr (v := ((((((((x - ((((x : Int64).toUInt64 >>> ((1 : Int32).toInt64.toUInt64 &&& Int64.toUInt64 63)).toInt64) &&& 6148914691236517205)) &&& 3689348814741910323) + (((((x - ((((x : Int64).toUInt64 >>> ((1 : Int32).toInt64.toUInt64 &&& Int64.toUInt64 63)).toInt64) &&& 6148914691236517205)) : Int64).toUInt64 >>> ((2 : Int32).toInt64.toUInt64 &&& Int64.toUInt64 63)).toInt64) &&& 3689348814741910323)) + ((((((x - ((((x : Int64).toUInt64 >>> ((1 : Int32).toInt64.toUInt64 &&& Int64.toUInt64 63)).toInt64) &&& 6148914691236517205)) &&& 3689348814741910323) + (((((x - ((((x : Int64).toUInt64 >>> ((1 : Int32).toInt64.toUInt64 &&& Int64.toUInt64 63)).toInt64) &&& 6148914691236517205)) : Int64).toUInt64 >>> ((2 : Int32).toInt64.toUInt64 &&& Int64.toUInt64 63)).toInt64) &&& 3689348814741910323)) : Int64).toUInt64 >>> ((4 : Int32).toInt64.toUInt64 &&& Int64.toUInt64 63)).toInt64)) &&& 1085102592571150095) : Int64).toUInt64 >>> ((8 : Int32).toInt64.toUInt64 &&& Int64.toUInt64 63)).toInt64)) S.1 S.2.1 d_Long_bitCount_38 rfl ?_
  refine lv_ladd S.1 S.2.1 d_Long_bitCount_39 ?_
  refine lv_lstore_n S.1 S.2.1 d_Long_bitCount_40 rfl hl (by decide) rfl (fun ls hl => ?_)
  have hl : lv_has ls 2 [(0, .long ((((((x - ((((x : Int64).toUInt64 >>> ((1 : Int32).toInt64.toUInt64 &&& Int64.toUInt64 63)).toInt64) &&& 6148914691236517205)) &&& 3689348814741910323) + (((((x - ((((x : Int64).toUInt64 >>> ((1 : Int32).toInt64.toUInt64 &&& Int64.toUInt64 63)).toInt64) &&& 6148914691236517205)) : Int64).toUInt64 >>> ((2 : Int32).toInt64.toUInt64 &&& Int64.toUInt64 63)).toInt64) &&& 3689348814741910323)) + ((((((x - ((((x : Int64).toUInt64 >>> ((1 : Int32).toInt64.toUInt64 &&& Int64.toUInt64 63)).toInt64) &&& 6148914691236517205)) &&& 3689348814741910323) + (((((x - ((((x : Int64).toUInt64 >>> ((1 : Int32).toInt64.toUInt64 &&& Int64.toUInt64 63)).toInt64) &&& 6148914691236517205)) : Int64).toUInt64 >>> ((2 : Int32).toInt64.toUInt64 &&& Int64.toUInt64 63)).toInt64) &&& 3689348814741910323)) : Int64).toUInt64 >>> ((4 : Int32).toInt64.toUInt64 &&& Int64.toUInt64 63)).toInt64)) &&& 1085102592571150095) + ((((((((x - ((((x : Int64).toUInt64 >>> ((1 : Int32).toInt64.toUInt64 &&& Int64.toUInt64 63)).toInt64) &&& 6148914691236517205)) &&& 3689348814741910323) + (((((x - ((((x : Int64).toUInt64 >>> ((1 : Int32).toInt64.toUInt64 &&& Int64.toUInt64 63)).toInt64) &&& 6148914691236517205)) : Int64).toUInt64 >>> ((2 : Int32).toInt64.toUInt64 &&& Int64.toUInt64 63)).toInt64) &&& 3689348814741910323)) + ((((((x - ((((x : Int64).toUInt64 >>> ((1 : Int32).toInt64.toUInt64 &&& Int64.toUInt64 63)).toInt64) &&& 6148914691236517205)) &&& 3689348814741910323) + (((((x - ((((x : Int64).toUInt64 >>> ((1 : Int32).toInt64.toUInt64 &&& Int64.toUInt64 63)).toInt64) &&& 6148914691236517205)) : Int64).toUInt64 >>> ((2 : Int32).toInt64.toUInt64 &&& Int64.toUInt64 63)).toInt64) &&& 3689348814741910323)) : Int64).toUInt64 >>> ((4 : Int32).toInt64.toUInt64 &&& Int64.toUInt64 63)).toInt64)) &&& 1085102592571150095) : Int64).toUInt64 >>> ((8 : Int32).toInt64.toUInt64 &&& Int64.toUInt64 63)).toInt64)))] := hl
  refine lv_lload_n S.1 S.2.1 d_Long_bitCount_41 rfl (lv_at hl 0 rfl) ?_
  refine lv_lload_n S.1 S.2.1 d_Long_bitCount_42 rfl (lv_at hl 0 rfl) ?_
  refine lv_bipush (v := 16) S.1 S.2.1 d_Long_bitCount_43 (by decide) ?_
  refine lv_lushr (v := (((((((((x - ((((x : Int64).toUInt64 >>> ((1 : Int32).toInt64.toUInt64 &&& Int64.toUInt64 63)).toInt64) &&& 6148914691236517205)) &&& 3689348814741910323) + (((((x - ((((x : Int64).toUInt64 >>> ((1 : Int32).toInt64.toUInt64 &&& Int64.toUInt64 63)).toInt64) &&& 6148914691236517205)) : Int64).toUInt64 >>> ((2 : Int32).toInt64.toUInt64 &&& Int64.toUInt64 63)).toInt64) &&& 3689348814741910323)) + ((((((x - ((((x : Int64).toUInt64 >>> ((1 : Int32).toInt64.toUInt64 &&& Int64.toUInt64 63)).toInt64) &&& 6148914691236517205)) &&& 3689348814741910323) + (((((x - ((((x : Int64).toUInt64 >>> ((1 : Int32).toInt64.toUInt64 &&& Int64.toUInt64 63)).toInt64) &&& 6148914691236517205)) : Int64).toUInt64 >>> ((2 : Int32).toInt64.toUInt64 &&& Int64.toUInt64 63)).toInt64) &&& 3689348814741910323)) : Int64).toUInt64 >>> ((4 : Int32).toInt64.toUInt64 &&& Int64.toUInt64 63)).toInt64)) &&& 1085102592571150095) + ((((((((x - ((((x : Int64).toUInt64 >>> ((1 : Int32).toInt64.toUInt64 &&& Int64.toUInt64 63)).toInt64) &&& 6148914691236517205)) &&& 3689348814741910323) + (((((x - ((((x : Int64).toUInt64 >>> ((1 : Int32).toInt64.toUInt64 &&& Int64.toUInt64 63)).toInt64) &&& 6148914691236517205)) : Int64).toUInt64 >>> ((2 : Int32).toInt64.toUInt64 &&& Int64.toUInt64 63)).toInt64) &&& 3689348814741910323)) + ((((((x - ((((x : Int64).toUInt64 >>> ((1 : Int32).toInt64.toUInt64 &&& Int64.toUInt64 63)).toInt64) &&& 6148914691236517205)) &&& 3689348814741910323) + (((((x - ((((x : Int64).toUInt64 >>> ((1 : Int32).toInt64.toUInt64 &&& Int64.toUInt64 63)).toInt64) &&& 6148914691236517205)) : Int64).toUInt64 >>> ((2 : Int32).toInt64.toUInt64 &&& Int64.toUInt64 63)).toInt64) &&& 3689348814741910323)) : Int64).toUInt64 >>> ((4 : Int32).toInt64.toUInt64 &&& Int64.toUInt64 63)).toInt64)) &&& 1085102592571150095) : Int64).toUInt64 >>> ((8 : Int32).toInt64.toUInt64 &&& Int64.toUInt64 63)).toInt64)) : Int64).toUInt64 >>> ((16 : Int32).toInt64.toUInt64 &&& Int64.toUInt64 63)).toInt64)) S.1 S.2.1 d_Long_bitCount_45 rfl ?_
  refine lv_ladd S.1 S.2.1 d_Long_bitCount_46 ?_
  refine lv_lstore_n S.1 S.2.1 d_Long_bitCount_47 rfl hl (by decide) rfl (fun ls hl => ?_)
  have hl : lv_has ls 2 [(0, .long (((((((x - ((((x : Int64).toUInt64 >>> ((1 : Int32).toInt64.toUInt64 &&& Int64.toUInt64 63)).toInt64) &&& 6148914691236517205)) &&& 3689348814741910323) + (((((x - ((((x : Int64).toUInt64 >>> ((1 : Int32).toInt64.toUInt64 &&& Int64.toUInt64 63)).toInt64) &&& 6148914691236517205)) : Int64).toUInt64 >>> ((2 : Int32).toInt64.toUInt64 &&& Int64.toUInt64 63)).toInt64) &&& 3689348814741910323)) + ((((((x - ((((x : Int64).toUInt64 >>> ((1 : Int32).toInt64.toUInt64 &&& Int64.toUInt64 63)).toInt64) &&& 6148914691236517205)) &&& 3689348814741910323) + (((((x - ((((x : Int64).toUInt64 >>> ((1 : Int32).toInt64.toUInt64 &&& Int64.toUInt64 63)).toInt64) &&& 6148914691236517205)) : Int64).toUInt64 >>> ((2 : Int32).toInt64.toUInt64 &&& Int64.toUInt64 63)).toInt64) &&& 3689348814741910323)) : Int64).toUInt64 >>> ((4 : Int32).toInt64.toUInt64 &&& Int64.toUInt64 63)).toInt64)) &&& 1085102592571150095) + ((((((((x - ((((x : Int64).toUInt64 >>> ((1 : Int32).toInt64.toUInt64 &&& Int64.toUInt64 63)).toInt64) &&& 6148914691236517205)) &&& 3689348814741910323) + (((((x - ((((x : Int64).toUInt64 >>> ((1 : Int32).toInt64.toUInt64 &&& Int64.toUInt64 63)).toInt64) &&& 6148914691236517205)) : Int64).toUInt64 >>> ((2 : Int32).toInt64.toUInt64 &&& Int64.toUInt64 63)).toInt64) &&& 3689348814741910323)) + ((((((x - ((((x : Int64).toUInt64 >>> ((1 : Int32).toInt64.toUInt64 &&& Int64.toUInt64 63)).toInt64) &&& 6148914691236517205)) &&& 3689348814741910323) + (((((x - ((((x : Int64).toUInt64 >>> ((1 : Int32).toInt64.toUInt64 &&& Int64.toUInt64 63)).toInt64) &&& 6148914691236517205)) : Int64).toUInt64 >>> ((2 : Int32).toInt64.toUInt64 &&& Int64.toUInt64 63)).toInt64) &&& 3689348814741910323)) : Int64).toUInt64 >>> ((4 : Int32).toInt64.toUInt64 &&& Int64.toUInt64 63)).toInt64)) &&& 1085102592571150095) : Int64).toUInt64 >>> ((8 : Int32).toInt64.toUInt64 &&& Int64.toUInt64 63)).toInt64)) + (((((((((x - ((((x : Int64).toUInt64 >>> ((1 : Int32).toInt64.toUInt64 &&& Int64.toUInt64 63)).toInt64) &&& 6148914691236517205)) &&& 3689348814741910323) + (((((x - ((((x : Int64).toUInt64 >>> ((1 : Int32).toInt64.toUInt64 &&& Int64.toUInt64 63)).toInt64) &&& 6148914691236517205)) : Int64).toUInt64 >>> ((2 : Int32).toInt64.toUInt64 &&& Int64.toUInt64 63)).toInt64) &&& 3689348814741910323)) + ((((((x - ((((x : Int64).toUInt64 >>> ((1 : Int32).toInt64.toUInt64 &&& Int64.toUInt64 63)).toInt64) &&& 6148914691236517205)) &&& 3689348814741910323) + (((((x - ((((x : Int64).toUInt64 >>> ((1 : Int32).toInt64.toUInt64 &&& Int64.toUInt64 63)).toInt64) &&& 6148914691236517205)) : Int64).toUInt64 >>> ((2 : Int32).toInt64.toUInt64 &&& Int64.toUInt64 63)).toInt64) &&& 3689348814741910323)) : Int64).toUInt64 >>> ((4 : Int32).toInt64.toUInt64 &&& Int64.toUInt64 63)).toInt64)) &&& 1085102592571150095) + ((((((((x - ((((x : Int64).toUInt64 >>> ((1 : Int32).toInt64.toUInt64 &&& Int64.toUInt64 63)).toInt64) &&& 6148914691236517205)) &&& 3689348814741910323) + (((((x - ((((x : Int64).toUInt64 >>> ((1 : Int32).toInt64.toUInt64 &&& Int64.toUInt64 63)).toInt64) &&& 6148914691236517205)) : Int64).toUInt64 >>> ((2 : Int32).toInt64.toUInt64 &&& Int64.toUInt64 63)).toInt64) &&& 3689348814741910323)) + ((((((x - ((((x : Int64).toUInt64 >>> ((1 : Int32).toInt64.toUInt64 &&& Int64.toUInt64 63)).toInt64) &&& 6148914691236517205)) &&& 3689348814741910323) + (((((x - ((((x : Int64).toUInt64 >>> ((1 : Int32).toInt64.toUInt64 &&& Int64.toUInt64 63)).toInt64) &&& 6148914691236517205)) : Int64).toUInt64 >>> ((2 : Int32).toInt64.toUInt64 &&& Int64.toUInt64 63)).toInt64) &&& 3689348814741910323)) : Int64).toUInt64 >>> ((4 : Int32).toInt64.toUInt64 &&& Int64.toUInt64 63)).toInt64)) &&& 1085102592571150095) : Int64).toUInt64 >>> ((8 : Int32).toInt64.toUInt64 &&& Int64.toUInt64 63)).toInt64)) : Int64).toUInt64 >>> ((16 : Int32).toInt64.toUInt64 &&& Int64.toUInt64 63)).toInt64)))] := hl
  refine lv_lload_n S.1 S.2.1 d_Long_bitCount_48 rfl (lv_at hl 0 rfl) ?_
  refine lv_lload_n S.1 S.2.1 d_Long_bitCount_49 rfl (lv_at hl 0 rfl) ?_
  refine lv_bipush (v := 32) S.1 S.2.1 d_Long_bitCount_50 (by decide) ?_
  refine lv_lushr (v := ((((((((((x - ((((x : Int64).toUInt64 >>> ((1 : Int32).toInt64.toUInt64 &&& Int64.toUInt64 63)).toInt64) &&& 6148914691236517205)) &&& 3689348814741910323) + (((((x - ((((x : Int64).toUInt64 >>> ((1 : Int32).toInt64.toUInt64 &&& Int64.toUInt64 63)).toInt64) &&& 6148914691236517205)) : Int64).toUInt64 >>> ((2 : Int32).toInt64.toUInt64 &&& Int64.toUInt64 63)).toInt64) &&& 3689348814741910323)) + ((((((x - ((((x : Int64).toUInt64 >>> ((1 : Int32).toInt64.toUInt64 &&& Int64.toUInt64 63)).toInt64) &&& 6148914691236517205)) &&& 3689348814741910323) + (((((x - ((((x : Int64).toUInt64 >>> ((1 : Int32).toInt64.toUInt64 &&& Int64.toUInt64 63)).toInt64) &&& 6148914691236517205)) : Int64).toUInt64 >>> ((2 : Int32).toInt64.toUInt64 &&& Int64.toUInt64 63)).toInt64) &&& 3689348814741910323)) : Int64).toUInt64 >>> ((4 : Int32).toInt64.toUInt64 &&& Int64.toUInt64 63)).toInt64)) &&& 1085102592571150095) + ((((((((x - ((((x : Int64).toUInt64 >>> ((1 : Int32).toInt64.toUInt64 &&& Int64.toUInt64 63)).toInt64) &&& 6148914691236517205)) &&& 3689348814741910323) + (((((x - ((((x : Int64).toUInt64 >>> ((1 : Int32).toInt64.toUInt64 &&& Int64.toUInt64 63)).toInt64) &&& 6148914691236517205)) : Int64).toUInt64 >>> ((2 : Int32).toInt64.toUInt64 &&& Int64.toUInt64 63)).toInt64) &&& 3689348814741910323)) + ((((((x - ((((x : Int64).toUInt64 >>> ((1 : Int32).toInt64.toUInt64 &&& Int64.toUInt64 63)).toInt64) &&& 6148914691236517205)) &&& 3689348814741910323) + (((((x - ((((x : Int64).toUInt64 >>> ((1 : Int32).toInt64.toUInt64 &&& Int64.toUInt64 63)).toInt64) &&& 6148914691236517205)) : Int64).toUInt64 >>> ((2 : Int32).toInt64.toUInt64 &&& Int64.toUInt64 63)).toInt64) &&& 3689348814741910323)) : Int64).toUInt64 >>> ((4 : Int32).toInt64.toUInt64 &&& Int64.toUInt64 63)).toInt64)) &&& 1085102592571150095) : Int64).toUInt64 >>> ((8 : Int32).toInt64.toUInt64 &&& Int64.toUInt64 63)).toInt64)) + (((((((((x - ((((x : Int64).toUInt64 >>> ((1 : Int32).toInt64.toUInt64 &&& Int64.toUInt64 63)).toInt64) &&& 6148914691236517205)) &&& 3689348814741910323) + (((((x - ((((x : Int64).toUInt64 >>> ((1 : Int32).toInt64.toUInt64 &&& Int64.toUInt64 63)).toInt64) &&& 6148914691236517205)) : Int64).toUInt64 >>> ((2 : Int32).toInt64.toUInt64 &&& Int64.toUInt64 63)).toInt64) &&& 3689348814741910323)) + ((((((x - ((((x : Int64).toUInt64 >>> ((1 : Int32).toInt64.toUInt64 &&& Int64.toUInt64 63)).toInt64) &&& 6148914691236517205)) &&& 3689348814741910323) + (((((x - ((((x : Int64).toUInt64 >>> ((1 : Int32).toInt64.toUInt64 &&& Int64.toUInt64 63)).toInt64) &&& 6148914691236517205)) : Int64).toUInt64 >>> ((2 : Int32).toInt64.toUInt64 &&& Int64.toUInt64 63)).toInt64) &&& 3689348814741910323)) : Int64).toUInt64 >>> ((4 : Int32).toInt64.toUInt64 &&& Int64.toUInt64 63)).toInt64)) &&& 1085102592571150095) + ((((((((x - ((((x : Int64).toUInt64 >>> ((1 : Int32).toInt64.toUInt64 &&& Int64.toUInt64 63)).toInt64) &&& 6148914691236517205)) &&& 3689348814741910323) + (((((x - ((((x : Int64).toUInt64 >>> ((1 : Int32).toInt64.toUInt64 &&& Int64.toUInt64 63)).toInt64) &&& 6148914691236517205)) : Int64).toUInt64 >>> ((2 : Int32).toInt64.toUInt64 &&& Int64.toUInt64 63)).toInt64) &&& 3689348814741910323)) + ((((((x - ((((x : Int64).toUInt64 >>> ((1 : Int32).toInt64.toUInt64 &&& Int64.toUInt64 63)).toInt64) &&& 6148914691236517205)) &&& 3689348814741910323) + (((((x - ((((x : Int64).toUInt64 >>> ((1 : Int32).toInt64.toUInt64 &&& Int64.toUInt64 63)).toInt64) &&& 6148914691236517205)) : Int64).toUInt64 >>> ((2 : Int32).toInt64.toUInt64 &&& Int64.toUInt64 63)).toInt64) &&& 3689348814741910323)) : Int64).toUInt64 >>> ((4 : Int32).toInt64.toUInt64 &&& Int64.toUInt64 63)).toInt64)) &&& 1085102592571150095) : Int64).toUInt64 >>> ((8 : Int32).toInt64.toUInt64 &&& Int64.toUInt64 63)).toInt64)) : Int64).toUInt64 >>> ((16 : Int32).toInt64.toUInt64 &&& Int64.toUInt64 63)).toInt64)) : Int64).toUInt64 >>> ((32 : Int32).toInt64.toUInt64 &&& Int64.toUInt64 63)).toInt64)) S.1 S.2.1 d_Long_bitCount_52 rfl ?_
  refine lv_ladd S.1 S.2.1 d_Long_bitCount_53 ?_
  refine lv_lstore_n S.1 S.2.1 d_Long_bitCount_54 rfl hl (by decide) rfl (fun ls hl => ?_)
  have hl : lv_has ls 2 [(0, .long ((((((((x - ((((x : Int64).toUInt64 >>> ((1 : Int32).toInt64.toUInt64 &&& Int64.toUInt64 63)).toInt64) &&& 6148914691236517205)) &&& 3689348814741910323) + (((((x - ((((x : Int64).toUInt64 >>> ((1 : Int32).toInt64.toUInt64 &&& Int64.toUInt64 63)).toInt64) &&& 6148914691236517205)) : Int64).toUInt64 >>> ((2 : Int32).toInt64.toUInt64 &&& Int64.toUInt64 63)).toInt64) &&& 3689348814741910323)) + ((((((x - ((((x : Int64).toUInt64 >>> ((1 : Int32).toInt64.toUInt64 &&& Int64.toUInt64 63)).toInt64) &&& 6148914691236517205)) &&& 3689348814741910323) + (((((x - ((((x : Int64).toUInt64 >>> ((1 : Int32).toInt64.toUInt64 &&& Int64.toUInt64 63)).toInt64) &&& 6148914691236517205)) : Int64).toUInt64 >>> ((2 : Int32).toInt64.toUInt64 &&& Int64.toUInt64 63)).toInt64) &&& 3689348814741910323)) : Int64).toUInt64 >>> ((4 : Int32).toInt64.toUInt64 &&& Int64.toUInt64 63)).toInt64)) &&& 1085102592571150095) + ((((((((x - ((((x : Int64).toUInt64 >>> ((1 : Int32).toInt64.toUInt64 &&& Int64.toUInt64 63)).toInt64) &&& 6148914691236517205)) &&& 3689348814741910323) + (((((x - ((((x : Int64).toUInt64 >>> ((1 : Int32).toInt64.toUInt64 &&& Int64.toUInt64 63)).toInt64) &&& 6148914691236517205)) : Int64).toUInt64 >>> ((2 : Int32).toInt64.toUInt64 &&& Int64.toUInt64 63)).toInt64) &&& 3689348814741910323)) + ((((((x - ((((x : Int64).toUInt64 >>> ((1 : Int32).toInt64.toUInt64 &&& Int64.toUInt64 63)).toInt64) &&& 6148914691236517205)) &&& 3689348814741910323) + (((((x - ((((x : Int64).toUInt64 >>> ((1 : Int32).toInt64.toUInt64 &&& Int64.toUInt64 63)).toInt64) &&& 6148914691236517205)) : Int64).toUInt64 >>> ((2 : Int32).toInt64.toUInt64 &&& Int64.toUInt64 63)).toInt64) &&& 3689348814741910323)) : Int64).toUInt64 >>> ((4 : Int32).toInt64.toUInt64 &&& Int64.toUInt64 63)).toInt64)) &&& 1085102592571150095) : Int64).toUInt64 >>> ((8 : Int32).toInt64.toUInt64 &&& Int64.toUInt64 63)).toInt64)) + (((((((((x - ((((x : Int64).toUInt64 >>> ((1 : Int32).toInt64.toUInt64 &&& Int64.toUInt64 63)).toInt64) &&& 6148914691236517205)) &&& 3689348814741910323) + (((((x - ((((x : Int64).toUInt64 >>> ((1 : Int32).toInt64.toUInt64 &&& Int64.toUInt64 63)).toInt64) &&& 6148914691236517205)) : Int64).toUInt64 >>> ((2 : Int32).toInt64.toUInt64 &&& Int64.toUInt64 63)).toInt64) &&& 3689348814741910323)) + ((((((x - ((((x : Int64).toUInt64 >>> ((1 : Int32).toInt64.toUInt64 &&& Int64.toUInt64 63)).toInt64) &&& 6148914691236517205)) &&& 3689348814741910323) + (((((x - ((((x : Int64).toUInt64 >>> ((1 : Int32).toInt64.toUInt64 &&& Int64.toUInt64 63)).toInt64) &&& 6148914691236517205)) : Int64).toUInt64 >>> ((2 : Int32).toInt64.toUInt64 &&& Int64.toUInt64 63)).toInt64) &&& 3689348814741910323)) : Int64).toUInt64 >>> ((4 : Int32).toInt64.toUInt64 &&& Int64.toUInt64 63)).toInt64)) &&& 1085102592571150095) + ((((((((x - ((((x : Int64).toUInt64 >>> ((1 : Int32).toInt64.toUInt64 &&& Int64.toUInt64 63)).toInt64) &&& 6148914691236517205)) &&& 3689348814741910323) + (((((x - ((((x : Int64).toUInt64 >>> ((1 : Int32).toInt64.toUInt64 &&& Int64.toUInt64 63)).toInt64) &&& 6148914691236517205)) : Int64).toUInt64 >>> ((2 : Int32).toInt64.toUInt64 &&& Int64.toUInt64 63)).toInt64) &&& 3689348814741910323)) + ((((((x - ((((x : Int64).toUInt64 >>> ((1 : Int32).toInt64.toUInt64 &&& Int64.toUInt64 63)).toInt64) &&& 6148914691236517205)) &&& 3689348814741910323) + (((((x - ((((x : Int64).toUInt64 >>> ((1 : Int32).toInt64.toUInt64 &&& Int64.toUInt64 63)).toInt64) &&& 6148914691236517205)) : Int64).toUInt64 >>> ((2 : Int32).toInt64.toUInt64 &&& Int64.toUInt64 63)).toInt64) &&& 3689348814741910323)) : Int64).toUInt64 >>> ((4 : Int32).toInt64.toUInt64 &&& Int64.toUInt64 63)).toInt64)) &&& 1085102592571150095) : Int64).toUInt64 >>> ((8 : Int32).toInt64.toUInt64 &&& Int64.toUInt64 63)).toInt64)) : Int64).toUInt64 >>> ((16 : Int32).toInt64.toUInt64 &&& Int64.toUInt64 63)).toInt64)) + ((((((((((x - ((((x : Int64).toUInt64 >>> ((1 : Int32).toInt64.toUInt64 &&& Int64.toUInt64 63)).toInt64) &&& 6148914691236517205)) &&& 3689348814741910323) + (((((x - ((((x : Int64).toUInt64 >>> ((1 : Int32).toInt64.toUInt64 &&& Int64.toUInt64 63)).toInt64) &&& 6148914691236517205)) : Int64).toUInt64 >>> ((2 : Int32).toInt64.toUInt64 &&& Int64.toUInt64 63)).toInt64) &&& 3689348814741910323)) + ((((((x - ((((x : Int64).toUInt64 >>> ((1 : Int32).toInt64.toUInt64 &&& Int64.toUInt64 63)).toInt64) &&& 6148914691236517205)) &&& 3689348814741910323) + (((((x - ((((x : Int64).toUInt64 >>> ((1 : Int32).toInt64.toUInt64 &&& Int64.toUInt64 63)).toInt64) &&& 6148914691236517205)) : Int64).toUInt64 >>> ((2 : Int32).toInt64.toUInt64 &&& Int64.toUInt64 63)).toInt64) &&& 3689348814741910323)) : Int64).toUInt64 >>> ((4 : Int32).toInt64.toUInt64 &&& Int64.toUInt64 63)).toInt64)) &&& 1085102592571150095) + ((((((((x - ((((x : Int64).toUInt64 >>> ((1 : Int32).toInt64.toUInt64 &&& Int64.toUInt64 63)).toInt64) &&& 6148914691236517205)) &&& 3689348814741910323) + (((((x - ((((x : Int64).toUInt64 >>> ((1 : Int32).toInt64.toUInt64 &&& Int64.toUInt64 63)).toInt64) &&& 6148914691236517205)) : Int64).toUInt64 >>> ((2 : Int32).toInt64.toUInt64 &&& Int64.toUInt64 63)).toInt64) &&& 3689348814741910323)) + ((((((x - ((((x : Int64).toUInt64 >>> ((1 : Int32).toInt64.toUInt64 &&& Int64.toUInt64 63)).toInt64) &&& 6148914691236517205)) &&& 3689348814741910323) + (((((x - ((((x : Int64).toUInt64 >>> ((1 : Int32).toInt64.toUInt64 &&& Int64.toUInt64 63)).toInt64) &&& 6148914691236517205)) : Int64).toUInt64 >>> ((2 : Int32).toInt64.toUInt64 &&& Int64.toUInt64 63)).toInt64) &&& 3689348814741910323)) : Int64).toUInt64 >>> ((4 : Int32).toInt64.toUInt64 &&& Int64.toUInt64 63)).toInt64)) &&& 1085102592571150095) : Int64).toUInt64 >>> ((8 : Int32).toInt64.toUInt64 &&& Int64.toUInt64 63)).toInt64)) + (((((((((x - ((((x : Int64).toUInt64 >>> ((1 : Int32).toInt64.toUInt64 &&& Int64.toUInt64 63)).toInt64) &&& 6148914691236517205)) &&& 3689348814741910323) + (((((x - ((((x : Int64).toUInt64 >>> ((1 : Int32).toInt64.toUInt64 &&& Int64.toUInt64 63)).toInt64) &&& 6148914691236517205)) : Int64).toUInt64 >>> ((2 : Int32).toInt64.toUInt64 &&& Int64.toUInt64 63)).toInt64) &&& 3689348814741910323)) + ((((((x - ((((x : Int64).toUInt64 >>> ((1 : Int32).toInt64.toUInt64 &&& Int64.toUInt64 63)).toInt64) &&& 6148914691236517205)) &&& 3689348814741910323) + (((((x - ((((x : Int64).toUInt64 >>> ((1 : Int32).toInt64.toUInt64 &&& Int64.toUInt64 63)).toInt64) &&& 6148914691236517205)) : Int64).toUInt64 >>> ((2 : Int32).toInt64.toUInt64 &&& Int64.toUInt64 63)).toInt64) &&& 3689348814741910323)) : Int64).toUInt64 >>> ((4 : Int32).toInt64.toUInt64 &&& Int64.toUInt64 63)).toInt64)) &&& 1085102592571150095) + ((((((((x - ((((x : Int64).toUInt64 >>> ((1 : Int32).toInt64.toUInt64 &&& Int64.toUInt64 63)).toInt64) &&& 6148914691236517205)) &&& 3689348814741910323) + (((((x - ((((x : Int64).toUInt64 >>> ((1 : Int32).toInt64.toUInt64 &&& Int64.toUInt64 63)).toInt64) &&& 6148914691236517205)) : Int64).toUInt64 >>> ((2 : Int32).toInt64.toUInt64 &&& Int64.toUInt64 63)).toInt64) &&& 3689348814741910323)) + ((((((x - ((((x : Int64).toUInt64 >>> ((1 : Int32).toInt64.toUInt64 &&& Int64.toUInt64 63)).toInt64) &&& 6148914691236517205)) &&& 3689348814741910323) + (((((x - ((((x : Int64).toUInt64 >>> ((1 : Int32).toInt64.toUInt64 &&& Int64.toUInt64 63)).toInt64) &&& 6148914691236517205)) : Int64).toUInt64 >>> ((2 : Int32).toInt64.toUInt64 &&& Int64.toUInt64 63)).toInt64) &&& 3689348814741910323)) : Int64).toUInt64 >>> ((4 : Int32).toInt64.toUInt64 &&& Int64.toUInt64 63)).toInt64)) &&& 1085102592571150095) : Int64).toUInt64 >>> ((8 : Int32).toInt64.toUInt64 &&& Int64.toUInt64 63)).toInt64)) : Int64).toUInt64 >>> ((16 : Int32).toInt64.toUInt64 &&& Int64.toUInt64 63)).toInt64)) : Int64).toUInt64 >>> ((32 : Int32).toInt64.toUInt64 &&& Int64.toUInt64 63)).toInt64)))] := hl
  refine lv_lload_n S.1 S.2.1 d_Long_bitCount_55 rfl (lv_at hl 0 rfl) ?_
  refine lv_l2i (v := (((((((((x - ((((x : Int64).toUInt64 >>> ((1 : Int32).toInt64.toUInt64 &&& Int64.toUInt64 63)).toInt64) &&& 6148914691236517205)) &&& 3689348814741910323) + (((((x - ((((x : Int64).toUInt64 >>> ((1 : Int32).toInt64.toUInt64 &&& Int64.toUInt64 63)).toInt64) &&& 6148914691236517205)) : Int64).toUInt64 >>> ((2 : Int32).toInt64.toUInt64 &&& Int64.toUInt64 63)).toInt64) &&& 3689348814741910323)) + ((((((x - ((((x : Int64).toUInt64 >>> ((1 : Int32).toInt64.toUInt64 &&& Int64.toUInt64 63)).toInt64) &&& 6148914691236517205)) &&& 3689348814741910323) + (((((x - ((((x : Int64).toUInt64 >>> ((1 : Int32).toInt64.toUInt64 &&& Int64.toUInt64 63)).toInt64) &&& 6148914691236517205)) : Int64).toUInt64 >>> ((2 : Int32).toInt64.toUInt64 &&& Int64.toUInt64 63)).toInt64) &&& 3689348814741910323)) : Int64).toUInt64 >>> ((4 : Int32).toInt64.toUInt64 &&& Int64.toUInt64 63)).toInt64)) &&& 1085102592571150095) + ((((((((x - ((((x : Int64).toUInt64 >>> ((1 : Int32).toInt64.toUInt64 &&& Int64.toUInt64 63)).toInt64) &&& 6148914691236517205)) &&& 3689348814741910323) + (((((x - ((((x : Int64).toUInt64 >>> ((1 : Int32).toInt64.toUInt64 &&& Int64.toUInt64 63)).toInt64) &&& 6148914691236517205)) : Int64).toUInt64 >>> ((2 : Int32).toInt64.toUInt64 &&& Int64.toUInt64 63)).toInt64) &&& 3689348814741910323)) + ((((((x - ((((x : Int64).toUInt64 >>> ((1 : Int32).toInt64.toUInt64 &&& Int64.toUInt64 63)).toInt64) &&& 6148914691236517205)) &&& 3689348814741910323) + (((((x - ((((x : Int64).toUInt64 >>> ((1 : Int32).toInt64.toUInt64 &&& Int64.toUInt64 63)).toInt64) &&& 6148914691236517205)) : Int64).toUInt64 >>> ((2 : Int32).toInt64.toUInt64 &&& Int64.toUInt64 63)).toInt64) &&& 3689348814741910323)) : Int64).toUInt64 >>> ((4 : Int32).toInt64.toUInt64 &&& Int64.toUInt64 63)).toInt64)) &&& 1085102592571150095) : Int64).toUInt64 >>> ((8 : Int32).toInt64.toUInt64 &&& Int64.toUInt64 63)).toInt64)) + (((((((((x - ((((x : Int64).toUInt64 >>> ((1 : Int32).toInt64.toUInt64 &&& Int64.toUInt64 63)).toInt64) &&& 6148914691236517205)) &&& 3689348814741910323) + (((((x - ((((x : Int64).toUInt64 >>> ((1 : Int32).toInt64.toUInt64 &&& Int64.toUInt64 63)).toInt64) &&& 6148914691236517205)) : Int64).toUInt64 >>> ((2 : Int32).toInt64.toUInt64 &&& Int64.toUInt64 63)).toInt64) &&& 3689348814741910323)) + ((((((x - ((((x : Int64).toUInt64 >>> ((1 : Int32).toInt64.toUInt64 &&& Int64.toUInt64 63)).toInt64) &&& 6148914691236517205)) &&& 3689348814741910323) + (((((x - ((((x : Int64).toUInt64 >>> ((1 : Int32).toInt64.toUInt64 &&& Int64.toUInt64 63)).toInt64) &&& 6148914691236517205)) : Int64).toUInt64 >>> ((2 : Int32).toInt64.toUInt64 &&& Int64.toUInt64 63)).toInt64) &&& 3689348814741910323)) : Int64).toUInt64 >>> ((4 : Int32).toInt64.toUInt64 &&& Int64.toUInt64 63)).toInt64)) &&& 1085102592571150095) + ((((((((x - ((((x : Int64).toUInt64 >>> ((1 : Int32).toInt64.toUInt64 &&& Int64.toUInt64 63)).toInt64) &&& 6148914691236517205)) &&& 3689348814741910323) + (((((x - ((((x : Int64).toUInt64 >>> ((1 : Int32).toInt64.toUInt64 &&& Int64.toUInt64 63)).toInt64) &&& 6148914691236517205)) : Int64).toUInt64 >>> ((2 : Int32).toInt64.toUInt64 &&& Int64.toUInt64 63)).toInt64) &&& 3689348814741910323)) + ((((((x - ((((x : Int64).toUInt64 >>> ((1 : Int32).toInt64.toUInt64 &&& Int64.toUInt64 63)).toInt64) &&& 6148914691236517205)) &&& 3689348814741910323) + (((((x - ((((x : Int64).toUInt64 >>> ((1 : Int32).toInt64.toUInt64 &&& Int64.toUInt64 63)).toInt64) &&& 6148914691236517205)) : Int64).toUInt64 >>> ((2 : Int32).toInt64.toUInt64 &&& Int64.toUInt64 63)).toInt64) &&& 3689348814741910323)) : Int64).toUInt64 >>> ((4 : Int32).toInt64.toUInt64 &&& Int64.toUInt64 63)).toInt64)) &&& 1085102592571150095) : Int64).toUInt64 >>> ((8 : Int32).toInt64.toUInt64 &&& Int64.toUInt64 63)).toInt64)) : Int64).toUInt64 >>> ((16 : Int32).toInt64.toUInt64 &&& Int64.toUInt64 63)).toInt64)) + ((((((((((x - ((((x : Int64).toUInt64 >>> ((1 : Int32).toInt64.toUInt64 &&& Int64.toUInt64 63)).toInt64) &&& 6148914691236517205)) &&& 3689348814741910323) + (((((x - ((((x : Int64).toUInt64 >>> ((1 : Int32).toInt64.toUInt64 &&& Int64.toUInt64 63)).toInt64) &&& 6148914691236517205)) : Int64).toUInt64 >>> ((2 : Int32).toInt64.toUInt64 &&& Int64.toUInt64 63)).toInt64) &&& 3689348814741910323)) + ((((((x - ((((x : Int64).toUInt64 >>> ((1 : Int32).toInt64.toUInt64 &&& Int64.toUInt64 63)).toInt64) &&& 6148914691236517205)) &&& 3689348814741910323) + (((((x - ((((x : Int64).toUInt64 >>> ((1 : Int32).toInt64.toUInt64 &&& Int64.toUInt64 63)).toInt64) &&& 6148914691236517205)) : Int64).toUInt64 >>> ((2 : Int32).toInt64.toUInt64 &&& Int64.toUInt64 63)).toInt64) &&& 3689348814741910323)) : Int64).toUInt64 >>> ((4 : Int32).toInt64.toUInt64 &&& Int64.toUInt64 63)).toInt64)) &&& 1085102592571150095) + ((((((((x - ((((x : Int64).toUInt64 >>> ((1 : Int32).toInt64.toUInt64 &&& Int64.toUInt64 63)).toInt64) &&& 6148914691236517205)) &&& 3689348814741910323) + (((((x - ((((x : Int64).toUInt64 >>> ((1 : Int32).toInt64.toUInt64 &&& Int64.toUInt64 63)).toInt64) &&& 6148914691236517205)) : Int64).toUInt64 >>> ((2 : Int32).toInt64.toUInt64 &&& Int64.toUInt64 63)).toInt64) &&& 3689348814741910323)) + ((((((x - ((((x : Int64).toUInt64 >>> ((1 : Int32).toInt64.toUInt64 &&& Int64.toUInt64 63)).toInt64) &&& 6148914691236517205)) &&& 3689348814741910323) + (((((x - ((((x : Int64).toUInt64 >>> ((1 : Int32).toInt64.toUInt64 &&& Int64.toUInt64 63)).toInt64) &&& 6148914691236517205)) : Int64).toUInt64 >>> ((2 : Int32).toInt64.toUInt64 &&& Int64.toUInt64 63)).toInt64) &&& 3689348814741910323)) : Int64).toUInt64 >>> ((4 : Int32).toInt64.toUInt64 &&& Int64.toUInt64 63)).toInt64)) &&& 1085102592571150095) : Int64).toUInt64 >>> ((8 : Int32).toInt64.toUInt64 &&& Int64.toUInt64 63)).toInt64)) + (((((((((x - ((((x : Int64).toUInt64 >>> ((1 : Int32).toInt64.toUInt64 &&& Int64.toUInt64 63)).toInt64) &&& 6148914691236517205)) &&& 3689348814741910323) + (((((x - ((((x : Int64).toUInt64 >>> ((1 : Int32).toInt64.toUInt64 &&& Int64.toUInt64 63)).toInt64) &&& 6148914691236517205)) : Int64).toUInt64 >>> ((2 : Int32).toInt64.toUInt64 &&& Int64.toUInt64 63)).toInt64) &&& 3689348814741910323)) + ((((((x - ((((x : Int64).toUInt64 >>> ((1 : Int32).toInt64.toUInt64 &&& Int64.toUInt64 63)).toInt64) &&& 6148914691236517205)) &&& 3689348814741910323) + (((((x - ((((x : Int64).toUInt64 >>> ((1 : Int32).toInt64.toUInt64 &&& Int64.toUInt64 63)).toInt64) &&& 6148914691236517205)) : Int64).toUInt64 >>> ((2 : Int32).toInt64.toUInt64 &&& Int64.toUInt64 63)).toInt64) &&& 3689348814741910323)) : Int64).toUInt64 >>> ((4 : Int32).toInt64.toUInt64 &&& Int64.toUInt64 63)).toInt64)) &&& 1085102592571150095) + ((((((((x - ((((x : Int64).toUInt64 >>> ((1 : Int32).toInt64.toUInt64 &&& Int64.toUInt64 63)).toInt64) &&& 6148914691236517205)) &&& 3689348814741910323) + (((((x - ((((x : Int64).toUInt64 >>> ((1 : Int32).toInt64.toUInt64 &&& Int64.toUInt64 63)).toInt64) &&& 6148914691236517205)) : Int64).toUInt64 >>> ((2 : Int32).toInt64.toUInt64 &&& Int64.toUInt64 63)).toInt64) &&& 3689348814741910323)) + ((((((x - ((((x : Int64).toUInt64 >>> ((1 : Int32).toInt64.toUInt64 &&& Int64.toUInt64 63)).toInt64) &&& 6148914691236517205)) &&& 3689348814741910323) + (((((x - ((((x : Int64).toUInt64 >>> ((1 : Int32).toInt64.toUInt64 &&& Int64.toUInt64 63)).toInt64) &&& 6148914691236517205)) : Int64).toUInt64 >>> ((2 : Int32).toInt64.toUInt64 &&& Int64.toUInt64 63)).toInt64) &&& 3689348814741910323)) : Int64).toUInt64 >>> ((4 : Int32).toInt64.toUInt64 &&& Int64.toUInt64 63)).toInt64)) &&& 1085102592571150095) : Int64).toUInt64 >>> ((8 : Int32).toInt64.toUInt64 &&& Int64.toUInt64 63)).toInt64)) : Int64).toUInt64 >>> ((16 : Int32).toInt64.toUInt64 &&& Int64.toUInt64 63)).toInt64)) : Int64).toUInt64 >>> ((32 : Int32).toInt64.toUInt64 &&& Int64.toUInt64 63)).toInt64)) : Int64).toInt32) S.1 S.2.1 d_Long_bitCount_56 rfl ?_
  refine lv_bipush (v := 127) S.1 S.2.1 d_Long_bitCount_57 (by decide) ?_
  refine lv_iand S.1 S.2.1 d_Long_bitCount_59 ?_
  exact r_i S hr hk d_Long_bitCount_60 (by unfold f_Long_bitCount; rfl)
