-- ===== PART A: goes FIRST, ahead of the names: the tables' words, and 'selects' of the private methods out of them =====
/-- a private method of a class that the tables say can be made, by its rows of tables_1 -/
def lw_okq (q : MethodName × Nat) : Prop := (q.1.cls ≠ "java/lang/invoke/MethodHandle" ∧ q.1.cls ≠ "java/lang/invoke/VarHandle") ∧ Cond.instantiable q.1.cls q.2 ∈ tables_1 ∧ Cond.privateMethod q.1 ∈ tables_1 ∧ Cond.instanceMethod q.1 ∈ tables_1
theorem lw_p0 : lw_okq (⟨"MetricLogMonitor", "mayMake", "()Z"⟩, 3) := ⟨⟨by decide +kernel, by decide +kernel⟩, List.mem_of_getElem? (i := 24) (by decide +kernel), List.mem_of_getElem? (i := 99) (by decide +kernel), List.mem_of_getElem? (i := 100) (by decide +kernel)⟩
theorem lw_p1 : lw_okq (⟨"MetricLogMonitor", "add", "(LMetricLogMonitor$Formula;)I"⟩, 3) := ⟨⟨by decide +kernel, by decide +kernel⟩, List.mem_of_getElem? (i := 24) (by decide +kernel), List.mem_of_getElem? (i := 185) (by decide +kernel), List.mem_of_getElem? (i := 186) (by decide +kernel)⟩
theorem lw_p2 : lw_okq (⟨"java/util/ArrayList", "add", "(Ljava/lang/Object;[Ljava/lang/Object;I)V"⟩, 3) := ⟨⟨by decide +kernel, by decide +kernel⟩, List.mem_of_getElem? (i := 32) (by decide +kernel), List.mem_of_getElem? (i := 193) (by decide +kernel), List.mem_of_getElem? (i := 194) (by decide +kernel)⟩
theorem lw_p3 : lw_okq (⟨"java/util/ArrayList", "grow", "()[Ljava/lang/Object;"⟩, 3) := ⟨⟨by decide +kernel, by decide +kernel⟩, List.mem_of_getElem? (i := 32) (by decide +kernel), List.mem_of_getElem? (i := 197) (by decide +kernel), List.mem_of_getElem? (i := 198) (by decide +kernel)⟩
theorem lw_p4 : lw_okq (⟨"java/util/ArrayList", "grow", "(I)[Ljava/lang/Object;"⟩, 3) := ⟨⟨by decide +kernel, by decide +kernel⟩, List.mem_of_getElem? (i := 32) (by decide +kernel), List.mem_of_getElem? (i := 201) (by decide +kernel), List.mem_of_getElem? (i := 202) (by decide +kernel)⟩
theorem lw_p5 : lw_okq (⟨"MetricLogMonitor", "find", "(I)LMetricLogMonitor$Formula;"⟩, 3) := ⟨⟨by decide +kernel, by decide +kernel⟩, List.mem_of_getElem? (i := 24) (by decide +kernel), List.mem_of_getElem? (i := 282) (by decide +kernel), List.mem_of_getElem? (i := 283) (by decide +kernel)⟩
theorem lw_p6 : lw_okq (⟨"MetricLogMonitorModel", "mayMake", "()Z"⟩, 17) := ⟨⟨by decide +kernel, by decide +kernel⟩, List.mem_of_getElem? (i := 688) (by decide +kernel), List.mem_of_getElem? (i := 751) (by decide +kernel), List.mem_of_getElem? (i := 752) (by decide +kernel)⟩
theorem lw_p7 : lw_okq (⟨"MetricLogMonitorModel", "make", "(IIII)I"⟩, 17) := ⟨⟨by decide +kernel, by decide +kernel⟩, List.mem_of_getElem? (i := 688) (by decide +kernel), List.mem_of_getElem? (i := 758) (by decide +kernel), List.mem_of_getElem? (i := 759) (by decide +kernel)⟩
theorem lw_p8 : lw_okq (⟨"MetricLogMonitorModel", "isFormula", "(I)Z"⟩, 17) := ⟨⟨by decide +kernel, by decide +kernel⟩, List.mem_of_getElem? (i := 688) (by decide +kernel), List.mem_of_getElem? (i := 770) (by decide +kernel), List.mem_of_getElem? (i := 771) (by decide +kernel)⟩
theorem lw_p9 : lw_okq (⟨"MetricLogMonitorModel", "makeTimed", "(IIIII)I"⟩, 17) := ⟨⟨by decide +kernel, by decide +kernel⟩, List.mem_of_getElem? (i := 688) (by decide +kernel), List.mem_of_getElem? (i := 790) (by decide +kernel), List.mem_of_getElem? (i := 791) (by decide +kernel)⟩
theorem lw_p10 : lw_okq (⟨"MetricLogMonitorModel", "freeOf", "(I)I"⟩, 17) := ⟨⟨by decide +kernel, by decide +kernel⟩, List.mem_of_getElem? (i := 688) (by decide +kernel), List.mem_of_getElem? (i := 806) (by decide +kernel), List.mem_of_getElem? (i := 807) (by decide +kernel)⟩
theorem lw_p11 : lw_okq (⟨"MetricLogMonitorModel", "rangedOf", "(I)I"⟩, 17) := ⟨⟨by decide +kernel, by decide +kernel⟩, List.mem_of_getElem? (i := 688) (by decide +kernel), List.mem_of_getElem? (i := 817) (by decide +kernel), List.mem_of_getElem? (i := 818) (by decide +kernel)⟩
theorem lw_p12 : lw_okq (⟨"MetricLogMonitorModel", "empty", "()V"⟩, 17) := ⟨⟨by decide +kernel, by decide +kernel⟩, List.mem_of_getElem? (i := 688) (by decide +kernel), List.mem_of_getElem? (i := 829) (by decide +kernel), List.mem_of_getElem? (i := 830) (by decide +kernel)⟩
theorem lw_p13 : lw_okq (⟨"MetricLogMonitorModel", "look", "(II)V"⟩, 17) := ⟨⟨by decide +kernel, by decide +kernel⟩, List.mem_of_getElem? (i := 688) (by decide +kernel), List.mem_of_getElem? (i := 841) (by decide +kernel), List.mem_of_getElem? (i := 842) (by decide +kernel)⟩
theorem lw_p14 : lw_okq (⟨"MetricLogMonitorModel", "satisfies", "(III)Z"⟩, 17) := ⟨⟨by decide +kernel, by decide +kernel⟩, List.mem_of_getElem? (i := 688) (by decide +kernel), List.mem_of_getElem? (i := 845) (by decide +kernel), List.mem_of_getElem? (i := 846) (by decide +kernel)⟩
theorem lw_p15 : lw_okq (⟨"MetricLogMonitorModel", "at", "(III)Z"⟩, 17) := ⟨⟨by decide +kernel, by decide +kernel⟩, List.mem_of_getElem? (i := 688) (by decide +kernel), List.mem_of_getElem? (i := 852) (by decide +kernel), List.mem_of_getElem? (i := 853) (by decide +kernel)⟩
def lw_privs_1 : List (MethodName × Nat) := [(⟨"MetricLogMonitor", "mayMake", "()Z"⟩, 3), (⟨"MetricLogMonitor", "add", "(LMetricLogMonitor$Formula;)I"⟩, 3), (⟨"java/util/ArrayList", "add", "(Ljava/lang/Object;[Ljava/lang/Object;I)V"⟩, 3), (⟨"java/util/ArrayList", "grow", "()[Ljava/lang/Object;"⟩, 3), (⟨"java/util/ArrayList", "grow", "(I)[Ljava/lang/Object;"⟩, 3), (⟨"MetricLogMonitor", "find", "(I)LMetricLogMonitor$Formula;"⟩, 3), (⟨"MetricLogMonitorModel", "mayMake", "()Z"⟩, 17), (⟨"MetricLogMonitorModel", "make", "(IIII)I"⟩, 17), (⟨"MetricLogMonitorModel", "isFormula", "(I)Z"⟩, 17), (⟨"MetricLogMonitorModel", "makeTimed", "(IIIII)I"⟩, 17), (⟨"MetricLogMonitorModel", "freeOf", "(I)I"⟩, 17), (⟨"MetricLogMonitorModel", "rangedOf", "(I)I"⟩, 17), (⟨"MetricLogMonitorModel", "empty", "()V"⟩, 17), (⟨"MetricLogMonitorModel", "look", "(II)V"⟩, 17), (⟨"MetricLogMonitorModel", "satisfies", "(III)Z"⟩, 17), (⟨"MetricLogMonitorModel", "at", "(III)Z"⟩, 17)]
theorem lw_r1 : ∀ q ∈ lw_privs_1, lw_okq q := List.forall_mem_cons.mpr ⟨lw_p0, List.forall_mem_cons.mpr ⟨lw_p1, List.forall_mem_cons.mpr ⟨lw_p2, List.forall_mem_cons.mpr ⟨lw_p3, List.forall_mem_cons.mpr ⟨lw_p4, List.forall_mem_cons.mpr ⟨lw_p5, List.forall_mem_cons.mpr ⟨lw_p6, List.forall_mem_cons.mpr ⟨lw_p7, List.forall_mem_cons.mpr ⟨lw_p8, List.forall_mem_cons.mpr ⟨lw_p9, List.forall_mem_cons.mpr ⟨lw_p10, List.forall_mem_cons.mpr ⟨lw_p11, List.forall_mem_cons.mpr ⟨lw_p12, List.forall_mem_cons.mpr ⟨lw_p13, List.forall_mem_cons.mpr ⟨lw_p14, List.forall_mem_cons.mpr ⟨lw_p15, fun _ h => absurd h List.not_mem_nil⟩⟩⟩⟩⟩⟩⟩⟩⟩⟩⟩⟩⟩⟩⟩⟩
theorem lw_p16 : lw_okq (⟨"MetricLogMonitorModel", "existsAt", "(III)Z"⟩, 17) := ⟨⟨by decide +kernel, by decide +kernel⟩, List.mem_of_getElem? (i := 688) (by decide +kernel), List.mem_of_getElem? (i := 856) (by decide +kernel), List.mem_of_getElem? (i := 857) (by decide +kernel)⟩
theorem lw_p17 : lw_okq (⟨"MetricLogMonitorModel", "lies", "(II)Z"⟩, 17) := ⟨⟨by decide +kernel, by decide +kernel⟩, List.mem_of_getElem? (i := 688) (by decide +kernel), List.mem_of_getElem? (i := 860) (by decide +kernel), List.mem_of_getElem? (i := 861) (by decide +kernel)⟩
theorem lw_p18 : lw_okq (⟨"MetricLogMonitorModel", "sinceAt", "(III)Z"⟩, 17) := ⟨⟨by decide +kernel, by decide +kernel⟩, List.mem_of_getElem? (i := 688) (by decide +kernel), List.mem_of_getElem? (i := 864) (by decide +kernel), List.mem_of_getElem? (i := 865) (by decide +kernel)⟩
theorem lw_p19 : lw_okq (⟨"MetricLogMonitorModel", "untilAt", "(III)Z"⟩, 17) := ⟨⟨by decide +kernel, by decide +kernel⟩, List.mem_of_getElem? (i := 688) (by decide +kernel), List.mem_of_getElem? (i := 868) (by decide +kernel), List.mem_of_getElem? (i := 869) (by decide +kernel)⟩
theorem lw_p20 : lw_okq (⟨"MetricLogMonitorModel", "lesser", "(II)I"⟩, 17) := ⟨⟨by decide +kernel, by decide +kernel⟩, List.mem_of_getElem? (i := 688) (by decide +kernel), List.mem_of_getElem? (i := 880) (by decide +kernel), List.mem_of_getElem? (i := 881) (by decide +kernel)⟩
theorem lw_p21 : lw_okq (⟨"MetricLogMonitorModel", "decided", "(II)I"⟩, 17) := ⟨⟨by decide +kernel, by decide +kernel⟩, List.mem_of_getElem? (i := 688) (by decide +kernel), List.mem_of_getElem? (i := 884) (by decide +kernel), List.mem_of_getElem? (i := 885) (by decide +kernel)⟩
theorem lw_p22 : lw_okq (⟨"MetricLogMonitorModel", "isKnown", "(II)Z"⟩, 17) := ⟨⟨by decide +kernel, by decide +kernel⟩, List.mem_of_getElem? (i := 688) (by decide +kernel), List.mem_of_getElem? (i := 892) (by decide +kernel), List.mem_of_getElem? (i := 893) (by decide +kernel)⟩
def lw_privs_2 : List (MethodName × Nat) := [(⟨"MetricLogMonitorModel", "existsAt", "(III)Z"⟩, 17), (⟨"MetricLogMonitorModel", "lies", "(II)Z"⟩, 17), (⟨"MetricLogMonitorModel", "sinceAt", "(III)Z"⟩, 17), (⟨"MetricLogMonitorModel", "untilAt", "(III)Z"⟩, 17), (⟨"MetricLogMonitorModel", "lesser", "(II)I"⟩, 17), (⟨"MetricLogMonitorModel", "decided", "(II)I"⟩, 17), (⟨"MetricLogMonitorModel", "isKnown", "(II)Z"⟩, 17)]
theorem lw_r2 : ∀ q ∈ lw_privs_2, lw_okq q := List.forall_mem_cons.mpr ⟨lw_p16, List.forall_mem_cons.mpr ⟨lw_p17, List.forall_mem_cons.mpr ⟨lw_p18, List.forall_mem_cons.mpr ⟨lw_p19, List.forall_mem_cons.mpr ⟨lw_p20, List.forall_mem_cons.mpr ⟨lw_p21, List.forall_mem_cons.mpr ⟨lw_p22, fun _ h => absurd h List.not_mem_nil⟩⟩⟩⟩⟩⟩⟩
def lw_privs : List (MethodName × Nat) := lw_privs_1 ++ (lw_privs_2)
def lw_tbl : List Cond := k2_sels lw_privs ++ tables_1
theorem lw_privs_ok : ∀ q ∈ lw_privs, lw_okq q := by
  show ∀ q ∈ lw_privs_1 ++ (lw_privs_2), lw_okq q
  exact List.forall_mem_append.mpr ⟨lw_r1, lw_r2⟩

/-! names; the words that hold of the tables: WALL (kept by calls), NALL (nest mates, casts, abstract methods) -/
def WALL : List Cond := lw_tbl.filter goodWord
theorem wall_ok (w : Cond) (h : w ∈ WALL) : (w.onTables && w.keeps) = true ∨ ∃ ty, w = .arrayClass ty := good_of_word (List.mem_filter.mp h).2
def nwOk : Cond → Bool
  | .methodLinkNest .. => true
  | .fieldLinkNest .. => true
  | .declares .. => true
  | .castable .. => true
  | _ => false
def NALL : List Cond := lw_tbl.filter nwOk
theorem nall_ok (w : Cond) (h : w ∈ NALL) : nwOk w = true := (List.mem_filter.mp h).2
theorem in_T1 {w : Cond} (h : w ∈ tables_1_1) : w ∈ lw_tbl := List.mem_append_right _ (List.mem_append_left _ h)
theorem in_T2 {w : Cond} (h : w ∈ tables_1_2) : w ∈ lw_tbl := List.mem_append_right _ (List.mem_append_right _ (List.mem_append_left _ h))
theorem in_T3 {w : Cond} (h : w ∈ tables_1_3) : w ∈ lw_tbl := List.mem_append_right _ (List.mem_append_right _ (List.mem_append_right _ (List.mem_append_left _ h)))
theorem in_T4 {w : Cond} (h : w ∈ tables_1_4) : w ∈ lw_tbl := List.mem_append_right _ (List.mem_append_right _ (List.mem_append_right _ (List.mem_append_right _ h)))
theorem q_0 : Cond.initialized "MetricLogMonitorLaw" ∈ WALL := List.mem_filter.mpr ⟨in_T1 (List.mem_of_getElem? (i := 0) rfl), rfl⟩
theorem q_1 : Cond.initialized "MetricLogMonitor" ∈ WALL := List.mem_filter.mpr ⟨in_T1 (List.mem_of_getElem? (i := 1) rfl), rfl⟩
theorem q_2 : Cond.initialized "java/util/AbstractCollection" ∈ WALL := List.mem_filter.mpr ⟨in_T1 (List.mem_of_getElem? (i := 2) rfl), rfl⟩
theorem q_3 : Cond.initialized "java/util/AbstractList" ∈ WALL := List.mem_filter.mpr ⟨in_T1 (List.mem_of_getElem? (i := 3) rfl), rfl⟩
theorem q_4 : Cond.initialized "java/util/ArrayList" ∈ WALL := List.mem_filter.mpr ⟨in_T1 (List.mem_of_getElem? (i := 4) rfl), rfl⟩
theorem q_5 : Cond.initialized "MetricLogMonitor$Log" ∈ WALL := List.mem_filter.mpr ⟨in_T1 (List.mem_of_getElem? (i := 5) rfl), rfl⟩
theorem q_6 : Cond.initialized "MetricLogMonitorModel" ∈ WALL := List.mem_filter.mpr ⟨in_T1 (List.mem_of_getElem? (i := 6) rfl), rfl⟩
theorem q_7 : Cond.initialized "MetricLogMonitor$Formula" ∈ WALL := List.mem_filter.mpr ⟨in_T1 (List.mem_of_getElem? (i := 7) rfl), rfl⟩
theorem q_8 : Cond.initialized "MetricLogMonitor$Atom" ∈ WALL := List.mem_filter.mpr ⟨in_T1 (List.mem_of_getElem? (i := 8) rfl), rfl⟩
theorem q_9 : Cond.initialized "jdk/internal/util/ArraysSupport" ∈ WALL := List.mem_filter.mpr ⟨in_T1 (List.mem_of_getElem? (i := 9) rfl), rfl⟩
theorem q_10 : Cond.initialized "java/lang/Math" ∈ WALL := List.mem_filter.mpr ⟨in_T1 (List.mem_of_getElem? (i := 10) rfl), rfl⟩
theorem q_11 : Cond.initialized "java/util/Arrays" ∈ WALL := List.mem_filter.mpr ⟨in_T1 (List.mem_of_getElem? (i := 11) rfl), rfl⟩
theorem q_12 : Cond.initialized "java/lang/System" ∈ WALL := List.mem_filter.mpr ⟨in_T1 (List.mem_of_getElem? (i := 12) rfl), rfl⟩
theorem q_13 : Cond.initialized "MetricLogMonitor$Comparison" ∈ WALL := List.mem_filter.mpr ⟨in_T1 (List.mem_of_getElem? (i := 13) rfl), rfl⟩
theorem q_14 : Cond.initialized "java/util/Objects" ∈ WALL := List.mem_filter.mpr ⟨in_T1 (List.mem_of_getElem? (i := 14) rfl), rfl⟩
theorem q_15 : Cond.initialized "jdk/internal/util/Preconditions" ∈ WALL := List.mem_filter.mpr ⟨in_T1 (List.mem_of_getElem? (i := 15) rfl), rfl⟩
theorem q_16 : Cond.initialized "MetricLogMonitor$Not" ∈ WALL := List.mem_filter.mpr ⟨in_T1 (List.mem_of_getElem? (i := 16) rfl), rfl⟩
theorem q_17 : Cond.initialized "MetricLogMonitor$Join" ∈ WALL := List.mem_filter.mpr ⟨in_T1 (List.mem_of_getElem? (i := 17) rfl), rfl⟩
theorem q_18 : Cond.initialized "MetricLogMonitor$Exists" ∈ WALL := List.mem_filter.mpr ⟨in_T1 (List.mem_of_getElem? (i := 18) rfl), rfl⟩
theorem q_19 : Cond.initialized "MetricLogMonitor$Previous" ∈ WALL := List.mem_filter.mpr ⟨in_T1 (List.mem_of_getElem? (i := 19) rfl), rfl⟩
theorem q_20 : Cond.initialized "MetricLogMonitor$Since" ∈ WALL := List.mem_filter.mpr ⟨in_T1 (List.mem_of_getElem? (i := 20) rfl), rfl⟩
theorem q_21 : Cond.initialized "MetricLogMonitor$Until" ∈ WALL := List.mem_filter.mpr ⟨in_T1 (List.mem_of_getElem? (i := 21) rfl), rfl⟩
theorem q_22 : Cond.initialized "java/lang/Long" ∈ WALL := List.mem_filter.mpr ⟨in_T1 (List.mem_of_getElem? (i := 22) rfl), rfl⟩
theorem q_23 : Cond.classLink "MetricLogMonitorLaw" 7 "MetricLogMonitor" ∈ WALL := List.mem_filter.mpr ⟨in_T1 (List.mem_of_getElem? (i := 23) rfl), rfl⟩
theorem q_24 : Cond.instantiable "MetricLogMonitor" 3 ∈ WALL := List.mem_filter.mpr ⟨in_T1 (List.mem_of_getElem? (i := 24) rfl), rfl⟩
theorem q_25 : Cond.methodLink "MetricLogMonitorLaw" 9 ⟨"MetricLogMonitor", "<init>", "()V"⟩ ∈ WALL := List.mem_filter.mpr ⟨in_T1 (List.mem_of_getElem? (i := 25) rfl), rfl⟩
theorem q_26 : Cond.instanceMethod ⟨"MetricLogMonitor", "<init>", "()V"⟩ ∈ WALL := List.mem_filter.mpr ⟨in_T1 (List.mem_of_getElem? (i := 26) rfl), rfl⟩
theorem q_27 : Cond.code ⟨"MetricLogMonitor", "<init>", "()V"⟩ prog_1_method_1_code 1 (Option.none : Option Jvm.ClassFile.FieldType) ∈ WALL := List.mem_filter.mpr ⟨in_T1 (List.mem_of_getElem? (i := 27) rfl), rfl⟩
theorem q_28 : Cond.methodLink "MetricLogMonitor" 1 ⟨"java/lang/Object", "<init>", "()V"⟩ ∈ WALL := List.mem_filter.mpr ⟨in_T1 (List.mem_of_getElem? (i := 28) rfl), rfl⟩
theorem q_29 : Cond.instanceMethod ⟨"java/lang/Object", "<init>", "()V"⟩ ∈ WALL := List.mem_filter.mpr ⟨in_T1 (List.mem_of_getElem? (i := 29) rfl), rfl⟩
theorem q_30 : Cond.code ⟨"java/lang/Object", "<init>", "()V"⟩ object_method_1_code 1 (Option.none : Option Jvm.ClassFile.FieldType) ∈ WALL := List.mem_filter.mpr ⟨in_T1 (List.mem_of_getElem? (i := 30) rfl), rfl⟩
theorem q_31 : Cond.classLink "MetricLogMonitor" 7 "java/util/ArrayList" ∈ WALL := List.mem_filter.mpr ⟨in_T1 (List.mem_of_getElem? (i := 31) rfl), rfl⟩
theorem q_32 : Cond.instantiable "java/util/ArrayList" 3 ∈ WALL := List.mem_filter.mpr ⟨in_T1 (List.mem_of_getElem? (i := 32) rfl), rfl⟩
theorem q_33 : Cond.methodLink "MetricLogMonitor" 9 ⟨"java/util/ArrayList", "<init>", "()V"⟩ ∈ WALL := List.mem_filter.mpr ⟨in_T1 (List.mem_of_getElem? (i := 33) rfl), rfl⟩
theorem q_34 : Cond.instanceMethod ⟨"java/util/ArrayList", "<init>", "()V"⟩ ∈ WALL := List.mem_filter.mpr ⟨in_T1 (List.mem_of_getElem? (i := 34) rfl), rfl⟩
theorem q_35 : Cond.code ⟨"java/util/ArrayList", "<init>", "()V"⟩ prog_22_method_2_code 1 (Option.none : Option Jvm.ClassFile.FieldType) ∈ WALL := List.mem_filter.mpr ⟨in_T1 (List.mem_of_getElem? (i := 35) rfl), rfl⟩
theorem q_36 : Cond.methodLink "java/util/ArrayList" 1 ⟨"java/util/AbstractList", "<init>", "()V"⟩ ∈ WALL := List.mem_filter.mpr ⟨in_T1 (List.mem_of_getElem? (i := 36) rfl), rfl⟩
theorem q_37 : Cond.instanceMethod ⟨"java/util/AbstractList", "<init>", "()V"⟩ ∈ WALL := List.mem_filter.mpr ⟨in_T1 (List.mem_of_getElem? (i := 37) rfl), rfl⟩
theorem q_38 : Cond.code ⟨"java/util/AbstractList", "<init>", "()V"⟩ prog_21_method_1_code 1 (Option.none : Option Jvm.ClassFile.FieldType) ∈ WALL := List.mem_filter.mpr ⟨in_T1 (List.mem_of_getElem? (i := 38) rfl), rfl⟩
theorem q_39 : Cond.methodLink "java/util/AbstractList" 1 ⟨"java/util/AbstractCollection", "<init>", "()V"⟩ ∈ WALL := List.mem_filter.mpr ⟨in_T1 (List.mem_of_getElem? (i := 39) rfl), rfl⟩
theorem q_40 : Cond.instanceMethod ⟨"java/util/AbstractCollection", "<init>", "()V"⟩ ∈ WALL := List.mem_filter.mpr ⟨in_T1 (List.mem_of_getElem? (i := 40) rfl), rfl⟩
theorem q_41 : Cond.code ⟨"java/util/AbstractCollection", "<init>", "()V"⟩ prog_20_method_1_code 1 (Option.none : Option Jvm.ClassFile.FieldType) ∈ WALL := List.mem_filter.mpr ⟨in_T1 (List.mem_of_getElem? (i := 41) rfl), rfl⟩
theorem q_42 : Cond.methodLink "java/util/AbstractCollection" 1 ⟨"java/lang/Object", "<init>", "()V"⟩ ∈ WALL := List.mem_filter.mpr ⟨in_T1 (List.mem_of_getElem? (i := 42) rfl), rfl⟩
theorem q_43 : Cond.fieldLink "java/util/ArrayList" 39 "java/util/ArrayList" "DEFAULTCAPACITY_EMPTY_ELEMENTDATA" "[Ljava/lang/Object;" ∈ WALL := List.mem_filter.mpr ⟨in_T1 (List.mem_of_getElem? (i := 43) rfl), rfl⟩
theorem q_45 : Cond.fieldLink "java/util/ArrayList" 9 "java/util/ArrayList" "elementData" "[Ljava/lang/Object;" ∈ WALL := List.mem_filter.mpr ⟨in_T1 (List.mem_of_getElem? (i := 45) rfl), rfl⟩
theorem q_46 : Cond.fieldLink "java/util/ArrayList" 48 "java/util/ArrayList" "size" "I" ∈ WALL := List.mem_filter.mpr ⟨in_T1 (List.mem_of_getElem? (i := 46) rfl), rfl⟩
theorem q_47 : Cond.fieldLink "java/util/AbstractList" 7 "java/util/AbstractList" "modCount" "I" ∈ WALL := List.mem_filter.mpr ⟨in_T1 (List.mem_of_getElem? (i := 47) rfl), rfl⟩
theorem q_48 : Cond.fieldLink "java/util/ArrayList" 63 "java/util/ArrayList" "modCount" "I" ∈ WALL := List.mem_filter.mpr ⟨in_T1 (List.mem_of_getElem? (i := 48) rfl), rfl⟩
theorem q_49 : Cond.sameField "java/util/ArrayList" "java/util/AbstractList" "modCount" "I" ∈ WALL := List.mem_filter.mpr ⟨in_T1 (List.mem_of_getElem? (i := 49) rfl), rfl⟩
theorem q_50 : Cond.lays "java/util/ArrayList" "java/util/ArrayList" "elementData" "[Ljava/lang/Object;" ∈ WALL := List.mem_filter.mpr ⟨in_T1 (List.mem_of_getElem? (i := 50) rfl), rfl⟩
theorem q_52 : Cond.lays "java/util/ArrayList" "java/util/ArrayList" "size" "I" ∈ WALL := List.mem_filter.mpr ⟨in_T1 (List.mem_of_getElem? (i := 52) rfl), rfl⟩
theorem q_54 : Cond.lays "java/util/ArrayList" "java/util/AbstractList" "modCount" "I" ∈ WALL := List.mem_filter.mpr ⟨in_T1 (List.mem_of_getElem? (i := 54) rfl), rfl⟩
theorem q_57 : Cond.classLink "MetricLogMonitor" 16 "MetricLogMonitor$Log" ∈ WALL := List.mem_filter.mpr ⟨in_T1 (List.mem_of_getElem? (i := 57) rfl), rfl⟩
theorem q_58 : Cond.instantiable "MetricLogMonitor$Log" 4 ∈ WALL := List.mem_filter.mpr ⟨in_T1 (List.mem_of_getElem? (i := 58) rfl), rfl⟩
theorem qn_59 : Cond.methodLinkNest "MetricLogMonitor" 18 ⟨"MetricLogMonitor$Log", "<init>", "()V"⟩ "MetricLogMonitor" ∈ NALL := List.mem_filter.mpr ⟨in_T1 (List.mem_of_getElem? (i := 59) rfl), rfl⟩
theorem q_60 : Cond.instanceMethod ⟨"MetricLogMonitor$Log", "<init>", "()V"⟩ ∈ WALL := List.mem_filter.mpr ⟨in_T1 (List.mem_of_getElem? (i := 60) rfl), rfl⟩
theorem q_61 : Cond.code ⟨"MetricLogMonitor$Log", "<init>", "()V"⟩ prog_7_method_1_code 1 (Option.none : Option Jvm.ClassFile.FieldType) ∈ WALL := List.mem_filter.mpr ⟨in_T1 (List.mem_of_getElem? (i := 61) rfl), rfl⟩
theorem q_62 : Cond.methodLink "MetricLogMonitor$Log" 3 ⟨"java/lang/Object", "<init>", "()V"⟩ ∈ WALL := List.mem_filter.mpr ⟨in_T1 (List.mem_of_getElem? (i := 62) rfl), rfl⟩
theorem q_63 : Cond.fieldLink "MetricLogMonitor$Log" 9 "MetricLogMonitor$Log" "times" "[I" ∈ WALL := List.mem_filter.mpr ⟨in_T1 (List.mem_of_getElem? (i := 63) rfl), rfl⟩
theorem q_64 : Cond.fieldLink "MetricLogMonitor$Log" 15 "MetricLogMonitor$Log" "pairs" "[J" ∈ WALL := List.mem_filter.mpr ⟨in_T1 (List.mem_of_getElem? (i := 64) rfl), rfl⟩
theorem q_65 : Cond.fieldLink "MetricLogMonitor$Atom" 30 "MetricLogMonitor$Log" "pairs" "[J" ∈ WALL := List.mem_filter.mpr ⟨in_T1 (List.mem_of_getElem? (i := 65) rfl), rfl⟩
theorem q_66 : Cond.fieldLink "MetricLogMonitor$Log" 19 "MetricLogMonitor$Log" "gathered" "J" ∈ WALL := List.mem_filter.mpr ⟨in_T1 (List.mem_of_getElem? (i := 66) rfl), rfl⟩
theorem q_67 : Cond.fieldLink "MetricLogMonitor$Atom" 25 "MetricLogMonitor$Log" "size" "I" ∈ WALL := List.mem_filter.mpr ⟨in_T1 (List.mem_of_getElem? (i := 67) rfl), rfl⟩
theorem q_68 : Cond.fieldLink "MetricLogMonitor$Previous" 30 "MetricLogMonitor$Log" "size" "I" ∈ WALL := List.mem_filter.mpr ⟨in_T1 (List.mem_of_getElem? (i := 68) rfl), rfl⟩
theorem q_69 : Cond.fieldLink "MetricLogMonitor$Until" 44 "MetricLogMonitor$Log" "size" "I" ∈ WALL := List.mem_filter.mpr ⟨in_T1 (List.mem_of_getElem? (i := 69) rfl), rfl⟩
theorem q_70 : Cond.fieldLink "MetricLogMonitor$Comparison" 34 "MetricLogMonitor$Log" "size" "I" ∈ WALL := List.mem_filter.mpr ⟨in_T1 (List.mem_of_getElem? (i := 70) rfl), rfl⟩
theorem q_71 : Cond.fieldLink "MetricLogMonitor$Log" 27 "MetricLogMonitor$Log" "size" "I" ∈ WALL := List.mem_filter.mpr ⟨in_T1 (List.mem_of_getElem? (i := 71) rfl), rfl⟩
theorem q_72 : Cond.fieldLink "MetricLogMonitor" 139 "MetricLogMonitor$Log" "size" "I" ∈ WALL := List.mem_filter.mpr ⟨in_T1 (List.mem_of_getElem? (i := 72) rfl), rfl⟩
theorem q_73 : Cond.laysFinal "MetricLogMonitor$Log" "MetricLogMonitor$Log" "times" "[I" ∈ WALL := List.mem_filter.mpr ⟨in_T1 (List.mem_of_getElem? (i := 73) rfl), rfl⟩
theorem q_75 : Cond.laysFinal "MetricLogMonitor$Log" "MetricLogMonitor$Log" "pairs" "[J" ∈ WALL := List.mem_filter.mpr ⟨in_T1 (List.mem_of_getElem? (i := 75) rfl), rfl⟩
theorem q_77 : Cond.lays "MetricLogMonitor$Log" "MetricLogMonitor$Log" "gathered" "J" ∈ WALL := List.mem_filter.mpr ⟨in_T1 (List.mem_of_getElem? (i := 77) rfl), rfl⟩
theorem q_79 : Cond.lays "MetricLogMonitor$Log" "MetricLogMonitor$Log" "size" "I" ∈ WALL := List.mem_filter.mpr ⟨in_T1 (List.mem_of_getElem? (i := 79) rfl), rfl⟩
theorem q_82 : Cond.arrayClass Jvm.ClassFile.FieldType.int ∈ WALL := List.mem_filter.mpr ⟨in_T1 (List.mem_of_getElem? (i := 82) rfl), rfl⟩
theorem q_83 : Cond.arrayClass Jvm.ClassFile.FieldType.long ∈ WALL := List.mem_filter.mpr ⟨in_T1 (List.mem_of_getElem? (i := 83) rfl), rfl⟩
theorem q_84 : Cond.fieldLink "MetricLogMonitor" 10 "MetricLogMonitor" "formulas" "Ljava/util/ArrayList;" ∈ WALL := List.mem_filter.mpr ⟨in_T1 (List.mem_of_getElem? (i := 84) rfl), rfl⟩
theorem q_85 : Cond.fieldLink "MetricLogMonitor" 19 "MetricLogMonitor" "log" "LMetricLogMonitor$Log;" ∈ WALL := List.mem_filter.mpr ⟨in_T1 (List.mem_of_getElem? (i := 85) rfl), rfl⟩
theorem q_86 : Cond.fieldLink "MetricLogMonitor" 23 "MetricLogMonitor" "watching" "Z" ∈ WALL := List.mem_filter.mpr ⟨in_T1 (List.mem_of_getElem? (i := 86) rfl), rfl⟩
theorem q_87 : Cond.laysFinal "MetricLogMonitor" "MetricLogMonitor" "formulas" "Ljava/util/ArrayList;" ∈ WALL := List.mem_filter.mpr ⟨in_T1 (List.mem_of_getElem? (i := 87) rfl), rfl⟩
theorem q_89 : Cond.laysFinal "MetricLogMonitor" "MetricLogMonitor" "log" "LMetricLogMonitor$Log;" ∈ WALL := List.mem_filter.mpr ⟨in_T1 (List.mem_of_getElem? (i := 89) rfl), rfl⟩
theorem q_91 : Cond.lays "MetricLogMonitor" "MetricLogMonitor" "watching" "Z" ∈ WALL := List.mem_filter.mpr ⟨in_T1 (List.mem_of_getElem? (i := 91) rfl), rfl⟩
theorem q_94 : Cond.methodLink "MetricLogMonitorLaw" 13 ⟨"MetricLogMonitor", "atom", "(III)I"⟩ ∈ WALL := List.mem_filter.mpr ⟨in_T1 (List.mem_of_getElem? (i := 94) rfl), rfl⟩
theorem q_95 : Cond.instanceMethod ⟨"MetricLogMonitor", "atom", "(III)I"⟩ ∈ WALL := List.mem_filter.mpr ⟨in_T1 (List.mem_of_getElem? (i := 95) rfl), rfl⟩
theorem q_96 : Cond.selects "MetricLogMonitor" ⟨"MetricLogMonitor", "atom", "(III)I"⟩ ⟨"MetricLogMonitor", "atom", "(III)I"⟩ ∈ WALL := List.mem_filter.mpr ⟨in_T1 (List.mem_of_getElem? (i := 96) rfl), rfl⟩
theorem q_97 : Cond.code ⟨"MetricLogMonitor", "atom", "(III)I"⟩ prog_1_method_2_code 4 (Option.some Jvm.ClassFile.FieldType.int) ∈ WALL := List.mem_filter.mpr ⟨in_T1 (List.mem_of_getElem? (i := 97) rfl), rfl⟩
theorem q_98 : Cond.methodLink "MetricLogMonitor" 27 ⟨"MetricLogMonitor", "mayMake", "()Z"⟩ ∈ WALL := List.mem_filter.mpr ⟨in_T1 (List.mem_of_getElem? (i := 98) rfl), rfl⟩
theorem q_100 : Cond.instanceMethod ⟨"MetricLogMonitor", "mayMake", "()Z"⟩ ∈ WALL := List.mem_filter.mpr ⟨in_T1 (List.mem_of_getElem? (i := 100) rfl), rfl⟩
theorem q_101 : Cond.code ⟨"MetricLogMonitor", "mayMake", "()Z"⟩ prog_1_method_20_code 1 (Option.some Jvm.ClassFile.FieldType.boolean) ∈ WALL := List.mem_filter.mpr ⟨in_T1 (List.mem_of_getElem? (i := 101) rfl), rfl⟩
theorem q_102 : Cond.methodLink "MetricLogMonitor" 127 ⟨"java/util/ArrayList", "size", "()I"⟩ ∈ WALL := List.mem_filter.mpr ⟨in_T1 (List.mem_of_getElem? (i := 102) rfl), rfl⟩
theorem q_103 : Cond.instanceMethod ⟨"java/util/ArrayList", "size", "()I"⟩ ∈ WALL := List.mem_filter.mpr ⟨in_T1 (List.mem_of_getElem? (i := 103) rfl), rfl⟩
theorem q_104 : Cond.selects "java/util/ArrayList" ⟨"java/util/ArrayList", "size", "()I"⟩ ⟨"java/util/ArrayList", "size", "()I"⟩ ∈ WALL := List.mem_filter.mpr ⟨in_T1 (List.mem_of_getElem? (i := 104) rfl), rfl⟩
theorem q_105 : Cond.code ⟨"java/util/ArrayList", "size", "()I"⟩ prog_22_method_8_code 1 (Option.some Jvm.ClassFile.FieldType.int) ∈ WALL := List.mem_filter.mpr ⟨in_T1 (List.mem_of_getElem? (i := 105) rfl), rfl⟩
theorem q_106 : Cond.methodLink "MetricLogMonitor" 31 ⟨"MetricLogMonitor", "isRelation", "(I)Z"⟩ ∈ WALL := List.mem_filter.mpr ⟨in_T1 (List.mem_of_getElem? (i := 106) rfl), rfl⟩
theorem q_107 : Cond.static ⟨"MetricLogMonitor", "isRelation", "(I)Z"⟩ ∈ WALL := List.mem_filter.mpr ⟨in_T1 (List.mem_of_getElem? (i := 107) rfl), rfl⟩
theorem q_108 : Cond.code ⟨"MetricLogMonitor", "isRelation", "(I)Z"⟩ prog_1_method_23_code 1 (Option.some Jvm.ClassFile.FieldType.boolean) ∈ WALL := List.mem_filter.mpr ⟨in_T1 (List.mem_of_getElem? (i := 108) rfl), rfl⟩
theorem q_109 : Cond.methodLink "MetricLogMonitor" 35 ⟨"MetricLogMonitor", "isTerm", "(I)Z"⟩ ∈ WALL := List.mem_filter.mpr ⟨in_T1 (List.mem_of_getElem? (i := 109) rfl), rfl⟩
theorem q_110 : Cond.static ⟨"MetricLogMonitor", "isTerm", "(I)Z"⟩ ∈ WALL := List.mem_filter.mpr ⟨in_T1 (List.mem_of_getElem? (i := 110) rfl), rfl⟩
theorem q_111 : Cond.code ⟨"MetricLogMonitor", "isTerm", "(I)Z"⟩ prog_1_method_26_code 1 (Option.some Jvm.ClassFile.FieldType.boolean) ∈ WALL := List.mem_filter.mpr ⟨in_T1 (List.mem_of_getElem? (i := 111) rfl), rfl⟩
theorem q_112 : Cond.methodLink "MetricLogMonitor" 66 ⟨"MetricLogMonitor", "isVariable", "(I)Z"⟩ ∈ WALL := List.mem_filter.mpr ⟨in_T1 (List.mem_of_getElem? (i := 112) rfl), rfl⟩
theorem q_113 : Cond.static ⟨"MetricLogMonitor", "isVariable", "(I)Z"⟩ ∈ WALL := List.mem_filter.mpr ⟨in_T1 (List.mem_of_getElem? (i := 113) rfl), rfl⟩
theorem q_114 : Cond.code ⟨"MetricLogMonitor", "isVariable", "(I)Z"⟩ prog_1_method_24_code 1 (Option.some Jvm.ClassFile.FieldType.boolean) ∈ WALL := List.mem_filter.mpr ⟨in_T1 (List.mem_of_getElem? (i := 114) rfl), rfl⟩
theorem q_115 : Cond.methodLink "MetricLogMonitor" 175 ⟨"MetricLogMonitor", "isValueTerm", "(I)Z"⟩ ∈ WALL := List.mem_filter.mpr ⟨in_T1 (List.mem_of_getElem? (i := 115) rfl), rfl⟩
theorem q_116 : Cond.static ⟨"MetricLogMonitor", "isValueTerm", "(I)Z"⟩ ∈ WALL := List.mem_filter.mpr ⟨in_T1 (List.mem_of_getElem? (i := 116) rfl), rfl⟩
theorem q_117 : Cond.code ⟨"MetricLogMonitor", "isValueTerm", "(I)Z"⟩ prog_1_method_27_code 1 (Option.some Jvm.ClassFile.FieldType.boolean) ∈ WALL := List.mem_filter.mpr ⟨in_T1 (List.mem_of_getElem? (i := 117) rfl), rfl⟩
theorem q_118 : Cond.classLink "MetricLogMonitor" 38 "MetricLogMonitor$Atom" ∈ WALL := List.mem_filter.mpr ⟨in_T1 (List.mem_of_getElem? (i := 118) rfl), rfl⟩
theorem q_119 : Cond.instantiable "MetricLogMonitor$Atom" 8 ∈ WALL := List.mem_filter.mpr ⟨in_T1 (List.mem_of_getElem? (i := 119) rfl), rfl⟩
theorem q_120 : Cond.methodLink "MetricLogMonitor" 40 ⟨"MetricLogMonitor$Atom", "<init>", "(III)V"⟩ ∈ WALL := List.mem_filter.mpr ⟨in_T1 (List.mem_of_getElem? (i := 120) rfl), rfl⟩
theorem q_121 : Cond.instanceMethod ⟨"MetricLogMonitor$Atom", "<init>", "(III)V"⟩ ∈ WALL := List.mem_filter.mpr ⟨in_T1 (List.mem_of_getElem? (i := 121) rfl), rfl⟩
theorem q_122 : Cond.code ⟨"MetricLogMonitor$Atom", "<init>", "(III)V"⟩ prog_2_method_1_code 4 (Option.none : Option Jvm.ClassFile.FieldType) ∈ WALL := List.mem_filter.mpr ⟨in_T1 (List.mem_of_getElem? (i := 122) rfl), rfl⟩
theorem qn_123 : Cond.methodLinkNest "MetricLogMonitor$Atom" 3 ⟨"MetricLogMonitor", "variablesAmong", "(II)I"⟩ "MetricLogMonitor" ∈ NALL := List.mem_filter.mpr ⟨in_T1 (List.mem_of_getElem? (i := 123) rfl), rfl⟩
theorem q_124 : Cond.static ⟨"MetricLogMonitor", "variablesAmong", "(II)I"⟩ ∈ WALL := List.mem_filter.mpr ⟨in_T1 (List.mem_of_getElem? (i := 124) rfl), rfl⟩
theorem q_125 : Cond.code ⟨"MetricLogMonitor", "variablesAmong", "(II)I"⟩ prog_1_method_34_code 3 (Option.some Jvm.ClassFile.FieldType.int) ∈ WALL := List.mem_filter.mpr ⟨in_T1 (List.mem_of_getElem? (i := 125) rfl), rfl⟩
theorem q_126 : Cond.methodLink "MetricLogMonitor" 158 ⟨"MetricLogMonitor", "variableBit", "(I)I"⟩ ∈ WALL := List.mem_filter.mpr ⟨in_T1 (List.mem_of_getElem? (i := 126) rfl), rfl⟩
theorem q_127 : Cond.static ⟨"MetricLogMonitor", "variableBit", "(I)I"⟩ ∈ WALL := List.mem_filter.mpr ⟨in_T1 (List.mem_of_getElem? (i := 127) rfl), rfl⟩
theorem q_128 : Cond.code ⟨"MetricLogMonitor", "variableBit", "(I)I"⟩ prog_1_method_33_code 1 (Option.some Jvm.ClassFile.FieldType.int) ∈ WALL := List.mem_filter.mpr ⟨in_T1 (List.mem_of_getElem? (i := 128) rfl), rfl⟩
theorem q_129 : Cond.methodLink "MetricLogMonitor$Atom" 7 ⟨"MetricLogMonitor$Formula", "<init>", "(IIZ)V"⟩ ∈ WALL := List.mem_filter.mpr ⟨in_T1 (List.mem_of_getElem? (i := 129) rfl), rfl⟩
theorem q_130 : Cond.instanceMethod ⟨"MetricLogMonitor$Formula", "<init>", "(IIZ)V"⟩ ∈ WALL := List.mem_filter.mpr ⟨in_T1 (List.mem_of_getElem? (i := 130) rfl), rfl⟩
theorem q_131 : Cond.code ⟨"MetricLogMonitor$Formula", "<init>", "(IIZ)V"⟩ prog_5_method_1_code 4 (Option.none : Option Jvm.ClassFile.FieldType) ∈ WALL := List.mem_filter.mpr ⟨in_T1 (List.mem_of_getElem? (i := 131) rfl), rfl⟩
theorem q_132 : Cond.methodLink "MetricLogMonitor$Formula" 3 ⟨"java/lang/Object", "<init>", "()V"⟩ ∈ WALL := List.mem_filter.mpr ⟨in_T1 (List.mem_of_getElem? (i := 132) rfl), rfl⟩
theorem q_133 : Cond.fieldLink "MetricLogMonitor$Atom" 13 "MetricLogMonitor$Atom" "relation" "I" ∈ WALL := List.mem_filter.mpr ⟨in_T1 (List.mem_of_getElem? (i := 133) rfl), rfl⟩
theorem q_134 : Cond.fieldLink "MetricLogMonitor$Atom" 19 "MetricLogMonitor$Atom" "a" "I" ∈ WALL := List.mem_filter.mpr ⟨in_T1 (List.mem_of_getElem? (i := 134) rfl), rfl⟩
theorem q_135 : Cond.fieldLink "MetricLogMonitor$Atom" 22 "MetricLogMonitor$Atom" "b" "I" ∈ WALL := List.mem_filter.mpr ⟨in_T1 (List.mem_of_getElem? (i := 135) rfl), rfl⟩
theorem q_136 : Cond.fieldLink "MetricLogMonitor$Not" 1 "MetricLogMonitor$Formula" "freeVariables" "I" ∈ WALL := List.mem_filter.mpr ⟨in_T1 (List.mem_of_getElem? (i := 136) rfl), rfl⟩
theorem q_137 : Cond.fieldLink "MetricLogMonitor$Join" 1 "MetricLogMonitor$Formula" "freeVariables" "I" ∈ WALL := List.mem_filter.mpr ⟨in_T1 (List.mem_of_getElem? (i := 137) rfl), rfl⟩
theorem q_138 : Cond.fieldLink "MetricLogMonitor$Exists" 1 "MetricLogMonitor$Formula" "freeVariables" "I" ∈ WALL := List.mem_filter.mpr ⟨in_T1 (List.mem_of_getElem? (i := 138) rfl), rfl⟩
theorem q_139 : Cond.fieldLink "MetricLogMonitor$Previous" 1 "MetricLogMonitor$Formula" "freeVariables" "I" ∈ WALL := List.mem_filter.mpr ⟨in_T1 (List.mem_of_getElem? (i := 139) rfl), rfl⟩
theorem q_140 : Cond.fieldLink "MetricLogMonitor$Since" 3 "MetricLogMonitor$Formula" "freeVariables" "I" ∈ WALL := List.mem_filter.mpr ⟨in_T1 (List.mem_of_getElem? (i := 140) rfl), rfl⟩
theorem q_141 : Cond.fieldLink "MetricLogMonitor$Until" 3 "MetricLogMonitor$Formula" "freeVariables" "I" ∈ WALL := List.mem_filter.mpr ⟨in_T1 (List.mem_of_getElem? (i := 141) rfl), rfl⟩
theorem q_142 : Cond.fieldLink "MetricLogMonitor$Formula" 15 "MetricLogMonitor$Formula" "freeVariables" "I" ∈ WALL := List.mem_filter.mpr ⟨in_T1 (List.mem_of_getElem? (i := 142) rfl), rfl⟩
theorem q_143 : Cond.fieldLink "MetricLogMonitor" 94 "MetricLogMonitor$Formula" "freeVariables" "I" ∈ WALL := List.mem_filter.mpr ⟨in_T1 (List.mem_of_getElem? (i := 143) rfl), rfl⟩
theorem q_144 : Cond.fieldLink "MetricLogMonitor$Previous" 7 "MetricLogMonitor$Formula" "rangedVariables" "I" ∈ WALL := List.mem_filter.mpr ⟨in_T1 (List.mem_of_getElem? (i := 144) rfl), rfl⟩
theorem q_145 : Cond.fieldLink "MetricLogMonitor$Exists" 13 "MetricLogMonitor$Formula" "rangedVariables" "I" ∈ WALL := List.mem_filter.mpr ⟨in_T1 (List.mem_of_getElem? (i := 145) rfl), rfl⟩
theorem q_146 : Cond.fieldLink "MetricLogMonitor$Since" 9 "MetricLogMonitor$Formula" "rangedVariables" "I" ∈ WALL := List.mem_filter.mpr ⟨in_T1 (List.mem_of_getElem? (i := 146) rfl), rfl⟩
theorem q_147 : Cond.fieldLink "MetricLogMonitor$Until" 9 "MetricLogMonitor$Formula" "rangedVariables" "I" ∈ WALL := List.mem_filter.mpr ⟨in_T1 (List.mem_of_getElem? (i := 147) rfl), rfl⟩
theorem q_148 : Cond.fieldLink "MetricLogMonitor$Formula" 19 "MetricLogMonitor$Formula" "rangedVariables" "I" ∈ WALL := List.mem_filter.mpr ⟨in_T1 (List.mem_of_getElem? (i := 148) rfl), rfl⟩
theorem q_149 : Cond.fieldLink "MetricLogMonitor$Join" 31 "MetricLogMonitor$Formula" "rangedVariables" "I" ∈ WALL := List.mem_filter.mpr ⟨in_T1 (List.mem_of_getElem? (i := 149) rfl), rfl⟩
theorem q_150 : Cond.fieldLink "MetricLogMonitor" 100 "MetricLogMonitor$Formula" "rangedVariables" "I" ∈ WALL := List.mem_filter.mpr ⟨in_T1 (List.mem_of_getElem? (i := 150) rfl), rfl⟩
theorem q_151 : Cond.fieldLink "MetricLogMonitor$Not" 7 "MetricLogMonitor$Formula" "existsRanged" "Z" ∈ WALL := List.mem_filter.mpr ⟨in_T1 (List.mem_of_getElem? (i := 151) rfl), rfl⟩
theorem q_152 : Cond.fieldLink "MetricLogMonitor$Previous" 10 "MetricLogMonitor$Formula" "existsRanged" "Z" ∈ WALL := List.mem_filter.mpr ⟨in_T1 (List.mem_of_getElem? (i := 152) rfl), rfl⟩
theorem q_153 : Cond.fieldLink "MetricLogMonitor$Join" 13 "MetricLogMonitor$Formula" "existsRanged" "Z" ∈ WALL := List.mem_filter.mpr ⟨in_T1 (List.mem_of_getElem? (i := 153) rfl), rfl⟩
theorem q_154 : Cond.fieldLink "MetricLogMonitor$Since" 12 "MetricLogMonitor$Formula" "existsRanged" "Z" ∈ WALL := List.mem_filter.mpr ⟨in_T1 (List.mem_of_getElem? (i := 154) rfl), rfl⟩
theorem q_155 : Cond.fieldLink "MetricLogMonitor$Until" 12 "MetricLogMonitor$Formula" "existsRanged" "Z" ∈ WALL := List.mem_filter.mpr ⟨in_T1 (List.mem_of_getElem? (i := 155) rfl), rfl⟩
theorem q_156 : Cond.fieldLink "MetricLogMonitor$Formula" 22 "MetricLogMonitor$Formula" "existsRanged" "Z" ∈ WALL := List.mem_filter.mpr ⟨in_T1 (List.mem_of_getElem? (i := 156) rfl), rfl⟩
theorem q_157 : Cond.fieldLink "MetricLogMonitor$Exists" 16 "MetricLogMonitor$Formula" "existsRanged" "Z" ∈ WALL := List.mem_filter.mpr ⟨in_T1 (List.mem_of_getElem? (i := 157) rfl), rfl⟩
theorem q_158 : Cond.fieldLink "MetricLogMonitor$Exists" 33 "MetricLogMonitor$Formula" "decided" "I" ∈ WALL := List.mem_filter.mpr ⟨in_T1 (List.mem_of_getElem? (i := 158) rfl), rfl⟩
theorem q_159 : Cond.fieldLink "MetricLogMonitor$Not" 21 "MetricLogMonitor$Formula" "decided" "I" ∈ WALL := List.mem_filter.mpr ⟨in_T1 (List.mem_of_getElem? (i := 159) rfl), rfl⟩
theorem q_160 : Cond.fieldLink "MetricLogMonitor$Since" 35 "MetricLogMonitor$Formula" "decided" "I" ∈ WALL := List.mem_filter.mpr ⟨in_T1 (List.mem_of_getElem? (i := 160) rfl), rfl⟩
theorem q_161 : Cond.fieldLink "MetricLogMonitor$Until" 35 "MetricLogMonitor$Formula" "decided" "I" ∈ WALL := List.mem_filter.mpr ⟨in_T1 (List.mem_of_getElem? (i := 161) rfl), rfl⟩
theorem q_162 : Cond.fieldLink "MetricLogMonitor$Previous" 35 "MetricLogMonitor$Formula" "decided" "I" ∈ WALL := List.mem_filter.mpr ⟨in_T1 (List.mem_of_getElem? (i := 162) rfl), rfl⟩
theorem q_163 : Cond.fieldLink "MetricLogMonitor$Join" 34 "MetricLogMonitor$Formula" "decided" "I" ∈ WALL := List.mem_filter.mpr ⟨in_T1 (List.mem_of_getElem? (i := 163) rfl), rfl⟩
theorem q_164 : Cond.fieldLink "MetricLogMonitor$Formula" 36 "MetricLogMonitor$Formula" "decided" "I" ∈ WALL := List.mem_filter.mpr ⟨in_T1 (List.mem_of_getElem? (i := 164) rfl), rfl⟩
theorem q_165 : Cond.fieldLink "MetricLogMonitor" 148 "MetricLogMonitor$Formula" "decided" "I" ∈ WALL := List.mem_filter.mpr ⟨in_T1 (List.mem_of_getElem? (i := 165) rfl), rfl⟩
theorem q_166 : Cond.fieldLink "MetricLogMonitor$Formula" 9 "MetricLogMonitor$Formula" "sets" "[J" ∈ WALL := List.mem_filter.mpr ⟨in_T1 (List.mem_of_getElem? (i := 166) rfl), rfl⟩
theorem q_167 : Cond.laysFinal "MetricLogMonitor$Atom" "MetricLogMonitor$Atom" "relation" "I" ∈ WALL := List.mem_filter.mpr ⟨in_T1 (List.mem_of_getElem? (i := 167) rfl), rfl⟩
theorem q_169 : Cond.laysFinal "MetricLogMonitor$Atom" "MetricLogMonitor$Atom" "a" "I" ∈ WALL := List.mem_filter.mpr ⟨in_T1 (List.mem_of_getElem? (i := 169) rfl), rfl⟩
theorem q_171 : Cond.laysFinal "MetricLogMonitor$Atom" "MetricLogMonitor$Atom" "b" "I" ∈ WALL := List.mem_filter.mpr ⟨in_T1 (List.mem_of_getElem? (i := 171) rfl), rfl⟩
theorem q_173 : Cond.laysFinal "MetricLogMonitor$Atom" "MetricLogMonitor$Formula" "freeVariables" "I" ∈ WALL := List.mem_filter.mpr ⟨in_T1 (List.mem_of_getElem? (i := 173) rfl), rfl⟩
theorem q_175 : Cond.laysFinal "MetricLogMonitor$Atom" "MetricLogMonitor$Formula" "rangedVariables" "I" ∈ WALL := List.mem_filter.mpr ⟨in_T1 (List.mem_of_getElem? (i := 175) rfl), rfl⟩
theorem q_177 : Cond.laysFinal "MetricLogMonitor$Atom" "MetricLogMonitor$Formula" "existsRanged" "Z" ∈ WALL := List.mem_filter.mpr ⟨in_T1 (List.mem_of_getElem? (i := 177) rfl), rfl⟩
theorem q_179 : Cond.lays "MetricLogMonitor$Atom" "MetricLogMonitor$Formula" "decided" "I" ∈ WALL := List.mem_filter.mpr ⟨in_T1 (List.mem_of_getElem? (i := 179) rfl), rfl⟩
theorem q_181 : Cond.laysFinal "MetricLogMonitor$Atom" "MetricLogMonitor$Formula" "sets" "[J" ∈ WALL := List.mem_filter.mpr ⟨in_T1 (List.mem_of_getElem? (i := 181) rfl), rfl⟩
theorem q_184 : Cond.methodLink "MetricLogMonitor" 43 ⟨"MetricLogMonitor", "add", "(LMetricLogMonitor$Formula;)I"⟩ ∈ WALL := List.mem_filter.mpr ⟨in_T1 (List.mem_of_getElem? (i := 184) rfl), rfl⟩
theorem q_186 : Cond.instanceMethod ⟨"MetricLogMonitor", "add", "(LMetricLogMonitor$Formula;)I"⟩ ∈ WALL := List.mem_filter.mpr ⟨in_T1 (List.mem_of_getElem? (i := 186) rfl), rfl⟩
theorem q_187 : Cond.code ⟨"MetricLogMonitor", "add", "(LMetricLogMonitor$Formula;)I"⟩ prog_1_method_21_code 2 (Option.some Jvm.ClassFile.FieldType.int) ∈ WALL := List.mem_filter.mpr ⟨in_T1 (List.mem_of_getElem? (i := 187) rfl), rfl⟩
theorem q_188 : Cond.methodLink "MetricLogMonitor" 172 ⟨"java/util/ArrayList", "add", "(Ljava/lang/Object;)Z"⟩ ∈ WALL := List.mem_filter.mpr ⟨in_T1 (List.mem_of_getElem? (i := 188) rfl), rfl⟩
theorem q_189 : Cond.instanceMethod ⟨"java/util/ArrayList", "add", "(Ljava/lang/Object;)Z"⟩ ∈ WALL := List.mem_filter.mpr ⟨in_T1 (List.mem_of_getElem? (i := 189) rfl), rfl⟩
theorem q_190 : Cond.selects "java/util/ArrayList" ⟨"java/util/ArrayList", "add", "(Ljava/lang/Object;)Z"⟩ ⟨"java/util/ArrayList", "add", "(Ljava/lang/Object;)Z"⟩ ∈ WALL := List.mem_filter.mpr ⟨in_T1 (List.mem_of_getElem? (i := 190) rfl), rfl⟩
theorem q_191 : Cond.code ⟨"java/util/ArrayList", "add", "(Ljava/lang/Object;)Z"⟩ prog_22_method_25_code 2 (Option.some Jvm.ClassFile.FieldType.boolean) ∈ WALL := List.mem_filter.mpr ⟨in_T1 (List.mem_of_getElem? (i := 191) rfl), rfl⟩
theorem q_192 : Cond.methodLink "java/util/ArrayList" 131 ⟨"java/util/ArrayList", "add", "(Ljava/lang/Object;[Ljava/lang/Object;I)V"⟩ ∈ WALL := List.mem_filter.mpr ⟨in_T1 (List.mem_of_getElem? (i := 192) rfl), rfl⟩
theorem q_194 : Cond.instanceMethod ⟨"java/util/ArrayList", "add", "(Ljava/lang/Object;[Ljava/lang/Object;I)V"⟩ ∈ WALL := List.mem_filter.mpr ⟨in_T1 (List.mem_of_getElem? (i := 194) rfl), rfl⟩
theorem q_195 : Cond.code ⟨"java/util/ArrayList", "add", "(Ljava/lang/Object;[Ljava/lang/Object;I)V"⟩ prog_22_method_24_code 4 (Option.none : Option Jvm.ClassFile.FieldType) ∈ WALL := List.mem_filter.mpr ⟨in_T1 (List.mem_of_getElem? (i := 195) rfl), rfl⟩
theorem q_196 : Cond.methodLink "java/util/ArrayList" 129 ⟨"java/util/ArrayList", "grow", "()[Ljava/lang/Object;"⟩ ∈ WALL := List.mem_filter.mpr ⟨in_T1 (List.mem_of_getElem? (i := 196) rfl), rfl⟩
theorem q_198 : Cond.instanceMethod ⟨"java/util/ArrayList", "grow", "()[Ljava/lang/Object;"⟩ ∈ WALL := List.mem_filter.mpr ⟨in_T1 (List.mem_of_getElem? (i := 198) rfl), rfl⟩
theorem q_199 : Cond.code ⟨"java/util/ArrayList", "grow", "()[Ljava/lang/Object;"⟩ prog_22_method_7_code 1 (Option.some (Jvm.ClassFile.FieldType.array (Jvm.ClassFile.FieldType.object "java/lang/Object"))) ∈ WALL := List.mem_filter.mpr ⟨in_T1 (List.mem_of_getElem? (i := 199) rfl), rfl⟩
theorem q_200 : Cond.methodLink "java/util/ArrayList" 69 ⟨"java/util/ArrayList", "grow", "(I)[Ljava/lang/Object;"⟩ ∈ WALL := List.mem_filter.mpr ⟨in_T1 (List.mem_of_getElem? (i := 200) rfl), rfl⟩
theorem q_202 : Cond.instanceMethod ⟨"java/util/ArrayList", "grow", "(I)[Ljava/lang/Object;"⟩ ∈ WALL := List.mem_filter.mpr ⟨in_T1 (List.mem_of_getElem? (i := 202) rfl), rfl⟩
theorem q_203 : Cond.code ⟨"java/util/ArrayList", "grow", "(I)[Ljava/lang/Object;"⟩ prog_22_method_6_code 4 (Option.some (Jvm.ClassFile.FieldType.array (Jvm.ClassFile.FieldType.object "java/lang/Object"))) ∈ WALL := List.mem_filter.mpr ⟨in_T1 (List.mem_of_getElem? (i := 203) rfl), rfl⟩
theorem q_204 : Cond.methodLink "java/util/ArrayList" 73 ⟨"jdk/internal/util/ArraysSupport", "newLength", "(III)I"⟩ ∈ WALL := List.mem_filter.mpr ⟨in_T1 (List.mem_of_getElem? (i := 204) rfl), rfl⟩
theorem q_205 : Cond.static ⟨"jdk/internal/util/ArraysSupport", "newLength", "(III)I"⟩ ∈ WALL := List.mem_filter.mpr ⟨in_T1 (List.mem_of_getElem? (i := 205) rfl), rfl⟩
theorem q_206 : Cond.code ⟨"jdk/internal/util/ArraysSupport", "newLength", "(III)I"⟩ prog_29_method_27_code 4 (Option.some Jvm.ClassFile.FieldType.int) ∈ WALL := List.mem_filter.mpr ⟨in_T1 (List.mem_of_getElem? (i := 206) rfl), rfl⟩
theorem q_207 : Cond.methodLink "jdk/internal/util/ArraysSupport" 194 ⟨"java/lang/Math", "max", "(II)I"⟩ ∈ WALL := List.mem_filter.mpr ⟨in_T1 (List.mem_of_getElem? (i := 207) rfl), rfl⟩
theorem q_208 : Cond.static ⟨"java/lang/Math", "max", "(II)I"⟩ ∈ WALL := List.mem_filter.mpr ⟨in_T1 (List.mem_of_getElem? (i := 208) rfl), rfl⟩
theorem q_209 : Cond.code ⟨"java/lang/Math", "max", "(II)I"⟩ prog_18_method_65_code 2 (Option.some Jvm.ClassFile.FieldType.int) ∈ WALL := List.mem_filter.mpr ⟨in_T1 (List.mem_of_getElem? (i := 209) rfl), rfl⟩
theorem q_210 : Cond.constant "jdk/internal/util/ArraysSupport" 200 2147483639 ∈ WALL := List.mem_filter.mpr ⟨in_T1 (List.mem_of_getElem? (i := 210) rfl), rfl⟩
theorem q_211 : Cond.methodLink "jdk/internal/util/ArraysSupport" 201 ⟨"jdk/internal/util/ArraysSupport", "hugeLength", "(II)I"⟩ ∈ WALL := List.mem_filter.mpr ⟨in_T1 (List.mem_of_getElem? (i := 211) rfl), rfl⟩
theorem q_212 : Cond.static ⟨"jdk/internal/util/ArraysSupport", "hugeLength", "(II)I"⟩ ∈ WALL := List.mem_filter.mpr ⟨in_T1 (List.mem_of_getElem? (i := 212) rfl), rfl⟩
theorem q_213 : Cond.code ⟨"jdk/internal/util/ArraysSupport", "hugeLength", "(II)I"⟩ prog_29_method_28_code 3 (Option.some Jvm.ClassFile.FieldType.int) ∈ WALL := List.mem_filter.mpr ⟨in_T1 (List.mem_of_getElem? (i := 213) rfl), rfl⟩
theorem q_214 : Cond.methodLink "java/util/ArrayList" 66 ⟨"java/util/Arrays", "copyOf", "([Ljava/lang/Object;I)[Ljava/lang/Object;"⟩ ∈ WALL := List.mem_filter.mpr ⟨in_T1 (List.mem_of_getElem? (i := 214) rfl), rfl⟩
theorem q_215 : Cond.static ⟨"java/util/Arrays", "copyOf", "([Ljava/lang/Object;I)[Ljava/lang/Object;"⟩ ∈ WALL := List.mem_filter.mpr ⟨in_T1 (List.mem_of_getElem? (i := 215) rfl), rfl⟩
theorem q_216 : Cond.code ⟨"java/util/Arrays", "copyOf", "([Ljava/lang/Object;I)[Ljava/lang/Object;"⟩ prog_23_method_119_code 2 (Option.some (Jvm.ClassFile.FieldType.array (Jvm.ClassFile.FieldType.object "java/lang/Object"))) ∈ WALL := List.mem_filter.mpr ⟨in_T1 (List.mem_of_getElem? (i := 216) rfl), rfl⟩
theorem q_217 : Cond.methodLink "java/util/Arrays" 86 ⟨"java/lang/Object", "getClass", "()Ljava/lang/Class;"⟩ ∈ WALL := List.mem_filter.mpr ⟨in_T1 (List.mem_of_getElem? (i := 217) rfl), rfl⟩
theorem q_218 : Cond.instanceMethod ⟨"java/lang/Object", "getClass", "()Ljava/lang/Class;"⟩ ∈ WALL := List.mem_filter.mpr ⟨in_T1 (List.mem_of_getElem? (i := 218) rfl), rfl⟩
theorem q_219 : Cond.sameMethod "java/lang/Object" "java/lang/Object" "getClass" "()Ljava/lang/Class;" ∈ WALL := List.mem_filter.mpr ⟨in_T1 (List.mem_of_getElem? (i := 219) rfl), rfl⟩
theorem q_220 : Cond.selects "MetricLogMonitor" ⟨"java/lang/Object", "getClass", "()Ljava/lang/Class;"⟩ ⟨"java/lang/Object", "getClass", "()Ljava/lang/Class;"⟩ ∈ WALL := List.mem_filter.mpr ⟨in_T1 (List.mem_of_getElem? (i := 220) rfl), rfl⟩
theorem q_221 : Cond.selects "MetricLogMonitor$Atom" ⟨"java/lang/Object", "getClass", "()Ljava/lang/Class;"⟩ ⟨"java/lang/Object", "getClass", "()Ljava/lang/Class;"⟩ ∈ WALL := List.mem_filter.mpr ⟨in_T1 (List.mem_of_getElem? (i := 221) rfl), rfl⟩
theorem q_222 : Cond.selects "MetricLogMonitor$Comparison" ⟨"java/lang/Object", "getClass", "()Ljava/lang/Class;"⟩ ⟨"java/lang/Object", "getClass", "()Ljava/lang/Class;"⟩ ∈ WALL := List.mem_filter.mpr ⟨in_T1 (List.mem_of_getElem? (i := 222) rfl), rfl⟩
theorem q_223 : Cond.selects "MetricLogMonitor$Exists" ⟨"java/lang/Object", "getClass", "()Ljava/lang/Class;"⟩ ⟨"java/lang/Object", "getClass", "()Ljava/lang/Class;"⟩ ∈ WALL := List.mem_filter.mpr ⟨in_T1 (List.mem_of_getElem? (i := 223) rfl), rfl⟩
theorem q_224 : Cond.selects "MetricLogMonitor$Join" ⟨"java/lang/Object", "getClass", "()Ljava/lang/Class;"⟩ ⟨"java/lang/Object", "getClass", "()Ljava/lang/Class;"⟩ ∈ WALL := List.mem_filter.mpr ⟨in_T1 (List.mem_of_getElem? (i := 224) rfl), rfl⟩
theorem q_225 : Cond.selects "MetricLogMonitor$Log" ⟨"java/lang/Object", "getClass", "()Ljava/lang/Class;"⟩ ⟨"java/lang/Object", "getClass", "()Ljava/lang/Class;"⟩ ∈ WALL := List.mem_filter.mpr ⟨in_T1 (List.mem_of_getElem? (i := 225) rfl), rfl⟩
theorem q_226 : Cond.selects "MetricLogMonitor$Not" ⟨"java/lang/Object", "getClass", "()Ljava/lang/Class;"⟩ ⟨"java/lang/Object", "getClass", "()Ljava/lang/Class;"⟩ ∈ WALL := List.mem_filter.mpr ⟨in_T1 (List.mem_of_getElem? (i := 226) rfl), rfl⟩
theorem q_227 : Cond.selects "MetricLogMonitor$Previous" ⟨"java/lang/Object", "getClass", "()Ljava/lang/Class;"⟩ ⟨"java/lang/Object", "getClass", "()Ljava/lang/Class;"⟩ ∈ WALL := List.mem_filter.mpr ⟨in_T1 (List.mem_of_getElem? (i := 227) rfl), rfl⟩
theorem q_228 : Cond.selects "MetricLogMonitor$Since" ⟨"java/lang/Object", "getClass", "()Ljava/lang/Class;"⟩ ⟨"java/lang/Object", "getClass", "()Ljava/lang/Class;"⟩ ∈ WALL := List.mem_filter.mpr ⟨in_T1 (List.mem_of_getElem? (i := 228) rfl), rfl⟩
theorem q_229 : Cond.selects "MetricLogMonitor$Until" ⟨"java/lang/Object", "getClass", "()Ljava/lang/Class;"⟩ ⟨"java/lang/Object", "getClass", "()Ljava/lang/Class;"⟩ ∈ WALL := List.mem_filter.mpr ⟨in_T1 (List.mem_of_getElem? (i := 229) rfl), rfl⟩
theorem q_230 : Cond.selects "MetricLogMonitorModel" ⟨"java/lang/Object", "getClass", "()Ljava/lang/Class;"⟩ ⟨"java/lang/Object", "getClass", "()Ljava/lang/Class;"⟩ ∈ WALL := List.mem_filter.mpr ⟨in_T1 (List.mem_of_getElem? (i := 230) rfl), rfl⟩
theorem q_231 : Cond.selects "java/util/ArrayList" ⟨"java/lang/Object", "getClass", "()Ljava/lang/Class;"⟩ ⟨"java/lang/Object", "getClass", "()Ljava/lang/Class;"⟩ ∈ WALL := List.mem_filter.mpr ⟨in_T1 (List.mem_of_getElem? (i := 231) rfl), rfl⟩
theorem q_232 : Cond.native ⟨"java/lang/Object", "getClass", "()Ljava/lang/Class;"⟩ ∈ WALL := List.mem_filter.mpr ⟨in_T1 (List.mem_of_getElem? (i := 232) rfl), rfl⟩
theorem q_233 : Cond.methodLink "java/util/Arrays" 300 ⟨"java/util/Arrays", "copyOf", "([Ljava/lang/Object;ILjava/lang/Class;)[Ljava/lang/Object;"⟩ ∈ WALL := List.mem_filter.mpr ⟨in_T1 (List.mem_of_getElem? (i := 233) rfl), rfl⟩
theorem q_234 : Cond.static ⟨"java/util/Arrays", "copyOf", "([Ljava/lang/Object;ILjava/lang/Class;)[Ljava/lang/Object;"⟩ ∈ WALL := List.mem_filter.mpr ⟨in_T1 (List.mem_of_getElem? (i := 234) rfl), rfl⟩
theorem q_235 : Cond.code ⟨"java/util/Arrays", "copyOf", "([Ljava/lang/Object;ILjava/lang/Class;)[Ljava/lang/Object;"⟩ prog_23_method_120_code 4 (Option.some (Jvm.ClassFile.FieldType.array (Jvm.ClassFile.FieldType.object "java/lang/Object"))) ∈ WALL := List.mem_filter.mpr ⟨in_T1 (List.mem_of_getElem? (i := 235) rfl), rfl⟩
theorem q_236 : Cond.classLink "java/util/Arrays" 110 "[Ljava/lang/Object;" ∈ WALL := List.mem_filter.mpr ⟨in_T1 (List.mem_of_getElem? (i := 236) rfl), rfl⟩
theorem q_238 : Cond.classLink "java/util/Arrays" 2 "java/lang/Object" ∈ WALL := List.mem_filter.mpr ⟨in_T1 (List.mem_of_getElem? (i := 238) rfl), rfl⟩
theorem q_239 : Cond.methodLink "java/util/Arrays" 304 ⟨"java/lang/Math", "min", "(II)I"⟩ ∈ WALL := List.mem_filter.mpr ⟨in_T1 (List.mem_of_getElem? (i := 239) rfl), rfl⟩
theorem q_240 : Cond.static ⟨"java/lang/Math", "min", "(II)I"⟩ ∈ WALL := List.mem_filter.mpr ⟨in_T2 (List.mem_of_getElem? (i := 0) rfl), rfl⟩
theorem q_241 : Cond.code ⟨"java/lang/Math", "min", "(II)I"⟩ prog_18_method_69_code 2 (Option.some Jvm.ClassFile.FieldType.int) ∈ WALL := List.mem_filter.mpr ⟨in_T2 (List.mem_of_getElem? (i := 1) rfl), rfl⟩
theorem q_242 : Cond.methodLink "java/util/Arrays" 150 ⟨"java/lang/System", "arraycopy", "(Ljava/lang/Object;ILjava/lang/Object;II)V"⟩ ∈ WALL := List.mem_filter.mpr ⟨in_T2 (List.mem_of_getElem? (i := 2) rfl), rfl⟩
theorem q_243 : Cond.static ⟨"java/lang/System", "arraycopy", "(Ljava/lang/Object;ILjava/lang/Object;II)V"⟩ ∈ WALL := List.mem_filter.mpr ⟨in_T2 (List.mem_of_getElem? (i := 3) rfl), rfl⟩
theorem q_244 : Cond.native ⟨"java/lang/System", "arraycopy", "(Ljava/lang/Object;ILjava/lang/Object;II)V"⟩ ∈ WALL := List.mem_filter.mpr ⟨in_T2 (List.mem_of_getElem? (i := 4) rfl), rfl⟩
theorem q_245 : Cond.methodLink "java/util/ArrayList" 79 ⟨"java/lang/Math", "max", "(II)I"⟩ ∈ WALL := List.mem_filter.mpr ⟨in_T2 (List.mem_of_getElem? (i := 5) rfl), rfl⟩
theorem q_246 : Cond.classLink "java/util/ArrayList" 7 "java/lang/Object" ∈ WALL := List.mem_filter.mpr ⟨in_T2 (List.mem_of_getElem? (i := 6) rfl), rfl⟩
theorem q_247 : Cond.methodLink "MetricLogMonitorLaw" 18 ⟨"MetricLogMonitor", "compare", "(ZII)I"⟩ ∈ WALL := List.mem_filter.mpr ⟨in_T2 (List.mem_of_getElem? (i := 7) rfl), rfl⟩
theorem q_248 : Cond.instanceMethod ⟨"MetricLogMonitor", "compare", "(ZII)I"⟩ ∈ WALL := List.mem_filter.mpr ⟨in_T2 (List.mem_of_getElem? (i := 8) rfl), rfl⟩
theorem q_249 : Cond.selects "MetricLogMonitor" ⟨"MetricLogMonitor", "compare", "(ZII)I"⟩ ⟨"MetricLogMonitor", "compare", "(ZII)I"⟩ ∈ WALL := List.mem_filter.mpr ⟨in_T2 (List.mem_of_getElem? (i := 9) rfl), rfl⟩
theorem q_250 : Cond.code ⟨"MetricLogMonitor", "compare", "(ZII)I"⟩ prog_1_method_3_code 4 (Option.some Jvm.ClassFile.FieldType.int) ∈ WALL := List.mem_filter.mpr ⟨in_T2 (List.mem_of_getElem? (i := 10) rfl), rfl⟩
theorem q_251 : Cond.classLink "MetricLogMonitor" 47 "MetricLogMonitor$Comparison" ∈ WALL := List.mem_filter.mpr ⟨in_T2 (List.mem_of_getElem? (i := 11) rfl), rfl⟩
theorem q_252 : Cond.instantiable "MetricLogMonitor$Comparison" 8 ∈ WALL := List.mem_filter.mpr ⟨in_T2 (List.mem_of_getElem? (i := 12) rfl), rfl⟩
theorem q_253 : Cond.methodLink "MetricLogMonitor" 49 ⟨"MetricLogMonitor$Comparison", "<init>", "(ZII)V"⟩ ∈ WALL := List.mem_filter.mpr ⟨in_T2 (List.mem_of_getElem? (i := 13) rfl), rfl⟩
theorem q_254 : Cond.instanceMethod ⟨"MetricLogMonitor$Comparison", "<init>", "(ZII)V"⟩ ∈ WALL := List.mem_filter.mpr ⟨in_T2 (List.mem_of_getElem? (i := 14) rfl), rfl⟩
theorem q_255 : Cond.code ⟨"MetricLogMonitor$Comparison", "<init>", "(ZII)V"⟩ prog_3_method_1_code 4 (Option.none : Option Jvm.ClassFile.FieldType) ∈ WALL := List.mem_filter.mpr ⟨in_T2 (List.mem_of_getElem? (i := 15) rfl), rfl⟩
theorem qn_256 : Cond.methodLinkNest "MetricLogMonitor$Comparison" 3 ⟨"MetricLogMonitor", "variablesAmong", "(II)I"⟩ "MetricLogMonitor" ∈ NALL := List.mem_filter.mpr ⟨in_T2 (List.mem_of_getElem? (i := 16) rfl), rfl⟩
theorem q_257 : Cond.methodLink "MetricLogMonitor$Comparison" 7 ⟨"MetricLogMonitor$Comparison", "rangedBy", "(ZII)I"⟩ ∈ WALL := List.mem_filter.mpr ⟨in_T2 (List.mem_of_getElem? (i := 17) rfl), rfl⟩
theorem q_258 : Cond.static ⟨"MetricLogMonitor$Comparison", "rangedBy", "(ZII)I"⟩ ∈ WALL := List.mem_filter.mpr ⟨in_T2 (List.mem_of_getElem? (i := 18) rfl), rfl⟩
theorem q_259 : Cond.code ⟨"MetricLogMonitor$Comparison", "rangedBy", "(ZII)I"⟩ prog_3_method_2_code 3 (Option.some Jvm.ClassFile.FieldType.int) ∈ WALL := List.mem_filter.mpr ⟨in_T2 (List.mem_of_getElem? (i := 19) rfl), rfl⟩
theorem qn_260 : Cond.methodLinkNest "MetricLogMonitor$Comparison" 30 ⟨"MetricLogMonitor", "isVariable", "(I)Z"⟩ "MetricLogMonitor" ∈ NALL := List.mem_filter.mpr ⟨in_T2 (List.mem_of_getElem? (i := 20) rfl), rfl⟩
theorem q_261 : Cond.methodLink "MetricLogMonitor$Comparison" 13 ⟨"MetricLogMonitor$Formula", "<init>", "(IIZ)V"⟩ ∈ WALL := List.mem_filter.mpr ⟨in_T2 (List.mem_of_getElem? (i := 21) rfl), rfl⟩
theorem q_262 : Cond.fieldLink "MetricLogMonitor$Comparison" 19 "MetricLogMonitor$Comparison" "less" "Z" ∈ WALL := List.mem_filter.mpr ⟨in_T2 (List.mem_of_getElem? (i := 22) rfl), rfl⟩
theorem q_263 : Cond.fieldLink "MetricLogMonitor$Comparison" 23 "MetricLogMonitor$Comparison" "a" "I" ∈ WALL := List.mem_filter.mpr ⟨in_T2 (List.mem_of_getElem? (i := 23) rfl), rfl⟩
theorem q_264 : Cond.fieldLink "MetricLogMonitor$Comparison" 27 "MetricLogMonitor$Comparison" "b" "I" ∈ WALL := List.mem_filter.mpr ⟨in_T2 (List.mem_of_getElem? (i := 24) rfl), rfl⟩
theorem q_265 : Cond.laysFinal "MetricLogMonitor$Comparison" "MetricLogMonitor$Comparison" "less" "Z" ∈ WALL := List.mem_filter.mpr ⟨in_T2 (List.mem_of_getElem? (i := 25) rfl), rfl⟩
theorem q_267 : Cond.laysFinal "MetricLogMonitor$Comparison" "MetricLogMonitor$Comparison" "a" "I" ∈ WALL := List.mem_filter.mpr ⟨in_T2 (List.mem_of_getElem? (i := 27) rfl), rfl⟩
theorem q_269 : Cond.laysFinal "MetricLogMonitor$Comparison" "MetricLogMonitor$Comparison" "b" "I" ∈ WALL := List.mem_filter.mpr ⟨in_T2 (List.mem_of_getElem? (i := 29) rfl), rfl⟩
theorem q_271 : Cond.laysFinal "MetricLogMonitor$Comparison" "MetricLogMonitor$Formula" "freeVariables" "I" ∈ WALL := List.mem_filter.mpr ⟨in_T2 (List.mem_of_getElem? (i := 31) rfl), rfl⟩
theorem q_272 : Cond.laysFinal "MetricLogMonitor$Comparison" "MetricLogMonitor$Formula" "rangedVariables" "I" ∈ WALL := List.mem_filter.mpr ⟨in_T2 (List.mem_of_getElem? (i := 32) rfl), rfl⟩
theorem q_273 : Cond.laysFinal "MetricLogMonitor$Comparison" "MetricLogMonitor$Formula" "existsRanged" "Z" ∈ WALL := List.mem_filter.mpr ⟨in_T2 (List.mem_of_getElem? (i := 33) rfl), rfl⟩
theorem q_274 : Cond.lays "MetricLogMonitor$Comparison" "MetricLogMonitor$Formula" "decided" "I" ∈ WALL := List.mem_filter.mpr ⟨in_T2 (List.mem_of_getElem? (i := 34) rfl), rfl⟩
theorem q_275 : Cond.laysFinal "MetricLogMonitor$Comparison" "MetricLogMonitor$Formula" "sets" "[J" ∈ WALL := List.mem_filter.mpr ⟨in_T2 (List.mem_of_getElem? (i := 35) rfl), rfl⟩
theorem q_277 : Cond.methodLink "MetricLogMonitorLaw" 23 ⟨"MetricLogMonitor", "not", "(I)I"⟩ ∈ WALL := List.mem_filter.mpr ⟨in_T2 (List.mem_of_getElem? (i := 37) rfl), rfl⟩
theorem q_278 : Cond.instanceMethod ⟨"MetricLogMonitor", "not", "(I)I"⟩ ∈ WALL := List.mem_filter.mpr ⟨in_T2 (List.mem_of_getElem? (i := 38) rfl), rfl⟩
theorem q_279 : Cond.selects "MetricLogMonitor" ⟨"MetricLogMonitor", "not", "(I)I"⟩ ⟨"MetricLogMonitor", "not", "(I)I"⟩ ∈ WALL := List.mem_filter.mpr ⟨in_T2 (List.mem_of_getElem? (i := 39) rfl), rfl⟩
theorem q_280 : Cond.code ⟨"MetricLogMonitor", "not", "(I)I"⟩ prog_1_method_4_code 3 (Option.some Jvm.ClassFile.FieldType.int) ∈ WALL := List.mem_filter.mpr ⟨in_T2 (List.mem_of_getElem? (i := 40) rfl), rfl⟩
theorem q_281 : Cond.methodLink "MetricLogMonitor" 52 ⟨"MetricLogMonitor", "find", "(I)LMetricLogMonitor$Formula;"⟩ ∈ WALL := List.mem_filter.mpr ⟨in_T2 (List.mem_of_getElem? (i := 41) rfl), rfl⟩
theorem q_283 : Cond.instanceMethod ⟨"MetricLogMonitor", "find", "(I)LMetricLogMonitor$Formula;"⟩ ∈ WALL := List.mem_filter.mpr ⟨in_T2 (List.mem_of_getElem? (i := 43) rfl), rfl⟩
theorem q_284 : Cond.code ⟨"MetricLogMonitor", "find", "(I)LMetricLogMonitor$Formula;"⟩ prog_1_method_22_code 2 (Option.some (Jvm.ClassFile.FieldType.object "MetricLogMonitor$Formula")) ∈ WALL := List.mem_filter.mpr ⟨in_T2 (List.mem_of_getElem? (i := 44) rfl), rfl⟩
theorem q_285 : Cond.methodLink "MetricLogMonitor" 131 ⟨"java/util/ArrayList", "get", "(I)Ljava/lang/Object;"⟩ ∈ WALL := List.mem_filter.mpr ⟨in_T2 (List.mem_of_getElem? (i := 45) rfl), rfl⟩
theorem q_286 : Cond.instanceMethod ⟨"java/util/ArrayList", "get", "(I)Ljava/lang/Object;"⟩ ∈ WALL := List.mem_filter.mpr ⟨in_T2 (List.mem_of_getElem? (i := 46) rfl), rfl⟩
theorem q_287 : Cond.selects "java/util/ArrayList" ⟨"java/util/ArrayList", "get", "(I)Ljava/lang/Object;"⟩ ⟨"java/util/ArrayList", "get", "(I)Ljava/lang/Object;"⟩ ∈ WALL := List.mem_filter.mpr ⟨in_T2 (List.mem_of_getElem? (i := 47) rfl), rfl⟩
theorem q_288 : Cond.code ⟨"java/util/ArrayList", "get", "(I)Ljava/lang/Object;"⟩ prog_22_method_20_code 2 (Option.some (Jvm.ClassFile.FieldType.object "java/lang/Object")) ∈ WALL := List.mem_filter.mpr ⟨in_T2 (List.mem_of_getElem? (i := 48) rfl), rfl⟩
theorem q_289 : Cond.methodLink "java/util/ArrayList" 118 ⟨"java/util/Objects", "checkIndex", "(II)I"⟩ ∈ WALL := List.mem_filter.mpr ⟨in_T2 (List.mem_of_getElem? (i := 49) rfl), rfl⟩
theorem q_290 : Cond.static ⟨"java/util/Objects", "checkIndex", "(II)I"⟩ ∈ WALL := List.mem_filter.mpr ⟨in_T2 (List.mem_of_getElem? (i := 50) rfl), rfl⟩
theorem q_291 : Cond.code ⟨"java/util/Objects", "checkIndex", "(II)I"⟩ prog_26_method_17_code 2 (Option.some Jvm.ClassFile.FieldType.int) ∈ WALL := List.mem_filter.mpr ⟨in_T2 (List.mem_of_getElem? (i := 51) rfl), rfl⟩
theorem q_292 : Cond.methodLink "java/util/Objects" 105 ⟨"jdk/internal/util/Preconditions", "checkIndex", "(IILjava/util/function/BiFunction;)I"⟩ ∈ WALL := List.mem_filter.mpr ⟨in_T2 (List.mem_of_getElem? (i := 52) rfl), rfl⟩
theorem q_293 : Cond.static ⟨"jdk/internal/util/Preconditions", "checkIndex", "(IILjava/util/function/BiFunction;)I"⟩ ∈ WALL := List.mem_filter.mpr ⟨in_T2 (List.mem_of_getElem? (i := 53) rfl), rfl⟩
theorem q_294 : Cond.code ⟨"jdk/internal/util/Preconditions", "checkIndex", "(IILjava/util/function/BiFunction;)I"⟩ prog_30_method_11_code 3 (Option.some Jvm.ClassFile.FieldType.int) ∈ WALL := List.mem_filter.mpr ⟨in_T2 (List.mem_of_getElem? (i := 54) rfl), rfl⟩
theorem q_295 : Cond.methodLink "java/util/ArrayList" 123 ⟨"java/util/ArrayList", "elementData", "(I)Ljava/lang/Object;"⟩ ∈ WALL := List.mem_filter.mpr ⟨in_T2 (List.mem_of_getElem? (i := 55) rfl), rfl⟩
theorem q_296 : Cond.instanceMethod ⟨"java/util/ArrayList", "elementData", "(I)Ljava/lang/Object;"⟩ ∈ WALL := List.mem_filter.mpr ⟨in_T2 (List.mem_of_getElem? (i := 56) rfl), rfl⟩
theorem q_297 : Cond.selects "java/util/ArrayList" ⟨"java/util/ArrayList", "elementData", "(I)Ljava/lang/Object;"⟩ ⟨"java/util/ArrayList", "elementData", "(I)Ljava/lang/Object;"⟩ ∈ WALL := List.mem_filter.mpr ⟨in_T2 (List.mem_of_getElem? (i := 57) rfl), rfl⟩
theorem q_298 : Cond.code ⟨"java/util/ArrayList", "elementData", "(I)Ljava/lang/Object;"⟩ prog_22_method_18_code 2 (Option.some (Jvm.ClassFile.FieldType.object "java/lang/Object")) ∈ WALL := List.mem_filter.mpr ⟨in_T2 (List.mem_of_getElem? (i := 58) rfl), rfl⟩
theorem q_299 : Cond.classLink "MetricLogMonitor" 95 "MetricLogMonitor$Formula" ∈ WALL := List.mem_filter.mpr ⟨in_T2 (List.mem_of_getElem? (i := 59) rfl), rfl⟩
theorem q_300 : Cond.classLink "MetricLogMonitor" 56 "MetricLogMonitor$Not" ∈ WALL := List.mem_filter.mpr ⟨in_T2 (List.mem_of_getElem? (i := 60) rfl), rfl⟩
theorem q_301 : Cond.instantiable "MetricLogMonitor$Not" 6 ∈ WALL := List.mem_filter.mpr ⟨in_T2 (List.mem_of_getElem? (i := 61) rfl), rfl⟩
theorem q_302 : Cond.methodLink "MetricLogMonitor" 58 ⟨"MetricLogMonitor$Not", "<init>", "(LMetricLogMonitor$Formula;)V"⟩ ∈ WALL := List.mem_filter.mpr ⟨in_T2 (List.mem_of_getElem? (i := 62) rfl), rfl⟩
theorem q_303 : Cond.instanceMethod ⟨"MetricLogMonitor$Not", "<init>", "(LMetricLogMonitor$Formula;)V"⟩ ∈ WALL := List.mem_filter.mpr ⟨in_T2 (List.mem_of_getElem? (i := 63) rfl), rfl⟩
theorem q_304 : Cond.code ⟨"MetricLogMonitor$Not", "<init>", "(LMetricLogMonitor$Formula;)V"⟩ prog_8_method_1_code 2 (Option.none : Option Jvm.ClassFile.FieldType) ∈ WALL := List.mem_filter.mpr ⟨in_T2 (List.mem_of_getElem? (i := 64) rfl), rfl⟩
theorem q_305 : Cond.methodLink "MetricLogMonitor$Not" 11 ⟨"MetricLogMonitor$Formula", "<init>", "(IIZ)V"⟩ ∈ WALL := List.mem_filter.mpr ⟨in_T2 (List.mem_of_getElem? (i := 65) rfl), rfl⟩
theorem q_306 : Cond.fieldLink "MetricLogMonitor$Not" 15 "MetricLogMonitor$Not" "part" "LMetricLogMonitor$Formula;" ∈ WALL := List.mem_filter.mpr ⟨in_T2 (List.mem_of_getElem? (i := 66) rfl), rfl⟩
theorem q_307 : Cond.laysFinal "MetricLogMonitor$Not" "MetricLogMonitor$Not" "part" "LMetricLogMonitor$Formula;" ∈ WALL := List.mem_filter.mpr ⟨in_T2 (List.mem_of_getElem? (i := 67) rfl), rfl⟩
theorem q_309 : Cond.laysFinal "MetricLogMonitor$Not" "MetricLogMonitor$Formula" "freeVariables" "I" ∈ WALL := List.mem_filter.mpr ⟨in_T2 (List.mem_of_getElem? (i := 69) rfl), rfl⟩
theorem q_310 : Cond.laysFinal "MetricLogMonitor$Not" "MetricLogMonitor$Formula" "rangedVariables" "I" ∈ WALL := List.mem_filter.mpr ⟨in_T2 (List.mem_of_getElem? (i := 70) rfl), rfl⟩
theorem q_311 : Cond.laysFinal "MetricLogMonitor$Not" "MetricLogMonitor$Formula" "existsRanged" "Z" ∈ WALL := List.mem_filter.mpr ⟨in_T2 (List.mem_of_getElem? (i := 71) rfl), rfl⟩
theorem q_312 : Cond.lays "MetricLogMonitor$Not" "MetricLogMonitor$Formula" "decided" "I" ∈ WALL := List.mem_filter.mpr ⟨in_T2 (List.mem_of_getElem? (i := 72) rfl), rfl⟩
theorem q_313 : Cond.laysFinal "MetricLogMonitor$Not" "MetricLogMonitor$Formula" "sets" "[J" ∈ WALL := List.mem_filter.mpr ⟨in_T2 (List.mem_of_getElem? (i := 73) rfl), rfl⟩
theorem q_315 : Cond.methodLink "MetricLogMonitorLaw" 28 ⟨"MetricLogMonitor", "join", "(ZII)I"⟩ ∈ WALL := List.mem_filter.mpr ⟨in_T2 (List.mem_of_getElem? (i := 75) rfl), rfl⟩
theorem q_316 : Cond.instanceMethod ⟨"MetricLogMonitor", "join", "(ZII)I"⟩ ∈ WALL := List.mem_filter.mpr ⟨in_T2 (List.mem_of_getElem? (i := 76) rfl), rfl⟩
theorem q_317 : Cond.selects "MetricLogMonitor" ⟨"MetricLogMonitor", "join", "(ZII)I"⟩ ⟨"MetricLogMonitor", "join", "(ZII)I"⟩ ∈ WALL := List.mem_filter.mpr ⟨in_T2 (List.mem_of_getElem? (i := 77) rfl), rfl⟩
theorem q_318 : Cond.code ⟨"MetricLogMonitor", "join", "(ZII)I"⟩ prog_1_method_5_code 6 (Option.some Jvm.ClassFile.FieldType.int) ∈ WALL := List.mem_filter.mpr ⟨in_T2 (List.mem_of_getElem? (i := 78) rfl), rfl⟩
theorem q_319 : Cond.classLink "MetricLogMonitor" 61 "MetricLogMonitor$Join" ∈ WALL := List.mem_filter.mpr ⟨in_T2 (List.mem_of_getElem? (i := 79) rfl), rfl⟩
theorem q_320 : Cond.instantiable "MetricLogMonitor$Join" 8 ∈ WALL := List.mem_filter.mpr ⟨in_T2 (List.mem_of_getElem? (i := 80) rfl), rfl⟩
theorem q_321 : Cond.methodLink "MetricLogMonitor" 63 ⟨"MetricLogMonitor$Join", "<init>", "(ZLMetricLogMonitor$Formula;LMetricLogMonitor$Formula;)V"⟩ ∈ WALL := List.mem_filter.mpr ⟨in_T2 (List.mem_of_getElem? (i := 81) rfl), rfl⟩
theorem q_322 : Cond.instanceMethod ⟨"MetricLogMonitor$Join", "<init>", "(ZLMetricLogMonitor$Formula;LMetricLogMonitor$Formula;)V"⟩ ∈ WALL := List.mem_filter.mpr ⟨in_T2 (List.mem_of_getElem? (i := 82) rfl), rfl⟩
theorem q_323 : Cond.code ⟨"MetricLogMonitor$Join", "<init>", "(ZLMetricLogMonitor$Formula;LMetricLogMonitor$Formula;)V"⟩ prog_6_method_1_code 4 (Option.none : Option Jvm.ClassFile.FieldType) ∈ WALL := List.mem_filter.mpr ⟨in_T2 (List.mem_of_getElem? (i := 83) rfl), rfl⟩
theorem q_324 : Cond.methodLink "MetricLogMonitor$Join" 7 ⟨"MetricLogMonitor$Join", "rangedBy", "(ZLMetricLogMonitor$Formula;LMetricLogMonitor$Formula;)I"⟩ ∈ WALL := List.mem_filter.mpr ⟨in_T2 (List.mem_of_getElem? (i := 84) rfl), rfl⟩
theorem q_325 : Cond.static ⟨"MetricLogMonitor$Join", "rangedBy", "(ZLMetricLogMonitor$Formula;LMetricLogMonitor$Formula;)I"⟩ ∈ WALL := List.mem_filter.mpr ⟨in_T2 (List.mem_of_getElem? (i := 85) rfl), rfl⟩
theorem q_326 : Cond.code ⟨"MetricLogMonitor$Join", "rangedBy", "(ZLMetricLogMonitor$Formula;LMetricLogMonitor$Formula;)I"⟩ prog_6_method_2_code 3 (Option.some Jvm.ClassFile.FieldType.int) ∈ WALL := List.mem_filter.mpr ⟨in_T2 (List.mem_of_getElem? (i := 86) rfl), rfl⟩
theorem q_327 : Cond.methodLink "MetricLogMonitor$Join" 17 ⟨"MetricLogMonitor$Formula", "<init>", "(IIZ)V"⟩ ∈ WALL := List.mem_filter.mpr ⟨in_T2 (List.mem_of_getElem? (i := 87) rfl), rfl⟩
theorem q_328 : Cond.fieldLink "MetricLogMonitor$Join" 21 "MetricLogMonitor$Join" "both" "Z" ∈ WALL := List.mem_filter.mpr ⟨in_T2 (List.mem_of_getElem? (i := 88) rfl), rfl⟩
theorem q_329 : Cond.fieldLink "MetricLogMonitor$Join" 24 "MetricLogMonitor$Join" "first" "LMetricLogMonitor$Formula;" ∈ WALL := List.mem_filter.mpr ⟨in_T2 (List.mem_of_getElem? (i := 89) rfl), rfl⟩
theorem q_330 : Cond.fieldLink "MetricLogMonitor$Join" 28 "MetricLogMonitor$Join" "second" "LMetricLogMonitor$Formula;" ∈ WALL := List.mem_filter.mpr ⟨in_T2 (List.mem_of_getElem? (i := 90) rfl), rfl⟩
theorem q_331 : Cond.laysFinal "MetricLogMonitor$Join" "MetricLogMonitor$Join" "both" "Z" ∈ WALL := List.mem_filter.mpr ⟨in_T2 (List.mem_of_getElem? (i := 91) rfl), rfl⟩
theorem q_333 : Cond.laysFinal "MetricLogMonitor$Join" "MetricLogMonitor$Join" "first" "LMetricLogMonitor$Formula;" ∈ WALL := List.mem_filter.mpr ⟨in_T2 (List.mem_of_getElem? (i := 93) rfl), rfl⟩
theorem q_335 : Cond.laysFinal "MetricLogMonitor$Join" "MetricLogMonitor$Join" "second" "LMetricLogMonitor$Formula;" ∈ WALL := List.mem_filter.mpr ⟨in_T2 (List.mem_of_getElem? (i := 95) rfl), rfl⟩
theorem q_337 : Cond.laysFinal "MetricLogMonitor$Join" "MetricLogMonitor$Formula" "freeVariables" "I" ∈ WALL := List.mem_filter.mpr ⟨in_T2 (List.mem_of_getElem? (i := 97) rfl), rfl⟩
theorem q_338 : Cond.laysFinal "MetricLogMonitor$Join" "MetricLogMonitor$Formula" "rangedVariables" "I" ∈ WALL := List.mem_filter.mpr ⟨in_T2 (List.mem_of_getElem? (i := 98) rfl), rfl⟩
theorem q_339 : Cond.laysFinal "MetricLogMonitor$Join" "MetricLogMonitor$Formula" "existsRanged" "Z" ∈ WALL := List.mem_filter.mpr ⟨in_T2 (List.mem_of_getElem? (i := 99) rfl), rfl⟩
theorem q_340 : Cond.lays "MetricLogMonitor$Join" "MetricLogMonitor$Formula" "decided" "I" ∈ WALL := List.mem_filter.mpr ⟨in_T2 (List.mem_of_getElem? (i := 100) rfl), rfl⟩
theorem q_341 : Cond.laysFinal "MetricLogMonitor$Join" "MetricLogMonitor$Formula" "sets" "[J" ∈ WALL := List.mem_filter.mpr ⟨in_T2 (List.mem_of_getElem? (i := 101) rfl), rfl⟩
theorem q_343 : Cond.methodLink "MetricLogMonitorLaw" 32 ⟨"MetricLogMonitor", "exists", "(II)I"⟩ ∈ WALL := List.mem_filter.mpr ⟨in_T2 (List.mem_of_getElem? (i := 103) rfl), rfl⟩
theorem q_344 : Cond.instanceMethod ⟨"MetricLogMonitor", "exists", "(II)I"⟩ ∈ WALL := List.mem_filter.mpr ⟨in_T2 (List.mem_of_getElem? (i := 104) rfl), rfl⟩
theorem q_345 : Cond.selects "MetricLogMonitor" ⟨"MetricLogMonitor", "exists", "(II)I"⟩ ⟨"MetricLogMonitor", "exists", "(II)I"⟩ ∈ WALL := List.mem_filter.mpr ⟨in_T2 (List.mem_of_getElem? (i := 105) rfl), rfl⟩
theorem q_346 : Cond.code ⟨"MetricLogMonitor", "exists", "(II)I"⟩ prog_1_method_6_code 4 (Option.some Jvm.ClassFile.FieldType.int) ∈ WALL := List.mem_filter.mpr ⟨in_T2 (List.mem_of_getElem? (i := 106) rfl), rfl⟩
theorem q_347 : Cond.classLink "MetricLogMonitor" 69 "MetricLogMonitor$Exists" ∈ WALL := List.mem_filter.mpr ⟨in_T2 (List.mem_of_getElem? (i := 107) rfl), rfl⟩
theorem q_348 : Cond.instantiable "MetricLogMonitor$Exists" 7 ∈ WALL := List.mem_filter.mpr ⟨in_T2 (List.mem_of_getElem? (i := 108) rfl), rfl⟩
theorem q_349 : Cond.methodLink "MetricLogMonitor" 71 ⟨"MetricLogMonitor$Exists", "<init>", "(ILMetricLogMonitor$Formula;)V"⟩ ∈ WALL := List.mem_filter.mpr ⟨in_T2 (List.mem_of_getElem? (i := 109) rfl), rfl⟩
theorem q_350 : Cond.instanceMethod ⟨"MetricLogMonitor$Exists", "<init>", "(ILMetricLogMonitor$Formula;)V"⟩ ∈ WALL := List.mem_filter.mpr ⟨in_T2 (List.mem_of_getElem? (i := 110) rfl), rfl⟩
theorem q_351 : Cond.code ⟨"MetricLogMonitor$Exists", "<init>", "(ILMetricLogMonitor$Formula;)V"⟩ prog_4_method_1_code 3 (Option.none : Option Jvm.ClassFile.FieldType) ∈ WALL := List.mem_filter.mpr ⟨in_T2 (List.mem_of_getElem? (i := 111) rfl), rfl⟩
theorem qn_352 : Cond.methodLinkNest "MetricLogMonitor$Exists" 7 ⟨"MetricLogMonitor", "variableBit", "(I)I"⟩ "MetricLogMonitor" ∈ NALL := List.mem_filter.mpr ⟨in_T2 (List.mem_of_getElem? (i := 112) rfl), rfl⟩
theorem q_353 : Cond.methodLink "MetricLogMonitor$Exists" 20 ⟨"MetricLogMonitor$Formula", "<init>", "(IIZ)V"⟩ ∈ WALL := List.mem_filter.mpr ⟨in_T2 (List.mem_of_getElem? (i := 113) rfl), rfl⟩
theorem q_354 : Cond.fieldLink "MetricLogMonitor$Exists" 24 "MetricLogMonitor$Exists" "v" "I" ∈ WALL := List.mem_filter.mpr ⟨in_T2 (List.mem_of_getElem? (i := 114) rfl), rfl⟩
theorem q_355 : Cond.fieldLink "MetricLogMonitor$Exists" 29 "MetricLogMonitor$Exists" "part" "LMetricLogMonitor$Formula;" ∈ WALL := List.mem_filter.mpr ⟨in_T2 (List.mem_of_getElem? (i := 115) rfl), rfl⟩
theorem q_356 : Cond.laysFinal "MetricLogMonitor$Exists" "MetricLogMonitor$Exists" "v" "I" ∈ WALL := List.mem_filter.mpr ⟨in_T2 (List.mem_of_getElem? (i := 116) rfl), rfl⟩
theorem q_358 : Cond.laysFinal "MetricLogMonitor$Exists" "MetricLogMonitor$Exists" "part" "LMetricLogMonitor$Formula;" ∈ WALL := List.mem_filter.mpr ⟨in_T2 (List.mem_of_getElem? (i := 118) rfl), rfl⟩
theorem q_360 : Cond.laysFinal "MetricLogMonitor$Exists" "MetricLogMonitor$Formula" "freeVariables" "I" ∈ WALL := List.mem_filter.mpr ⟨in_T2 (List.mem_of_getElem? (i := 120) rfl), rfl⟩
theorem q_361 : Cond.laysFinal "MetricLogMonitor$Exists" "MetricLogMonitor$Formula" "rangedVariables" "I" ∈ WALL := List.mem_filter.mpr ⟨in_T2 (List.mem_of_getElem? (i := 121) rfl), rfl⟩
theorem q_362 : Cond.laysFinal "MetricLogMonitor$Exists" "MetricLogMonitor$Formula" "existsRanged" "Z" ∈ WALL := List.mem_filter.mpr ⟨in_T2 (List.mem_of_getElem? (i := 122) rfl), rfl⟩
theorem q_363 : Cond.lays "MetricLogMonitor$Exists" "MetricLogMonitor$Formula" "decided" "I" ∈ WALL := List.mem_filter.mpr ⟨in_T2 (List.mem_of_getElem? (i := 123) rfl), rfl⟩
theorem q_364 : Cond.laysFinal "MetricLogMonitor$Exists" "MetricLogMonitor$Formula" "sets" "[J" ∈ WALL := List.mem_filter.mpr ⟨in_T2 (List.mem_of_getElem? (i := 124) rfl), rfl⟩
theorem q_366 : Cond.methodLink "MetricLogMonitorLaw" 37 ⟨"MetricLogMonitor", "previous", "(III)I"⟩ ∈ WALL := List.mem_filter.mpr ⟨in_T2 (List.mem_of_getElem? (i := 126) rfl), rfl⟩
theorem q_367 : Cond.instanceMethod ⟨"MetricLogMonitor", "previous", "(III)I"⟩ ∈ WALL := List.mem_filter.mpr ⟨in_T2 (List.mem_of_getElem? (i := 127) rfl), rfl⟩
theorem q_368 : Cond.selects "MetricLogMonitor" ⟨"MetricLogMonitor", "previous", "(III)I"⟩ ⟨"MetricLogMonitor", "previous", "(III)I"⟩ ∈ WALL := List.mem_filter.mpr ⟨in_T2 (List.mem_of_getElem? (i := 128) rfl), rfl⟩
theorem q_369 : Cond.code ⟨"MetricLogMonitor", "previous", "(III)I"⟩ prog_1_method_7_code 5 (Option.some Jvm.ClassFile.FieldType.int) ∈ WALL := List.mem_filter.mpr ⟨in_T2 (List.mem_of_getElem? (i := 129) rfl), rfl⟩
theorem q_370 : Cond.methodLink "MetricLogMonitor" 74 ⟨"MetricLogMonitor", "isPastInterval", "(II)Z"⟩ ∈ WALL := List.mem_filter.mpr ⟨in_T2 (List.mem_of_getElem? (i := 130) rfl), rfl⟩
theorem q_371 : Cond.static ⟨"MetricLogMonitor", "isPastInterval", "(II)Z"⟩ ∈ WALL := List.mem_filter.mpr ⟨in_T2 (List.mem_of_getElem? (i := 131) rfl), rfl⟩
theorem q_372 : Cond.code ⟨"MetricLogMonitor", "isPastInterval", "(II)Z"⟩ prog_1_method_30_code 2 (Option.some Jvm.ClassFile.FieldType.boolean) ∈ WALL := List.mem_filter.mpr ⟨in_T2 (List.mem_of_getElem? (i := 132) rfl), rfl⟩
theorem q_373 : Cond.methodLink "MetricLogMonitor" 179 ⟨"MetricLogMonitor", "isTime", "(I)Z"⟩ ∈ WALL := List.mem_filter.mpr ⟨in_T2 (List.mem_of_getElem? (i := 133) rfl), rfl⟩
theorem q_374 : Cond.static ⟨"MetricLogMonitor", "isTime", "(I)Z"⟩ ∈ WALL := List.mem_filter.mpr ⟨in_T2 (List.mem_of_getElem? (i := 134) rfl), rfl⟩
theorem q_375 : Cond.code ⟨"MetricLogMonitor", "isTime", "(I)Z"⟩ prog_1_method_28_code 1 (Option.some Jvm.ClassFile.FieldType.boolean) ∈ WALL := List.mem_filter.mpr ⟨in_T2 (List.mem_of_getElem? (i := 135) rfl), rfl⟩
theorem q_376 : Cond.constant "MetricLogMonitor" 178 1000000 ∈ WALL := List.mem_filter.mpr ⟨in_T2 (List.mem_of_getElem? (i := 136) rfl), rfl⟩
theorem q_377 : Cond.methodLink "MetricLogMonitor" 88 ⟨"MetricLogMonitor", "isInterval", "(II)Z"⟩ ∈ WALL := List.mem_filter.mpr ⟨in_T2 (List.mem_of_getElem? (i := 137) rfl), rfl⟩
theorem q_378 : Cond.static ⟨"MetricLogMonitor", "isInterval", "(II)Z"⟩ ∈ WALL := List.mem_filter.mpr ⟨in_T2 (List.mem_of_getElem? (i := 138) rfl), rfl⟩
theorem q_379 : Cond.code ⟨"MetricLogMonitor", "isInterval", "(II)Z"⟩ prog_1_method_29_code 2 (Option.some Jvm.ClassFile.FieldType.boolean) ∈ WALL := List.mem_filter.mpr ⟨in_T2 (List.mem_of_getElem? (i := 139) rfl), rfl⟩
theorem q_380 : Cond.classLink "MetricLogMonitor" 78 "MetricLogMonitor$Previous" ∈ WALL := List.mem_filter.mpr ⟨in_T2 (List.mem_of_getElem? (i := 140) rfl), rfl⟩
theorem q_381 : Cond.instantiable "MetricLogMonitor$Previous" 8 ∈ WALL := List.mem_filter.mpr ⟨in_T2 (List.mem_of_getElem? (i := 141) rfl), rfl⟩
theorem q_382 : Cond.methodLink "MetricLogMonitor" 80 ⟨"MetricLogMonitor$Previous", "<init>", "(IILMetricLogMonitor$Formula;)V"⟩ ∈ WALL := List.mem_filter.mpr ⟨in_T2 (List.mem_of_getElem? (i := 142) rfl), rfl⟩
theorem q_383 : Cond.instanceMethod ⟨"MetricLogMonitor$Previous", "<init>", "(IILMetricLogMonitor$Formula;)V"⟩ ∈ WALL := List.mem_filter.mpr ⟨in_T2 (List.mem_of_getElem? (i := 143) rfl), rfl⟩
theorem q_384 : Cond.code ⟨"MetricLogMonitor$Previous", "<init>", "(IILMetricLogMonitor$Formula;)V"⟩ prog_9_method_1_code 4 (Option.none : Option Jvm.ClassFile.FieldType) ∈ WALL := List.mem_filter.mpr ⟨in_T2 (List.mem_of_getElem? (i := 144) rfl), rfl⟩
theorem q_385 : Cond.methodLink "MetricLogMonitor$Previous" 14 ⟨"MetricLogMonitor$Formula", "<init>", "(IIZ)V"⟩ ∈ WALL := List.mem_filter.mpr ⟨in_T2 (List.mem_of_getElem? (i := 145) rfl), rfl⟩
theorem q_386 : Cond.fieldLink "MetricLogMonitor$Previous" 18 "MetricLogMonitor$Previous" "lo" "I" ∈ WALL := List.mem_filter.mpr ⟨in_T2 (List.mem_of_getElem? (i := 146) rfl), rfl⟩
theorem q_387 : Cond.fieldLink "MetricLogMonitor$Previous" 23 "MetricLogMonitor$Previous" "hi" "I" ∈ WALL := List.mem_filter.mpr ⟨in_T2 (List.mem_of_getElem? (i := 147) rfl), rfl⟩
theorem q_388 : Cond.fieldLink "MetricLogMonitor$Previous" 26 "MetricLogMonitor$Previous" "part" "LMetricLogMonitor$Formula;" ∈ WALL := List.mem_filter.mpr ⟨in_T2 (List.mem_of_getElem? (i := 148) rfl), rfl⟩
theorem q_389 : Cond.laysFinal "MetricLogMonitor$Previous" "MetricLogMonitor$Previous" "lo" "I" ∈ WALL := List.mem_filter.mpr ⟨in_T2 (List.mem_of_getElem? (i := 149) rfl), rfl⟩
theorem q_391 : Cond.laysFinal "MetricLogMonitor$Previous" "MetricLogMonitor$Previous" "hi" "I" ∈ WALL := List.mem_filter.mpr ⟨in_T2 (List.mem_of_getElem? (i := 151) rfl), rfl⟩
theorem q_393 : Cond.laysFinal "MetricLogMonitor$Previous" "MetricLogMonitor$Previous" "part" "LMetricLogMonitor$Formula;" ∈ WALL := List.mem_filter.mpr ⟨in_T2 (List.mem_of_getElem? (i := 153) rfl), rfl⟩
theorem q_395 : Cond.laysFinal "MetricLogMonitor$Previous" "MetricLogMonitor$Formula" "freeVariables" "I" ∈ WALL := List.mem_filter.mpr ⟨in_T2 (List.mem_of_getElem? (i := 155) rfl), rfl⟩
theorem q_396 : Cond.laysFinal "MetricLogMonitor$Previous" "MetricLogMonitor$Formula" "rangedVariables" "I" ∈ WALL := List.mem_filter.mpr ⟨in_T2 (List.mem_of_getElem? (i := 156) rfl), rfl⟩
theorem q_397 : Cond.laysFinal "MetricLogMonitor$Previous" "MetricLogMonitor$Formula" "existsRanged" "Z" ∈ WALL := List.mem_filter.mpr ⟨in_T2 (List.mem_of_getElem? (i := 157) rfl), rfl⟩
theorem q_398 : Cond.lays "MetricLogMonitor$Previous" "MetricLogMonitor$Formula" "decided" "I" ∈ WALL := List.mem_filter.mpr ⟨in_T2 (List.mem_of_getElem? (i := 158) rfl), rfl⟩
theorem q_399 : Cond.laysFinal "MetricLogMonitor$Previous" "MetricLogMonitor$Formula" "sets" "[J" ∈ WALL := List.mem_filter.mpr ⟨in_T2 (List.mem_of_getElem? (i := 159) rfl), rfl⟩
theorem q_401 : Cond.methodLink "MetricLogMonitorLaw" 41 ⟨"MetricLogMonitor", "since", "(IIII)I"⟩ ∈ WALL := List.mem_filter.mpr ⟨in_T2 (List.mem_of_getElem? (i := 161) rfl), rfl⟩
theorem q_402 : Cond.instanceMethod ⟨"MetricLogMonitor", "since", "(IIII)I"⟩ ∈ WALL := List.mem_filter.mpr ⟨in_T2 (List.mem_of_getElem? (i := 162) rfl), rfl⟩
theorem q_403 : Cond.selects "MetricLogMonitor" ⟨"MetricLogMonitor", "since", "(IIII)I"⟩ ⟨"MetricLogMonitor", "since", "(IIII)I"⟩ ∈ WALL := List.mem_filter.mpr ⟨in_T2 (List.mem_of_getElem? (i := 163) rfl), rfl⟩
theorem q_404 : Cond.code ⟨"MetricLogMonitor", "since", "(IIII)I"⟩ prog_1_method_8_code 7 (Option.some Jvm.ClassFile.FieldType.int) ∈ WALL := List.mem_filter.mpr ⟨in_T2 (List.mem_of_getElem? (i := 164) rfl), rfl⟩
theorem q_405 : Cond.classLink "MetricLogMonitor" 83 "MetricLogMonitor$Since" ∈ WALL := List.mem_filter.mpr ⟨in_T2 (List.mem_of_getElem? (i := 165) rfl), rfl⟩
theorem q_406 : Cond.instantiable "MetricLogMonitor$Since" 9 ∈ WALL := List.mem_filter.mpr ⟨in_T2 (List.mem_of_getElem? (i := 166) rfl), rfl⟩
theorem q_407 : Cond.methodLink "MetricLogMonitor" 85 ⟨"MetricLogMonitor$Since", "<init>", "(IILMetricLogMonitor$Formula;LMetricLogMonitor$Formula;)V"⟩ ∈ WALL := List.mem_filter.mpr ⟨in_T2 (List.mem_of_getElem? (i := 167) rfl), rfl⟩
theorem q_408 : Cond.instanceMethod ⟨"MetricLogMonitor$Since", "<init>", "(IILMetricLogMonitor$Formula;LMetricLogMonitor$Formula;)V"⟩ ∈ WALL := List.mem_filter.mpr ⟨in_T2 (List.mem_of_getElem? (i := 168) rfl), rfl⟩
theorem q_409 : Cond.code ⟨"MetricLogMonitor$Since", "<init>", "(IILMetricLogMonitor$Formula;LMetricLogMonitor$Formula;)V"⟩ prog_10_method_1_code 5 (Option.none : Option Jvm.ClassFile.FieldType) ∈ WALL := List.mem_filter.mpr ⟨in_T2 (List.mem_of_getElem? (i := 169) rfl), rfl⟩
theorem q_410 : Cond.methodLink "MetricLogMonitor$Since" 16 ⟨"MetricLogMonitor$Formula", "<init>", "(IIZ)V"⟩ ∈ WALL := List.mem_filter.mpr ⟨in_T2 (List.mem_of_getElem? (i := 170) rfl), rfl⟩
theorem q_411 : Cond.fieldLink "MetricLogMonitor$Since" 20 "MetricLogMonitor$Since" "lo" "I" ∈ WALL := List.mem_filter.mpr ⟨in_T2 (List.mem_of_getElem? (i := 171) rfl), rfl⟩
theorem q_412 : Cond.fieldLink "MetricLogMonitor$Since" 25 "MetricLogMonitor$Since" "hi" "I" ∈ WALL := List.mem_filter.mpr ⟨in_T2 (List.mem_of_getElem? (i := 172) rfl), rfl⟩
theorem q_413 : Cond.fieldLink "MetricLogMonitor$Since" 28 "MetricLogMonitor$Since" "first" "LMetricLogMonitor$Formula;" ∈ WALL := List.mem_filter.mpr ⟨in_T2 (List.mem_of_getElem? (i := 173) rfl), rfl⟩
theorem q_414 : Cond.fieldLink "MetricLogMonitor$Since" 32 "MetricLogMonitor$Since" "second" "LMetricLogMonitor$Formula;" ∈ WALL := List.mem_filter.mpr ⟨in_T2 (List.mem_of_getElem? (i := 174) rfl), rfl⟩
theorem q_415 : Cond.laysFinal "MetricLogMonitor$Since" "MetricLogMonitor$Since" "lo" "I" ∈ WALL := List.mem_filter.mpr ⟨in_T2 (List.mem_of_getElem? (i := 175) rfl), rfl⟩
theorem q_417 : Cond.laysFinal "MetricLogMonitor$Since" "MetricLogMonitor$Since" "hi" "I" ∈ WALL := List.mem_filter.mpr ⟨in_T2 (List.mem_of_getElem? (i := 177) rfl), rfl⟩
theorem q_419 : Cond.laysFinal "MetricLogMonitor$Since" "MetricLogMonitor$Since" "first" "LMetricLogMonitor$Formula;" ∈ WALL := List.mem_filter.mpr ⟨in_T2 (List.mem_of_getElem? (i := 179) rfl), rfl⟩
theorem q_421 : Cond.laysFinal "MetricLogMonitor$Since" "MetricLogMonitor$Since" "second" "LMetricLogMonitor$Formula;" ∈ WALL := List.mem_filter.mpr ⟨in_T2 (List.mem_of_getElem? (i := 181) rfl), rfl⟩
theorem q_423 : Cond.laysFinal "MetricLogMonitor$Since" "MetricLogMonitor$Formula" "freeVariables" "I" ∈ WALL := List.mem_filter.mpr ⟨in_T2 (List.mem_of_getElem? (i := 183) rfl), rfl⟩
theorem q_424 : Cond.laysFinal "MetricLogMonitor$Since" "MetricLogMonitor$Formula" "rangedVariables" "I" ∈ WALL := List.mem_filter.mpr ⟨in_T2 (List.mem_of_getElem? (i := 184) rfl), rfl⟩
theorem q_425 : Cond.laysFinal "MetricLogMonitor$Since" "MetricLogMonitor$Formula" "existsRanged" "Z" ∈ WALL := List.mem_filter.mpr ⟨in_T2 (List.mem_of_getElem? (i := 185) rfl), rfl⟩
theorem q_426 : Cond.lays "MetricLogMonitor$Since" "MetricLogMonitor$Formula" "decided" "I" ∈ WALL := List.mem_filter.mpr ⟨in_T2 (List.mem_of_getElem? (i := 186) rfl), rfl⟩
theorem q_427 : Cond.laysFinal "MetricLogMonitor$Since" "MetricLogMonitor$Formula" "sets" "[J" ∈ WALL := List.mem_filter.mpr ⟨in_T2 (List.mem_of_getElem? (i := 187) rfl), rfl⟩
theorem q_429 : Cond.methodLink "MetricLogMonitorLaw" 46 ⟨"MetricLogMonitor", "until", "(IIII)I"⟩ ∈ WALL := List.mem_filter.mpr ⟨in_T2 (List.mem_of_getElem? (i := 189) rfl), rfl⟩
theorem q_430 : Cond.instanceMethod ⟨"MetricLogMonitor", "until", "(IIII)I"⟩ ∈ WALL := List.mem_filter.mpr ⟨in_T2 (List.mem_of_getElem? (i := 190) rfl), rfl⟩
theorem q_431 : Cond.selects "MetricLogMonitor" ⟨"MetricLogMonitor", "until", "(IIII)I"⟩ ⟨"MetricLogMonitor", "until", "(IIII)I"⟩ ∈ WALL := List.mem_filter.mpr ⟨in_T2 (List.mem_of_getElem? (i := 191) rfl), rfl⟩
theorem q_432 : Cond.code ⟨"MetricLogMonitor", "until", "(IIII)I"⟩ prog_1_method_9_code 7 (Option.some Jvm.ClassFile.FieldType.int) ∈ WALL := List.mem_filter.mpr ⟨in_T2 (List.mem_of_getElem? (i := 192) rfl), rfl⟩
theorem q_433 : Cond.classLink "MetricLogMonitor" 91 "MetricLogMonitor$Until" ∈ WALL := List.mem_filter.mpr ⟨in_T2 (List.mem_of_getElem? (i := 193) rfl), rfl⟩
theorem q_434 : Cond.instantiable "MetricLogMonitor$Until" 9 ∈ WALL := List.mem_filter.mpr ⟨in_T2 (List.mem_of_getElem? (i := 194) rfl), rfl⟩
theorem q_435 : Cond.methodLink "MetricLogMonitor" 93 ⟨"MetricLogMonitor$Until", "<init>", "(IILMetricLogMonitor$Formula;LMetricLogMonitor$Formula;)V"⟩ ∈ WALL := List.mem_filter.mpr ⟨in_T2 (List.mem_of_getElem? (i := 195) rfl), rfl⟩
theorem q_436 : Cond.instanceMethod ⟨"MetricLogMonitor$Until", "<init>", "(IILMetricLogMonitor$Formula;LMetricLogMonitor$Formula;)V"⟩ ∈ WALL := List.mem_filter.mpr ⟨in_T2 (List.mem_of_getElem? (i := 196) rfl), rfl⟩
theorem q_437 : Cond.code ⟨"MetricLogMonitor$Until", "<init>", "(IILMetricLogMonitor$Formula;LMetricLogMonitor$Formula;)V"⟩ prog_11_method_1_code 5 (Option.none : Option Jvm.ClassFile.FieldType) ∈ WALL := List.mem_filter.mpr ⟨in_T2 (List.mem_of_getElem? (i := 197) rfl), rfl⟩
theorem q_438 : Cond.methodLink "MetricLogMonitor$Until" 16 ⟨"MetricLogMonitor$Formula", "<init>", "(IIZ)V"⟩ ∈ WALL := List.mem_filter.mpr ⟨in_T2 (List.mem_of_getElem? (i := 198) rfl), rfl⟩
theorem q_439 : Cond.fieldLink "MetricLogMonitor$Until" 20 "MetricLogMonitor$Until" "lo" "I" ∈ WALL := List.mem_filter.mpr ⟨in_T2 (List.mem_of_getElem? (i := 199) rfl), rfl⟩
theorem q_440 : Cond.fieldLink "MetricLogMonitor$Until" 25 "MetricLogMonitor$Until" "hi" "I" ∈ WALL := List.mem_filter.mpr ⟨in_T2 (List.mem_of_getElem? (i := 200) rfl), rfl⟩
theorem q_441 : Cond.fieldLink "MetricLogMonitor$Until" 28 "MetricLogMonitor$Until" "first" "LMetricLogMonitor$Formula;" ∈ WALL := List.mem_filter.mpr ⟨in_T2 (List.mem_of_getElem? (i := 201) rfl), rfl⟩
theorem q_442 : Cond.fieldLink "MetricLogMonitor$Until" 32 "MetricLogMonitor$Until" "second" "LMetricLogMonitor$Formula;" ∈ WALL := List.mem_filter.mpr ⟨in_T2 (List.mem_of_getElem? (i := 202) rfl), rfl⟩
theorem q_443 : Cond.laysFinal "MetricLogMonitor$Until" "MetricLogMonitor$Until" "lo" "I" ∈ WALL := List.mem_filter.mpr ⟨in_T2 (List.mem_of_getElem? (i := 203) rfl), rfl⟩
theorem q_445 : Cond.laysFinal "MetricLogMonitor$Until" "MetricLogMonitor$Until" "hi" "I" ∈ WALL := List.mem_filter.mpr ⟨in_T2 (List.mem_of_getElem? (i := 205) rfl), rfl⟩
theorem q_447 : Cond.laysFinal "MetricLogMonitor$Until" "MetricLogMonitor$Until" "first" "LMetricLogMonitor$Formula;" ∈ WALL := List.mem_filter.mpr ⟨in_T2 (List.mem_of_getElem? (i := 207) rfl), rfl⟩
theorem q_449 : Cond.laysFinal "MetricLogMonitor$Until" "MetricLogMonitor$Until" "second" "LMetricLogMonitor$Formula;" ∈ WALL := List.mem_filter.mpr ⟨in_T2 (List.mem_of_getElem? (i := 209) rfl), rfl⟩
theorem q_451 : Cond.laysFinal "MetricLogMonitor$Until" "MetricLogMonitor$Formula" "freeVariables" "I" ∈ WALL := List.mem_filter.mpr ⟨in_T2 (List.mem_of_getElem? (i := 211) rfl), rfl⟩
theorem q_452 : Cond.laysFinal "MetricLogMonitor$Until" "MetricLogMonitor$Formula" "rangedVariables" "I" ∈ WALL := List.mem_filter.mpr ⟨in_T2 (List.mem_of_getElem? (i := 212) rfl), rfl⟩
theorem q_453 : Cond.laysFinal "MetricLogMonitor$Until" "MetricLogMonitor$Formula" "existsRanged" "Z" ∈ WALL := List.mem_filter.mpr ⟨in_T2 (List.mem_of_getElem? (i := 213) rfl), rfl⟩
theorem q_454 : Cond.lays "MetricLogMonitor$Until" "MetricLogMonitor$Formula" "decided" "I" ∈ WALL := List.mem_filter.mpr ⟨in_T2 (List.mem_of_getElem? (i := 214) rfl), rfl⟩
theorem q_455 : Cond.laysFinal "MetricLogMonitor$Until" "MetricLogMonitor$Formula" "sets" "[J" ∈ WALL := List.mem_filter.mpr ⟨in_T2 (List.mem_of_getElem? (i := 215) rfl), rfl⟩
theorem q_457 : Cond.methodLink "MetricLogMonitorLaw" 50 ⟨"MetricLogMonitor", "free", "(I)I"⟩ ∈ WALL := List.mem_filter.mpr ⟨in_T2 (List.mem_of_getElem? (i := 217) rfl), rfl⟩
theorem q_458 : Cond.instanceMethod ⟨"MetricLogMonitor", "free", "(I)I"⟩ ∈ WALL := List.mem_filter.mpr ⟨in_T2 (List.mem_of_getElem? (i := 218) rfl), rfl⟩
theorem q_459 : Cond.selects "MetricLogMonitor" ⟨"MetricLogMonitor", "free", "(I)I"⟩ ⟨"MetricLogMonitor", "free", "(I)I"⟩ ∈ WALL := List.mem_filter.mpr ⟨in_T2 (List.mem_of_getElem? (i := 219) rfl), rfl⟩
theorem q_460 : Cond.code ⟨"MetricLogMonitor", "free", "(I)I"⟩ prog_1_method_10_code 3 (Option.some Jvm.ClassFile.FieldType.int) ∈ WALL := List.mem_filter.mpr ⟨in_T2 (List.mem_of_getElem? (i := 220) rfl), rfl⟩
theorem q_461 : Cond.methodLink "MetricLogMonitorLaw" 54 ⟨"MetricLogMonitor", "ranged", "(I)I"⟩ ∈ WALL := List.mem_filter.mpr ⟨in_T2 (List.mem_of_getElem? (i := 221) rfl), rfl⟩
theorem q_462 : Cond.instanceMethod ⟨"MetricLogMonitor", "ranged", "(I)I"⟩ ∈ WALL := List.mem_filter.mpr ⟨in_T2 (List.mem_of_getElem? (i := 222) rfl), rfl⟩
theorem q_463 : Cond.selects "MetricLogMonitor" ⟨"MetricLogMonitor", "ranged", "(I)I"⟩ ⟨"MetricLogMonitor", "ranged", "(I)I"⟩ ∈ WALL := List.mem_filter.mpr ⟨in_T2 (List.mem_of_getElem? (i := 223) rfl), rfl⟩
theorem q_464 : Cond.code ⟨"MetricLogMonitor", "ranged", "(I)I"⟩ prog_1_method_11_code 3 (Option.some Jvm.ClassFile.FieldType.int) ∈ WALL := List.mem_filter.mpr ⟨in_T2 (List.mem_of_getElem? (i := 224) rfl), rfl⟩
theorem q_465 : Cond.methodLink "MetricLogMonitorLaw" 58 ⟨"MetricLogMonitor", "bounded", "(I)Z"⟩ ∈ WALL := List.mem_filter.mpr ⟨in_T2 (List.mem_of_getElem? (i := 225) rfl), rfl⟩
theorem q_466 : Cond.instanceMethod ⟨"MetricLogMonitor", "bounded", "(I)Z"⟩ ∈ WALL := List.mem_filter.mpr ⟨in_T2 (List.mem_of_getElem? (i := 226) rfl), rfl⟩
theorem q_467 : Cond.selects "MetricLogMonitor" ⟨"MetricLogMonitor", "bounded", "(I)Z"⟩ ⟨"MetricLogMonitor", "bounded", "(I)Z"⟩ ∈ WALL := List.mem_filter.mpr ⟨in_T2 (List.mem_of_getElem? (i := 227) rfl), rfl⟩
theorem q_468 : Cond.code ⟨"MetricLogMonitor", "bounded", "(I)Z"⟩ prog_1_method_12_code 3 (Option.some Jvm.ClassFile.FieldType.boolean) ∈ WALL := List.mem_filter.mpr ⟨in_T2 (List.mem_of_getElem? (i := 228) rfl), rfl⟩
theorem q_469 : Cond.methodLink "MetricLogMonitor" 103 ⟨"MetricLogMonitor$Formula", "isBounded", "()Z"⟩ ∈ WALL := List.mem_filter.mpr ⟨in_T2 (List.mem_of_getElem? (i := 229) rfl), rfl⟩
theorem q_470 : Cond.instanceMethod ⟨"MetricLogMonitor$Formula", "isBounded", "()Z"⟩ ∈ WALL := List.mem_filter.mpr ⟨in_T2 (List.mem_of_getElem? (i := 230) rfl), rfl⟩
theorem q_471 : Cond.sameMethod "MetricLogMonitor$Formula" "MetricLogMonitor$Formula" "isBounded" "()Z" ∈ WALL := List.mem_filter.mpr ⟨in_T2 (List.mem_of_getElem? (i := 231) rfl), rfl⟩
theorem q_472 : Cond.selects "MetricLogMonitor$Atom" ⟨"MetricLogMonitor$Formula", "isBounded", "()Z"⟩ ⟨"MetricLogMonitor$Formula", "isBounded", "()Z"⟩ ∈ WALL := List.mem_filter.mpr ⟨in_T2 (List.mem_of_getElem? (i := 232) rfl), rfl⟩
theorem q_473 : Cond.selects "MetricLogMonitor$Comparison" ⟨"MetricLogMonitor$Formula", "isBounded", "()Z"⟩ ⟨"MetricLogMonitor$Formula", "isBounded", "()Z"⟩ ∈ WALL := List.mem_filter.mpr ⟨in_T2 (List.mem_of_getElem? (i := 233) rfl), rfl⟩
theorem q_474 : Cond.selects "MetricLogMonitor$Exists" ⟨"MetricLogMonitor$Formula", "isBounded", "()Z"⟩ ⟨"MetricLogMonitor$Formula", "isBounded", "()Z"⟩ ∈ WALL := List.mem_filter.mpr ⟨in_T2 (List.mem_of_getElem? (i := 234) rfl), rfl⟩
theorem q_475 : Cond.selects "MetricLogMonitor$Join" ⟨"MetricLogMonitor$Formula", "isBounded", "()Z"⟩ ⟨"MetricLogMonitor$Formula", "isBounded", "()Z"⟩ ∈ WALL := List.mem_filter.mpr ⟨in_T2 (List.mem_of_getElem? (i := 235) rfl), rfl⟩
theorem q_476 : Cond.selects "MetricLogMonitor$Not" ⟨"MetricLogMonitor$Formula", "isBounded", "()Z"⟩ ⟨"MetricLogMonitor$Formula", "isBounded", "()Z"⟩ ∈ WALL := List.mem_filter.mpr ⟨in_T2 (List.mem_of_getElem? (i := 236) rfl), rfl⟩
theorem q_477 : Cond.selects "MetricLogMonitor$Previous" ⟨"MetricLogMonitor$Formula", "isBounded", "()Z"⟩ ⟨"MetricLogMonitor$Formula", "isBounded", "()Z"⟩ ∈ WALL := List.mem_filter.mpr ⟨in_T2 (List.mem_of_getElem? (i := 237) rfl), rfl⟩
theorem q_478 : Cond.selects "MetricLogMonitor$Since" ⟨"MetricLogMonitor$Formula", "isBounded", "()Z"⟩ ⟨"MetricLogMonitor$Formula", "isBounded", "()Z"⟩ ∈ WALL := List.mem_filter.mpr ⟨in_T2 (List.mem_of_getElem? (i := 238) rfl), rfl⟩
theorem q_479 : Cond.selects "MetricLogMonitor$Until" ⟨"MetricLogMonitor$Formula", "isBounded", "()Z"⟩ ⟨"MetricLogMonitor$Formula", "isBounded", "()Z"⟩ ∈ WALL := List.mem_filter.mpr ⟨in_T2 (List.mem_of_getElem? (i := 239) rfl), rfl⟩
theorem q_480 : Cond.code ⟨"MetricLogMonitor$Formula", "isBounded", "()Z"⟩ prog_5_method_6_code 1 (Option.some Jvm.ClassFile.FieldType.boolean) ∈ WALL := List.mem_filter.mpr ⟨in_T3 (List.mem_of_getElem? (i := 0) rfl), rfl⟩
theorem q_481 : Cond.methodLink "MetricLogMonitorLaw" 63 ⟨"MetricLogMonitor", "watch", "()Z"⟩ ∈ WALL := List.mem_filter.mpr ⟨in_T3 (List.mem_of_getElem? (i := 1) rfl), rfl⟩
theorem q_482 : Cond.instanceMethod ⟨"MetricLogMonitor", "watch", "()Z"⟩ ∈ WALL := List.mem_filter.mpr ⟨in_T3 (List.mem_of_getElem? (i := 2) rfl), rfl⟩
theorem q_483 : Cond.selects "MetricLogMonitor" ⟨"MetricLogMonitor", "watch", "()Z"⟩ ⟨"MetricLogMonitor", "watch", "()Z"⟩ ∈ WALL := List.mem_filter.mpr ⟨in_T3 (List.mem_of_getElem? (i := 3) rfl), rfl⟩
theorem q_484 : Cond.code ⟨"MetricLogMonitor", "watch", "()Z"⟩ prog_1_method_13_code 1 (Option.some Jvm.ClassFile.FieldType.boolean) ∈ WALL := List.mem_filter.mpr ⟨in_T3 (List.mem_of_getElem? (i := 4) rfl), rfl⟩
theorem q_485 : Cond.methodLink "MetricLogMonitor" 106 ⟨"java/util/ArrayList", "isEmpty", "()Z"⟩ ∈ WALL := List.mem_filter.mpr ⟨in_T3 (List.mem_of_getElem? (i := 5) rfl), rfl⟩
theorem q_486 : Cond.instanceMethod ⟨"java/util/ArrayList", "isEmpty", "()Z"⟩ ∈ WALL := List.mem_filter.mpr ⟨in_T3 (List.mem_of_getElem? (i := 6) rfl), rfl⟩
theorem q_487 : Cond.selects "java/util/ArrayList" ⟨"java/util/ArrayList", "isEmpty", "()Z"⟩ ⟨"java/util/ArrayList", "isEmpty", "()Z"⟩ ∈ WALL := List.mem_filter.mpr ⟨in_T3 (List.mem_of_getElem? (i := 7) rfl), rfl⟩
theorem q_488 : Cond.code ⟨"java/util/ArrayList", "isEmpty", "()Z"⟩ prog_22_method_9_code 1 (Option.some Jvm.ClassFile.FieldType.boolean) ∈ WALL := List.mem_filter.mpr ⟨in_T3 (List.mem_of_getElem? (i := 8) rfl), rfl⟩
theorem q_489 : Cond.methodLink "MetricLogMonitorLaw" 68 ⟨"MetricLogMonitor", "gather", "(III)Z"⟩ ∈ WALL := List.mem_filter.mpr ⟨in_T3 (List.mem_of_getElem? (i := 9) rfl), rfl⟩
theorem q_490 : Cond.instanceMethod ⟨"MetricLogMonitor", "gather", "(III)Z"⟩ ∈ WALL := List.mem_filter.mpr ⟨in_T3 (List.mem_of_getElem? (i := 10) rfl), rfl⟩
theorem q_491 : Cond.selects "MetricLogMonitor" ⟨"MetricLogMonitor", "gather", "(III)Z"⟩ ⟨"MetricLogMonitor", "gather", "(III)Z"⟩ ∈ WALL := List.mem_filter.mpr ⟨in_T3 (List.mem_of_getElem? (i := 11) rfl), rfl⟩
theorem q_492 : Cond.code ⟨"MetricLogMonitor", "gather", "(III)Z"⟩ prog_1_method_14_code 4 (Option.some Jvm.ClassFile.FieldType.boolean) ∈ WALL := List.mem_filter.mpr ⟨in_T3 (List.mem_of_getElem? (i := 12) rfl), rfl⟩
theorem q_493 : Cond.methodLink "MetricLogMonitor" 109 ⟨"MetricLogMonitor", "isValue", "(I)Z"⟩ ∈ WALL := List.mem_filter.mpr ⟨in_T3 (List.mem_of_getElem? (i := 13) rfl), rfl⟩
theorem q_494 : Cond.static ⟨"MetricLogMonitor", "isValue", "(I)Z"⟩ ∈ WALL := List.mem_filter.mpr ⟨in_T3 (List.mem_of_getElem? (i := 14) rfl), rfl⟩
theorem q_495 : Cond.code ⟨"MetricLogMonitor", "isValue", "(I)Z"⟩ prog_1_method_25_code 1 (Option.some Jvm.ClassFile.FieldType.boolean) ∈ WALL := List.mem_filter.mpr ⟨in_T3 (List.mem_of_getElem? (i := 15) rfl), rfl⟩
theorem q_496 : Cond.methodLink "MetricLogMonitor" 112 ⟨"MetricLogMonitor", "pairBit", "(III)J"⟩ ∈ WALL := List.mem_filter.mpr ⟨in_T3 (List.mem_of_getElem? (i := 16) rfl), rfl⟩
theorem q_497 : Cond.static ⟨"MetricLogMonitor", "pairBit", "(III)J"⟩ ∈ WALL := List.mem_filter.mpr ⟨in_T3 (List.mem_of_getElem? (i := 17) rfl), rfl⟩
theorem q_498 : Cond.code ⟨"MetricLogMonitor", "pairBit", "(III)J"⟩ prog_1_method_35_code 3 (Option.some Jvm.ClassFile.FieldType.long) ∈ WALL := List.mem_filter.mpr ⟨in_T3 (List.mem_of_getElem? (i := 18) rfl), rfl⟩
theorem q_499 : Cond.methodLink "MetricLogMonitor" 116 ⟨"MetricLogMonitor$Log", "collect", "(J)Z"⟩ ∈ WALL := List.mem_filter.mpr ⟨in_T3 (List.mem_of_getElem? (i := 19) rfl), rfl⟩
theorem q_500 : Cond.instanceMethod ⟨"MetricLogMonitor$Log", "collect", "(J)Z"⟩ ∈ WALL := List.mem_filter.mpr ⟨in_T3 (List.mem_of_getElem? (i := 20) rfl), rfl⟩
theorem q_501 : Cond.selects "MetricLogMonitor$Log" ⟨"MetricLogMonitor$Log", "collect", "(J)Z"⟩ ⟨"MetricLogMonitor$Log", "collect", "(J)Z"⟩ ∈ WALL := List.mem_filter.mpr ⟨in_T3 (List.mem_of_getElem? (i := 21) rfl), rfl⟩
theorem q_502 : Cond.code ⟨"MetricLogMonitor$Log", "collect", "(J)Z"⟩ prog_7_method_2_code 4 (Option.some Jvm.ClassFile.FieldType.boolean) ∈ WALL := List.mem_filter.mpr ⟨in_T3 (List.mem_of_getElem? (i := 22) rfl), rfl⟩
theorem q_503 : Cond.methodLink "MetricLogMonitorLaw" 73 ⟨"MetricLogMonitor", "place", "(I)I"⟩ ∈ WALL := List.mem_filter.mpr ⟨in_T3 (List.mem_of_getElem? (i := 23) rfl), rfl⟩
theorem q_504 : Cond.instanceMethod ⟨"MetricLogMonitor", "place", "(I)I"⟩ ∈ WALL := List.mem_filter.mpr ⟨in_T3 (List.mem_of_getElem? (i := 24) rfl), rfl⟩
theorem q_505 : Cond.selects "MetricLogMonitor" ⟨"MetricLogMonitor", "place", "(I)I"⟩ ⟨"MetricLogMonitor", "place", "(I)I"⟩ ∈ WALL := List.mem_filter.mpr ⟨in_T3 (List.mem_of_getElem? (i := 25) rfl), rfl⟩
theorem q_506 : Cond.code ⟨"MetricLogMonitor", "place", "(I)I"⟩ prog_1_method_15_code 3 (Option.some Jvm.ClassFile.FieldType.int) ∈ WALL := List.mem_filter.mpr ⟨in_T3 (List.mem_of_getElem? (i := 26) rfl), rfl⟩
theorem q_507 : Cond.methodLink "MetricLogMonitor" 120 ⟨"MetricLogMonitor$Log", "accepts", "(I)Z"⟩ ∈ WALL := List.mem_filter.mpr ⟨in_T3 (List.mem_of_getElem? (i := 27) rfl), rfl⟩
theorem q_508 : Cond.instanceMethod ⟨"MetricLogMonitor$Log", "accepts", "(I)Z"⟩ ∈ WALL := List.mem_filter.mpr ⟨in_T3 (List.mem_of_getElem? (i := 28) rfl), rfl⟩
theorem q_509 : Cond.selects "MetricLogMonitor$Log" ⟨"MetricLogMonitor$Log", "accepts", "(I)Z"⟩ ⟨"MetricLogMonitor$Log", "accepts", "(I)Z"⟩ ∈ WALL := List.mem_filter.mpr ⟨in_T3 (List.mem_of_getElem? (i := 29) rfl), rfl⟩
theorem q_510 : Cond.code ⟨"MetricLogMonitor$Log", "accepts", "(I)Z"⟩ prog_7_method_3_code 2 (Option.some Jvm.ClassFile.FieldType.boolean) ∈ WALL := List.mem_filter.mpr ⟨in_T3 (List.mem_of_getElem? (i := 30) rfl), rfl⟩
theorem qn_511 : Cond.methodLinkNest "MetricLogMonitor$Log" 23 ⟨"MetricLogMonitor", "isTime", "(I)Z"⟩ "MetricLogMonitor" ∈ NALL := List.mem_filter.mpr ⟨in_T3 (List.mem_of_getElem? (i := 31) rfl), rfl⟩
theorem q_512 : Cond.methodLink "MetricLogMonitor" 123 ⟨"MetricLogMonitor$Log", "append", "(I)V"⟩ ∈ WALL := List.mem_filter.mpr ⟨in_T3 (List.mem_of_getElem? (i := 32) rfl), rfl⟩
theorem q_513 : Cond.instanceMethod ⟨"MetricLogMonitor$Log", "append", "(I)V"⟩ ∈ WALL := List.mem_filter.mpr ⟨in_T3 (List.mem_of_getElem? (i := 33) rfl), rfl⟩
theorem q_514 : Cond.selects "MetricLogMonitor$Log" ⟨"MetricLogMonitor$Log", "append", "(I)V"⟩ ⟨"MetricLogMonitor$Log", "append", "(I)V"⟩ ∈ WALL := List.mem_filter.mpr ⟨in_T3 (List.mem_of_getElem? (i := 34) rfl), rfl⟩
theorem q_515 : Cond.code ⟨"MetricLogMonitor$Log", "append", "(I)V"⟩ prog_7_method_4_code 2 (Option.none : Option Jvm.ClassFile.FieldType) ∈ WALL := List.mem_filter.mpr ⟨in_T3 (List.mem_of_getElem? (i := 35) rfl), rfl⟩
theorem q_516 : Cond.methodLink "MetricLogMonitor" 135 ⟨"MetricLogMonitor$Formula", "advance", "(LMetricLogMonitor$Log;)V"⟩ ∈ WALL := List.mem_filter.mpr ⟨in_T3 (List.mem_of_getElem? (i := 36) rfl), rfl⟩
theorem q_517 : Cond.instanceMethod ⟨"MetricLogMonitor$Formula", "advance", "(LMetricLogMonitor$Log;)V"⟩ ∈ WALL := List.mem_filter.mpr ⟨in_T3 (List.mem_of_getElem? (i := 37) rfl), rfl⟩
theorem q_518 : Cond.sameMethod "MetricLogMonitor$Formula" "MetricLogMonitor$Formula" "advance" "(LMetricLogMonitor$Log;)V" ∈ WALL := List.mem_filter.mpr ⟨in_T3 (List.mem_of_getElem? (i := 38) rfl), rfl⟩
theorem q_519 : Cond.selects "MetricLogMonitor$Atom" ⟨"MetricLogMonitor$Formula", "advance", "(LMetricLogMonitor$Log;)V"⟩ ⟨"MetricLogMonitor$Formula", "advance", "(LMetricLogMonitor$Log;)V"⟩ ∈ WALL := List.mem_filter.mpr ⟨in_T3 (List.mem_of_getElem? (i := 39) rfl), rfl⟩
theorem q_520 : Cond.selects "MetricLogMonitor$Comparison" ⟨"MetricLogMonitor$Formula", "advance", "(LMetricLogMonitor$Log;)V"⟩ ⟨"MetricLogMonitor$Formula", "advance", "(LMetricLogMonitor$Log;)V"⟩ ∈ WALL := List.mem_filter.mpr ⟨in_T3 (List.mem_of_getElem? (i := 40) rfl), rfl⟩
theorem q_521 : Cond.selects "MetricLogMonitor$Exists" ⟨"MetricLogMonitor$Formula", "advance", "(LMetricLogMonitor$Log;)V"⟩ ⟨"MetricLogMonitor$Formula", "advance", "(LMetricLogMonitor$Log;)V"⟩ ∈ WALL := List.mem_filter.mpr ⟨in_T3 (List.mem_of_getElem? (i := 41) rfl), rfl⟩
theorem q_522 : Cond.selects "MetricLogMonitor$Join" ⟨"MetricLogMonitor$Formula", "advance", "(LMetricLogMonitor$Log;)V"⟩ ⟨"MetricLogMonitor$Formula", "advance", "(LMetricLogMonitor$Log;)V"⟩ ∈ WALL := List.mem_filter.mpr ⟨in_T3 (List.mem_of_getElem? (i := 42) rfl), rfl⟩
theorem q_523 : Cond.selects "MetricLogMonitor$Not" ⟨"MetricLogMonitor$Formula", "advance", "(LMetricLogMonitor$Log;)V"⟩ ⟨"MetricLogMonitor$Formula", "advance", "(LMetricLogMonitor$Log;)V"⟩ ∈ WALL := List.mem_filter.mpr ⟨in_T3 (List.mem_of_getElem? (i := 43) rfl), rfl⟩
theorem q_524 : Cond.selects "MetricLogMonitor$Previous" ⟨"MetricLogMonitor$Formula", "advance", "(LMetricLogMonitor$Log;)V"⟩ ⟨"MetricLogMonitor$Formula", "advance", "(LMetricLogMonitor$Log;)V"⟩ ∈ WALL := List.mem_filter.mpr ⟨in_T3 (List.mem_of_getElem? (i := 44) rfl), rfl⟩
theorem q_525 : Cond.selects "MetricLogMonitor$Since" ⟨"MetricLogMonitor$Formula", "advance", "(LMetricLogMonitor$Log;)V"⟩ ⟨"MetricLogMonitor$Formula", "advance", "(LMetricLogMonitor$Log;)V"⟩ ∈ WALL := List.mem_filter.mpr ⟨in_T3 (List.mem_of_getElem? (i := 45) rfl), rfl⟩
theorem q_526 : Cond.selects "MetricLogMonitor$Until" ⟨"MetricLogMonitor$Formula", "advance", "(LMetricLogMonitor$Log;)V"⟩ ⟨"MetricLogMonitor$Formula", "advance", "(LMetricLogMonitor$Log;)V"⟩ ∈ WALL := List.mem_filter.mpr ⟨in_T3 (List.mem_of_getElem? (i := 46) rfl), rfl⟩
theorem q_527 : Cond.code ⟨"MetricLogMonitor$Formula", "advance", "(LMetricLogMonitor$Log;)V"⟩ prog_5_method_4_code 4 (Option.none : Option Jvm.ClassFile.FieldType) ∈ WALL := List.mem_filter.mpr ⟨in_T3 (List.mem_of_getElem? (i := 47) rfl), rfl⟩
theorem q_528 : Cond.methodLink "MetricLogMonitor$Formula" 26 ⟨"MetricLogMonitor$Formula", "reach", "(LMetricLogMonitor$Log;)I"⟩ ∈ WALL := List.mem_filter.mpr ⟨in_T3 (List.mem_of_getElem? (i := 48) rfl), rfl⟩
theorem qn_529 : Cond.declares ⟨"MetricLogMonitor$Formula", "reach", "(LMetricLogMonitor$Log;)I"⟩ ∈ NALL := List.mem_filter.mpr ⟨in_T3 (List.mem_of_getElem? (i := 49) rfl), rfl⟩
theorem q_530 : Cond.sameMethod "MetricLogMonitor$Formula" "MetricLogMonitor$Formula" "reach" "(LMetricLogMonitor$Log;)I" ∈ WALL := List.mem_filter.mpr ⟨in_T3 (List.mem_of_getElem? (i := 50) rfl), rfl⟩
theorem q_531 : Cond.selects "MetricLogMonitor$Atom" ⟨"MetricLogMonitor$Formula", "reach", "(LMetricLogMonitor$Log;)I"⟩ ⟨"MetricLogMonitor$Atom", "reach", "(LMetricLogMonitor$Log;)I"⟩ ∈ WALL := List.mem_filter.mpr ⟨in_T3 (List.mem_of_getElem? (i := 51) rfl), rfl⟩
theorem q_532 : Cond.instanceMethod ⟨"MetricLogMonitor$Atom", "reach", "(LMetricLogMonitor$Log;)I"⟩ ∈ WALL := List.mem_filter.mpr ⟨in_T3 (List.mem_of_getElem? (i := 52) rfl), rfl⟩
theorem q_533 : Cond.code ⟨"MetricLogMonitor$Atom", "reach", "(LMetricLogMonitor$Log;)I"⟩ prog_2_method_2_code 2 (Option.some Jvm.ClassFile.FieldType.int) ∈ WALL := List.mem_filter.mpr ⟨in_T3 (List.mem_of_getElem? (i := 53) rfl), rfl⟩
theorem q_534 : Cond.selects "MetricLogMonitor$Comparison" ⟨"MetricLogMonitor$Formula", "reach", "(LMetricLogMonitor$Log;)I"⟩ ⟨"MetricLogMonitor$Comparison", "reach", "(LMetricLogMonitor$Log;)I"⟩ ∈ WALL := List.mem_filter.mpr ⟨in_T3 (List.mem_of_getElem? (i := 54) rfl), rfl⟩
theorem q_535 : Cond.instanceMethod ⟨"MetricLogMonitor$Comparison", "reach", "(LMetricLogMonitor$Log;)I"⟩ ∈ WALL := List.mem_filter.mpr ⟨in_T3 (List.mem_of_getElem? (i := 55) rfl), rfl⟩
theorem q_536 : Cond.code ⟨"MetricLogMonitor$Comparison", "reach", "(LMetricLogMonitor$Log;)I"⟩ prog_3_method_3_code 2 (Option.some Jvm.ClassFile.FieldType.int) ∈ WALL := List.mem_filter.mpr ⟨in_T3 (List.mem_of_getElem? (i := 56) rfl), rfl⟩
theorem q_537 : Cond.selects "MetricLogMonitor$Exists" ⟨"MetricLogMonitor$Formula", "reach", "(LMetricLogMonitor$Log;)I"⟩ ⟨"MetricLogMonitor$Exists", "reach", "(LMetricLogMonitor$Log;)I"⟩ ∈ WALL := List.mem_filter.mpr ⟨in_T3 (List.mem_of_getElem? (i := 57) rfl), rfl⟩
theorem q_538 : Cond.instanceMethod ⟨"MetricLogMonitor$Exists", "reach", "(LMetricLogMonitor$Log;)I"⟩ ∈ WALL := List.mem_filter.mpr ⟨in_T3 (List.mem_of_getElem? (i := 58) rfl), rfl⟩
theorem q_539 : Cond.code ⟨"MetricLogMonitor$Exists", "reach", "(LMetricLogMonitor$Log;)I"⟩ prog_4_method_2_code 2 (Option.some Jvm.ClassFile.FieldType.int) ∈ WALL := List.mem_filter.mpr ⟨in_T3 (List.mem_of_getElem? (i := 59) rfl), rfl⟩
theorem q_540 : Cond.selects "MetricLogMonitor$Join" ⟨"MetricLogMonitor$Formula", "reach", "(LMetricLogMonitor$Log;)I"⟩ ⟨"MetricLogMonitor$Join", "reach", "(LMetricLogMonitor$Log;)I"⟩ ∈ WALL := List.mem_filter.mpr ⟨in_T3 (List.mem_of_getElem? (i := 60) rfl), rfl⟩
theorem q_541 : Cond.instanceMethod ⟨"MetricLogMonitor$Join", "reach", "(LMetricLogMonitor$Log;)I"⟩ ∈ WALL := List.mem_filter.mpr ⟨in_T3 (List.mem_of_getElem? (i := 61) rfl), rfl⟩
theorem q_542 : Cond.code ⟨"MetricLogMonitor$Join", "reach", "(LMetricLogMonitor$Log;)I"⟩ prog_6_method_3_code 2 (Option.some Jvm.ClassFile.FieldType.int) ∈ WALL := List.mem_filter.mpr ⟨in_T3 (List.mem_of_getElem? (i := 62) rfl), rfl⟩
theorem q_543 : Cond.methodLink "MetricLogMonitor$Join" 37 ⟨"java/lang/Math", "min", "(II)I"⟩ ∈ WALL := List.mem_filter.mpr ⟨in_T3 (List.mem_of_getElem? (i := 63) rfl), rfl⟩
theorem q_544 : Cond.selects "MetricLogMonitor$Not" ⟨"MetricLogMonitor$Formula", "reach", "(LMetricLogMonitor$Log;)I"⟩ ⟨"MetricLogMonitor$Not", "reach", "(LMetricLogMonitor$Log;)I"⟩ ∈ WALL := List.mem_filter.mpr ⟨in_T3 (List.mem_of_getElem? (i := 64) rfl), rfl⟩
theorem q_545 : Cond.instanceMethod ⟨"MetricLogMonitor$Not", "reach", "(LMetricLogMonitor$Log;)I"⟩ ∈ WALL := List.mem_filter.mpr ⟨in_T3 (List.mem_of_getElem? (i := 65) rfl), rfl⟩
theorem q_546 : Cond.code ⟨"MetricLogMonitor$Not", "reach", "(LMetricLogMonitor$Log;)I"⟩ prog_8_method_2_code 2 (Option.some Jvm.ClassFile.FieldType.int) ∈ WALL := List.mem_filter.mpr ⟨in_T3 (List.mem_of_getElem? (i := 66) rfl), rfl⟩
theorem q_547 : Cond.selects "MetricLogMonitor$Previous" ⟨"MetricLogMonitor$Formula", "reach", "(LMetricLogMonitor$Log;)I"⟩ ⟨"MetricLogMonitor$Previous", "reach", "(LMetricLogMonitor$Log;)I"⟩ ∈ WALL := List.mem_filter.mpr ⟨in_T3 (List.mem_of_getElem? (i := 67) rfl), rfl⟩
theorem q_548 : Cond.instanceMethod ⟨"MetricLogMonitor$Previous", "reach", "(LMetricLogMonitor$Log;)I"⟩ ∈ WALL := List.mem_filter.mpr ⟨in_T3 (List.mem_of_getElem? (i := 68) rfl), rfl⟩
theorem q_549 : Cond.code ⟨"MetricLogMonitor$Previous", "reach", "(LMetricLogMonitor$Log;)I"⟩ prog_9_method_2_code 2 (Option.some Jvm.ClassFile.FieldType.int) ∈ WALL := List.mem_filter.mpr ⟨in_T3 (List.mem_of_getElem? (i := 69) rfl), rfl⟩
theorem q_550 : Cond.methodLink "MetricLogMonitor$Previous" 38 ⟨"java/lang/Math", "min", "(II)I"⟩ ∈ WALL := List.mem_filter.mpr ⟨in_T3 (List.mem_of_getElem? (i := 70) rfl), rfl⟩
theorem q_551 : Cond.selects "MetricLogMonitor$Since" ⟨"MetricLogMonitor$Formula", "reach", "(LMetricLogMonitor$Log;)I"⟩ ⟨"MetricLogMonitor$Since", "reach", "(LMetricLogMonitor$Log;)I"⟩ ∈ WALL := List.mem_filter.mpr ⟨in_T3 (List.mem_of_getElem? (i := 71) rfl), rfl⟩
theorem q_552 : Cond.instanceMethod ⟨"MetricLogMonitor$Since", "reach", "(LMetricLogMonitor$Log;)I"⟩ ∈ WALL := List.mem_filter.mpr ⟨in_T3 (List.mem_of_getElem? (i := 72) rfl), rfl⟩
theorem q_553 : Cond.code ⟨"MetricLogMonitor$Since", "reach", "(LMetricLogMonitor$Log;)I"⟩ prog_10_method_2_code 2 (Option.some Jvm.ClassFile.FieldType.int) ∈ WALL := List.mem_filter.mpr ⟨in_T3 (List.mem_of_getElem? (i := 73) rfl), rfl⟩
theorem q_554 : Cond.methodLink "MetricLogMonitor$Since" 38 ⟨"java/lang/Math", "min", "(II)I"⟩ ∈ WALL := List.mem_filter.mpr ⟨in_T3 (List.mem_of_getElem? (i := 74) rfl), rfl⟩
theorem q_555 : Cond.selects "MetricLogMonitor$Until" ⟨"MetricLogMonitor$Formula", "reach", "(LMetricLogMonitor$Log;)I"⟩ ⟨"MetricLogMonitor$Until", "reach", "(LMetricLogMonitor$Log;)I"⟩ ∈ WALL := List.mem_filter.mpr ⟨in_T3 (List.mem_of_getElem? (i := 75) rfl), rfl⟩
theorem q_556 : Cond.instanceMethod ⟨"MetricLogMonitor$Until", "reach", "(LMetricLogMonitor$Log;)I"⟩ ∈ WALL := List.mem_filter.mpr ⟨in_T3 (List.mem_of_getElem? (i := 76) rfl), rfl⟩
theorem q_557 : Cond.code ⟨"MetricLogMonitor$Until", "reach", "(LMetricLogMonitor$Log;)I"⟩ prog_11_method_2_code 5 (Option.some Jvm.ClassFile.FieldType.int) ∈ WALL := List.mem_filter.mpr ⟨in_T3 (List.mem_of_getElem? (i := 77) rfl), rfl⟩
theorem q_558 : Cond.methodLink "MetricLogMonitor$Until" 38 ⟨"java/lang/Math", "min", "(II)I"⟩ ∈ WALL := List.mem_filter.mpr ⟨in_T3 (List.mem_of_getElem? (i := 78) rfl), rfl⟩
theorem q_559 : Cond.methodLink "MetricLogMonitor$Until" 49 ⟨"MetricLogMonitor$Log", "duration", "(II)I"⟩ ∈ WALL := List.mem_filter.mpr ⟨in_T3 (List.mem_of_getElem? (i := 79) rfl), rfl⟩
theorem q_560 : Cond.instanceMethod ⟨"MetricLogMonitor$Log", "duration", "(II)I"⟩ ∈ WALL := List.mem_filter.mpr ⟨in_T3 (List.mem_of_getElem? (i := 80) rfl), rfl⟩
theorem q_561 : Cond.selects "MetricLogMonitor$Log" ⟨"MetricLogMonitor$Log", "duration", "(II)I"⟩ ⟨"MetricLogMonitor$Log", "duration", "(II)I"⟩ ∈ WALL := List.mem_filter.mpr ⟨in_T3 (List.mem_of_getElem? (i := 81) rfl), rfl⟩
theorem q_562 : Cond.code ⟨"MetricLogMonitor$Log", "duration", "(II)I"⟩ prog_7_method_6_code 3 (Option.some Jvm.ClassFile.FieldType.int) ∈ WALL := List.mem_filter.mpr ⟨in_T3 (List.mem_of_getElem? (i := 82) rfl), rfl⟩
theorem q_563 : Cond.methodLink "MetricLogMonitor$Formula" 30 ⟨"java/lang/Math", "min", "(II)I"⟩ ∈ WALL := List.mem_filter.mpr ⟨in_T3 (List.mem_of_getElem? (i := 83) rfl), rfl⟩
theorem q_564 : Cond.methodLink "MetricLogMonitor$Formula" 39 ⟨"MetricLogMonitor$Formula", "evaluate", "(LMetricLogMonitor$Log;I)J"⟩ ∈ WALL := List.mem_filter.mpr ⟨in_T3 (List.mem_of_getElem? (i := 84) rfl), rfl⟩
theorem qn_565 : Cond.declares ⟨"MetricLogMonitor$Formula", "evaluate", "(LMetricLogMonitor$Log;I)J"⟩ ∈ NALL := List.mem_filter.mpr ⟨in_T3 (List.mem_of_getElem? (i := 85) rfl), rfl⟩
theorem q_566 : Cond.sameMethod "MetricLogMonitor$Formula" "MetricLogMonitor$Formula" "evaluate" "(LMetricLogMonitor$Log;I)J" ∈ WALL := List.mem_filter.mpr ⟨in_T3 (List.mem_of_getElem? (i := 86) rfl), rfl⟩
theorem q_567 : Cond.selects "MetricLogMonitor$Atom" ⟨"MetricLogMonitor$Formula", "evaluate", "(LMetricLogMonitor$Log;I)J"⟩ ⟨"MetricLogMonitor$Atom", "evaluate", "(LMetricLogMonitor$Log;I)J"⟩ ∈ WALL := List.mem_filter.mpr ⟨in_T3 (List.mem_of_getElem? (i := 87) rfl), rfl⟩
theorem q_568 : Cond.instanceMethod ⟨"MetricLogMonitor$Atom", "evaluate", "(LMetricLogMonitor$Log;I)J"⟩ ∈ WALL := List.mem_filter.mpr ⟨in_T3 (List.mem_of_getElem? (i := 88) rfl), rfl⟩
theorem q_569 : Cond.code ⟨"MetricLogMonitor$Atom", "evaluate", "(LMetricLogMonitor$Log;I)J"⟩ prog_2_method_3_code 6 (Option.some Jvm.ClassFile.FieldType.long) ∈ WALL := List.mem_filter.mpr ⟨in_T3 (List.mem_of_getElem? (i := 89) rfl), rfl⟩
theorem qn_570 : Cond.methodLinkNest "MetricLogMonitor$Atom" 34 ⟨"MetricLogMonitor", "valueOf", "(II)I"⟩ "MetricLogMonitor" ∈ NALL := List.mem_filter.mpr ⟨in_T3 (List.mem_of_getElem? (i := 90) rfl), rfl⟩
theorem q_571 : Cond.static ⟨"MetricLogMonitor", "valueOf", "(II)I"⟩ ∈ WALL := List.mem_filter.mpr ⟨in_T3 (List.mem_of_getElem? (i := 91) rfl), rfl⟩
theorem q_572 : Cond.code ⟨"MetricLogMonitor", "valueOf", "(II)I"⟩ prog_1_method_32_code 2 (Option.some Jvm.ClassFile.FieldType.int) ∈ WALL := List.mem_filter.mpr ⟨in_T3 (List.mem_of_getElem? (i := 92) rfl), rfl⟩
theorem qn_573 : Cond.methodLinkNest "MetricLogMonitor$Atom" 37 ⟨"MetricLogMonitor", "pairBit", "(III)J"⟩ "MetricLogMonitor" ∈ NALL := List.mem_filter.mpr ⟨in_T3 (List.mem_of_getElem? (i := 93) rfl), rfl⟩
theorem q_574 : Cond.selects "MetricLogMonitor$Comparison" ⟨"MetricLogMonitor$Formula", "evaluate", "(LMetricLogMonitor$Log;I)J"⟩ ⟨"MetricLogMonitor$Comparison", "evaluate", "(LMetricLogMonitor$Log;I)J"⟩ ∈ WALL := List.mem_filter.mpr ⟨in_T3 (List.mem_of_getElem? (i := 94) rfl), rfl⟩
theorem q_575 : Cond.instanceMethod ⟨"MetricLogMonitor$Comparison", "evaluate", "(LMetricLogMonitor$Log;I)J"⟩ ∈ WALL := List.mem_filter.mpr ⟨in_T3 (List.mem_of_getElem? (i := 95) rfl), rfl⟩
theorem q_576 : Cond.code ⟨"MetricLogMonitor$Comparison", "evaluate", "(LMetricLogMonitor$Log;I)J"⟩ prog_3_method_4_code 8 (Option.some Jvm.ClassFile.FieldType.long) ∈ WALL := List.mem_filter.mpr ⟨in_T3 (List.mem_of_getElem? (i := 96) rfl), rfl⟩
theorem qn_577 : Cond.methodLinkNest "MetricLogMonitor$Comparison" 39 ⟨"MetricLogMonitor", "valueOf", "(II)I"⟩ "MetricLogMonitor" ∈ NALL := List.mem_filter.mpr ⟨in_T3 (List.mem_of_getElem? (i := 97) rfl), rfl⟩
theorem q_578 : Cond.selects "MetricLogMonitor$Exists" ⟨"MetricLogMonitor$Formula", "evaluate", "(LMetricLogMonitor$Log;I)J"⟩ ⟨"MetricLogMonitor$Exists", "evaluate", "(LMetricLogMonitor$Log;I)J"⟩ ∈ WALL := List.mem_filter.mpr ⟨in_T3 (List.mem_of_getElem? (i := 98) rfl), rfl⟩
theorem q_579 : Cond.instanceMethod ⟨"MetricLogMonitor$Exists", "evaluate", "(LMetricLogMonitor$Log;I)J"⟩ ∈ WALL := List.mem_filter.mpr ⟨in_T3 (List.mem_of_getElem? (i := 99) rfl), rfl⟩
theorem q_580 : Cond.code ⟨"MetricLogMonitor$Exists", "evaluate", "(LMetricLogMonitor$Log;I)J"⟩ prog_4_method_3_code 3 (Option.some Jvm.ClassFile.FieldType.long) ∈ WALL := List.mem_filter.mpr ⟨in_T3 (List.mem_of_getElem? (i := 100) rfl), rfl⟩
theorem q_581 : Cond.methodLink "MetricLogMonitor$Exists" 36 ⟨"MetricLogMonitor$Formula", "setAt", "(I)J"⟩ ∈ WALL := List.mem_filter.mpr ⟨in_T3 (List.mem_of_getElem? (i := 101) rfl), rfl⟩
theorem q_582 : Cond.instanceMethod ⟨"MetricLogMonitor$Formula", "setAt", "(I)J"⟩ ∈ WALL := List.mem_filter.mpr ⟨in_T3 (List.mem_of_getElem? (i := 102) rfl), rfl⟩
theorem q_583 : Cond.sameMethod "MetricLogMonitor$Formula" "MetricLogMonitor$Formula" "setAt" "(I)J" ∈ WALL := List.mem_filter.mpr ⟨in_T3 (List.mem_of_getElem? (i := 103) rfl), rfl⟩
theorem q_584 : Cond.selects "MetricLogMonitor$Atom" ⟨"MetricLogMonitor$Formula", "setAt", "(I)J"⟩ ⟨"MetricLogMonitor$Formula", "setAt", "(I)J"⟩ ∈ WALL := List.mem_filter.mpr ⟨in_T3 (List.mem_of_getElem? (i := 104) rfl), rfl⟩
theorem q_585 : Cond.selects "MetricLogMonitor$Comparison" ⟨"MetricLogMonitor$Formula", "setAt", "(I)J"⟩ ⟨"MetricLogMonitor$Formula", "setAt", "(I)J"⟩ ∈ WALL := List.mem_filter.mpr ⟨in_T3 (List.mem_of_getElem? (i := 105) rfl), rfl⟩
theorem q_586 : Cond.selects "MetricLogMonitor$Exists" ⟨"MetricLogMonitor$Formula", "setAt", "(I)J"⟩ ⟨"MetricLogMonitor$Formula", "setAt", "(I)J"⟩ ∈ WALL := List.mem_filter.mpr ⟨in_T3 (List.mem_of_getElem? (i := 106) rfl), rfl⟩
theorem q_587 : Cond.selects "MetricLogMonitor$Join" ⟨"MetricLogMonitor$Formula", "setAt", "(I)J"⟩ ⟨"MetricLogMonitor$Formula", "setAt", "(I)J"⟩ ∈ WALL := List.mem_filter.mpr ⟨in_T3 (List.mem_of_getElem? (i := 107) rfl), rfl⟩
theorem q_588 : Cond.selects "MetricLogMonitor$Not" ⟨"MetricLogMonitor$Formula", "setAt", "(I)J"⟩ ⟨"MetricLogMonitor$Formula", "setAt", "(I)J"⟩ ∈ WALL := List.mem_filter.mpr ⟨in_T3 (List.mem_of_getElem? (i := 108) rfl), rfl⟩
theorem q_589 : Cond.selects "MetricLogMonitor$Previous" ⟨"MetricLogMonitor$Formula", "setAt", "(I)J"⟩ ⟨"MetricLogMonitor$Formula", "setAt", "(I)J"⟩ ∈ WALL := List.mem_filter.mpr ⟨in_T3 (List.mem_of_getElem? (i := 109) rfl), rfl⟩
theorem q_590 : Cond.selects "MetricLogMonitor$Since" ⟨"MetricLogMonitor$Formula", "setAt", "(I)J"⟩ ⟨"MetricLogMonitor$Formula", "setAt", "(I)J"⟩ ∈ WALL := List.mem_filter.mpr ⟨in_T3 (List.mem_of_getElem? (i := 110) rfl), rfl⟩
theorem q_591 : Cond.selects "MetricLogMonitor$Until" ⟨"MetricLogMonitor$Formula", "setAt", "(I)J"⟩ ⟨"MetricLogMonitor$Formula", "setAt", "(I)J"⟩ ∈ WALL := List.mem_filter.mpr ⟨in_T3 (List.mem_of_getElem? (i := 111) rfl), rfl⟩
theorem q_592 : Cond.code ⟨"MetricLogMonitor$Formula", "setAt", "(I)J"⟩ prog_5_method_8_code 2 (Option.some Jvm.ClassFile.FieldType.long) ∈ WALL := List.mem_filter.mpr ⟨in_T3 (List.mem_of_getElem? (i := 112) rfl), rfl⟩
theorem q_593 : Cond.methodLink "MetricLogMonitor$Formula" 43 ⟨"MetricLogMonitor$Formula", "isDecidedAt", "(I)Z"⟩ ∈ WALL := List.mem_filter.mpr ⟨in_T3 (List.mem_of_getElem? (i := 113) rfl), rfl⟩
theorem q_594 : Cond.instanceMethod ⟨"MetricLogMonitor$Formula", "isDecidedAt", "(I)Z"⟩ ∈ WALL := List.mem_filter.mpr ⟨in_T3 (List.mem_of_getElem? (i := 114) rfl), rfl⟩
theorem q_595 : Cond.sameMethod "MetricLogMonitor$Formula" "MetricLogMonitor$Formula" "isDecidedAt" "(I)Z" ∈ WALL := List.mem_filter.mpr ⟨in_T3 (List.mem_of_getElem? (i := 115) rfl), rfl⟩
theorem q_596 : Cond.selects "MetricLogMonitor$Atom" ⟨"MetricLogMonitor$Formula", "isDecidedAt", "(I)Z"⟩ ⟨"MetricLogMonitor$Formula", "isDecidedAt", "(I)Z"⟩ ∈ WALL := List.mem_filter.mpr ⟨in_T3 (List.mem_of_getElem? (i := 116) rfl), rfl⟩
theorem q_597 : Cond.selects "MetricLogMonitor$Comparison" ⟨"MetricLogMonitor$Formula", "isDecidedAt", "(I)Z"⟩ ⟨"MetricLogMonitor$Formula", "isDecidedAt", "(I)Z"⟩ ∈ WALL := List.mem_filter.mpr ⟨in_T3 (List.mem_of_getElem? (i := 117) rfl), rfl⟩
theorem q_598 : Cond.selects "MetricLogMonitor$Exists" ⟨"MetricLogMonitor$Formula", "isDecidedAt", "(I)Z"⟩ ⟨"MetricLogMonitor$Formula", "isDecidedAt", "(I)Z"⟩ ∈ WALL := List.mem_filter.mpr ⟨in_T3 (List.mem_of_getElem? (i := 118) rfl), rfl⟩
theorem q_599 : Cond.selects "MetricLogMonitor$Join" ⟨"MetricLogMonitor$Formula", "isDecidedAt", "(I)Z"⟩ ⟨"MetricLogMonitor$Formula", "isDecidedAt", "(I)Z"⟩ ∈ WALL := List.mem_filter.mpr ⟨in_T3 (List.mem_of_getElem? (i := 119) rfl), rfl⟩
theorem q_600 : Cond.selects "MetricLogMonitor$Not" ⟨"MetricLogMonitor$Formula", "isDecidedAt", "(I)Z"⟩ ⟨"MetricLogMonitor$Formula", "isDecidedAt", "(I)Z"⟩ ∈ WALL := List.mem_filter.mpr ⟨in_T3 (List.mem_of_getElem? (i := 120) rfl), rfl⟩
theorem q_601 : Cond.selects "MetricLogMonitor$Previous" ⟨"MetricLogMonitor$Formula", "isDecidedAt", "(I)Z"⟩ ⟨"MetricLogMonitor$Formula", "isDecidedAt", "(I)Z"⟩ ∈ WALL := List.mem_filter.mpr ⟨in_T3 (List.mem_of_getElem? (i := 121) rfl), rfl⟩
theorem q_602 : Cond.selects "MetricLogMonitor$Since" ⟨"MetricLogMonitor$Formula", "isDecidedAt", "(I)Z"⟩ ⟨"MetricLogMonitor$Formula", "isDecidedAt", "(I)Z"⟩ ∈ WALL := List.mem_filter.mpr ⟨in_T3 (List.mem_of_getElem? (i := 122) rfl), rfl⟩
theorem q_603 : Cond.selects "MetricLogMonitor$Until" ⟨"MetricLogMonitor$Formula", "isDecidedAt", "(I)Z"⟩ ⟨"MetricLogMonitor$Formula", "isDecidedAt", "(I)Z"⟩ ∈ WALL := List.mem_filter.mpr ⟨in_T3 (List.mem_of_getElem? (i := 123) rfl), rfl⟩
theorem q_604 : Cond.code ⟨"MetricLogMonitor$Formula", "isDecidedAt", "(I)Z"⟩ prog_5_method_7_code 2 (Option.some Jvm.ClassFile.FieldType.boolean) ∈ WALL := List.mem_filter.mpr ⟨in_T3 (List.mem_of_getElem? (i := 124) rfl), rfl⟩
theorem qn_605 : Cond.methodLinkNest "MetricLogMonitor$Exists" 40 ⟨"MetricLogMonitor", "fold", "(IJ)J"⟩ "MetricLogMonitor" ∈ NALL := List.mem_filter.mpr ⟨in_T3 (List.mem_of_getElem? (i := 125) rfl), rfl⟩
theorem q_606 : Cond.static ⟨"MetricLogMonitor", "fold", "(IJ)J"⟩ ∈ WALL := List.mem_filter.mpr ⟨in_T3 (List.mem_of_getElem? (i := 126) rfl), rfl⟩
theorem q_607 : Cond.code ⟨"MetricLogMonitor", "fold", "(IJ)J"⟩ prog_1_method_36_code 4 (Option.some Jvm.ClassFile.FieldType.long) ∈ WALL := List.mem_filter.mpr ⟨in_T3 (List.mem_of_getElem? (i := 127) rfl), rfl⟩
theorem q_608 : Cond.fieldLink "MetricLogMonitor" 182 "MetricLogMonitor" "ZERO_AT" "[J" ∈ WALL := List.mem_filter.mpr ⟨in_T3 (List.mem_of_getElem? (i := 128) rfl), rfl⟩
theorem qn_610 : Cond.methodLinkNest "MetricLogMonitor$Exists" 44 ⟨"MetricLogMonitor", "unfold", "(IJ)J"⟩ "MetricLogMonitor" ∈ NALL := List.mem_filter.mpr ⟨in_T3 (List.mem_of_getElem? (i := 130) rfl), rfl⟩
theorem q_611 : Cond.static ⟨"MetricLogMonitor", "unfold", "(IJ)J"⟩ ∈ WALL := List.mem_filter.mpr ⟨in_T3 (List.mem_of_getElem? (i := 131) rfl), rfl⟩
theorem q_612 : Cond.code ⟨"MetricLogMonitor", "unfold", "(IJ)J"⟩ prog_1_method_37_code 4 (Option.some Jvm.ClassFile.FieldType.long) ∈ WALL := List.mem_filter.mpr ⟨in_T3 (List.mem_of_getElem? (i := 132) rfl), rfl⟩
theorem q_613 : Cond.selects "MetricLogMonitor$Join" ⟨"MetricLogMonitor$Formula", "evaluate", "(LMetricLogMonitor$Log;I)J"⟩ ⟨"MetricLogMonitor$Join", "evaluate", "(LMetricLogMonitor$Log;I)J"⟩ ∈ WALL := List.mem_filter.mpr ⟨in_T3 (List.mem_of_getElem? (i := 133) rfl), rfl⟩
theorem q_614 : Cond.instanceMethod ⟨"MetricLogMonitor$Join", "evaluate", "(LMetricLogMonitor$Log;I)J"⟩ ∈ WALL := List.mem_filter.mpr ⟨in_T3 (List.mem_of_getElem? (i := 134) rfl), rfl⟩
theorem q_615 : Cond.code ⟨"MetricLogMonitor$Join", "evaluate", "(LMetricLogMonitor$Log;I)J"⟩ prog_6_method_4_code 3 (Option.some Jvm.ClassFile.FieldType.long) ∈ WALL := List.mem_filter.mpr ⟨in_T3 (List.mem_of_getElem? (i := 135) rfl), rfl⟩
theorem q_616 : Cond.methodLink "MetricLogMonitor$Join" 43 ⟨"MetricLogMonitor$Formula", "setAt", "(I)J"⟩ ∈ WALL := List.mem_filter.mpr ⟨in_T3 (List.mem_of_getElem? (i := 136) rfl), rfl⟩
theorem q_617 : Cond.selects "MetricLogMonitor$Not" ⟨"MetricLogMonitor$Formula", "evaluate", "(LMetricLogMonitor$Log;I)J"⟩ ⟨"MetricLogMonitor$Not", "evaluate", "(LMetricLogMonitor$Log;I)J"⟩ ∈ WALL := List.mem_filter.mpr ⟨in_T3 (List.mem_of_getElem? (i := 137) rfl), rfl⟩
theorem q_618 : Cond.instanceMethod ⟨"MetricLogMonitor$Not", "evaluate", "(LMetricLogMonitor$Log;I)J"⟩ ∈ WALL := List.mem_filter.mpr ⟨in_T3 (List.mem_of_getElem? (i := 138) rfl), rfl⟩
theorem q_619 : Cond.code ⟨"MetricLogMonitor$Not", "evaluate", "(LMetricLogMonitor$Log;I)J"⟩ prog_8_method_3_code 3 (Option.some Jvm.ClassFile.FieldType.long) ∈ WALL := List.mem_filter.mpr ⟨in_T3 (List.mem_of_getElem? (i := 139) rfl), rfl⟩
theorem q_620 : Cond.methodLink "MetricLogMonitor$Not" 24 ⟨"MetricLogMonitor$Formula", "setAt", "(I)J"⟩ ∈ WALL := List.mem_filter.mpr ⟨in_T3 (List.mem_of_getElem? (i := 140) rfl), rfl⟩
theorem q_621 : Cond.constantLong "MetricLogMonitor$Not" 28 (-1) ∈ WALL := List.mem_filter.mpr ⟨in_T3 (List.mem_of_getElem? (i := 141) rfl), rfl⟩
theorem q_622 : Cond.selects "MetricLogMonitor$Previous" ⟨"MetricLogMonitor$Formula", "evaluate", "(LMetricLogMonitor$Log;I)J"⟩ ⟨"MetricLogMonitor$Previous", "evaluate", "(LMetricLogMonitor$Log;I)J"⟩ ∈ WALL := List.mem_filter.mpr ⟨in_T3 (List.mem_of_getElem? (i := 142) rfl), rfl⟩
theorem q_623 : Cond.instanceMethod ⟨"MetricLogMonitor$Previous", "evaluate", "(LMetricLogMonitor$Log;I)J"⟩ ∈ WALL := List.mem_filter.mpr ⟨in_T3 (List.mem_of_getElem? (i := 143) rfl), rfl⟩
theorem q_624 : Cond.code ⟨"MetricLogMonitor$Previous", "evaluate", "(LMetricLogMonitor$Log;I)J"⟩ prog_9_method_3_code 3 (Option.some Jvm.ClassFile.FieldType.long) ∈ WALL := List.mem_filter.mpr ⟨in_T3 (List.mem_of_getElem? (i := 144) rfl), rfl⟩
theorem q_625 : Cond.methodLink "MetricLogMonitor$Previous" 44 ⟨"MetricLogMonitor$Log", "duration", "(II)I"⟩ ∈ WALL := List.mem_filter.mpr ⟨in_T3 (List.mem_of_getElem? (i := 145) rfl), rfl⟩
theorem qn_626 : Cond.methodLinkNest "MetricLogMonitor$Previous" 47 ⟨"MetricLogMonitor", "liesIn", "(III)Z"⟩ "MetricLogMonitor" ∈ NALL := List.mem_filter.mpr ⟨in_T3 (List.mem_of_getElem? (i := 146) rfl), rfl⟩
theorem q_627 : Cond.static ⟨"MetricLogMonitor", "liesIn", "(III)Z"⟩ ∈ WALL := List.mem_filter.mpr ⟨in_T3 (List.mem_of_getElem? (i := 147) rfl), rfl⟩
theorem q_628 : Cond.code ⟨"MetricLogMonitor", "liesIn", "(III)Z"⟩ prog_1_method_31_code 3 (Option.some Jvm.ClassFile.FieldType.boolean) ∈ WALL := List.mem_filter.mpr ⟨in_T3 (List.mem_of_getElem? (i := 148) rfl), rfl⟩
theorem q_629 : Cond.methodLink "MetricLogMonitor$Previous" 53 ⟨"MetricLogMonitor$Formula", "setAt", "(I)J"⟩ ∈ WALL := List.mem_filter.mpr ⟨in_T3 (List.mem_of_getElem? (i := 149) rfl), rfl⟩
theorem q_630 : Cond.selects "MetricLogMonitor$Since" ⟨"MetricLogMonitor$Formula", "evaluate", "(LMetricLogMonitor$Log;I)J"⟩ ⟨"MetricLogMonitor$Since", "evaluate", "(LMetricLogMonitor$Log;I)J"⟩ ∈ WALL := List.mem_filter.mpr ⟨in_T3 (List.mem_of_getElem? (i := 150) rfl), rfl⟩
theorem q_631 : Cond.instanceMethod ⟨"MetricLogMonitor$Since", "evaluate", "(LMetricLogMonitor$Log;I)J"⟩ ∈ WALL := List.mem_filter.mpr ⟨in_T3 (List.mem_of_getElem? (i := 151) rfl), rfl⟩
theorem q_632 : Cond.code ⟨"MetricLogMonitor$Since", "evaluate", "(LMetricLogMonitor$Log;I)J"⟩ prog_10_method_3_code 8 (Option.some Jvm.ClassFile.FieldType.long) ∈ WALL := List.mem_filter.mpr ⟨in_T3 (List.mem_of_getElem? (i := 152) rfl), rfl⟩
theorem q_633 : Cond.constantLong "MetricLogMonitor$Since" 44 (-1) ∈ WALL := List.mem_filter.mpr ⟨in_T3 (List.mem_of_getElem? (i := 153) rfl), rfl⟩
theorem q_634 : Cond.methodLink "MetricLogMonitor$Since" 46 ⟨"MetricLogMonitor$Log", "duration", "(II)I"⟩ ∈ WALL := List.mem_filter.mpr ⟨in_T3 (List.mem_of_getElem? (i := 154) rfl), rfl⟩
theorem qn_635 : Cond.methodLinkNest "MetricLogMonitor$Since" 51 ⟨"MetricLogMonitor", "liesIn", "(III)Z"⟩ "MetricLogMonitor" ∈ NALL := List.mem_filter.mpr ⟨in_T3 (List.mem_of_getElem? (i := 155) rfl), rfl⟩
theorem q_636 : Cond.methodLink "MetricLogMonitor$Since" 55 ⟨"MetricLogMonitor$Formula", "setAt", "(I)J"⟩ ∈ WALL := List.mem_filter.mpr ⟨in_T3 (List.mem_of_getElem? (i := 156) rfl), rfl⟩
theorem q_637 : Cond.selects "MetricLogMonitor$Until" ⟨"MetricLogMonitor$Formula", "evaluate", "(LMetricLogMonitor$Log;I)J"⟩ ⟨"MetricLogMonitor$Until", "evaluate", "(LMetricLogMonitor$Log;I)J"⟩ ∈ WALL := List.mem_filter.mpr ⟨in_T3 (List.mem_of_getElem? (i := 157) rfl), rfl⟩
theorem q_638 : Cond.instanceMethod ⟨"MetricLogMonitor$Until", "evaluate", "(LMetricLogMonitor$Log;I)J"⟩ ∈ WALL := List.mem_filter.mpr ⟨in_T3 (List.mem_of_getElem? (i := 158) rfl), rfl⟩
theorem q_639 : Cond.code ⟨"MetricLogMonitor$Until", "evaluate", "(LMetricLogMonitor$Log;I)J"⟩ prog_11_method_3_code 8 (Option.some Jvm.ClassFile.FieldType.long) ∈ WALL := List.mem_filter.mpr ⟨in_T3 (List.mem_of_getElem? (i := 159) rfl), rfl⟩
theorem q_640 : Cond.constantLong "MetricLogMonitor$Until" 52 (-1) ∈ WALL := List.mem_filter.mpr ⟨in_T3 (List.mem_of_getElem? (i := 160) rfl), rfl⟩
theorem q_641 : Cond.methodLink "MetricLogMonitor$Until" 54 ⟨"MetricLogMonitor$Formula", "setAt", "(I)J"⟩ ∈ WALL := List.mem_filter.mpr ⟨in_T3 (List.mem_of_getElem? (i := 161) rfl), rfl⟩
theorem q_642 : Cond.methodLink "MetricLogMonitorLaw" 77 ⟨"MetricLogMonitor", "stop", "(Z)V"⟩ ∈ WALL := List.mem_filter.mpr ⟨in_T3 (List.mem_of_getElem? (i := 162) rfl), rfl⟩
theorem q_643 : Cond.instanceMethod ⟨"MetricLogMonitor", "stop", "(Z)V"⟩ ∈ WALL := List.mem_filter.mpr ⟨in_T3 (List.mem_of_getElem? (i := 163) rfl), rfl⟩
theorem q_644 : Cond.selects "MetricLogMonitor" ⟨"MetricLogMonitor", "stop", "(Z)V"⟩ ⟨"MetricLogMonitor", "stop", "(Z)V"⟩ ∈ WALL := List.mem_filter.mpr ⟨in_T3 (List.mem_of_getElem? (i := 164) rfl), rfl⟩
theorem q_645 : Cond.code ⟨"MetricLogMonitor", "stop", "(Z)V"⟩ prog_1_method_16_code 3 (Option.none : Option Jvm.ClassFile.FieldType) ∈ WALL := List.mem_filter.mpr ⟨in_T3 (List.mem_of_getElem? (i := 165) rfl), rfl⟩
theorem q_646 : Cond.methodLink "MetricLogMonitor" 141 ⟨"MetricLogMonitor$Log", "clear", "()V"⟩ ∈ WALL := List.mem_filter.mpr ⟨in_T3 (List.mem_of_getElem? (i := 166) rfl), rfl⟩
theorem q_647 : Cond.instanceMethod ⟨"MetricLogMonitor$Log", "clear", "()V"⟩ ∈ WALL := List.mem_filter.mpr ⟨in_T3 (List.mem_of_getElem? (i := 167) rfl), rfl⟩
theorem q_648 : Cond.selects "MetricLogMonitor$Log" ⟨"MetricLogMonitor$Log", "clear", "()V"⟩ ⟨"MetricLogMonitor$Log", "clear", "()V"⟩ ∈ WALL := List.mem_filter.mpr ⟨in_T3 (List.mem_of_getElem? (i := 168) rfl), rfl⟩
theorem q_649 : Cond.code ⟨"MetricLogMonitor$Log", "clear", "()V"⟩ prog_7_method_5_code 1 (Option.none : Option Jvm.ClassFile.FieldType) ∈ WALL := List.mem_filter.mpr ⟨in_T3 (List.mem_of_getElem? (i := 169) rfl), rfl⟩
theorem q_650 : Cond.methodLink "MetricLogMonitor" 144 ⟨"MetricLogMonitor$Formula", "forget", "()V"⟩ ∈ WALL := List.mem_filter.mpr ⟨in_T3 (List.mem_of_getElem? (i := 170) rfl), rfl⟩
theorem q_651 : Cond.instanceMethod ⟨"MetricLogMonitor$Formula", "forget", "()V"⟩ ∈ WALL := List.mem_filter.mpr ⟨in_T3 (List.mem_of_getElem? (i := 171) rfl), rfl⟩
theorem q_652 : Cond.sameMethod "MetricLogMonitor$Formula" "MetricLogMonitor$Formula" "forget" "()V" ∈ WALL := List.mem_filter.mpr ⟨in_T3 (List.mem_of_getElem? (i := 172) rfl), rfl⟩
theorem q_653 : Cond.selects "MetricLogMonitor$Atom" ⟨"MetricLogMonitor$Formula", "forget", "()V"⟩ ⟨"MetricLogMonitor$Formula", "forget", "()V"⟩ ∈ WALL := List.mem_filter.mpr ⟨in_T3 (List.mem_of_getElem? (i := 173) rfl), rfl⟩
theorem q_654 : Cond.selects "MetricLogMonitor$Comparison" ⟨"MetricLogMonitor$Formula", "forget", "()V"⟩ ⟨"MetricLogMonitor$Formula", "forget", "()V"⟩ ∈ WALL := List.mem_filter.mpr ⟨in_T3 (List.mem_of_getElem? (i := 174) rfl), rfl⟩
theorem q_655 : Cond.selects "MetricLogMonitor$Exists" ⟨"MetricLogMonitor$Formula", "forget", "()V"⟩ ⟨"MetricLogMonitor$Formula", "forget", "()V"⟩ ∈ WALL := List.mem_filter.mpr ⟨in_T3 (List.mem_of_getElem? (i := 175) rfl), rfl⟩
theorem q_656 : Cond.selects "MetricLogMonitor$Join" ⟨"MetricLogMonitor$Formula", "forget", "()V"⟩ ⟨"MetricLogMonitor$Formula", "forget", "()V"⟩ ∈ WALL := List.mem_filter.mpr ⟨in_T3 (List.mem_of_getElem? (i := 176) rfl), rfl⟩
theorem q_657 : Cond.selects "MetricLogMonitor$Not" ⟨"MetricLogMonitor$Formula", "forget", "()V"⟩ ⟨"MetricLogMonitor$Formula", "forget", "()V"⟩ ∈ WALL := List.mem_filter.mpr ⟨in_T3 (List.mem_of_getElem? (i := 177) rfl), rfl⟩
theorem q_658 : Cond.selects "MetricLogMonitor$Previous" ⟨"MetricLogMonitor$Formula", "forget", "()V"⟩ ⟨"MetricLogMonitor$Formula", "forget", "()V"⟩ ∈ WALL := List.mem_filter.mpr ⟨in_T3 (List.mem_of_getElem? (i := 178) rfl), rfl⟩
theorem q_659 : Cond.selects "MetricLogMonitor$Since" ⟨"MetricLogMonitor$Formula", "forget", "()V"⟩ ⟨"MetricLogMonitor$Formula", "forget", "()V"⟩ ∈ WALL := List.mem_filter.mpr ⟨in_T3 (List.mem_of_getElem? (i := 179) rfl), rfl⟩
theorem q_660 : Cond.selects "MetricLogMonitor$Until" ⟨"MetricLogMonitor$Formula", "forget", "()V"⟩ ⟨"MetricLogMonitor$Formula", "forget", "()V"⟩ ∈ WALL := List.mem_filter.mpr ⟨in_T3 (List.mem_of_getElem? (i := 180) rfl), rfl⟩
theorem q_661 : Cond.code ⟨"MetricLogMonitor$Formula", "forget", "()V"⟩ prog_5_method_5_code 1 (Option.none : Option Jvm.ClassFile.FieldType) ∈ WALL := List.mem_filter.mpr ⟨in_T3 (List.mem_of_getElem? (i := 181) rfl), rfl⟩
theorem q_662 : Cond.methodLink "MetricLogMonitor" 147 ⟨"java/util/ArrayList", "clear", "()V"⟩ ∈ WALL := List.mem_filter.mpr ⟨in_T3 (List.mem_of_getElem? (i := 182) rfl), rfl⟩
theorem q_663 : Cond.instanceMethod ⟨"java/util/ArrayList", "clear", "()V"⟩ ∈ WALL := List.mem_filter.mpr ⟨in_T3 (List.mem_of_getElem? (i := 183) rfl), rfl⟩
theorem q_664 : Cond.selects "java/util/ArrayList" ⟨"java/util/ArrayList", "clear", "()V"⟩ ⟨"java/util/ArrayList", "clear", "()V"⟩ ∈ WALL := List.mem_filter.mpr ⟨in_T3 (List.mem_of_getElem? (i := 184) rfl), rfl⟩
theorem q_665 : Cond.code ⟨"java/util/ArrayList", "clear", "()V"⟩ prog_22_method_40_code 4 (Option.none : Option Jvm.ClassFile.FieldType) ∈ WALL := List.mem_filter.mpr ⟨in_T3 (List.mem_of_getElem? (i := 185) rfl), rfl⟩
theorem q_666 : Cond.methodLink "MetricLogMonitorLaw" 82 ⟨"MetricLogMonitor", "progress", "(I)I"⟩ ∈ WALL := List.mem_filter.mpr ⟨in_T3 (List.mem_of_getElem? (i := 186) rfl), rfl⟩
theorem q_667 : Cond.instanceMethod ⟨"MetricLogMonitor", "progress", "(I)I"⟩ ∈ WALL := List.mem_filter.mpr ⟨in_T3 (List.mem_of_getElem? (i := 187) rfl), rfl⟩
theorem q_668 : Cond.selects "MetricLogMonitor" ⟨"MetricLogMonitor", "progress", "(I)I"⟩ ⟨"MetricLogMonitor", "progress", "(I)I"⟩ ∈ WALL := List.mem_filter.mpr ⟨in_T3 (List.mem_of_getElem? (i := 188) rfl), rfl⟩
theorem q_669 : Cond.code ⟨"MetricLogMonitor", "progress", "(I)I"⟩ prog_1_method_17_code 3 (Option.some Jvm.ClassFile.FieldType.int) ∈ WALL := List.mem_filter.mpr ⟨in_T3 (List.mem_of_getElem? (i := 189) rfl), rfl⟩
theorem q_670 : Cond.methodLink "MetricLogMonitorLaw" 86 ⟨"MetricLogMonitor", "satisfied", "(II)J"⟩ ∈ WALL := List.mem_filter.mpr ⟨in_T3 (List.mem_of_getElem? (i := 190) rfl), rfl⟩
theorem q_671 : Cond.instanceMethod ⟨"MetricLogMonitor", "satisfied", "(II)J"⟩ ∈ WALL := List.mem_filter.mpr ⟨in_T3 (List.mem_of_getElem? (i := 191) rfl), rfl⟩
theorem q_672 : Cond.selects "MetricLogMonitor" ⟨"MetricLogMonitor", "satisfied", "(II)J"⟩ ⟨"MetricLogMonitor", "satisfied", "(II)J"⟩ ∈ WALL := List.mem_filter.mpr ⟨in_T3 (List.mem_of_getElem? (i := 192) rfl), rfl⟩
theorem q_673 : Cond.code ⟨"MetricLogMonitor", "satisfied", "(II)J"⟩ prog_1_method_18_code 4 (Option.some Jvm.ClassFile.FieldType.long) ∈ WALL := List.mem_filter.mpr ⟨in_T3 (List.mem_of_getElem? (i := 193) rfl), rfl⟩
theorem q_674 : Cond.methodLink "MetricLogMonitor" 151 ⟨"MetricLogMonitor$Formula", "setAt", "(I)J"⟩ ∈ WALL := List.mem_filter.mpr ⟨in_T3 (List.mem_of_getElem? (i := 194) rfl), rfl⟩
theorem q_675 : Cond.methodLink "MetricLogMonitorLaw" 91 ⟨"MetricLogMonitor", "rows", "(II)I"⟩ ∈ WALL := List.mem_filter.mpr ⟨in_T3 (List.mem_of_getElem? (i := 195) rfl), rfl⟩
theorem q_676 : Cond.instanceMethod ⟨"MetricLogMonitor", "rows", "(II)I"⟩ ∈ WALL := List.mem_filter.mpr ⟨in_T3 (List.mem_of_getElem? (i := 196) rfl), rfl⟩
theorem q_677 : Cond.selects "MetricLogMonitor" ⟨"MetricLogMonitor", "rows", "(II)I"⟩ ⟨"MetricLogMonitor", "rows", "(II)I"⟩ ∈ WALL := List.mem_filter.mpr ⟨in_T3 (List.mem_of_getElem? (i := 197) rfl), rfl⟩
theorem q_678 : Cond.code ⟨"MetricLogMonitor", "rows", "(II)I"⟩ prog_1_method_19_code 7 (Option.some Jvm.ClassFile.FieldType.int) ∈ WALL := List.mem_filter.mpr ⟨in_T3 (List.mem_of_getElem? (i := 198) rfl), rfl⟩
theorem q_679 : Cond.methodLink "MetricLogMonitor" 155 ⟨"MetricLogMonitor$Formula", "isDecidedAt", "(I)Z"⟩ ∈ WALL := List.mem_filter.mpr ⟨in_T3 (List.mem_of_getElem? (i := 199) rfl), rfl⟩
theorem q_680 : Cond.methodLink "MetricLogMonitor" 162 ⟨"MetricLogMonitor", "fold", "(IJ)J"⟩ ∈ WALL := List.mem_filter.mpr ⟨in_T3 (List.mem_of_getElem? (i := 200) rfl), rfl⟩
theorem q_681 : Cond.methodLink "MetricLogMonitor" 166 ⟨"java/lang/Long", "bitCount", "(J)I"⟩ ∈ WALL := List.mem_filter.mpr ⟨in_T3 (List.mem_of_getElem? (i := 201) rfl), rfl⟩
theorem q_682 : Cond.static ⟨"java/lang/Long", "bitCount", "(J)I"⟩ ∈ WALL := List.mem_filter.mpr ⟨in_T3 (List.mem_of_getElem? (i := 202) rfl), rfl⟩
theorem q_683 : Cond.code ⟨"java/lang/Long", "bitCount", "(J)I"⟩ prog_17_method_50_code 2 (Option.some Jvm.ClassFile.FieldType.int) ∈ WALL := List.mem_filter.mpr ⟨in_T3 (List.mem_of_getElem? (i := 203) rfl), rfl⟩
theorem q_684 : Cond.constantLong "java/lang/Long" 314 6148914691236517205 ∈ WALL := List.mem_filter.mpr ⟨in_T3 (List.mem_of_getElem? (i := 204) rfl), rfl⟩
theorem q_685 : Cond.constantLong "java/lang/Long" 316 3689348814741910323 ∈ WALL := List.mem_filter.mpr ⟨in_T3 (List.mem_of_getElem? (i := 205) rfl), rfl⟩
theorem q_686 : Cond.constantLong "java/lang/Long" 318 1085102592571150095 ∈ WALL := List.mem_filter.mpr ⟨in_T3 (List.mem_of_getElem? (i := 206) rfl), rfl⟩
theorem q_687 : Cond.classLink "MetricLogMonitorLaw" 10 "MetricLogMonitorModel" ∈ WALL := List.mem_filter.mpr ⟨in_T3 (List.mem_of_getElem? (i := 207) rfl), rfl⟩
theorem q_688 : Cond.instantiable "MetricLogMonitorModel" 17 ∈ WALL := List.mem_filter.mpr ⟨in_T3 (List.mem_of_getElem? (i := 208) rfl), rfl⟩
theorem q_689 : Cond.methodLink "MetricLogMonitorLaw" 12 ⟨"MetricLogMonitorModel", "<init>", "()V"⟩ ∈ WALL := List.mem_filter.mpr ⟨in_T3 (List.mem_of_getElem? (i := 209) rfl), rfl⟩
theorem q_690 : Cond.instanceMethod ⟨"MetricLogMonitorModel", "<init>", "()V"⟩ ∈ WALL := List.mem_filter.mpr ⟨in_T3 (List.mem_of_getElem? (i := 210) rfl), rfl⟩
theorem q_691 : Cond.code ⟨"MetricLogMonitorModel", "<init>", "()V"⟩ prog_13_method_1_code 1 (Option.none : Option Jvm.ClassFile.FieldType) ∈ WALL := List.mem_filter.mpr ⟨in_T3 (List.mem_of_getElem? (i := 211) rfl), rfl⟩
theorem q_692 : Cond.methodLink "MetricLogMonitorModel" 1 ⟨"java/lang/Object", "<init>", "()V"⟩ ∈ WALL := List.mem_filter.mpr ⟨in_T3 (List.mem_of_getElem? (i := 212) rfl), rfl⟩
theorem q_693 : Cond.fieldLink "MetricLogMonitorModel" 54 "MetricLogMonitorModel" "formulas" "I" ∈ WALL := List.mem_filter.mpr ⟨in_T3 (List.mem_of_getElem? (i := 213) rfl), rfl⟩
theorem q_694 : Cond.fieldLink "MetricLogMonitorModel" 7 "MetricLogMonitorModel" "kind" "[I" ∈ WALL := List.mem_filter.mpr ⟨in_T3 (List.mem_of_getElem? (i := 214) rfl), rfl⟩
theorem q_695 : Cond.fieldLink "MetricLogMonitorModel" 13 "MetricLogMonitorModel" "which" "[I" ∈ WALL := List.mem_filter.mpr ⟨in_T3 (List.mem_of_getElem? (i := 215) rfl), rfl⟩
theorem q_696 : Cond.fieldLink "MetricLogMonitorModel" 16 "MetricLogMonitorModel" "first" "[I" ∈ WALL := List.mem_filter.mpr ⟨in_T3 (List.mem_of_getElem? (i := 216) rfl), rfl⟩
theorem q_697 : Cond.fieldLink "MetricLogMonitorModel" 19 "MetricLogMonitorModel" "second" "[I" ∈ WALL := List.mem_filter.mpr ⟨in_T3 (List.mem_of_getElem? (i := 217) rfl), rfl⟩
theorem q_698 : Cond.fieldLink "MetricLogMonitorModel" 22 "MetricLogMonitorModel" "low" "[I" ∈ WALL := List.mem_filter.mpr ⟨in_T3 (List.mem_of_getElem? (i := 218) rfl), rfl⟩
theorem q_699 : Cond.fieldLink "MetricLogMonitorModel" 25 "MetricLogMonitorModel" "high" "[I" ∈ WALL := List.mem_filter.mpr ⟨in_T3 (List.mem_of_getElem? (i := 219) rfl), rfl⟩
theorem q_700 : Cond.fieldLink "MetricLogMonitorModel" 58 "MetricLogMonitorModel" "watching" "Z" ∈ WALL := List.mem_filter.mpr ⟨in_T3 (List.mem_of_getElem? (i := 220) rfl), rfl⟩
theorem q_701 : Cond.fieldLink "MetricLogMonitorModel" 96 "MetricLogMonitorModel" "places" "I" ∈ WALL := List.mem_filter.mpr ⟨in_T3 (List.mem_of_getElem? (i := 221) rfl), rfl⟩
theorem q_702 : Cond.fieldLink "MetricLogMonitorModel" 28 "MetricLogMonitorModel" "time" "[I" ∈ WALL := List.mem_filter.mpr ⟨in_T3 (List.mem_of_getElem? (i := 222) rfl), rfl⟩
theorem q_703 : Cond.fieldLink "MetricLogMonitorModel" 31 "MetricLogMonitorModel" "pairs" "[I" ∈ WALL := List.mem_filter.mpr ⟨in_T3 (List.mem_of_getElem? (i := 223) rfl), rfl⟩
theorem q_704 : Cond.fieldLink "MetricLogMonitorModel" 34 "MetricLogMonitorModel" "gathered" "[I" ∈ WALL := List.mem_filter.mpr ⟨in_T3 (List.mem_of_getElem? (i := 224) rfl), rfl⟩
theorem q_705 : Cond.fieldLink "MetricLogMonitorModel" 37 "MetricLogMonitorModel" "holds" "[J" ∈ WALL := List.mem_filter.mpr ⟨in_T3 (List.mem_of_getElem? (i := 225) rfl), rfl⟩
theorem q_706 : Cond.fieldLink "MetricLogMonitorModel" 41 "MetricLogMonitorModel" "part" "[Z" ∈ WALL := List.mem_filter.mpr ⟨in_T3 (List.mem_of_getElem? (i := 226) rfl), rfl⟩
theorem q_707 : Cond.fieldLink "MetricLogMonitorModel" 45 "MetricLogMonitorModel" "freeSet" "[I" ∈ WALL := List.mem_filter.mpr ⟨in_T3 (List.mem_of_getElem? (i := 227) rfl), rfl⟩
theorem q_708 : Cond.fieldLink "MetricLogMonitorModel" 48 "MetricLogMonitorModel" "rangedSet" "[I" ∈ WALL := List.mem_filter.mpr ⟨in_T3 (List.mem_of_getElem? (i := 228) rfl), rfl⟩
theorem q_709 : Cond.fieldLink "MetricLogMonitorModel" 51 "MetricLogMonitorModel" "reach" "[I" ∈ WALL := List.mem_filter.mpr ⟨in_T3 (List.mem_of_getElem? (i := 229) rfl), rfl⟩
theorem q_710 : Cond.lays "MetricLogMonitorModel" "MetricLogMonitorModel" "formulas" "I" ∈ WALL := List.mem_filter.mpr ⟨in_T3 (List.mem_of_getElem? (i := 230) rfl), rfl⟩
theorem q_712 : Cond.lays "MetricLogMonitorModel" "MetricLogMonitorModel" "kind" "[I" ∈ WALL := List.mem_filter.mpr ⟨in_T3 (List.mem_of_getElem? (i := 232) rfl), rfl⟩
theorem q_714 : Cond.lays "MetricLogMonitorModel" "MetricLogMonitorModel" "which" "[I" ∈ WALL := List.mem_filter.mpr ⟨in_T3 (List.mem_of_getElem? (i := 234) rfl), rfl⟩
theorem q_716 : Cond.lays "MetricLogMonitorModel" "MetricLogMonitorModel" "first" "[I" ∈ WALL := List.mem_filter.mpr ⟨in_T3 (List.mem_of_getElem? (i := 236) rfl), rfl⟩
theorem q_718 : Cond.lays "MetricLogMonitorModel" "MetricLogMonitorModel" "second" "[I" ∈ WALL := List.mem_filter.mpr ⟨in_T3 (List.mem_of_getElem? (i := 238) rfl), rfl⟩
theorem q_720 : Cond.lays "MetricLogMonitorModel" "MetricLogMonitorModel" "low" "[I" ∈ WALL := List.mem_filter.mpr ⟨in_T4 (List.mem_of_getElem? (i := 0) rfl), rfl⟩
theorem q_722 : Cond.lays "MetricLogMonitorModel" "MetricLogMonitorModel" "high" "[I" ∈ WALL := List.mem_filter.mpr ⟨in_T4 (List.mem_of_getElem? (i := 2) rfl), rfl⟩
theorem q_724 : Cond.lays "MetricLogMonitorModel" "MetricLogMonitorModel" "watching" "Z" ∈ WALL := List.mem_filter.mpr ⟨in_T4 (List.mem_of_getElem? (i := 4) rfl), rfl⟩
theorem q_726 : Cond.lays "MetricLogMonitorModel" "MetricLogMonitorModel" "places" "I" ∈ WALL := List.mem_filter.mpr ⟨in_T4 (List.mem_of_getElem? (i := 6) rfl), rfl⟩
theorem q_728 : Cond.lays "MetricLogMonitorModel" "MetricLogMonitorModel" "time" "[I" ∈ WALL := List.mem_filter.mpr ⟨in_T4 (List.mem_of_getElem? (i := 8) rfl), rfl⟩
theorem q_730 : Cond.lays "MetricLogMonitorModel" "MetricLogMonitorModel" "pairs" "[I" ∈ WALL := List.mem_filter.mpr ⟨in_T4 (List.mem_of_getElem? (i := 10) rfl), rfl⟩
theorem q_732 : Cond.lays "MetricLogMonitorModel" "MetricLogMonitorModel" "gathered" "[I" ∈ WALL := List.mem_filter.mpr ⟨in_T4 (List.mem_of_getElem? (i := 12) rfl), rfl⟩
theorem q_734 : Cond.lays "MetricLogMonitorModel" "MetricLogMonitorModel" "holds" "[J" ∈ WALL := List.mem_filter.mpr ⟨in_T4 (List.mem_of_getElem? (i := 14) rfl), rfl⟩
theorem q_736 : Cond.lays "MetricLogMonitorModel" "MetricLogMonitorModel" "part" "[Z" ∈ WALL := List.mem_filter.mpr ⟨in_T4 (List.mem_of_getElem? (i := 16) rfl), rfl⟩
theorem q_738 : Cond.lays "MetricLogMonitorModel" "MetricLogMonitorModel" "freeSet" "[I" ∈ WALL := List.mem_filter.mpr ⟨in_T4 (List.mem_of_getElem? (i := 18) rfl), rfl⟩
theorem q_740 : Cond.lays "MetricLogMonitorModel" "MetricLogMonitorModel" "rangedSet" "[I" ∈ WALL := List.mem_filter.mpr ⟨in_T4 (List.mem_of_getElem? (i := 20) rfl), rfl⟩
theorem q_742 : Cond.lays "MetricLogMonitorModel" "MetricLogMonitorModel" "reach" "[I" ∈ WALL := List.mem_filter.mpr ⟨in_T4 (List.mem_of_getElem? (i := 22) rfl), rfl⟩
theorem q_745 : Cond.arrayClass Jvm.ClassFile.FieldType.boolean ∈ WALL := List.mem_filter.mpr ⟨in_T4 (List.mem_of_getElem? (i := 25) rfl), rfl⟩
theorem q_746 : Cond.methodLink "MetricLogMonitorLaw" 17 ⟨"MetricLogMonitorModel", "atom", "(III)I"⟩ ∈ WALL := List.mem_filter.mpr ⟨in_T4 (List.mem_of_getElem? (i := 26) rfl), rfl⟩
theorem q_747 : Cond.instanceMethod ⟨"MetricLogMonitorModel", "atom", "(III)I"⟩ ∈ WALL := List.mem_filter.mpr ⟨in_T4 (List.mem_of_getElem? (i := 27) rfl), rfl⟩
theorem q_748 : Cond.selects "MetricLogMonitorModel" ⟨"MetricLogMonitorModel", "atom", "(III)I"⟩ ⟨"MetricLogMonitorModel", "atom", "(III)I"⟩ ∈ WALL := List.mem_filter.mpr ⟨in_T4 (List.mem_of_getElem? (i := 28) rfl), rfl⟩
theorem q_749 : Cond.code ⟨"MetricLogMonitorModel", "atom", "(III)I"⟩ prog_13_method_8_code 4 (Option.some Jvm.ClassFile.FieldType.int) ∈ WALL := List.mem_filter.mpr ⟨in_T4 (List.mem_of_getElem? (i := 29) rfl), rfl⟩
theorem q_750 : Cond.methodLink "MetricLogMonitorModel" 67 ⟨"MetricLogMonitorModel", "mayMake", "()Z"⟩ ∈ WALL := List.mem_filter.mpr ⟨in_T4 (List.mem_of_getElem? (i := 30) rfl), rfl⟩
theorem q_752 : Cond.instanceMethod ⟨"MetricLogMonitorModel", "mayMake", "()Z"⟩ ∈ WALL := List.mem_filter.mpr ⟨in_T4 (List.mem_of_getElem? (i := 32) rfl), rfl⟩
theorem q_753 : Cond.code ⟨"MetricLogMonitorModel", "mayMake", "()Z"⟩ prog_13_method_4_code 1 (Option.some Jvm.ClassFile.FieldType.boolean) ∈ WALL := List.mem_filter.mpr ⟨in_T4 (List.mem_of_getElem? (i := 33) rfl), rfl⟩
theorem q_754 : Cond.methodLink "MetricLogMonitorModel" 71 ⟨"MetricLogMonitorModel", "isTerm", "(I)Z"⟩ ∈ WALL := List.mem_filter.mpr ⟨in_T4 (List.mem_of_getElem? (i := 34) rfl), rfl⟩
theorem q_755 : Cond.static ⟨"MetricLogMonitorModel", "isTerm", "(I)Z"⟩ ∈ WALL := List.mem_filter.mpr ⟨in_T4 (List.mem_of_getElem? (i := 35) rfl), rfl⟩
theorem q_756 : Cond.code ⟨"MetricLogMonitorModel", "isTerm", "(I)Z"⟩ prog_13_method_2_code 1 (Option.some Jvm.ClassFile.FieldType.boolean) ∈ WALL := List.mem_filter.mpr ⟨in_T4 (List.mem_of_getElem? (i := 36) rfl), rfl⟩
theorem q_757 : Cond.methodLink "MetricLogMonitorModel" 63 ⟨"MetricLogMonitorModel", "make", "(IIII)I"⟩ ∈ WALL := List.mem_filter.mpr ⟨in_T4 (List.mem_of_getElem? (i := 37) rfl), rfl⟩
theorem q_759 : Cond.instanceMethod ⟨"MetricLogMonitorModel", "make", "(IIII)I"⟩ ∈ WALL := List.mem_filter.mpr ⟨in_T4 (List.mem_of_getElem? (i := 39) rfl), rfl⟩
theorem q_760 : Cond.code ⟨"MetricLogMonitorModel", "make", "(IIII)I"⟩ prog_13_method_6_code 5 (Option.some Jvm.ClassFile.FieldType.int) ∈ WALL := List.mem_filter.mpr ⟨in_T4 (List.mem_of_getElem? (i := 40) rfl), rfl⟩
theorem q_761 : Cond.methodLink "MetricLogMonitorLaw" 22 ⟨"MetricLogMonitorModel", "compare", "(ZII)I"⟩ ∈ WALL := List.mem_filter.mpr ⟨in_T4 (List.mem_of_getElem? (i := 41) rfl), rfl⟩
theorem q_762 : Cond.instanceMethod ⟨"MetricLogMonitorModel", "compare", "(ZII)I"⟩ ∈ WALL := List.mem_filter.mpr ⟨in_T4 (List.mem_of_getElem? (i := 42) rfl), rfl⟩
theorem q_763 : Cond.selects "MetricLogMonitorModel" ⟨"MetricLogMonitorModel", "compare", "(ZII)I"⟩ ⟨"MetricLogMonitorModel", "compare", "(ZII)I"⟩ ∈ WALL := List.mem_filter.mpr ⟨in_T4 (List.mem_of_getElem? (i := 43) rfl), rfl⟩
theorem q_764 : Cond.code ⟨"MetricLogMonitorModel", "compare", "(ZII)I"⟩ prog_13_method_9_code 4 (Option.some Jvm.ClassFile.FieldType.int) ∈ WALL := List.mem_filter.mpr ⟨in_T4 (List.mem_of_getElem? (i := 44) rfl), rfl⟩
theorem q_765 : Cond.methodLink "MetricLogMonitorLaw" 27 ⟨"MetricLogMonitorModel", "not", "(I)I"⟩ ∈ WALL := List.mem_filter.mpr ⟨in_T4 (List.mem_of_getElem? (i := 45) rfl), rfl⟩
theorem q_766 : Cond.instanceMethod ⟨"MetricLogMonitorModel", "not", "(I)I"⟩ ∈ WALL := List.mem_filter.mpr ⟨in_T4 (List.mem_of_getElem? (i := 46) rfl), rfl⟩
theorem q_767 : Cond.selects "MetricLogMonitorModel" ⟨"MetricLogMonitorModel", "not", "(I)I"⟩ ⟨"MetricLogMonitorModel", "not", "(I)I"⟩ ∈ WALL := List.mem_filter.mpr ⟨in_T4 (List.mem_of_getElem? (i := 47) rfl), rfl⟩
theorem q_768 : Cond.code ⟨"MetricLogMonitorModel", "not", "(I)I"⟩ prog_13_method_10_code 2 (Option.some Jvm.ClassFile.FieldType.int) ∈ WALL := List.mem_filter.mpr ⟨in_T4 (List.mem_of_getElem? (i := 48) rfl), rfl⟩
theorem q_769 : Cond.methodLink "MetricLogMonitorModel" 75 ⟨"MetricLogMonitorModel", "isFormula", "(I)Z"⟩ ∈ WALL := List.mem_filter.mpr ⟨in_T4 (List.mem_of_getElem? (i := 49) rfl), rfl⟩
theorem q_771 : Cond.instanceMethod ⟨"MetricLogMonitorModel", "isFormula", "(I)Z"⟩ ∈ WALL := List.mem_filter.mpr ⟨in_T4 (List.mem_of_getElem? (i := 51) rfl), rfl⟩
theorem q_772 : Cond.code ⟨"MetricLogMonitorModel", "isFormula", "(I)Z"⟩ prog_13_method_3_code 2 (Option.some Jvm.ClassFile.FieldType.boolean) ∈ WALL := List.mem_filter.mpr ⟨in_T4 (List.mem_of_getElem? (i := 52) rfl), rfl⟩
theorem q_773 : Cond.methodLink "MetricLogMonitorLaw" 31 ⟨"MetricLogMonitorModel", "join", "(ZII)I"⟩ ∈ WALL := List.mem_filter.mpr ⟨in_T4 (List.mem_of_getElem? (i := 53) rfl), rfl⟩
theorem q_774 : Cond.instanceMethod ⟨"MetricLogMonitorModel", "join", "(ZII)I"⟩ ∈ WALL := List.mem_filter.mpr ⟨in_T4 (List.mem_of_getElem? (i := 54) rfl), rfl⟩
theorem q_775 : Cond.selects "MetricLogMonitorModel" ⟨"MetricLogMonitorModel", "join", "(ZII)I"⟩ ⟨"MetricLogMonitorModel", "join", "(ZII)I"⟩ ∈ WALL := List.mem_filter.mpr ⟨in_T4 (List.mem_of_getElem? (i := 55) rfl), rfl⟩
theorem q_776 : Cond.code ⟨"MetricLogMonitorModel", "join", "(ZII)I"⟩ prog_13_method_11_code 4 (Option.some Jvm.ClassFile.FieldType.int) ∈ WALL := List.mem_filter.mpr ⟨in_T4 (List.mem_of_getElem? (i := 56) rfl), rfl⟩
theorem q_777 : Cond.methodLink "MetricLogMonitorLaw" 36 ⟨"MetricLogMonitorModel", "exists", "(II)I"⟩ ∈ WALL := List.mem_filter.mpr ⟨in_T4 (List.mem_of_getElem? (i := 57) rfl), rfl⟩
theorem q_778 : Cond.instanceMethod ⟨"MetricLogMonitorModel", "exists", "(II)I"⟩ ∈ WALL := List.mem_filter.mpr ⟨in_T4 (List.mem_of_getElem? (i := 58) rfl), rfl⟩
theorem q_779 : Cond.selects "MetricLogMonitorModel" ⟨"MetricLogMonitorModel", "exists", "(II)I"⟩ ⟨"MetricLogMonitorModel", "exists", "(II)I"⟩ ∈ WALL := List.mem_filter.mpr ⟨in_T4 (List.mem_of_getElem? (i := 59) rfl), rfl⟩
theorem q_780 : Cond.code ⟨"MetricLogMonitorModel", "exists", "(II)I"⟩ prog_13_method_12_code 3 (Option.some Jvm.ClassFile.FieldType.int) ∈ WALL := List.mem_filter.mpr ⟨in_T4 (List.mem_of_getElem? (i := 60) rfl), rfl⟩
theorem q_781 : Cond.methodLink "MetricLogMonitorLaw" 40 ⟨"MetricLogMonitorModel", "previous", "(III)I"⟩ ∈ WALL := List.mem_filter.mpr ⟨in_T4 (List.mem_of_getElem? (i := 61) rfl), rfl⟩
theorem q_782 : Cond.instanceMethod ⟨"MetricLogMonitorModel", "previous", "(III)I"⟩ ∈ WALL := List.mem_filter.mpr ⟨in_T4 (List.mem_of_getElem? (i := 62) rfl), rfl⟩
theorem q_783 : Cond.selects "MetricLogMonitorModel" ⟨"MetricLogMonitorModel", "previous", "(III)I"⟩ ⟨"MetricLogMonitorModel", "previous", "(III)I"⟩ ∈ WALL := List.mem_filter.mpr ⟨in_T4 (List.mem_of_getElem? (i := 63) rfl), rfl⟩
theorem q_784 : Cond.code ⟨"MetricLogMonitorModel", "previous", "(III)I"⟩ prog_13_method_13_code 4 (Option.some Jvm.ClassFile.FieldType.int) ∈ WALL := List.mem_filter.mpr ⟨in_T4 (List.mem_of_getElem? (i := 64) rfl), rfl⟩
theorem q_785 : Cond.methodLink "MetricLogMonitorModel" 78 ⟨"MetricLogMonitorModel", "isInterval", "(IIZ)Z"⟩ ∈ WALL := List.mem_filter.mpr ⟨in_T4 (List.mem_of_getElem? (i := 65) rfl), rfl⟩
theorem q_786 : Cond.static ⟨"MetricLogMonitorModel", "isInterval", "(IIZ)Z"⟩ ∈ WALL := List.mem_filter.mpr ⟨in_T4 (List.mem_of_getElem? (i := 66) rfl), rfl⟩
theorem q_787 : Cond.code ⟨"MetricLogMonitorModel", "isInterval", "(IIZ)Z"⟩ prog_13_method_5_code 3 (Option.some Jvm.ClassFile.FieldType.boolean) ∈ WALL := List.mem_filter.mpr ⟨in_T4 (List.mem_of_getElem? (i := 67) rfl), rfl⟩
theorem q_788 : Cond.constant "MetricLogMonitorModel" 62 1000000 ∈ WALL := List.mem_filter.mpr ⟨in_T4 (List.mem_of_getElem? (i := 68) rfl), rfl⟩
theorem q_789 : Cond.methodLink "MetricLogMonitorModel" 82 ⟨"MetricLogMonitorModel", "makeTimed", "(IIIII)I"⟩ ∈ WALL := List.mem_filter.mpr ⟨in_T4 (List.mem_of_getElem? (i := 69) rfl), rfl⟩
theorem q_791 : Cond.instanceMethod ⟨"MetricLogMonitorModel", "makeTimed", "(IIIII)I"⟩ ∈ WALL := List.mem_filter.mpr ⟨in_T4 (List.mem_of_getElem? (i := 71) rfl), rfl⟩
theorem q_792 : Cond.code ⟨"MetricLogMonitorModel", "makeTimed", "(IIIII)I"⟩ prog_13_method_7_code 7 (Option.some Jvm.ClassFile.FieldType.int) ∈ WALL := List.mem_filter.mpr ⟨in_T4 (List.mem_of_getElem? (i := 72) rfl), rfl⟩
theorem q_793 : Cond.methodLink "MetricLogMonitorLaw" 45 ⟨"MetricLogMonitorModel", "since", "(IIII)I"⟩ ∈ WALL := List.mem_filter.mpr ⟨in_T4 (List.mem_of_getElem? (i := 73) rfl), rfl⟩
theorem q_794 : Cond.instanceMethod ⟨"MetricLogMonitorModel", "since", "(IIII)I"⟩ ∈ WALL := List.mem_filter.mpr ⟨in_T4 (List.mem_of_getElem? (i := 74) rfl), rfl⟩
theorem q_795 : Cond.selects "MetricLogMonitorModel" ⟨"MetricLogMonitorModel", "since", "(IIII)I"⟩ ⟨"MetricLogMonitorModel", "since", "(IIII)I"⟩ ∈ WALL := List.mem_filter.mpr ⟨in_T4 (List.mem_of_getElem? (i := 75) rfl), rfl⟩
theorem q_796 : Cond.code ⟨"MetricLogMonitorModel", "since", "(IIII)I"⟩ prog_13_method_14_code 5 (Option.some Jvm.ClassFile.FieldType.int) ∈ WALL := List.mem_filter.mpr ⟨in_T4 (List.mem_of_getElem? (i := 76) rfl), rfl⟩
theorem q_797 : Cond.methodLink "MetricLogMonitorLaw" 49 ⟨"MetricLogMonitorModel", "until", "(IIII)I"⟩ ∈ WALL := List.mem_filter.mpr ⟨in_T4 (List.mem_of_getElem? (i := 77) rfl), rfl⟩
theorem q_798 : Cond.instanceMethod ⟨"MetricLogMonitorModel", "until", "(IIII)I"⟩ ∈ WALL := List.mem_filter.mpr ⟨in_T4 (List.mem_of_getElem? (i := 78) rfl), rfl⟩
theorem q_799 : Cond.selects "MetricLogMonitorModel" ⟨"MetricLogMonitorModel", "until", "(IIII)I"⟩ ⟨"MetricLogMonitorModel", "until", "(IIII)I"⟩ ∈ WALL := List.mem_filter.mpr ⟨in_T4 (List.mem_of_getElem? (i := 79) rfl), rfl⟩
theorem q_800 : Cond.code ⟨"MetricLogMonitorModel", "until", "(IIII)I"⟩ prog_13_method_15_code 5 (Option.some Jvm.ClassFile.FieldType.int) ∈ WALL := List.mem_filter.mpr ⟨in_T4 (List.mem_of_getElem? (i := 80) rfl), rfl⟩
theorem q_801 : Cond.methodLink "MetricLogMonitorLaw" 53 ⟨"MetricLogMonitorModel", "free", "(I)I"⟩ ∈ WALL := List.mem_filter.mpr ⟨in_T4 (List.mem_of_getElem? (i := 81) rfl), rfl⟩
theorem q_802 : Cond.instanceMethod ⟨"MetricLogMonitorModel", "free", "(I)I"⟩ ∈ WALL := List.mem_filter.mpr ⟨in_T4 (List.mem_of_getElem? (i := 82) rfl), rfl⟩
theorem q_803 : Cond.selects "MetricLogMonitorModel" ⟨"MetricLogMonitorModel", "free", "(I)I"⟩ ⟨"MetricLogMonitorModel", "free", "(I)I"⟩ ∈ WALL := List.mem_filter.mpr ⟨in_T4 (List.mem_of_getElem? (i := 83) rfl), rfl⟩
theorem q_804 : Cond.code ⟨"MetricLogMonitorModel", "free", "(I)I"⟩ prog_13_method_19_code 2 (Option.some Jvm.ClassFile.FieldType.int) ∈ WALL := List.mem_filter.mpr ⟨in_T4 (List.mem_of_getElem? (i := 84) rfl), rfl⟩
theorem q_805 : Cond.methodLink "MetricLogMonitorModel" 90 ⟨"MetricLogMonitorModel", "freeOf", "(I)I"⟩ ∈ WALL := List.mem_filter.mpr ⟨in_T4 (List.mem_of_getElem? (i := 85) rfl), rfl⟩
theorem q_807 : Cond.instanceMethod ⟨"MetricLogMonitorModel", "freeOf", "(I)I"⟩ ∈ WALL := List.mem_filter.mpr ⟨in_T4 (List.mem_of_getElem? (i := 87) rfl), rfl⟩
theorem q_808 : Cond.code ⟨"MetricLogMonitorModel", "freeOf", "(I)I"⟩ prog_13_method_17_code 3 (Option.some Jvm.ClassFile.FieldType.int) ∈ WALL := List.mem_filter.mpr ⟨in_T4 (List.mem_of_getElem? (i := 88) rfl), rfl⟩
theorem q_809 : Cond.methodLink "MetricLogMonitorModel" 86 ⟨"MetricLogMonitorModel", "variable", "(I)I"⟩ ∈ WALL := List.mem_filter.mpr ⟨in_T4 (List.mem_of_getElem? (i := 89) rfl), rfl⟩
theorem q_810 : Cond.static ⟨"MetricLogMonitorModel", "variable", "(I)I"⟩ ∈ WALL := List.mem_filter.mpr ⟨in_T4 (List.mem_of_getElem? (i := 90) rfl), rfl⟩
theorem q_811 : Cond.code ⟨"MetricLogMonitorModel", "variable", "(I)I"⟩ prog_13_method_16_code 1 (Option.some Jvm.ClassFile.FieldType.int) ∈ WALL := List.mem_filter.mpr ⟨in_T4 (List.mem_of_getElem? (i := 91) rfl), rfl⟩
theorem q_812 : Cond.methodLink "MetricLogMonitorLaw" 57 ⟨"MetricLogMonitorModel", "ranged", "(I)I"⟩ ∈ WALL := List.mem_filter.mpr ⟨in_T4 (List.mem_of_getElem? (i := 92) rfl), rfl⟩
theorem q_813 : Cond.instanceMethod ⟨"MetricLogMonitorModel", "ranged", "(I)I"⟩ ∈ WALL := List.mem_filter.mpr ⟨in_T4 (List.mem_of_getElem? (i := 93) rfl), rfl⟩
theorem q_814 : Cond.selects "MetricLogMonitorModel" ⟨"MetricLogMonitorModel", "ranged", "(I)I"⟩ ⟨"MetricLogMonitorModel", "ranged", "(I)I"⟩ ∈ WALL := List.mem_filter.mpr ⟨in_T4 (List.mem_of_getElem? (i := 94) rfl), rfl⟩
theorem q_815 : Cond.code ⟨"MetricLogMonitorModel", "ranged", "(I)I"⟩ prog_13_method_20_code 2 (Option.some Jvm.ClassFile.FieldType.int) ∈ WALL := List.mem_filter.mpr ⟨in_T4 (List.mem_of_getElem? (i := 95) rfl), rfl⟩
theorem q_816 : Cond.methodLink "MetricLogMonitorModel" 93 ⟨"MetricLogMonitorModel", "rangedOf", "(I)I"⟩ ∈ WALL := List.mem_filter.mpr ⟨in_T4 (List.mem_of_getElem? (i := 96) rfl), rfl⟩
theorem q_818 : Cond.instanceMethod ⟨"MetricLogMonitorModel", "rangedOf", "(I)I"⟩ ∈ WALL := List.mem_filter.mpr ⟨in_T4 (List.mem_of_getElem? (i := 98) rfl), rfl⟩
theorem q_819 : Cond.code ⟨"MetricLogMonitorModel", "rangedOf", "(I)I"⟩ prog_13_method_18_code 5 (Option.some Jvm.ClassFile.FieldType.int) ∈ WALL := List.mem_filter.mpr ⟨in_T4 (List.mem_of_getElem? (i := 99) rfl), rfl⟩
theorem q_820 : Cond.methodLink "MetricLogMonitorLaw" 62 ⟨"MetricLogMonitorModel", "bounded", "(I)Z"⟩ ∈ WALL := List.mem_filter.mpr ⟨in_T4 (List.mem_of_getElem? (i := 100) rfl), rfl⟩
theorem q_821 : Cond.instanceMethod ⟨"MetricLogMonitorModel", "bounded", "(I)Z"⟩ ∈ WALL := List.mem_filter.mpr ⟨in_T4 (List.mem_of_getElem? (i := 101) rfl), rfl⟩
theorem q_822 : Cond.selects "MetricLogMonitorModel" ⟨"MetricLogMonitorModel", "bounded", "(I)Z"⟩ ⟨"MetricLogMonitorModel", "bounded", "(I)Z"⟩ ∈ WALL := List.mem_filter.mpr ⟨in_T4 (List.mem_of_getElem? (i := 102) rfl), rfl⟩
theorem q_823 : Cond.code ⟨"MetricLogMonitorModel", "bounded", "(I)Z"⟩ prog_13_method_21_code 3 (Option.some Jvm.ClassFile.FieldType.boolean) ∈ WALL := List.mem_filter.mpr ⟨in_T4 (List.mem_of_getElem? (i := 103) rfl), rfl⟩
theorem q_824 : Cond.methodLink "MetricLogMonitorLaw" 67 ⟨"MetricLogMonitorModel", "watch", "()Z"⟩ ∈ WALL := List.mem_filter.mpr ⟨in_T4 (List.mem_of_getElem? (i := 104) rfl), rfl⟩
theorem q_825 : Cond.instanceMethod ⟨"MetricLogMonitorModel", "watch", "()Z"⟩ ∈ WALL := List.mem_filter.mpr ⟨in_T4 (List.mem_of_getElem? (i := 105) rfl), rfl⟩
theorem q_826 : Cond.selects "MetricLogMonitorModel" ⟨"MetricLogMonitorModel", "watch", "()Z"⟩ ⟨"MetricLogMonitorModel", "watch", "()Z"⟩ ∈ WALL := List.mem_filter.mpr ⟨in_T4 (List.mem_of_getElem? (i := 106) rfl), rfl⟩
theorem q_827 : Cond.code ⟨"MetricLogMonitorModel", "watch", "()Z"⟩ prog_13_method_23_code 1 (Option.some Jvm.ClassFile.FieldType.boolean) ∈ WALL := List.mem_filter.mpr ⟨in_T4 (List.mem_of_getElem? (i := 107) rfl), rfl⟩
theorem q_828 : Cond.methodLink "MetricLogMonitorModel" 99 ⟨"MetricLogMonitorModel", "empty", "()V"⟩ ∈ WALL := List.mem_filter.mpr ⟨in_T4 (List.mem_of_getElem? (i := 108) rfl), rfl⟩
theorem q_830 : Cond.instanceMethod ⟨"MetricLogMonitorModel", "empty", "()V"⟩ ∈ WALL := List.mem_filter.mpr ⟨in_T4 (List.mem_of_getElem? (i := 110) rfl), rfl⟩
theorem q_831 : Cond.code ⟨"MetricLogMonitorModel", "empty", "()V"⟩ prog_13_method_22_code 2 (Option.none : Option Jvm.ClassFile.FieldType) ∈ WALL := List.mem_filter.mpr ⟨in_T4 (List.mem_of_getElem? (i := 111) rfl), rfl⟩
theorem q_832 : Cond.methodLink "MetricLogMonitorLaw" 72 ⟨"MetricLogMonitorModel", "gather", "(III)Z"⟩ ∈ WALL := List.mem_filter.mpr ⟨in_T4 (List.mem_of_getElem? (i := 112) rfl), rfl⟩
theorem q_833 : Cond.instanceMethod ⟨"MetricLogMonitorModel", "gather", "(III)Z"⟩ ∈ WALL := List.mem_filter.mpr ⟨in_T4 (List.mem_of_getElem? (i := 113) rfl), rfl⟩
theorem q_834 : Cond.selects "MetricLogMonitorModel" ⟨"MetricLogMonitorModel", "gather", "(III)Z"⟩ ⟨"MetricLogMonitorModel", "gather", "(III)Z"⟩ ∈ WALL := List.mem_filter.mpr ⟨in_T4 (List.mem_of_getElem? (i := 114) rfl), rfl⟩
theorem q_835 : Cond.code ⟨"MetricLogMonitorModel", "gather", "(III)Z"⟩ prog_13_method_24_code 5 (Option.some Jvm.ClassFile.FieldType.boolean) ∈ WALL := List.mem_filter.mpr ⟨in_T4 (List.mem_of_getElem? (i := 115) rfl), rfl⟩
theorem q_836 : Cond.methodLink "MetricLogMonitorLaw" 76 ⟨"MetricLogMonitorModel", "place", "(I)I"⟩ ∈ WALL := List.mem_filter.mpr ⟨in_T4 (List.mem_of_getElem? (i := 116) rfl), rfl⟩
theorem q_837 : Cond.instanceMethod ⟨"MetricLogMonitorModel", "place", "(I)I"⟩ ∈ WALL := List.mem_filter.mpr ⟨in_T4 (List.mem_of_getElem? (i := 117) rfl), rfl⟩
theorem q_838 : Cond.selects "MetricLogMonitorModel" ⟨"MetricLogMonitorModel", "place", "(I)I"⟩ ⟨"MetricLogMonitorModel", "place", "(I)I"⟩ ∈ WALL := List.mem_filter.mpr ⟨in_T4 (List.mem_of_getElem? (i := 118) rfl), rfl⟩
theorem q_839 : Cond.code ⟨"MetricLogMonitorModel", "place", "(I)I"⟩ prog_13_method_25_code 4 (Option.some Jvm.ClassFile.FieldType.int) ∈ WALL := List.mem_filter.mpr ⟨in_T4 (List.mem_of_getElem? (i := 119) rfl), rfl⟩
theorem q_840 : Cond.methodLink "MetricLogMonitorModel" 102 ⟨"MetricLogMonitorModel", "look", "(II)V"⟩ ∈ WALL := List.mem_filter.mpr ⟨in_T4 (List.mem_of_getElem? (i := 120) rfl), rfl⟩
theorem q_842 : Cond.instanceMethod ⟨"MetricLogMonitorModel", "look", "(II)V"⟩ ∈ WALL := List.mem_filter.mpr ⟨in_T4 (List.mem_of_getElem? (i := 122) rfl), rfl⟩
theorem q_843 : Cond.code ⟨"MetricLogMonitorModel", "look", "(II)V"⟩ prog_13_method_34_code 6 (Option.none : Option Jvm.ClassFile.FieldType) ∈ WALL := List.mem_filter.mpr ⟨in_T4 (List.mem_of_getElem? (i := 123) rfl), rfl⟩
theorem q_844 : Cond.methodLink "MetricLogMonitorModel" 127 ⟨"MetricLogMonitorModel", "satisfies", "(III)Z"⟩ ∈ WALL := List.mem_filter.mpr ⟨in_T4 (List.mem_of_getElem? (i := 124) rfl), rfl⟩
theorem q_846 : Cond.instanceMethod ⟨"MetricLogMonitorModel", "satisfies", "(III)Z"⟩ ∈ WALL := List.mem_filter.mpr ⟨in_T4 (List.mem_of_getElem? (i := 126) rfl), rfl⟩
theorem q_847 : Cond.code ⟨"MetricLogMonitorModel", "satisfies", "(III)Z"⟩ prog_13_method_33_code 6 (Option.some Jvm.ClassFile.FieldType.boolean) ∈ WALL := List.mem_filter.mpr ⟨in_T4 (List.mem_of_getElem? (i := 127) rfl), rfl⟩
theorem q_848 : Cond.methodLink "MetricLogMonitorModel" 114 ⟨"MetricLogMonitorModel", "value", "(II)I"⟩ ∈ WALL := List.mem_filter.mpr ⟨in_T4 (List.mem_of_getElem? (i := 128) rfl), rfl⟩
theorem q_849 : Cond.static ⟨"MetricLogMonitorModel", "value", "(II)I"⟩ ∈ WALL := List.mem_filter.mpr ⟨in_T4 (List.mem_of_getElem? (i := 129) rfl), rfl⟩
theorem q_850 : Cond.code ⟨"MetricLogMonitorModel", "value", "(II)I"⟩ prog_13_method_27_code 2 (Option.some Jvm.ClassFile.FieldType.int) ∈ WALL := List.mem_filter.mpr ⟨in_T4 (List.mem_of_getElem? (i := 130) rfl), rfl⟩
theorem q_851 : Cond.methodLink "MetricLogMonitorModel" 110 ⟨"MetricLogMonitorModel", "at", "(III)Z"⟩ ∈ WALL := List.mem_filter.mpr ⟨in_T4 (List.mem_of_getElem? (i := 131) rfl), rfl⟩
theorem q_853 : Cond.instanceMethod ⟨"MetricLogMonitorModel", "at", "(III)Z"⟩ ∈ WALL := List.mem_filter.mpr ⟨in_T4 (List.mem_of_getElem? (i := 133) rfl), rfl⟩
theorem q_854 : Cond.code ⟨"MetricLogMonitorModel", "at", "(III)Z"⟩ prog_13_method_28_code 4 (Option.some Jvm.ClassFile.FieldType.boolean) ∈ WALL := List.mem_filter.mpr ⟨in_T4 (List.mem_of_getElem? (i := 134) rfl), rfl⟩
theorem q_855 : Cond.methodLink "MetricLogMonitorModel" 118 ⟨"MetricLogMonitorModel", "existsAt", "(III)Z"⟩ ∈ WALL := List.mem_filter.mpr ⟨in_T4 (List.mem_of_getElem? (i := 135) rfl), rfl⟩
theorem q_857 : Cond.instanceMethod ⟨"MetricLogMonitorModel", "existsAt", "(III)Z"⟩ ∈ WALL := List.mem_filter.mpr ⟨in_T4 (List.mem_of_getElem? (i := 137) rfl), rfl⟩
theorem q_858 : Cond.code ⟨"MetricLogMonitorModel", "existsAt", "(III)Z"⟩ prog_13_method_32_code 7 (Option.some Jvm.ClassFile.FieldType.boolean) ∈ WALL := List.mem_filter.mpr ⟨in_T4 (List.mem_of_getElem? (i := 138) rfl), rfl⟩
theorem q_859 : Cond.methodLink "MetricLogMonitorModel" 106 ⟨"MetricLogMonitorModel", "lies", "(II)Z"⟩ ∈ WALL := List.mem_filter.mpr ⟨in_T4 (List.mem_of_getElem? (i := 139) rfl), rfl⟩
theorem q_861 : Cond.instanceMethod ⟨"MetricLogMonitorModel", "lies", "(II)Z"⟩ ∈ WALL := List.mem_filter.mpr ⟨in_T4 (List.mem_of_getElem? (i := 141) rfl), rfl⟩
theorem q_862 : Cond.code ⟨"MetricLogMonitorModel", "lies", "(II)Z"⟩ prog_13_method_29_code 3 (Option.some Jvm.ClassFile.FieldType.boolean) ∈ WALL := List.mem_filter.mpr ⟨in_T4 (List.mem_of_getElem? (i := 142) rfl), rfl⟩
theorem q_863 : Cond.methodLink "MetricLogMonitorModel" 121 ⟨"MetricLogMonitorModel", "sinceAt", "(III)Z"⟩ ∈ WALL := List.mem_filter.mpr ⟨in_T4 (List.mem_of_getElem? (i := 143) rfl), rfl⟩
theorem q_865 : Cond.instanceMethod ⟨"MetricLogMonitorModel", "sinceAt", "(III)Z"⟩ ∈ WALL := List.mem_filter.mpr ⟨in_T4 (List.mem_of_getElem? (i := 145) rfl), rfl⟩
theorem q_866 : Cond.code ⟨"MetricLogMonitorModel", "sinceAt", "(III)Z"⟩ prog_13_method_30_code 5 (Option.some Jvm.ClassFile.FieldType.boolean) ∈ WALL := List.mem_filter.mpr ⟨in_T4 (List.mem_of_getElem? (i := 146) rfl), rfl⟩
theorem q_867 : Cond.methodLink "MetricLogMonitorModel" 124 ⟨"MetricLogMonitorModel", "untilAt", "(III)Z"⟩ ∈ WALL := List.mem_filter.mpr ⟨in_T4 (List.mem_of_getElem? (i := 147) rfl), rfl⟩
theorem q_869 : Cond.instanceMethod ⟨"MetricLogMonitorModel", "untilAt", "(III)Z"⟩ ∈ WALL := List.mem_filter.mpr ⟨in_T4 (List.mem_of_getElem? (i := 149) rfl), rfl⟩
theorem q_870 : Cond.code ⟨"MetricLogMonitorModel", "untilAt", "(III)Z"⟩ prog_13_method_31_code 5 (Option.some Jvm.ClassFile.FieldType.boolean) ∈ WALL := List.mem_filter.mpr ⟨in_T4 (List.mem_of_getElem? (i := 150) rfl), rfl⟩
theorem q_871 : Cond.methodLink "MetricLogMonitorLaw" 81 ⟨"MetricLogMonitorModel", "stop", "(Z)V"⟩ ∈ WALL := List.mem_filter.mpr ⟨in_T4 (List.mem_of_getElem? (i := 151) rfl), rfl⟩
theorem q_872 : Cond.instanceMethod ⟨"MetricLogMonitorModel", "stop", "(Z)V"⟩ ∈ WALL := List.mem_filter.mpr ⟨in_T4 (List.mem_of_getElem? (i := 152) rfl), rfl⟩
theorem q_873 : Cond.selects "MetricLogMonitorModel" ⟨"MetricLogMonitorModel", "stop", "(Z)V"⟩ ⟨"MetricLogMonitorModel", "stop", "(Z)V"⟩ ∈ WALL := List.mem_filter.mpr ⟨in_T4 (List.mem_of_getElem? (i := 153) rfl), rfl⟩
theorem q_874 : Cond.code ⟨"MetricLogMonitorModel", "stop", "(Z)V"⟩ prog_13_method_26_code 2 (Option.none : Option Jvm.ClassFile.FieldType) ∈ WALL := List.mem_filter.mpr ⟨in_T4 (List.mem_of_getElem? (i := 154) rfl), rfl⟩
theorem q_875 : Cond.methodLink "MetricLogMonitorLaw" 85 ⟨"MetricLogMonitorModel", "progress", "(I)I"⟩ ∈ WALL := List.mem_filter.mpr ⟨in_T4 (List.mem_of_getElem? (i := 155) rfl), rfl⟩
theorem q_876 : Cond.instanceMethod ⟨"MetricLogMonitorModel", "progress", "(I)I"⟩ ∈ WALL := List.mem_filter.mpr ⟨in_T4 (List.mem_of_getElem? (i := 156) rfl), rfl⟩
theorem q_877 : Cond.selects "MetricLogMonitorModel" ⟨"MetricLogMonitorModel", "progress", "(I)I"⟩ ⟨"MetricLogMonitorModel", "progress", "(I)I"⟩ ∈ WALL := List.mem_filter.mpr ⟨in_T4 (List.mem_of_getElem? (i := 157) rfl), rfl⟩
theorem q_878 : Cond.code ⟨"MetricLogMonitorModel", "progress", "(I)I"⟩ prog_13_method_37_code 4 (Option.some Jvm.ClassFile.FieldType.int) ∈ WALL := List.mem_filter.mpr ⟨in_T4 (List.mem_of_getElem? (i := 158) rfl), rfl⟩
theorem q_879 : Cond.methodLink "MetricLogMonitorModel" 130 ⟨"MetricLogMonitorModel", "lesser", "(II)I"⟩ ∈ WALL := List.mem_filter.mpr ⟨in_T4 (List.mem_of_getElem? (i := 159) rfl), rfl⟩
theorem q_881 : Cond.instanceMethod ⟨"MetricLogMonitorModel", "lesser", "(II)I"⟩ ∈ WALL := List.mem_filter.mpr ⟨in_T4 (List.mem_of_getElem? (i := 161) rfl), rfl⟩
theorem q_882 : Cond.code ⟨"MetricLogMonitorModel", "lesser", "(II)I"⟩ prog_13_method_35_code 3 (Option.some Jvm.ClassFile.FieldType.int) ∈ WALL := List.mem_filter.mpr ⟨in_T4 (List.mem_of_getElem? (i := 162) rfl), rfl⟩
theorem q_883 : Cond.methodLink "MetricLogMonitorModel" 133 ⟨"MetricLogMonitorModel", "decided", "(II)I"⟩ ∈ WALL := List.mem_filter.mpr ⟨in_T4 (List.mem_of_getElem? (i := 163) rfl), rfl⟩
theorem q_885 : Cond.instanceMethod ⟨"MetricLogMonitorModel", "decided", "(II)I"⟩ ∈ WALL := List.mem_filter.mpr ⟨in_T4 (List.mem_of_getElem? (i := 165) rfl), rfl⟩
theorem q_886 : Cond.code ⟨"MetricLogMonitorModel", "decided", "(II)I"⟩ prog_13_method_36_code 7 (Option.some Jvm.ClassFile.FieldType.int) ∈ WALL := List.mem_filter.mpr ⟨in_T4 (List.mem_of_getElem? (i := 166) rfl), rfl⟩
theorem q_887 : Cond.methodLink "MetricLogMonitorLaw" 90 ⟨"MetricLogMonitorModel", "satisfied", "(II)J"⟩ ∈ WALL := List.mem_filter.mpr ⟨in_T4 (List.mem_of_getElem? (i := 167) rfl), rfl⟩
theorem q_888 : Cond.instanceMethod ⟨"MetricLogMonitorModel", "satisfied", "(II)J"⟩ ∈ WALL := List.mem_filter.mpr ⟨in_T4 (List.mem_of_getElem? (i := 168) rfl), rfl⟩
theorem q_889 : Cond.selects "MetricLogMonitorModel" ⟨"MetricLogMonitorModel", "satisfied", "(II)J"⟩ ⟨"MetricLogMonitorModel", "satisfied", "(II)J"⟩ ∈ WALL := List.mem_filter.mpr ⟨in_T4 (List.mem_of_getElem? (i := 169) rfl), rfl⟩
theorem q_890 : Cond.code ⟨"MetricLogMonitorModel", "satisfied", "(II)J"⟩ prog_13_method_39_code 3 (Option.some Jvm.ClassFile.FieldType.long) ∈ WALL := List.mem_filter.mpr ⟨in_T4 (List.mem_of_getElem? (i := 170) rfl), rfl⟩
theorem q_891 : Cond.methodLink "MetricLogMonitorModel" 139 ⟨"MetricLogMonitorModel", "isKnown", "(II)Z"⟩ ∈ WALL := List.mem_filter.mpr ⟨in_T4 (List.mem_of_getElem? (i := 171) rfl), rfl⟩
theorem q_893 : Cond.instanceMethod ⟨"MetricLogMonitorModel", "isKnown", "(II)Z"⟩ ∈ WALL := List.mem_filter.mpr ⟨in_T4 (List.mem_of_getElem? (i := 173) rfl), rfl⟩
theorem q_894 : Cond.code ⟨"MetricLogMonitorModel", "isKnown", "(II)Z"⟩ prog_13_method_38_code 3 (Option.some Jvm.ClassFile.FieldType.boolean) ∈ WALL := List.mem_filter.mpr ⟨in_T4 (List.mem_of_getElem? (i := 174) rfl), rfl⟩
theorem q_895 : Cond.methodLink "MetricLogMonitorModel" 136 ⟨"MetricLogMonitorModel", "progress", "(I)I"⟩ ∈ WALL := List.mem_filter.mpr ⟨in_T4 (List.mem_of_getElem? (i := 175) rfl), rfl⟩
theorem q_896 : Cond.methodLink "MetricLogMonitorLaw" 94 ⟨"MetricLogMonitorModel", "rows", "(II)I"⟩ ∈ WALL := List.mem_filter.mpr ⟨in_T4 (List.mem_of_getElem? (i := 176) rfl), rfl⟩
theorem q_897 : Cond.instanceMethod ⟨"MetricLogMonitorModel", "rows", "(II)I"⟩ ∈ WALL := List.mem_filter.mpr ⟨in_T4 (List.mem_of_getElem? (i := 177) rfl), rfl⟩
theorem q_898 : Cond.selects "MetricLogMonitorModel" ⟨"MetricLogMonitorModel", "rows", "(II)I"⟩ ⟨"MetricLogMonitorModel", "rows", "(II)I"⟩ ∈ WALL := List.mem_filter.mpr ⟨in_T4 (List.mem_of_getElem? (i := 178) rfl), rfl⟩
theorem q_899 : Cond.code ⟨"MetricLogMonitorModel", "rows", "(II)I"⟩ prog_13_method_41_code 8 (Option.some Jvm.ClassFile.FieldType.int) ∈ WALL := List.mem_filter.mpr ⟨in_T4 (List.mem_of_getElem? (i := 179) rfl), rfl⟩
theorem q_900 : Cond.methodLink "MetricLogMonitorModel" 142 ⟨"MetricLogMonitorModel", "free", "(I)I"⟩ ∈ WALL := List.mem_filter.mpr ⟨in_T4 (List.mem_of_getElem? (i := 180) rfl), rfl⟩
theorem q_901 : Cond.methodLink "MetricLogMonitorModel" 145 ⟨"MetricLogMonitorModel", "agree", "(III)Z"⟩ ∈ WALL := List.mem_filter.mpr ⟨in_T4 (List.mem_of_getElem? (i := 181) rfl), rfl⟩
theorem q_902 : Cond.static ⟨"MetricLogMonitorModel", "agree", "(III)Z"⟩ ∈ WALL := List.mem_filter.mpr ⟨in_T4 (List.mem_of_getElem? (i := 182) rfl), rfl⟩
theorem q_903 : Cond.code ⟨"MetricLogMonitorModel", "agree", "(III)Z"⟩ prog_13_method_40_code 5 (Option.some Jvm.ClassFile.FieldType.boolean) ∈ WALL := List.mem_filter.mpr ⟨in_T4 (List.mem_of_getElem? (i := 183) rfl), rfl⟩
theorem qn_904 : Cond.castable "MetricLogMonitor$Atom" "MetricLogMonitor$Formula" ∈ NALL := List.mem_filter.mpr ⟨in_T4 (List.mem_of_getElem? (i := 184) rfl), rfl⟩
theorem qn_905 : Cond.castable "MetricLogMonitor$Comparison" "MetricLogMonitor$Formula" ∈ NALL := List.mem_filter.mpr ⟨in_T4 (List.mem_of_getElem? (i := 185) rfl), rfl⟩
theorem qn_906 : Cond.castable "MetricLogMonitor$Exists" "MetricLogMonitor$Formula" ∈ NALL := List.mem_filter.mpr ⟨in_T4 (List.mem_of_getElem? (i := 186) rfl), rfl⟩
theorem qn_907 : Cond.castable "MetricLogMonitor$Join" "MetricLogMonitor$Formula" ∈ NALL := List.mem_filter.mpr ⟨in_T4 (List.mem_of_getElem? (i := 187) rfl), rfl⟩
theorem qn_908 : Cond.castable "MetricLogMonitor$Not" "MetricLogMonitor$Formula" ∈ NALL := List.mem_filter.mpr ⟨in_T4 (List.mem_of_getElem? (i := 188) rfl), rfl⟩
theorem qn_909 : Cond.castable "MetricLogMonitor$Previous" "MetricLogMonitor$Formula" ∈ NALL := List.mem_filter.mpr ⟨in_T4 (List.mem_of_getElem? (i := 189) rfl), rfl⟩
theorem qn_910 : Cond.castable "MetricLogMonitor$Since" "MetricLogMonitor$Formula" ∈ NALL := List.mem_filter.mpr ⟨in_T4 (List.mem_of_getElem? (i := 190) rfl), rfl⟩
theorem qn_911 : Cond.castable "MetricLogMonitor$Until" "MetricLogMonitor$Formula" ∈ NALL := List.mem_filter.mpr ⟨in_T4 (List.mem_of_getElem? (i := 191) rfl), rfl⟩
theorem q_912 : Cond.sameMethod "[Ljava/lang/Object;" "java/lang/Object" "getClass" "()Ljava/lang/Class;" ∈ WALL := List.mem_filter.mpr ⟨in_T4 (List.mem_of_getElem? (i := 192) rfl), rfl⟩
theorem q_913 : Cond.selects "[Ljava/lang/Object;" ⟨"java/lang/Object", "getClass", "()Ljava/lang/Class;"⟩ ⟨"java/lang/Object", "getClass", "()Ljava/lang/Class;"⟩ ∈ WALL := List.mem_filter.mpr ⟨in_T4 (List.mem_of_getElem? (i := 193) rfl), rfl⟩
theorem qn_914 : Cond.declares ⟨"java/lang/Object", "getClass", "()Ljava/lang/Class;"⟩ ∈ NALL := List.mem_filter.mpr ⟨in_T4 (List.mem_of_getElem? (i := 194) rfl), rfl⟩
theorem qn_915 : Cond.castable "MetricLogMonitor" "java/lang/Object" ∈ NALL := List.mem_filter.mpr ⟨in_T4 (List.mem_of_getElem? (i := 195) rfl), rfl⟩
theorem qn_916 : Cond.castable "MetricLogMonitor$Log" "java/lang/Object" ∈ NALL := List.mem_filter.mpr ⟨in_T4 (List.mem_of_getElem? (i := 196) rfl), rfl⟩
theorem qn_917 : Cond.castable "MetricLogMonitorModel" "java/lang/Object" ∈ NALL := List.mem_filter.mpr ⟨in_T4 (List.mem_of_getElem? (i := 197) rfl), rfl⟩
theorem qn_918 : Cond.castable "MetricLogMonitor$Atom" "java/lang/Object" ∈ NALL := List.mem_filter.mpr ⟨in_T4 (List.mem_of_getElem? (i := 198) rfl), rfl⟩
theorem qn_919 : Cond.castable "MetricLogMonitor$Comparison" "java/lang/Object" ∈ NALL := List.mem_filter.mpr ⟨in_T4 (List.mem_of_getElem? (i := 199) rfl), rfl⟩
theorem qn_920 : Cond.castable "MetricLogMonitor$Not" "java/lang/Object" ∈ NALL := List.mem_filter.mpr ⟨in_T4 (List.mem_of_getElem? (i := 200) rfl), rfl⟩
theorem qn_921 : Cond.castable "MetricLogMonitor$Join" "java/lang/Object" ∈ NALL := List.mem_filter.mpr ⟨in_T4 (List.mem_of_getElem? (i := 201) rfl), rfl⟩
theorem qn_922 : Cond.castable "MetricLogMonitor$Exists" "java/lang/Object" ∈ NALL := List.mem_filter.mpr ⟨in_T4 (List.mem_of_getElem? (i := 202) rfl), rfl⟩
theorem qn_923 : Cond.castable "MetricLogMonitor$Previous" "java/lang/Object" ∈ NALL := List.mem_filter.mpr ⟨in_T4 (List.mem_of_getElem? (i := 203) rfl), rfl⟩
theorem qn_924 : Cond.castable "MetricLogMonitor$Since" "java/lang/Object" ∈ NALL := List.mem_filter.mpr ⟨in_T4 (List.mem_of_getElem? (i := 204) rfl), rfl⟩
theorem qn_925 : Cond.castable "MetricLogMonitor$Until" "java/lang/Object" ∈ NALL := List.mem_filter.mpr ⟨in_T4 (List.mem_of_getElem? (i := 205) rfl), rfl⟩
theorem qp_0 : Cond.selects "MetricLogMonitor" ⟨"MetricLogMonitor", "mayMake", "()Z"⟩ ⟨"MetricLogMonitor", "mayMake", "()Z"⟩ ∈ WALL := List.mem_filter.mpr ⟨List.mem_append_left _ (List.mem_of_getElem? (i := 0) rfl), rfl⟩
theorem qp_1 : Cond.selects "MetricLogMonitor" ⟨"MetricLogMonitor", "add", "(LMetricLogMonitor$Formula;)I"⟩ ⟨"MetricLogMonitor", "add", "(LMetricLogMonitor$Formula;)I"⟩ ∈ WALL := List.mem_filter.mpr ⟨List.mem_append_left _ (List.mem_of_getElem? (i := 1) rfl), rfl⟩
theorem qp_2 : Cond.selects "java/util/ArrayList" ⟨"java/util/ArrayList", "add", "(Ljava/lang/Object;[Ljava/lang/Object;I)V"⟩ ⟨"java/util/ArrayList", "add", "(Ljava/lang/Object;[Ljava/lang/Object;I)V"⟩ ∈ WALL := List.mem_filter.mpr ⟨List.mem_append_left _ (List.mem_of_getElem? (i := 2) rfl), rfl⟩
theorem qp_3 : Cond.selects "java/util/ArrayList" ⟨"java/util/ArrayList", "grow", "()[Ljava/lang/Object;"⟩ ⟨"java/util/ArrayList", "grow", "()[Ljava/lang/Object;"⟩ ∈ WALL := List.mem_filter.mpr ⟨List.mem_append_left _ (List.mem_of_getElem? (i := 3) rfl), rfl⟩
theorem qp_4 : Cond.selects "java/util/ArrayList" ⟨"java/util/ArrayList", "grow", "(I)[Ljava/lang/Object;"⟩ ⟨"java/util/ArrayList", "grow", "(I)[Ljava/lang/Object;"⟩ ∈ WALL := List.mem_filter.mpr ⟨List.mem_append_left _ (List.mem_of_getElem? (i := 4) rfl), rfl⟩
theorem qp_5 : Cond.selects "MetricLogMonitor" ⟨"MetricLogMonitor", "find", "(I)LMetricLogMonitor$Formula;"⟩ ⟨"MetricLogMonitor", "find", "(I)LMetricLogMonitor$Formula;"⟩ ∈ WALL := List.mem_filter.mpr ⟨List.mem_append_left _ (List.mem_of_getElem? (i := 5) rfl), rfl⟩
theorem qp_6 : Cond.selects "MetricLogMonitorModel" ⟨"MetricLogMonitorModel", "mayMake", "()Z"⟩ ⟨"MetricLogMonitorModel", "mayMake", "()Z"⟩ ∈ WALL := List.mem_filter.mpr ⟨List.mem_append_left _ (List.mem_of_getElem? (i := 6) rfl), rfl⟩
theorem qp_7 : Cond.selects "MetricLogMonitorModel" ⟨"MetricLogMonitorModel", "make", "(IIII)I"⟩ ⟨"MetricLogMonitorModel", "make", "(IIII)I"⟩ ∈ WALL := List.mem_filter.mpr ⟨List.mem_append_left _ (List.mem_of_getElem? (i := 7) rfl), rfl⟩
theorem qp_8 : Cond.selects "MetricLogMonitorModel" ⟨"MetricLogMonitorModel", "isFormula", "(I)Z"⟩ ⟨"MetricLogMonitorModel", "isFormula", "(I)Z"⟩ ∈ WALL := List.mem_filter.mpr ⟨List.mem_append_left _ (List.mem_of_getElem? (i := 8) rfl), rfl⟩
theorem qp_9 : Cond.selects "MetricLogMonitorModel" ⟨"MetricLogMonitorModel", "makeTimed", "(IIIII)I"⟩ ⟨"MetricLogMonitorModel", "makeTimed", "(IIIII)I"⟩ ∈ WALL := List.mem_filter.mpr ⟨List.mem_append_left _ (List.mem_of_getElem? (i := 9) rfl), rfl⟩
theorem qp_10 : Cond.selects "MetricLogMonitorModel" ⟨"MetricLogMonitorModel", "freeOf", "(I)I"⟩ ⟨"MetricLogMonitorModel", "freeOf", "(I)I"⟩ ∈ WALL := List.mem_filter.mpr ⟨List.mem_append_left _ (List.mem_of_getElem? (i := 10) rfl), rfl⟩
theorem qp_11 : Cond.selects "MetricLogMonitorModel" ⟨"MetricLogMonitorModel", "rangedOf", "(I)I"⟩ ⟨"MetricLogMonitorModel", "rangedOf", "(I)I"⟩ ∈ WALL := List.mem_filter.mpr ⟨List.mem_append_left _ (List.mem_of_getElem? (i := 11) rfl), rfl⟩
theorem qp_12 : Cond.selects "MetricLogMonitorModel" ⟨"MetricLogMonitorModel", "empty", "()V"⟩ ⟨"MetricLogMonitorModel", "empty", "()V"⟩ ∈ WALL := List.mem_filter.mpr ⟨List.mem_append_left _ (List.mem_of_getElem? (i := 12) rfl), rfl⟩
theorem qp_13 : Cond.selects "MetricLogMonitorModel" ⟨"MetricLogMonitorModel", "look", "(II)V"⟩ ⟨"MetricLogMonitorModel", "look", "(II)V"⟩ ∈ WALL := List.mem_filter.mpr ⟨List.mem_append_left _ (List.mem_of_getElem? (i := 13) rfl), rfl⟩
theorem qp_14 : Cond.selects "MetricLogMonitorModel" ⟨"MetricLogMonitorModel", "satisfies", "(III)Z"⟩ ⟨"MetricLogMonitorModel", "satisfies", "(III)Z"⟩ ∈ WALL := List.mem_filter.mpr ⟨List.mem_append_left _ (List.mem_of_getElem? (i := 14) rfl), rfl⟩
theorem qp_15 : Cond.selects "MetricLogMonitorModel" ⟨"MetricLogMonitorModel", "at", "(III)Z"⟩ ⟨"MetricLogMonitorModel", "at", "(III)Z"⟩ ∈ WALL := List.mem_filter.mpr ⟨List.mem_append_left _ (List.mem_of_getElem? (i := 15) rfl), rfl⟩
theorem qp_16 : Cond.selects "MetricLogMonitorModel" ⟨"MetricLogMonitorModel", "existsAt", "(III)Z"⟩ ⟨"MetricLogMonitorModel", "existsAt", "(III)Z"⟩ ∈ WALL := List.mem_filter.mpr ⟨List.mem_append_left _ (List.mem_of_getElem? (i := 16) rfl), rfl⟩
theorem qp_17 : Cond.selects "MetricLogMonitorModel" ⟨"MetricLogMonitorModel", "lies", "(II)Z"⟩ ⟨"MetricLogMonitorModel", "lies", "(II)Z"⟩ ∈ WALL := List.mem_filter.mpr ⟨List.mem_append_left _ (List.mem_of_getElem? (i := 17) rfl), rfl⟩
theorem qp_18 : Cond.selects "MetricLogMonitorModel" ⟨"MetricLogMonitorModel", "sinceAt", "(III)Z"⟩ ⟨"MetricLogMonitorModel", "sinceAt", "(III)Z"⟩ ∈ WALL := List.mem_filter.mpr ⟨List.mem_append_left _ (List.mem_of_getElem? (i := 18) rfl), rfl⟩
theorem qp_19 : Cond.selects "MetricLogMonitorModel" ⟨"MetricLogMonitorModel", "untilAt", "(III)Z"⟩ ⟨"MetricLogMonitorModel", "untilAt", "(III)Z"⟩ ∈ WALL := List.mem_filter.mpr ⟨List.mem_append_left _ (List.mem_of_getElem? (i := 19) rfl), rfl⟩
theorem qp_20 : Cond.selects "MetricLogMonitorModel" ⟨"MetricLogMonitorModel", "lesser", "(II)I"⟩ ⟨"MetricLogMonitorModel", "lesser", "(II)I"⟩ ∈ WALL := List.mem_filter.mpr ⟨List.mem_append_left _ (List.mem_of_getElem? (i := 20) rfl), rfl⟩
theorem qp_21 : Cond.selects "MetricLogMonitorModel" ⟨"MetricLogMonitorModel", "decided", "(II)I"⟩ ⟨"MetricLogMonitorModel", "decided", "(II)I"⟩ ∈ WALL := List.mem_filter.mpr ⟨List.mem_append_left _ (List.mem_of_getElem? (i := 21) rfl), rfl⟩
theorem qp_22 : Cond.selects "MetricLogMonitorModel" ⟨"MetricLogMonitorModel", "isKnown", "(II)Z"⟩ ⟨"MetricLogMonitorModel", "isKnown", "(II)Z"⟩ ∈ WALL := List.mem_filter.mpr ⟨List.mem_append_left _ (List.mem_of_getElem? (i := 22) rfl), rfl⟩
-- methods: name and code
def y_M_init : MethodName := ⟨"MetricLogMonitor", "<init>", "()V"⟩
abbrev b_M_init : ByteArray := prog_1_method_1_code
def y_Obj_init : MethodName := ⟨"java/lang/Object", "<init>", "()V"⟩
abbrev b_Obj_init : ByteArray := object_method_1_code
def y_AL_init : MethodName := ⟨"java/util/ArrayList", "<init>", "()V"⟩
abbrev b_AL_init : ByteArray := prog_22_method_2_code
def y_AbsL_init : MethodName := ⟨"java/util/AbstractList", "<init>", "()V"⟩
abbrev b_AbsL_init : ByteArray := prog_21_method_1_code
def y_AbsC_init : MethodName := ⟨"java/util/AbstractCollection", "<init>", "()V"⟩
abbrev b_AbsC_init : ByteArray := prog_20_method_1_code
def y_Log_init : MethodName := ⟨"MetricLogMonitor$Log", "<init>", "()V"⟩
abbrev b_Log_init : ByteArray := prog_7_method_1_code
def y_M_atom : MethodName := ⟨"MetricLogMonitor", "atom", "(III)I"⟩
abbrev b_M_atom : ByteArray := prog_1_method_2_code
def y_M_mayMake : MethodName := ⟨"MetricLogMonitor", "mayMake", "()Z"⟩
abbrev b_M_mayMake : ByteArray := prog_1_method_20_code
def y_AL_size : MethodName := ⟨"java/util/ArrayList", "size", "()I"⟩
abbrev b_AL_size : ByteArray := prog_22_method_8_code
def y_M_isRelation : MethodName := ⟨"MetricLogMonitor", "isRelation", "(I)Z"⟩
abbrev b_M_isRelation : ByteArray := prog_1_method_23_code
def y_M_isTerm : MethodName := ⟨"MetricLogMonitor", "isTerm", "(I)Z"⟩
abbrev b_M_isTerm : ByteArray := prog_1_method_26_code
def y_M_isVariable : MethodName := ⟨"MetricLogMonitor", "isVariable", "(I)Z"⟩
abbrev b_M_isVariable : ByteArray := prog_1_method_24_code
def y_M_isValueTerm : MethodName := ⟨"MetricLogMonitor", "isValueTerm", "(I)Z"⟩
abbrev b_M_isValueTerm : ByteArray := prog_1_method_27_code
def y_Atom_init : MethodName := ⟨"MetricLogMonitor$Atom", "<init>", "(III)V"⟩
abbrev b_Atom_init : ByteArray := prog_2_method_1_code
def y_M_variablesAmong : MethodName := ⟨"MetricLogMonitor", "variablesAmong", "(II)I"⟩
abbrev b_M_variablesAmong : ByteArray := prog_1_method_34_code
def y_M_variableBit : MethodName := ⟨"MetricLogMonitor", "variableBit", "(I)I"⟩
abbrev b_M_variableBit : ByteArray := prog_1_method_33_code
def y_Form_init : MethodName := ⟨"MetricLogMonitor$Formula", "<init>", "(IIZ)V"⟩
abbrev b_Form_init : ByteArray := prog_5_method_1_code
def y_M_add : MethodName := ⟨"MetricLogMonitor", "add", "(LMetricLogMonitor$Formula;)I"⟩
abbrev b_M_add : ByteArray := prog_1_method_21_code
def y_AL_add : MethodName := ⟨"java/util/ArrayList", "add", "(Ljava/lang/Object;)Z"⟩
abbrev b_AL_add : ByteArray := prog_22_method_25_code
def y_AL_add3 : MethodName := ⟨"java/util/ArrayList", "add", "(Ljava/lang/Object;[Ljava/lang/Object;I)V"⟩
abbrev b_AL_add3 : ByteArray := prog_22_method_24_code
def y_AL_grow0 : MethodName := ⟨"java/util/ArrayList", "grow", "()[Ljava/lang/Object;"⟩
abbrev b_AL_grow0 : ByteArray := prog_22_method_7_code
def y_AL_grow : MethodName := ⟨"java/util/ArrayList", "grow", "(I)[Ljava/lang/Object;"⟩
abbrev b_AL_grow : ByteArray := prog_22_method_6_code
def y_ArraysSupport_newLength : MethodName := ⟨"jdk/internal/util/ArraysSupport", "newLength", "(III)I"⟩
abbrev b_ArraysSupport_newLength : ByteArray := prog_29_method_27_code
def y_Math_max : MethodName := ⟨"java/lang/Math", "max", "(II)I"⟩
abbrev b_Math_max : ByteArray := prog_18_method_65_code
def y_ArraysSupport_hugeLength : MethodName := ⟨"jdk/internal/util/ArraysSupport", "hugeLength", "(II)I"⟩
abbrev b_ArraysSupport_hugeLength : ByteArray := prog_29_method_28_code
def y_Arrays_copyOf2 : MethodName := ⟨"java/util/Arrays", "copyOf", "([Ljava/lang/Object;I)[Ljava/lang/Object;"⟩
abbrev b_Arrays_copyOf2 : ByteArray := prog_23_method_119_code
def y_Arrays_copyOf3 : MethodName := ⟨"java/util/Arrays", "copyOf", "([Ljava/lang/Object;ILjava/lang/Class;)[Ljava/lang/Object;"⟩
abbrev b_Arrays_copyOf3 : ByteArray := prog_23_method_120_code
def y_Math_min : MethodName := ⟨"java/lang/Math", "min", "(II)I"⟩
abbrev b_Math_min : ByteArray := prog_18_method_69_code
def y_M_compare : MethodName := ⟨"MetricLogMonitor", "compare", "(ZII)I"⟩
abbrev b_M_compare : ByteArray := prog_1_method_3_code
def y_Comp_init : MethodName := ⟨"MetricLogMonitor$Comparison", "<init>", "(ZII)V"⟩
abbrev b_Comp_init : ByteArray := prog_3_method_1_code
def y_Comp_rangedBy : MethodName := ⟨"MetricLogMonitor$Comparison", "rangedBy", "(ZII)I"⟩
abbrev b_Comp_rangedBy : ByteArray := prog_3_method_2_code
def y_M_not : MethodName := ⟨"MetricLogMonitor", "not", "(I)I"⟩
abbrev b_M_not : ByteArray := prog_1_method_4_code
def y_M_find : MethodName := ⟨"MetricLogMonitor", "find", "(I)LMetricLogMonitor$Formula;"⟩
abbrev b_M_find : ByteArray := prog_1_method_22_code
def y_AL_get : MethodName := ⟨"java/util/ArrayList", "get", "(I)Ljava/lang/Object;"⟩
abbrev b_AL_get : ByteArray := prog_22_method_20_code
def y_Objects_checkIndex : MethodName := ⟨"java/util/Objects", "checkIndex", "(II)I"⟩
abbrev b_Objects_checkIndex : ByteArray := prog_26_method_17_code
def y_Preconditions_checkIndex : MethodName := ⟨"jdk/internal/util/Preconditions", "checkIndex", "(IILjava/util/function/BiFunction;)I"⟩
abbrev b_Preconditions_checkIndex : ByteArray := prog_30_method_11_code
def y_AL_elementData : MethodName := ⟨"java/util/ArrayList", "elementData", "(I)Ljava/lang/Object;"⟩
abbrev b_AL_elementData : ByteArray := prog_22_method_18_code
def y_Not_init : MethodName := ⟨"MetricLogMonitor$Not", "<init>", "(LMetricLogMonitor$Formula;)V"⟩
abbrev b_Not_init : ByteArray := prog_8_method_1_code
def y_M_join : MethodName := ⟨"MetricLogMonitor", "join", "(ZII)I"⟩
abbrev b_M_join : ByteArray := prog_1_method_5_code
def y_Join_init : MethodName := ⟨"MetricLogMonitor$Join", "<init>", "(ZLMetricLogMonitor$Formula;LMetricLogMonitor$Formula;)V"⟩
abbrev b_Join_init : ByteArray := prog_6_method_1_code
def y_Join_rangedBy : MethodName := ⟨"MetricLogMonitor$Join", "rangedBy", "(ZLMetricLogMonitor$Formula;LMetricLogMonitor$Formula;)I"⟩
abbrev b_Join_rangedBy : ByteArray := prog_6_method_2_code
def y_M_exists : MethodName := ⟨"MetricLogMonitor", "exists", "(II)I"⟩
abbrev b_M_exists : ByteArray := prog_1_method_6_code
def y_Exi_init : MethodName := ⟨"MetricLogMonitor$Exists", "<init>", "(ILMetricLogMonitor$Formula;)V"⟩
abbrev b_Exi_init : ByteArray := prog_4_method_1_code
def y_M_previous : MethodName := ⟨"MetricLogMonitor", "previous", "(III)I"⟩
abbrev b_M_previous : ByteArray := prog_1_method_7_code
def y_M_isPastInterval : MethodName := ⟨"MetricLogMonitor", "isPastInterval", "(II)Z"⟩
abbrev b_M_isPastInterval : ByteArray := prog_1_method_30_code
def y_M_isTime : MethodName := ⟨"MetricLogMonitor", "isTime", "(I)Z"⟩
abbrev b_M_isTime : ByteArray := prog_1_method_28_code
def y_M_isInterval : MethodName := ⟨"MetricLogMonitor", "isInterval", "(II)Z"⟩
abbrev b_M_isInterval : ByteArray := prog_1_method_29_code
def y_Prev_init : MethodName := ⟨"MetricLogMonitor$Previous", "<init>", "(IILMetricLogMonitor$Formula;)V"⟩
abbrev b_Prev_init : ByteArray := prog_9_method_1_code
def y_M_since : MethodName := ⟨"MetricLogMonitor", "since", "(IIII)I"⟩
abbrev b_M_since : ByteArray := prog_1_method_8_code
def y_Since_init : MethodName := ⟨"MetricLogMonitor$Since", "<init>", "(IILMetricLogMonitor$Formula;LMetricLogMonitor$Formula;)V"⟩
abbrev b_Since_init : ByteArray := prog_10_method_1_code
def y_M_until : MethodName := ⟨"MetricLogMonitor", "until", "(IIII)I"⟩
abbrev b_M_until : ByteArray := prog_1_method_9_code
def y_Until_init : MethodName := ⟨"MetricLogMonitor$Until", "<init>", "(IILMetricLogMonitor$Formula;LMetricLogMonitor$Formula;)V"⟩
abbrev b_Until_init : ByteArray := prog_11_method_1_code
def y_M_free : MethodName := ⟨"MetricLogMonitor", "free", "(I)I"⟩
abbrev b_M_free : ByteArray := prog_1_method_10_code
def y_M_ranged : MethodName := ⟨"MetricLogMonitor", "ranged", "(I)I"⟩
abbrev b_M_ranged : ByteArray := prog_1_method_11_code
def y_M_bounded : MethodName := ⟨"MetricLogMonitor", "bounded", "(I)Z"⟩
abbrev b_M_bounded : ByteArray := prog_1_method_12_code
def y_Form_isBounded : MethodName := ⟨"MetricLogMonitor$Formula", "isBounded", "()Z"⟩
abbrev b_Form_isBounded : ByteArray := prog_5_method_6_code
def y_M_watch : MethodName := ⟨"MetricLogMonitor", "watch", "()Z"⟩
abbrev b_M_watch : ByteArray := prog_1_method_13_code
def y_AL_isEmpty : MethodName := ⟨"java/util/ArrayList", "isEmpty", "()Z"⟩
abbrev b_AL_isEmpty : ByteArray := prog_22_method_9_code
def y_M_gather : MethodName := ⟨"MetricLogMonitor", "gather", "(III)Z"⟩
abbrev b_M_gather : ByteArray := prog_1_method_14_code
def y_M_isValue : MethodName := ⟨"MetricLogMonitor", "isValue", "(I)Z"⟩
abbrev b_M_isValue : ByteArray := prog_1_method_25_code
def y_M_pairBit : MethodName := ⟨"MetricLogMonitor", "pairBit", "(III)J"⟩
abbrev b_M_pairBit : ByteArray := prog_1_method_35_code
def y_Log_collect : MethodName := ⟨"MetricLogMonitor$Log", "collect", "(J)Z"⟩
abbrev b_Log_collect : ByteArray := prog_7_method_2_code
def y_M_place : MethodName := ⟨"MetricLogMonitor", "place", "(I)I"⟩
abbrev b_M_place : ByteArray := prog_1_method_15_code
def y_Log_accepts : MethodName := ⟨"MetricLogMonitor$Log", "accepts", "(I)Z"⟩
abbrev b_Log_accepts : ByteArray := prog_7_method_3_code
def y_Log_append : MethodName := ⟨"MetricLogMonitor$Log", "append", "(I)V"⟩
abbrev b_Log_append : ByteArray := prog_7_method_4_code
def y_Form_advance : MethodName := ⟨"MetricLogMonitor$Formula", "advance", "(LMetricLogMonitor$Log;)V"⟩
abbrev b_Form_advance : ByteArray := prog_5_method_4_code
def y_Atom_reach : MethodName := ⟨"MetricLogMonitor$Atom", "reach", "(LMetricLogMonitor$Log;)I"⟩
abbrev b_Atom_reach : ByteArray := prog_2_method_2_code
def y_Comp_reach : MethodName := ⟨"MetricLogMonitor$Comparison", "reach", "(LMetricLogMonitor$Log;)I"⟩
abbrev b_Comp_reach : ByteArray := prog_3_method_3_code
def y_Exi_reach : MethodName := ⟨"MetricLogMonitor$Exists", "reach", "(LMetricLogMonitor$Log;)I"⟩
abbrev b_Exi_reach : ByteArray := prog_4_method_2_code
def y_Join_reach : MethodName := ⟨"MetricLogMonitor$Join", "reach", "(LMetricLogMonitor$Log;)I"⟩
abbrev b_Join_reach : ByteArray := prog_6_method_3_code
def y_Not_reach : MethodName := ⟨"MetricLogMonitor$Not", "reach", "(LMetricLogMonitor$Log;)I"⟩
abbrev b_Not_reach : ByteArray := prog_8_method_2_code
def y_Prev_reach : MethodName := ⟨"MetricLogMonitor$Previous", "reach", "(LMetricLogMonitor$Log;)I"⟩
abbrev b_Prev_reach : ByteArray := prog_9_method_2_code
def y_Since_reach : MethodName := ⟨"MetricLogMonitor$Since", "reach", "(LMetricLogMonitor$Log;)I"⟩
abbrev b_Since_reach : ByteArray := prog_10_method_2_code
def y_Until_reach : MethodName := ⟨"MetricLogMonitor$Until", "reach", "(LMetricLogMonitor$Log;)I"⟩
abbrev b_Until_reach : ByteArray := prog_11_method_2_code
def y_Log_duration : MethodName := ⟨"MetricLogMonitor$Log", "duration", "(II)I"⟩
abbrev b_Log_duration : ByteArray := prog_7_method_6_code
def y_Atom_evaluate : MethodName := ⟨"MetricLogMonitor$Atom", "evaluate", "(LMetricLogMonitor$Log;I)J"⟩
abbrev b_Atom_evaluate : ByteArray := prog_2_method_3_code
def y_M_valueOf : MethodName := ⟨"MetricLogMonitor", "valueOf", "(II)I"⟩
abbrev b_M_valueOf : ByteArray := prog_1_method_32_code
def y_Comp_evaluate : MethodName := ⟨"MetricLogMonitor$Comparison", "evaluate", "(LMetricLogMonitor$Log;I)J"⟩
abbrev b_Comp_evaluate : ByteArray := prog_3_method_4_code
def y_Exi_evaluate : MethodName := ⟨"MetricLogMonitor$Exists", "evaluate", "(LMetricLogMonitor$Log;I)J"⟩
abbrev b_Exi_evaluate : ByteArray := prog_4_method_3_code
def y_Form_setAt : MethodName := ⟨"MetricLogMonitor$Formula", "setAt", "(I)J"⟩
abbrev b_Form_setAt : ByteArray := prog_5_method_8_code
def y_Form_isDecidedAt : MethodName := ⟨"MetricLogMonitor$Formula", "isDecidedAt", "(I)Z"⟩
abbrev b_Form_isDecidedAt : ByteArray := prog_5_method_7_code
def y_M_fold : MethodName := ⟨"MetricLogMonitor", "fold", "(IJ)J"⟩
abbrev b_M_fold : ByteArray := prog_1_method_36_code
def y_M_unfold : MethodName := ⟨"MetricLogMonitor", "unfold", "(IJ)J"⟩
abbrev b_M_unfold : ByteArray := prog_1_method_37_code
def y_Join_evaluate : MethodName := ⟨"MetricLogMonitor$Join", "evaluate", "(LMetricLogMonitor$Log;I)J"⟩
abbrev b_Join_evaluate : ByteArray := prog_6_method_4_code
def y_Not_evaluate : MethodName := ⟨"MetricLogMonitor$Not", "evaluate", "(LMetricLogMonitor$Log;I)J"⟩
abbrev b_Not_evaluate : ByteArray := prog_8_method_3_code
def y_Prev_evaluate : MethodName := ⟨"MetricLogMonitor$Previous", "evaluate", "(LMetricLogMonitor$Log;I)J"⟩
abbrev b_Prev_evaluate : ByteArray := prog_9_method_3_code
def y_M_liesIn : MethodName := ⟨"MetricLogMonitor", "liesIn", "(III)Z"⟩
abbrev b_M_liesIn : ByteArray := prog_1_method_31_code
def y_Since_evaluate : MethodName := ⟨"MetricLogMonitor$Since", "evaluate", "(LMetricLogMonitor$Log;I)J"⟩
abbrev b_Since_evaluate : ByteArray := prog_10_method_3_code
def y_Until_evaluate : MethodName := ⟨"MetricLogMonitor$Until", "evaluate", "(LMetricLogMonitor$Log;I)J"⟩
abbrev b_Until_evaluate : ByteArray := prog_11_method_3_code
def y_M_stop : MethodName := ⟨"MetricLogMonitor", "stop", "(Z)V"⟩
abbrev b_M_stop : ByteArray := prog_1_method_16_code
def y_Log_clear : MethodName := ⟨"MetricLogMonitor$Log", "clear", "()V"⟩
abbrev b_Log_clear : ByteArray := prog_7_method_5_code
def y_Form_forget : MethodName := ⟨"MetricLogMonitor$Formula", "forget", "()V"⟩
abbrev b_Form_forget : ByteArray := prog_5_method_5_code
def y_AL_clear : MethodName := ⟨"java/util/ArrayList", "clear", "()V"⟩
abbrev b_AL_clear : ByteArray := prog_22_method_40_code
def y_M_progress : MethodName := ⟨"MetricLogMonitor", "progress", "(I)I"⟩
abbrev b_M_progress : ByteArray := prog_1_method_17_code
def y_M_satisfied : MethodName := ⟨"MetricLogMonitor", "satisfied", "(II)J"⟩
abbrev b_M_satisfied : ByteArray := prog_1_method_18_code
def y_M_rows : MethodName := ⟨"MetricLogMonitor", "rows", "(II)I"⟩
abbrev b_M_rows : ByteArray := prog_1_method_19_code
def y_Long_bitCount : MethodName := ⟨"java/lang/Long", "bitCount", "(J)I"⟩
abbrev b_Long_bitCount : ByteArray := prog_17_method_50_code
def y_R_init : MethodName := ⟨"MetricLogMonitorModel", "<init>", "()V"⟩
abbrev b_R_init : ByteArray := prog_13_method_1_code
def y_R_atom : MethodName := ⟨"MetricLogMonitorModel", "atom", "(III)I"⟩
abbrev b_R_atom : ByteArray := prog_13_method_8_code
def y_R_mayMake : MethodName := ⟨"MetricLogMonitorModel", "mayMake", "()Z"⟩
abbrev b_R_mayMake : ByteArray := prog_13_method_4_code
def y_R_isTerm : MethodName := ⟨"MetricLogMonitorModel", "isTerm", "(I)Z"⟩
abbrev b_R_isTerm : ByteArray := prog_13_method_2_code
def y_R_make : MethodName := ⟨"MetricLogMonitorModel", "make", "(IIII)I"⟩
abbrev b_R_make : ByteArray := prog_13_method_6_code
def y_R_compare : MethodName := ⟨"MetricLogMonitorModel", "compare", "(ZII)I"⟩
abbrev b_R_compare : ByteArray := prog_13_method_9_code
def y_R_not : MethodName := ⟨"MetricLogMonitorModel", "not", "(I)I"⟩
abbrev b_R_not : ByteArray := prog_13_method_10_code
def y_R_isFormula : MethodName := ⟨"MetricLogMonitorModel", "isFormula", "(I)Z"⟩
abbrev b_R_isFormula : ByteArray := prog_13_method_3_code
def y_R_join : MethodName := ⟨"MetricLogMonitorModel", "join", "(ZII)I"⟩
abbrev b_R_join : ByteArray := prog_13_method_11_code
def y_R_exists : MethodName := ⟨"MetricLogMonitorModel", "exists", "(II)I"⟩
abbrev b_R_exists : ByteArray := prog_13_method_12_code
def y_R_previous : MethodName := ⟨"MetricLogMonitorModel", "previous", "(III)I"⟩
abbrev b_R_previous : ByteArray := prog_13_method_13_code
def y_R_isInterval : MethodName := ⟨"MetricLogMonitorModel", "isInterval", "(IIZ)Z"⟩
abbrev b_R_isInterval : ByteArray := prog_13_method_5_code
def y_R_makeTimed : MethodName := ⟨"MetricLogMonitorModel", "makeTimed", "(IIIII)I"⟩
abbrev b_R_makeTimed : ByteArray := prog_13_method_7_code
def y_R_since : MethodName := ⟨"MetricLogMonitorModel", "since", "(IIII)I"⟩
abbrev b_R_since : ByteArray := prog_13_method_14_code
def y_R_until : MethodName := ⟨"MetricLogMonitorModel", "until", "(IIII)I"⟩
abbrev b_R_until : ByteArray := prog_13_method_15_code
def y_R_free : MethodName := ⟨"MetricLogMonitorModel", "free", "(I)I"⟩
abbrev b_R_free : ByteArray := prog_13_method_19_code
def y_R_freeOf : MethodName := ⟨"MetricLogMonitorModel", "freeOf", "(I)I"⟩
abbrev b_R_freeOf : ByteArray := prog_13_method_17_code
def y_R_variable : MethodName := ⟨"MetricLogMonitorModel", "variable", "(I)I"⟩
abbrev b_R_variable : ByteArray := prog_13_method_16_code
def y_R_ranged : MethodName := ⟨"MetricLogMonitorModel", "ranged", "(I)I"⟩
abbrev b_R_ranged : ByteArray := prog_13_method_20_code
def y_R_rangedOf : MethodName := ⟨"MetricLogMonitorModel", "rangedOf", "(I)I"⟩
abbrev b_R_rangedOf : ByteArray := prog_13_method_18_code
def y_R_bounded : MethodName := ⟨"MetricLogMonitorModel", "bounded", "(I)Z"⟩
abbrev b_R_bounded : ByteArray := prog_13_method_21_code
def y_R_watch : MethodName := ⟨"MetricLogMonitorModel", "watch", "()Z"⟩
abbrev b_R_watch : ByteArray := prog_13_method_23_code
def y_R_empty : MethodName := ⟨"MetricLogMonitorModel", "empty", "()V"⟩
abbrev b_R_empty : ByteArray := prog_13_method_22_code
def y_R_gather : MethodName := ⟨"MetricLogMonitorModel", "gather", "(III)Z"⟩
abbrev b_R_gather : ByteArray := prog_13_method_24_code
def y_R_place : MethodName := ⟨"MetricLogMonitorModel", "place", "(I)I"⟩
abbrev b_R_place : ByteArray := prog_13_method_25_code
def y_R_look : MethodName := ⟨"MetricLogMonitorModel", "look", "(II)V"⟩
abbrev b_R_look : ByteArray := prog_13_method_34_code
def y_R_satisfies : MethodName := ⟨"MetricLogMonitorModel", "satisfies", "(III)Z"⟩
abbrev b_R_satisfies : ByteArray := prog_13_method_33_code
def y_R_value : MethodName := ⟨"MetricLogMonitorModel", "value", "(II)I"⟩
abbrev b_R_value : ByteArray := prog_13_method_27_code
def y_R_at : MethodName := ⟨"MetricLogMonitorModel", "at", "(III)Z"⟩
abbrev b_R_at : ByteArray := prog_13_method_28_code
def y_R_existsAt : MethodName := ⟨"MetricLogMonitorModel", "existsAt", "(III)Z"⟩
abbrev b_R_existsAt : ByteArray := prog_13_method_32_code
def y_R_lies : MethodName := ⟨"MetricLogMonitorModel", "lies", "(II)Z"⟩
abbrev b_R_lies : ByteArray := prog_13_method_29_code
def y_R_sinceAt : MethodName := ⟨"MetricLogMonitorModel", "sinceAt", "(III)Z"⟩
abbrev b_R_sinceAt : ByteArray := prog_13_method_30_code
def y_R_untilAt : MethodName := ⟨"MetricLogMonitorModel", "untilAt", "(III)Z"⟩
abbrev b_R_untilAt : ByteArray := prog_13_method_31_code
def y_R_stop : MethodName := ⟨"MetricLogMonitorModel", "stop", "(Z)V"⟩
abbrev b_R_stop : ByteArray := prog_13_method_26_code
def y_R_progress : MethodName := ⟨"MetricLogMonitorModel", "progress", "(I)I"⟩
abbrev b_R_progress : ByteArray := prog_13_method_37_code
def y_R_lesser : MethodName := ⟨"MetricLogMonitorModel", "lesser", "(II)I"⟩
abbrev b_R_lesser : ByteArray := prog_13_method_35_code
def y_R_decided : MethodName := ⟨"MetricLogMonitorModel", "decided", "(II)I"⟩
abbrev b_R_decided : ByteArray := prog_13_method_36_code
def y_R_satisfied : MethodName := ⟨"MetricLogMonitorModel", "satisfied", "(II)J"⟩
abbrev b_R_satisfied : ByteArray := prog_13_method_39_code
def y_R_isKnown : MethodName := ⟨"MetricLogMonitorModel", "isKnown", "(II)Z"⟩
abbrev b_R_isKnown : ByteArray := prog_13_method_38_code
def y_R_rows : MethodName := ⟨"MetricLogMonitorModel", "rows", "(II)I"⟩
abbrev b_R_rows : ByteArray := prog_13_method_41_code
def y_R_agree : MethodName := ⟨"MetricLogMonitorModel", "agree", "(III)Z"⟩
abbrev b_R_agree : ByteArray := prog_13_method_40_code
-- classes: fields (declaring class, name, descriptor, final), their types
def F_Atom : u_T := fun k => match k with
  | 0 => ("MetricLogMonitor$Formula", "freeVariables", "I", true)
  | 1 => ("MetricLogMonitor$Formula", "rangedVariables", "I", true)
  | 2 => ("MetricLogMonitor$Formula", "existsRanged", "Z", true)
  | 3 => ("MetricLogMonitor$Formula", "decided", "I", false)
  | 4 => ("MetricLogMonitor$Formula", "sets", "[J", true)
  | 5 => ("MetricLogMonitor$Atom", "relation", "I", true)
  | 6 => ("MetricLogMonitor$Atom", "a", "I", true)
  | _ => ("MetricLogMonitor$Atom", "b", "I", true)
def t_Atom : Nat → FieldType := fun k => match k with
  | 0 => .int
  | 1 => .int
  | 2 => .boolean
  | 3 => .int
  | 4 => (.array .long)
  | 5 => .int
  | 6 => .int
  | _ => .int
def F_Comp : u_T := fun k => match k with
  | 0 => ("MetricLogMonitor$Formula", "freeVariables", "I", true)
  | 1 => ("MetricLogMonitor$Formula", "rangedVariables", "I", true)
  | 2 => ("MetricLogMonitor$Formula", "existsRanged", "Z", true)
  | 3 => ("MetricLogMonitor$Formula", "decided", "I", false)
  | 4 => ("MetricLogMonitor$Formula", "sets", "[J", true)
  | 5 => ("MetricLogMonitor$Comparison", "less", "Z", true)
  | 6 => ("MetricLogMonitor$Comparison", "a", "I", true)
  | _ => ("MetricLogMonitor$Comparison", "b", "I", true)
def t_Comp : Nat → FieldType := fun k => match k with
  | 0 => .int
  | 1 => .int
  | 2 => .boolean
  | 3 => .int
  | 4 => (.array .long)
  | 5 => .boolean
  | 6 => .int
  | _ => .int
def F_Not : u_T := fun k => match k with
  | 0 => ("MetricLogMonitor$Formula", "freeVariables", "I", true)
  | 1 => ("MetricLogMonitor$Formula", "rangedVariables", "I", true)
  | 2 => ("MetricLogMonitor$Formula", "existsRanged", "Z", true)
  | 3 => ("MetricLogMonitor$Formula", "decided", "I", false)
  | 4 => ("MetricLogMonitor$Formula", "sets", "[J", true)
  | _ => ("MetricLogMonitor$Not", "part", "LMetricLogMonitor$Formula;", true)
def t_Not : Nat → FieldType := fun k => match k with
  | 0 => .int
  | 1 => .int
  | 2 => .boolean
  | 3 => .int
  | 4 => (.array .long)
  | _ => (.object "MetricLogMonitor$Formula")
def F_Join : u_T := fun k => match k with
  | 0 => ("MetricLogMonitor$Formula", "freeVariables", "I", true)
  | 1 => ("MetricLogMonitor$Formula", "rangedVariables", "I", true)
  | 2 => ("MetricLogMonitor$Formula", "existsRanged", "Z", true)
  | 3 => ("MetricLogMonitor$Formula", "decided", "I", false)
  | 4 => ("MetricLogMonitor$Formula", "sets", "[J", true)
  | 5 => ("MetricLogMonitor$Join", "both", "Z", true)
  | 6 => ("MetricLogMonitor$Join", "first", "LMetricLogMonitor$Formula;", true)
  | _ => ("MetricLogMonitor$Join", "second", "LMetricLogMonitor$Formula;", true)
def t_Join : Nat → FieldType := fun k => match k with
  | 0 => .int
  | 1 => .int
  | 2 => .boolean
  | 3 => .int
  | 4 => (.array .long)
  | 5 => .boolean
  | 6 => (.object "MetricLogMonitor$Formula")
  | _ => (.object "MetricLogMonitor$Formula")
def F_Exi : u_T := fun k => match k with
  | 0 => ("MetricLogMonitor$Formula", "freeVariables", "I", true)
  | 1 => ("MetricLogMonitor$Formula", "rangedVariables", "I", true)
  | 2 => ("MetricLogMonitor$Formula", "existsRanged", "Z", true)
  | 3 => ("MetricLogMonitor$Formula", "decided", "I", false)
  | 4 => ("MetricLogMonitor$Formula", "sets", "[J", true)
  | 5 => ("MetricLogMonitor$Exists", "v", "I", true)
  | _ => ("MetricLogMonitor$Exists", "part", "LMetricLogMonitor$Formula;", true)
def t_Exi : Nat → FieldType := fun k => match k with
  | 0 => .int
  | 1 => .int
  | 2 => .boolean
  | 3 => .int
  | 4 => (.array .long)
  | 5 => .int
  | _ => (.object "MetricLogMonitor$Formula")
def F_Prev : u_T := fun k => match k with
  | 0 => ("MetricLogMonitor$Formula", "freeVariables", "I", true)
  | 1 => ("MetricLogMonitor$Formula", "rangedVariables", "I", true)
  | 2 => ("MetricLogMonitor$Formula", "existsRanged", "Z", true)
  | 3 => ("MetricLogMonitor$Formula", "decided", "I", false)
  | 4 => ("MetricLogMonitor$Formula", "sets", "[J", true)
  | 5 => ("MetricLogMonitor$Previous", "lo", "I", true)
  | 6 => ("MetricLogMonitor$Previous", "hi", "I", true)
  | _ => ("MetricLogMonitor$Previous", "part", "LMetricLogMonitor$Formula;", true)
def t_Prev : Nat → FieldType := fun k => match k with
  | 0 => .int
  | 1 => .int
  | 2 => .boolean
  | 3 => .int
  | 4 => (.array .long)
  | 5 => .int
  | 6 => .int
  | _ => (.object "MetricLogMonitor$Formula")
def F_Since : u_T := fun k => match k with
  | 0 => ("MetricLogMonitor$Formula", "freeVariables", "I", true)
  | 1 => ("MetricLogMonitor$Formula", "rangedVariables", "I", true)
  | 2 => ("MetricLogMonitor$Formula", "existsRanged", "Z", true)
  | 3 => ("MetricLogMonitor$Formula", "decided", "I", false)
  | 4 => ("MetricLogMonitor$Formula", "sets", "[J", true)
  | 5 => ("MetricLogMonitor$Since", "lo", "I", true)
  | 6 => ("MetricLogMonitor$Since", "hi", "I", true)
  | 7 => ("MetricLogMonitor$Since", "first", "LMetricLogMonitor$Formula;", true)
  | _ => ("MetricLogMonitor$Since", "second", "LMetricLogMonitor$Formula;", true)
def t_Since : Nat → FieldType := fun k => match k with
  | 0 => .int
  | 1 => .int
  | 2 => .boolean
  | 3 => .int
  | 4 => (.array .long)
  | 5 => .int
  | 6 => .int
  | 7 => (.object "MetricLogMonitor$Formula")
  | _ => (.object "MetricLogMonitor$Formula")
def F_Until : u_T := fun k => match k with
  | 0 => ("MetricLogMonitor$Formula", "freeVariables", "I", true)
  | 1 => ("MetricLogMonitor$Formula", "rangedVariables", "I", true)
  | 2 => ("MetricLogMonitor$Formula", "existsRanged", "Z", true)
  | 3 => ("MetricLogMonitor$Formula", "decided", "I", false)
  | 4 => ("MetricLogMonitor$Formula", "sets", "[J", true)
  | 5 => ("MetricLogMonitor$Until", "lo", "I", true)
  | 6 => ("MetricLogMonitor$Until", "hi", "I", true)
  | 7 => ("MetricLogMonitor$Until", "first", "LMetricLogMonitor$Formula;", true)
  | _ => ("MetricLogMonitor$Until", "second", "LMetricLogMonitor$Formula;", true)
def t_Until : Nat → FieldType := fun k => match k with
  | 0 => .int
  | 1 => .int
  | 2 => .boolean
  | 3 => .int
  | 4 => (.array .long)
  | 5 => .int
  | 6 => .int
  | 7 => (.object "MetricLogMonitor$Formula")
  | _ => (.object "MetricLogMonitor$Formula")
def F_M : u_T := fun k => match k with
  | 0 => ("MetricLogMonitor", "formulas", "Ljava/util/ArrayList;", true)
  | 1 => ("MetricLogMonitor", "log", "LMetricLogMonitor$Log;", true)
  | _ => ("MetricLogMonitor", "watching", "Z", false)
def t_M : Nat → FieldType := fun k => match k with
  | 0 => (.object "java/util/ArrayList")
  | 1 => (.object "MetricLogMonitor$Log")
  | _ => .boolean
def F_Log : u_T := fun k => match k with
  | 0 => ("MetricLogMonitor$Log", "times", "[I", true)
  | 1 => ("MetricLogMonitor$Log", "pairs", "[J", true)
  | 2 => ("MetricLogMonitor$Log", "gathered", "J", false)
  | _ => ("MetricLogMonitor$Log", "size", "I", false)
def t_Log : Nat → FieldType := fun k => match k with
  | 0 => (.array .int)
  | 1 => (.array .long)
  | 2 => .long
  | _ => .int
def F_AL : u_T := fun k => match k with
  | 0 => ("java/util/AbstractList", "modCount", "I", false)
  | 1 => ("java/util/ArrayList", "elementData", "[Ljava/lang/Object;", false)
  | _ => ("java/util/ArrayList", "size", "I", false)
def t_AL : Nat → FieldType := fun k => match k with
  | 0 => .int
  | 1 => (.array (.object "java/lang/Object"))
  | _ => .int
def F_R : u_T := fun k => match k with
  | 0 => ("MetricLogMonitorModel", "formulas", "I", false)
  | 1 => ("MetricLogMonitorModel", "watching", "Z", false)
  | 2 => ("MetricLogMonitorModel", "places", "I", false)
  | 3 => ("MetricLogMonitorModel", "kind", "[I", false)
  | 4 => ("MetricLogMonitorModel", "which", "[I", false)
  | 5 => ("MetricLogMonitorModel", "first", "[I", false)
  | 6 => ("MetricLogMonitorModel", "second", "[I", false)
  | 7 => ("MetricLogMonitorModel", "low", "[I", false)
  | 8 => ("MetricLogMonitorModel", "high", "[I", false)
  | 9 => ("MetricLogMonitorModel", "time", "[I", false)
  | 10 => ("MetricLogMonitorModel", "pairs", "[I", false)
  | 11 => ("MetricLogMonitorModel", "gathered", "[I", false)
  | 12 => ("MetricLogMonitorModel", "holds", "[J", false)
  | 13 => ("MetricLogMonitorModel", "part", "[Z", false)
  | 14 => ("MetricLogMonitorModel", "freeSet", "[I", false)
  | 15 => ("MetricLogMonitorModel", "rangedSet", "[I", false)
  | _ => ("MetricLogMonitorModel", "reach", "[I", false)
def t_R : Nat → FieldType := fun k => match k with
  | 0 => .int
  | 1 => .boolean
  | 2 => .int
  | 3 => (.array .int)
  | 4 => (.array .int)
  | 5 => (.array .int)
  | 6 => (.array .int)
  | 7 => (.array .int)
  | 8 => (.array .int)
  | 9 => (.array .int)
  | 10 => (.array .int)
  | 11 => (.array .int)
  | 12 => (.array .long)
  | 13 => (.array .boolean)
  | 14 => (.array .int)
  | 15 => (.array .int)
  | _ => (.array .int)
abbrev classes : List vw_C := [("MetricLogMonitor$Atom", F_Atom, 8), ("MetricLogMonitor$Comparison", F_Comp, 8), ("MetricLogMonitor$Not", F_Not, 6), ("MetricLogMonitor$Join", F_Join, 8), ("MetricLogMonitor$Exists", F_Exi, 7), ("MetricLogMonitor$Previous", F_Prev, 8), ("MetricLogMonitor$Since", F_Since, 9), ("MetricLogMonitor$Until", F_Until, 9), ("MetricLogMonitor", F_M, 3), ("MetricLogMonitor$Log", F_Log, 4), ("java/util/ArrayList", F_AL, 3), ("MetricLogMonitorModel", F_R, 17)]
