/-! ===== the words: all of the tables that a call may hand on ===== -/
def jwd : List Cond := lw_tbl.filter goodWord
theorem jw_t {w : Cond} (h : w ∈ tables_1) (hg : goodWord w = true) : w ∈ jwd := List.mem_filter.mpr ⟨List.mem_append_right _ h, hg⟩
theorem jw_p {w : Cond} (h : w ∈ k2_sels lw_privs) (hg : goodWord w = true) : w ∈ jwd := List.mem_filter.mpr ⟨List.mem_append_left _ h, hg⟩
theorem jw_1 {i : Nat} {w : Cond} (h0 : tables_1_1[i]? = some w) (hg : goodWord w = true) : w ∈ jwd := by
  have h := List.mem_of_getElem? h0
  exact jw_t (by unfold tables_1; exact (List.mem_append_left _ h)) hg
theorem jw_2 {i : Nat} {w : Cond} (h0 : tables_1_2[i]? = some w) (hg : goodWord w = true) : w ∈ jwd := by
  have h := List.mem_of_getElem? h0
  exact jw_t (by unfold tables_1; exact (List.mem_append_right _ (List.mem_append_left _ h))) hg
theorem jw_3 {i : Nat} {w : Cond} (h0 : tables_1_3[i]? = some w) (hg : goodWord w = true) : w ∈ jwd := by
  have h := List.mem_of_getElem? h0
  exact jw_t (by unfold tables_1; exact (List.mem_append_right _ (List.mem_append_right _ (List.mem_append_left _ h)))) hg
theorem jw_4 {i : Nat} {w : Cond} (h0 : tables_1_4[i]? = some w) (hg : goodWord w = true) : w ∈ jwd := by
  have h := List.mem_of_getElem? h0
  exact jw_t (by unfold tables_1; exact (List.mem_append_right _ (List.mem_append_right _ (List.mem_append_right _ (List.mem_append_left _ h))))) hg
theorem jw_5 {i : Nat} {w : Cond} (h0 : tables_1_5[i]? = some w) (hg : goodWord w = true) : w ∈ jwd := by
  have h := List.mem_of_getElem? h0
  exact jw_t (by unfold tables_1; exact (List.mem_append_right _ (List.mem_append_right _ (List.mem_append_right _ (List.mem_append_right _ h))))) hg
theorem jp_1 {i : Nat} {q : MethodName × Nat} (h0 : lw_privs_1[i]? = some q) : Cond.selects q.1.cls q.1 q.1 ∈ jwd := by
  have h := List.mem_of_getElem? h0
  exact jw_p (List.mem_map.mpr ⟨q, by unfold lw_privs; exact (List.mem_append_left _ h), rfl⟩) rfl
theorem jp_2 {i : Nat} {q : MethodName × Nat} (h0 : lw_privs_2[i]? = some q) : Cond.selects q.1.cls q.1 q.1 ∈ jwd := by
  have h := List.mem_of_getElem? h0
  exact jw_p (List.mem_map.mpr ⟨q, by unfold lw_privs; exact (List.mem_append_right _ (List.mem_append_left _ h)), rfl⟩) rfl
theorem jp_3 {i : Nat} {q : MethodName × Nat} (h0 : lw_privs_3[i]? = some q) : Cond.selects q.1.cls q.1 q.1 ∈ jwd := by
  have h := List.mem_of_getElem? h0
  exact jw_p (List.mem_map.mpr ⟨q, by unfold lw_privs; exact (List.mem_append_right _ (List.mem_append_right _ h)), rfl⟩) rfl
theorem wd_1_0 : (Jvm.Cond.initialized "MergeWorkbenchLaw") ∈ jwd := jw_1 (i := 0) rfl rfl
theorem wd_1_1 : (Jvm.Cond.initialized "MergeWorkbench") ∈ jwd := jw_1 (i := 1) rfl rfl
theorem wd_1_2 : (Jvm.Cond.initialized "MergeWorkbench$Shelf") ∈ jwd := jw_1 (i := 2) rfl rfl
theorem wd_1_3 : (Jvm.Cond.initialized "MergeWorkbench$Lines") ∈ jwd := jw_1 (i := 3) rfl rfl
theorem wd_1_4 : (Jvm.Cond.initialized "MergeWorkbench$History") ∈ jwd := jw_1 (i := 4) rfl rfl
theorem wd_1_5 : (Jvm.Cond.initialized "MergeWorkbench$Input") ∈ jwd := jw_1 (i := 5) rfl rfl
theorem wd_1_6 : (Jvm.Cond.initialized "MergeWorkbench$Alignment") ∈ jwd := jw_1 (i := 6) rfl rfl
theorem wd_1_7 : (Jvm.Cond.initialized "MergeWorkbench$Table") ∈ jwd := jw_1 (i := 7) rfl rfl
theorem wd_1_8 : (Jvm.Cond.initialized "MergeWorkbench$Comparison") ∈ jwd := jw_1 (i := 8) rfl rfl
theorem wd_1_9 : (Jvm.Cond.initialized "MergeWorkbench$Merge") ∈ jwd := jw_1 (i := 9) rfl rfl
theorem wd_1_10 : (Jvm.Cond.initialized "MergeWorkbench$Patch") ∈ jwd := jw_1 (i := 10) rfl rfl
theorem wd_1_11 : (Jvm.Cond.initialized "java/lang/Throwable") ∈ jwd := jw_1 (i := 11) rfl rfl
theorem wd_1_12 : (Jvm.Cond.initialized "java/lang/Exception") ∈ jwd := jw_1 (i := 12) rfl rfl
theorem wd_1_13 : (Jvm.Cond.initialized "java/lang/RuntimeException") ∈ jwd := jw_1 (i := 13) rfl rfl
theorem wd_1_14 : (Jvm.Cond.initialized "java/lang/IllegalArgumentException") ∈ jwd := jw_1 (i := 14) rfl rfl
theorem wd_1_15 : (Jvm.Cond.initialized "java/lang/IllegalStateException") ∈ jwd := jw_1 (i := 15) rfl rfl
theorem wd_1_16 : (Jvm.Cond.initialized "java/lang/IndexOutOfBoundsException") ∈ jwd := jw_1 (i := 16) rfl rfl
theorem wd_1_17 : (Jvm.Cond.initialized "java/lang/Math") ∈ jwd := jw_1 (i := 17) rfl rfl
theorem wd_1_18 : (Jvm.Cond.initialized "java/lang/UnsupportedOperationException") ∈ jwd := jw_1 (i := 18) rfl rfl
theorem wd_1_19 : (Jvm.Cond.initialized "java/util/NoSuchElementException") ∈ jwd := jw_1 (i := 19) rfl rfl
theorem wd_1_20 : (Jvm.Cond.methodLink "MergeWorkbenchLaw" (30 : Nat) ({ cls := "MergeWorkbench", name := "insert", desc := "(III)I" } : Jvm.MethodName)) ∈ jwd := jw_1 (i := 20) rfl rfl
theorem wd_1_21 : (Jvm.Cond.instanceMethod ({ cls := "MergeWorkbench", name := "insert", desc := "(III)I" } : Jvm.MethodName)) ∈ jwd := jw_1 (i := 21) rfl rfl
theorem wd_1_22 : (Jvm.Cond.selects "MergeWorkbench" ({ cls := "MergeWorkbench", name := "insert", desc := "(III)I" } : Jvm.MethodName) ({ cls := "MergeWorkbench", name := "insert", desc := "(III)I" } : Jvm.MethodName)) ∈ jwd := jw_1 (i := 22) rfl rfl
theorem wd_1_23 : (Jvm.Cond.code ({ cls := "MergeWorkbench", name := "insert", desc := "(III)I" } : Jvm.MethodName) prog_1_method_3_code (5 : Nat) (Option.some Jvm.ClassFile.FieldType.int)) ∈ jwd := jw_1 (i := 23) rfl rfl
theorem wd_1_24 : (Jvm.Cond.methodLink "MergeWorkbench" (84 : Nat) ({ cls := "MergeWorkbench", name := "document", desc := "(I)LMergeWorkbench$Lines;" } : Jvm.MethodName)) ∈ jwd := jw_1 (i := 24) rfl rfl
theorem wd_1_26 : (Jvm.Cond.instanceMethod ({ cls := "MergeWorkbench", name := "document", desc := "(I)LMergeWorkbench$Lines;" } : Jvm.MethodName)) ∈ jwd := jw_1 (i := 26) rfl rfl
theorem wd_1_27 : (Jvm.Cond.instantiable "MergeWorkbench" (13 : Nat)) ∈ jwd := jw_1 (i := 27) rfl rfl
theorem wd_1_28 : (Jvm.Cond.code ({ cls := "MergeWorkbench", name := "document", desc := "(I)LMergeWorkbench$Lines;" } : Jvm.MethodName) prog_1_method_38_code (2 : Nat) (Option.some (Jvm.ClassFile.FieldType.object "MergeWorkbench$Lines"))) ∈ jwd := jw_1 (i := 28) rfl rfl
theorem wd_1_29 : (Jvm.Cond.classLink "MergeWorkbench" (168 : Nat) "java/lang/IllegalArgumentException") ∈ jwd := jw_1 (i := 29) rfl rfl
theorem wd_1_30 : (Jvm.Cond.instantiable "java/lang/IllegalArgumentException" (6 : Nat)) ∈ jwd := jw_1 (i := 30) rfl rfl
theorem wd_1_38 : (Jvm.Cond.selects "java/lang/IllegalArgumentException" ({ cls := "java/lang/Throwable", name := "fillInStackTrace", desc := "(I)Ljava/lang/Throwable;" } : Jvm.MethodName) ({ cls := "java/lang/Throwable", name := "fillInStackTrace", desc := "(I)Ljava/lang/Throwable;" } : Jvm.MethodName)) ∈ jwd := jw_1 (i := 38) rfl rfl
theorem wd_1_39 : (Jvm.Cond.selects "java/lang/IllegalArgumentException" ({ cls := "java/lang/Throwable", name := "fillInStackTrace", desc := "()Ljava/lang/Throwable;" } : Jvm.MethodName) ({ cls := "java/lang/Throwable", name := "fillInStackTrace", desc := "()Ljava/lang/Throwable;" } : Jvm.MethodName)) ∈ jwd := jw_1 (i := 39) rfl rfl
theorem wd_1_40 : (Jvm.Cond.lays "java/lang/IllegalArgumentException" "java/lang/Throwable" "cause" "Ljava/lang/Throwable;") ∈ jwd := jw_1 (i := 40) rfl rfl
theorem wd_1_41 : (Jvm.Cond.lays "java/lang/Throwable" "java/lang/Throwable" "cause" "Ljava/lang/Throwable;") ∈ jwd := jw_1 (i := 41) rfl rfl
theorem wd_1_42 : (Jvm.Cond.lays "java/lang/IllegalArgumentException" "java/lang/Throwable" "stackTrace" "[Ljava/lang/StackTraceElement;") ∈ jwd := jw_1 (i := 42) rfl rfl
theorem wd_1_43 : (Jvm.Cond.lays "java/lang/Throwable" "java/lang/Throwable" "stackTrace" "[Ljava/lang/StackTraceElement;") ∈ jwd := jw_1 (i := 43) rfl rfl
theorem wd_1_44 : (Jvm.Cond.lays "java/lang/IllegalArgumentException" "java/lang/Throwable" "suppressedExceptions" "Ljava/util/List;") ∈ jwd := jw_1 (i := 44) rfl rfl
theorem wd_1_45 : (Jvm.Cond.lays "java/lang/Throwable" "java/lang/Throwable" "suppressedExceptions" "Ljava/util/List;") ∈ jwd := jw_1 (i := 45) rfl rfl
theorem wd_1_46 : (Jvm.Cond.lays "java/lang/IllegalArgumentException" "java/lang/Throwable" "detailMessage" "Ljava/lang/String;") ∈ jwd := jw_1 (i := 46) rfl rfl
theorem wd_1_47 : (Jvm.Cond.lays "java/lang/Throwable" "java/lang/Throwable" "detailMessage" "Ljava/lang/String;") ∈ jwd := jw_1 (i := 47) rfl rfl
theorem wd_1_48 : (Jvm.Cond.lays "java/lang/IllegalArgumentException" "java/lang/Throwable" "backtrace" "Ljava/lang/Object;") ∈ jwd := jw_1 (i := 48) rfl rfl
theorem wd_1_49 : (Jvm.Cond.lays "java/lang/Throwable" "java/lang/Throwable" "backtrace" "Ljava/lang/Object;") ∈ jwd := jw_1 (i := 49) rfl rfl
theorem wd_1_50 : (Jvm.Cond.fieldLink "java/lang/Throwable" (198 : Nat) "java/lang/Throwable" "backtrace" "Ljava/lang/Object;") ∈ jwd := jw_1 (i := 50) rfl rfl
theorem wd_1_52 : (Jvm.Cond.instanceMethod ({ cls := "java/lang/Throwable", name := "<init>", desc := "()V" } : Jvm.MethodName)) ∈ jwd := jw_1 (i := 52) rfl rfl
theorem wd_1_53 : (Jvm.Cond.code ({ cls := "java/lang/Throwable", name := "<init>", desc := "()V" } : Jvm.MethodName) prog_21_method_1_code (1 : Nat) (Option.none : Option Jvm.ClassFile.FieldType)) ∈ jwd := jw_1 (i := 53) rfl rfl
theorem wd_1_54 : (Jvm.Cond.methodLink "java/lang/Throwable" (1 : Nat) ({ cls := "java/lang/Object", name := "<init>", desc := "()V" } : Jvm.MethodName)) ∈ jwd := jw_1 (i := 54) rfl rfl
theorem wd_1_55 : (Jvm.Cond.instanceMethod ({ cls := "java/lang/Object", name := "<init>", desc := "()V" } : Jvm.MethodName)) ∈ jwd := jw_1 (i := 55) rfl rfl
theorem wd_1_56 : (Jvm.Cond.code ({ cls := "java/lang/Object", name := "<init>", desc := "()V" } : Jvm.MethodName) object_method_1_code (1 : Nat) (Option.none : Option Jvm.ClassFile.FieldType)) ∈ jwd := jw_1 (i := 56) rfl rfl
theorem wd_1_57 : (Jvm.Cond.fieldLink "java/lang/Throwable" (13 : Nat) "java/lang/Throwable" "UNASSIGNED_STACK" "[Ljava/lang/StackTraceElement;") ∈ jwd := jw_1 (i := 57) rfl rfl
theorem wd_1_59 : (Jvm.Cond.fieldLink "java/lang/Throwable" (20 : Nat) "java/lang/Throwable" "SUPPRESSED_SENTINEL" "Ljava/util/List;") ∈ jwd := jw_1 (i := 59) rfl rfl
theorem wd_1_61 : (Jvm.Cond.methodLink "java/lang/Throwable" (27 : Nat) ({ cls := "java/lang/Throwable", name := "fillInStackTrace", desc := "()Ljava/lang/Throwable;" } : Jvm.MethodName)) ∈ jwd := jw_1 (i := 61) rfl rfl
theorem wd_1_62 : (Jvm.Cond.instanceMethod ({ cls := "java/lang/Throwable", name := "fillInStackTrace", desc := "()Ljava/lang/Throwable;" } : Jvm.MethodName)) ∈ jwd := jw_1 (i := 62) rfl rfl
theorem wd_1_64 : (Jvm.Cond.selects "java/lang/IllegalStateException" ({ cls := "java/lang/Throwable", name := "fillInStackTrace", desc := "()Ljava/lang/Throwable;" } : Jvm.MethodName) ({ cls := "java/lang/Throwable", name := "fillInStackTrace", desc := "()Ljava/lang/Throwable;" } : Jvm.MethodName)) ∈ jwd := jw_1 (i := 64) rfl rfl
theorem wd_1_65 : (Jvm.Cond.selects "java/lang/IndexOutOfBoundsException" ({ cls := "java/lang/Throwable", name := "fillInStackTrace", desc := "()Ljava/lang/Throwable;" } : Jvm.MethodName) ({ cls := "java/lang/Throwable", name := "fillInStackTrace", desc := "()Ljava/lang/Throwable;" } : Jvm.MethodName)) ∈ jwd := jw_1 (i := 65) rfl rfl
theorem wd_1_66 : (Jvm.Cond.selects "java/lang/UnsupportedOperationException" ({ cls := "java/lang/Throwable", name := "fillInStackTrace", desc := "()Ljava/lang/Throwable;" } : Jvm.MethodName) ({ cls := "java/lang/Throwable", name := "fillInStackTrace", desc := "()Ljava/lang/Throwable;" } : Jvm.MethodName)) ∈ jwd := jw_1 (i := 66) rfl rfl
theorem wd_1_67 : (Jvm.Cond.selects "java/util/NoSuchElementException" ({ cls := "java/lang/Throwable", name := "fillInStackTrace", desc := "()Ljava/lang/Throwable;" } : Jvm.MethodName) ({ cls := "java/lang/Throwable", name := "fillInStackTrace", desc := "()Ljava/lang/Throwable;" } : Jvm.MethodName)) ∈ jwd := jw_1 (i := 67) rfl rfl
theorem wd_1_69 : (Jvm.Cond.methodLink "java/lang/Throwable" (202 : Nat) ({ cls := "java/lang/Throwable", name := "fillInStackTrace", desc := "(I)Ljava/lang/Throwable;" } : Jvm.MethodName)) ∈ jwd := jw_1 (i := 69) rfl rfl
theorem wd_1_71 : (Jvm.Cond.instanceMethod ({ cls := "java/lang/Throwable", name := "fillInStackTrace", desc := "(I)Ljava/lang/Throwable;" } : Jvm.MethodName)) ∈ jwd := jw_1 (i := 71) rfl rfl
theorem wd_1_72 : (Jvm.Cond.instantiable "java/lang/Throwable" (6 : Nat)) ∈ jwd := jw_1 (i := 72) rfl rfl
theorem wd_1_75 : (Jvm.Cond.methodLink "MergeWorkbench" (172 : Nat) ({ cls := "java/lang/IllegalArgumentException", name := "<init>", desc := "(Ljava/lang/String;)V" } : Jvm.MethodName)) ∈ jwd := jw_1 (i := 75) rfl rfl
theorem wd_1_76 : (Jvm.Cond.instanceMethod ({ cls := "java/lang/IllegalArgumentException", name := "<init>", desc := "(Ljava/lang/String;)V" } : Jvm.MethodName)) ∈ jwd := jw_1 (i := 76) rfl rfl
theorem wd_1_77 : (Jvm.Cond.code ({ cls := "java/lang/IllegalArgumentException", name := "<init>", desc := "(Ljava/lang/String;)V" } : Jvm.MethodName) prog_15_method_2_code (2 : Nat) (Option.none : Option Jvm.ClassFile.FieldType)) ∈ jwd := jw_1 (i := 77) rfl rfl
theorem wd_1_78 : (Jvm.Cond.methodLink "java/lang/IllegalArgumentException" (7 : Nat) ({ cls := "java/lang/RuntimeException", name := "<init>", desc := "(Ljava/lang/String;)V" } : Jvm.MethodName)) ∈ jwd := jw_1 (i := 78) rfl rfl
theorem wd_1_79 : (Jvm.Cond.instanceMethod ({ cls := "java/lang/RuntimeException", name := "<init>", desc := "(Ljava/lang/String;)V" } : Jvm.MethodName)) ∈ jwd := jw_1 (i := 79) rfl rfl
theorem wd_1_80 : (Jvm.Cond.code ({ cls := "java/lang/RuntimeException", name := "<init>", desc := "(Ljava/lang/String;)V" } : Jvm.MethodName) prog_19_method_2_code (2 : Nat) (Option.none : Option Jvm.ClassFile.FieldType)) ∈ jwd := jw_1 (i := 80) rfl rfl
theorem wd_1_81 : (Jvm.Cond.methodLink "java/lang/RuntimeException" (7 : Nat) ({ cls := "java/lang/Exception", name := "<init>", desc := "(Ljava/lang/String;)V" } : Jvm.MethodName)) ∈ jwd := jw_1 (i := 81) rfl rfl
theorem wd_1_82 : (Jvm.Cond.instanceMethod ({ cls := "java/lang/Exception", name := "<init>", desc := "(Ljava/lang/String;)V" } : Jvm.MethodName)) ∈ jwd := jw_1 (i := 82) rfl rfl
theorem wd_1_83 : (Jvm.Cond.code ({ cls := "java/lang/Exception", name := "<init>", desc := "(Ljava/lang/String;)V" } : Jvm.MethodName) prog_14_method_2_code (2 : Nat) (Option.none : Option Jvm.ClassFile.FieldType)) ∈ jwd := jw_1 (i := 83) rfl rfl
theorem wd_1_84 : (Jvm.Cond.methodLink "java/lang/Exception" (7 : Nat) ({ cls := "java/lang/Throwable", name := "<init>", desc := "(Ljava/lang/String;)V" } : Jvm.MethodName)) ∈ jwd := jw_1 (i := 84) rfl rfl
theorem wd_1_85 : (Jvm.Cond.instanceMethod ({ cls := "java/lang/Throwable", name := "<init>", desc := "(Ljava/lang/String;)V" } : Jvm.MethodName)) ∈ jwd := jw_1 (i := 85) rfl rfl
theorem wd_1_86 : (Jvm.Cond.code ({ cls := "java/lang/Throwable", name := "<init>", desc := "(Ljava/lang/String;)V" } : Jvm.MethodName) prog_21_method_2_code (2 : Nat) (Option.none : Option Jvm.ClassFile.FieldType)) ∈ jwd := jw_1 (i := 86) rfl rfl
theorem wd_1_88 : (Jvm.Cond.fieldLink "java/lang/Throwable" (31 : Nat) "java/lang/Throwable" "detailMessage" "Ljava/lang/String;") ∈ jwd := jw_1 (i := 88) rfl rfl
theorem wd_1_89 : (Jvm.Cond.fieldLink "java/lang/Throwable" (7 : Nat) "java/lang/Throwable" "cause" "Ljava/lang/Throwable;") ∈ jwd := jw_1 (i := 89) rfl rfl
theorem wd_1_90 : (Jvm.Cond.fieldLink "java/lang/Throwable" (17 : Nat) "java/lang/Throwable" "stackTrace" "[Ljava/lang/StackTraceElement;") ∈ jwd := jw_1 (i := 90) rfl rfl
theorem wd_1_91 : (Jvm.Cond.fieldLink "java/lang/Throwable" (24 : Nat) "java/lang/Throwable" "suppressedExceptions" "Ljava/util/List;") ∈ jwd := jw_1 (i := 91) rfl rfl
theorem wd_1_96 : (Jvm.Cond.lays "java/lang/IllegalArgumentException" "java/lang/Throwable" "depth" "I") ∈ jwd := jw_1 (i := 96) rfl rfl
theorem wd_1_100 : (Jvm.Cond.arrayClass Jvm.ClassFile.FieldType.byte) ∈ jwd := jw_1 (i := 100) rfl rfl
theorem wd_1_101 : (Jvm.Cond.methodLink "MergeWorkbench" (321 : Nat) ({ cls := "MergeWorkbench$Shelf", name := "place", desc := "(I)LMergeWorkbench$Lines;" } : Jvm.MethodName)) ∈ jwd := jw_1 (i := 101) rfl rfl
theorem wd_1_102 : (Jvm.Cond.instanceMethod ({ cls := "MergeWorkbench$Shelf", name := "place", desc := "(I)LMergeWorkbench$Lines;" } : Jvm.MethodName)) ∈ jwd := jw_1 (i := 102) rfl rfl
theorem wd_1_103 : (Jvm.Cond.selects "MergeWorkbench$Shelf" ({ cls := "MergeWorkbench$Shelf", name := "place", desc := "(I)LMergeWorkbench$Lines;" } : Jvm.MethodName) ({ cls := "MergeWorkbench$Shelf", name := "place", desc := "(I)LMergeWorkbench$Lines;" } : Jvm.MethodName)) ∈ jwd := jw_1 (i := 103) rfl rfl
theorem wd_1_104 : (Jvm.Cond.code ({ cls := "MergeWorkbench$Shelf", name := "place", desc := "(I)LMergeWorkbench$Lines;" } : Jvm.MethodName) prog_9_method_2_code (3 : Nat) (Option.some (Jvm.ClassFile.FieldType.object "MergeWorkbench$Lines"))) ∈ jwd := jw_1 (i := 104) rfl rfl
theorem wd_1_105 : (Jvm.Cond.methodLink "MergeWorkbench" (88 : Nat) ({ cls := "MergeWorkbench", name := "requireLine", desc := "(I)V" } : Jvm.MethodName)) ∈ jwd := jw_1 (i := 105) rfl rfl
theorem wd_1_106 : (Jvm.Cond.static ({ cls := "MergeWorkbench", name := "requireLine", desc := "(I)V" } : Jvm.MethodName)) ∈ jwd := jw_1 (i := 106) rfl rfl
theorem wd_1_107 : (Jvm.Cond.code ({ cls := "MergeWorkbench", name := "requireLine", desc := "(I)V" } : Jvm.MethodName) prog_1_method_39_code (1 : Nat) (Option.none : Option Jvm.ClassFile.FieldType)) ∈ jwd := jw_1 (i := 107) rfl rfl
theorem wd_1_109 : (Jvm.Cond.methodLink "MergeWorkbench" (91 : Nat) ({ cls := "MergeWorkbench", name := "requireRoom", desc := "(LMergeWorkbench$Lines;)V" } : Jvm.MethodName)) ∈ jwd := jw_1 (i := 109) rfl rfl
theorem wd_1_110 : (Jvm.Cond.static ({ cls := "MergeWorkbench", name := "requireRoom", desc := "(LMergeWorkbench$Lines;)V" } : Jvm.MethodName)) ∈ jwd := jw_1 (i := 110) rfl rfl
theorem wd_1_111 : (Jvm.Cond.code ({ cls := "MergeWorkbench", name := "requireRoom", desc := "(LMergeWorkbench$Lines;)V" } : Jvm.MethodName) prog_1_method_40_code (1 : Nat) (Option.none : Option Jvm.ClassFile.FieldType)) ∈ jwd := jw_1 (i := 111) rfl rfl
theorem wd_1_112 : (Jvm.Cond.methodLink "MergeWorkbench" (102 : Nat) ({ cls := "MergeWorkbench$Lines", name := "size", desc := "()I" } : Jvm.MethodName)) ∈ jwd := jw_1 (i := 112) rfl rfl
theorem wd_1_113 : (Jvm.Cond.instanceMethod ({ cls := "MergeWorkbench$Lines", name := "size", desc := "()I" } : Jvm.MethodName)) ∈ jwd := jw_1 (i := 113) rfl rfl
theorem wd_1_114 : (Jvm.Cond.selects "MergeWorkbench$Lines" ({ cls := "MergeWorkbench$Lines", name := "size", desc := "()I" } : Jvm.MethodName) ({ cls := "MergeWorkbench$Lines", name := "size", desc := "()I" } : Jvm.MethodName)) ∈ jwd := jw_1 (i := 114) rfl rfl
theorem wd_1_115 : (Jvm.Cond.code ({ cls := "MergeWorkbench$Lines", name := "size", desc := "()I" } : Jvm.MethodName) prog_6_method_2_code (1 : Nat) (Option.some Jvm.ClassFile.FieldType.int)) ∈ jwd := jw_1 (i := 115) rfl rfl
theorem wd_1_116 : (Jvm.Cond.classLink "MergeWorkbench" (147 : Nat) "java/lang/IllegalStateException") ∈ jwd := jw_1 (i := 116) rfl rfl
theorem wd_1_117 : (Jvm.Cond.instantiable "java/lang/IllegalStateException" (6 : Nat)) ∈ jwd := jw_1 (i := 117) rfl rfl
theorem wd_1_119 : (Jvm.Cond.selects "java/lang/IllegalStateException" ({ cls := "java/lang/Throwable", name := "fillInStackTrace", desc := "(I)Ljava/lang/Throwable;" } : Jvm.MethodName) ({ cls := "java/lang/Throwable", name := "fillInStackTrace", desc := "(I)Ljava/lang/Throwable;" } : Jvm.MethodName)) ∈ jwd := jw_1 (i := 119) rfl rfl
theorem wd_1_120 : (Jvm.Cond.lays "java/lang/IllegalStateException" "java/lang/Throwable" "cause" "Ljava/lang/Throwable;") ∈ jwd := jw_1 (i := 120) rfl rfl
theorem wd_1_121 : (Jvm.Cond.lays "java/lang/IllegalStateException" "java/lang/Throwable" "stackTrace" "[Ljava/lang/StackTraceElement;") ∈ jwd := jw_1 (i := 121) rfl rfl
theorem wd_1_122 : (Jvm.Cond.lays "java/lang/IllegalStateException" "java/lang/Throwable" "suppressedExceptions" "Ljava/util/List;") ∈ jwd := jw_1 (i := 122) rfl rfl
theorem wd_1_123 : (Jvm.Cond.lays "java/lang/IllegalStateException" "java/lang/Throwable" "detailMessage" "Ljava/lang/String;") ∈ jwd := jw_1 (i := 123) rfl rfl
theorem wd_1_124 : (Jvm.Cond.lays "java/lang/IllegalStateException" "java/lang/Throwable" "backtrace" "Ljava/lang/Object;") ∈ jwd := jw_1 (i := 124) rfl rfl
theorem wd_1_126 : (Jvm.Cond.methodLink "MergeWorkbench" (151 : Nat) ({ cls := "java/lang/IllegalStateException", name := "<init>", desc := "(Ljava/lang/String;)V" } : Jvm.MethodName)) ∈ jwd := jw_1 (i := 126) rfl rfl
theorem wd_1_127 : (Jvm.Cond.instanceMethod ({ cls := "java/lang/IllegalStateException", name := "<init>", desc := "(Ljava/lang/String;)V" } : Jvm.MethodName)) ∈ jwd := jw_1 (i := 127) rfl rfl
theorem wd_1_128 : (Jvm.Cond.code ({ cls := "java/lang/IllegalStateException", name := "<init>", desc := "(Ljava/lang/String;)V" } : Jvm.MethodName) prog_16_method_2_code (2 : Nat) (Option.none : Option Jvm.ClassFile.FieldType)) ∈ jwd := jw_1 (i := 128) rfl rfl
theorem wd_1_129 : (Jvm.Cond.methodLink "java/lang/IllegalStateException" (7 : Nat) ({ cls := "java/lang/RuntimeException", name := "<init>", desc := "(Ljava/lang/String;)V" } : Jvm.MethodName)) ∈ jwd := jw_1 (i := 129) rfl rfl
theorem wd_1_130 : (Jvm.Cond.lays "java/lang/IllegalStateException" "java/lang/Throwable" "depth" "I") ∈ jwd := jw_1 (i := 130) rfl rfl
theorem wd_1_132 : (Jvm.Cond.classLink "MergeWorkbench" (106 : Nat) "java/lang/IndexOutOfBoundsException") ∈ jwd := jw_1 (i := 132) rfl rfl
theorem wd_1_133 : (Jvm.Cond.instantiable "java/lang/IndexOutOfBoundsException" (6 : Nat)) ∈ jwd := jw_1 (i := 133) rfl rfl
theorem wd_1_135 : (Jvm.Cond.selects "java/lang/IndexOutOfBoundsException" ({ cls := "java/lang/Throwable", name := "fillInStackTrace", desc := "(I)Ljava/lang/Throwable;" } : Jvm.MethodName) ({ cls := "java/lang/Throwable", name := "fillInStackTrace", desc := "(I)Ljava/lang/Throwable;" } : Jvm.MethodName)) ∈ jwd := jw_1 (i := 135) rfl rfl
theorem wd_1_136 : (Jvm.Cond.lays "java/lang/IndexOutOfBoundsException" "java/lang/Throwable" "cause" "Ljava/lang/Throwable;") ∈ jwd := jw_1 (i := 136) rfl rfl
theorem wd_1_137 : (Jvm.Cond.lays "java/lang/IndexOutOfBoundsException" "java/lang/Throwable" "stackTrace" "[Ljava/lang/StackTraceElement;") ∈ jwd := jw_1 (i := 137) rfl rfl
theorem wd_1_138 : (Jvm.Cond.lays "java/lang/IndexOutOfBoundsException" "java/lang/Throwable" "suppressedExceptions" "Ljava/util/List;") ∈ jwd := jw_1 (i := 138) rfl rfl
theorem wd_1_139 : (Jvm.Cond.lays "java/lang/IndexOutOfBoundsException" "java/lang/Throwable" "detailMessage" "Ljava/lang/String;") ∈ jwd := jw_1 (i := 139) rfl rfl
theorem wd_1_140 : (Jvm.Cond.lays "java/lang/IndexOutOfBoundsException" "java/lang/Throwable" "backtrace" "Ljava/lang/Object;") ∈ jwd := jw_1 (i := 140) rfl rfl
theorem wd_1_142 : (Jvm.Cond.methodLink "MergeWorkbench" (110 : Nat) ({ cls := "java/lang/IndexOutOfBoundsException", name := "<init>", desc := "(Ljava/lang/String;)V" } : Jvm.MethodName)) ∈ jwd := jw_1 (i := 142) rfl rfl
theorem wd_1_143 : (Jvm.Cond.instanceMethod ({ cls := "java/lang/IndexOutOfBoundsException", name := "<init>", desc := "(Ljava/lang/String;)V" } : Jvm.MethodName)) ∈ jwd := jw_1 (i := 143) rfl rfl
theorem wd_1_144 : (Jvm.Cond.code ({ cls := "java/lang/IndexOutOfBoundsException", name := "<init>", desc := "(Ljava/lang/String;)V" } : Jvm.MethodName) prog_17_method_2_code (2 : Nat) (Option.none : Option Jvm.ClassFile.FieldType)) ∈ jwd := jw_1 (i := 144) rfl rfl
theorem wd_1_145 : (Jvm.Cond.methodLink "java/lang/IndexOutOfBoundsException" (7 : Nat) ({ cls := "java/lang/RuntimeException", name := "<init>", desc := "(Ljava/lang/String;)V" } : Jvm.MethodName)) ∈ jwd := jw_1 (i := 145) rfl rfl
theorem wd_1_146 : (Jvm.Cond.lays "java/lang/IndexOutOfBoundsException" "java/lang/Throwable" "depth" "I") ∈ jwd := jw_1 (i := 146) rfl rfl
theorem wd_1_148 : (Jvm.Cond.methodLink "MergeWorkbench" (95 : Nat) ({ cls := "MergeWorkbench$History", name := "remember", desc := "(ILMergeWorkbench$Lines;)V" } : Jvm.MethodName)) ∈ jwd := jw_1 (i := 148) rfl rfl
theorem wd_1_149 : (Jvm.Cond.instanceMethod ({ cls := "MergeWorkbench$History", name := "remember", desc := "(ILMergeWorkbench$Lines;)V" } : Jvm.MethodName)) ∈ jwd := jw_1 (i := 149) rfl rfl
theorem wd_1_150 : (Jvm.Cond.selects "MergeWorkbench$History" ({ cls := "MergeWorkbench$History", name := "remember", desc := "(ILMergeWorkbench$Lines;)V" } : Jvm.MethodName) ({ cls := "MergeWorkbench$History", name := "remember", desc := "(ILMergeWorkbench$Lines;)V" } : Jvm.MethodName)) ∈ jwd := jw_1 (i := 150) rfl rfl
theorem wd_1_151 : (Jvm.Cond.code ({ cls := "MergeWorkbench$History", name := "remember", desc := "(ILMergeWorkbench$Lines;)V" } : Jvm.MethodName) prog_4_method_4_code (3 : Nat) (Option.none : Option Jvm.ClassFile.FieldType)) ∈ jwd := jw_1 (i := 151) rfl rfl
theorem wd_1_152 : (Jvm.Cond.methodLink "MergeWorkbench$History" (38 : Nat) ({ cls := "MergeWorkbench$Lines", name := "put", desc := "(II)V" } : Jvm.MethodName)) ∈ jwd := jw_1 (i := 152) rfl rfl
theorem wd_1_153 : (Jvm.Cond.instanceMethod ({ cls := "MergeWorkbench$Lines", name := "put", desc := "(II)V" } : Jvm.MethodName)) ∈ jwd := jw_1 (i := 153) rfl rfl
theorem wd_1_154 : (Jvm.Cond.selects "MergeWorkbench$Lines" ({ cls := "MergeWorkbench$Lines", name := "put", desc := "(II)V" } : Jvm.MethodName) ({ cls := "MergeWorkbench$Lines", name := "put", desc := "(II)V" } : Jvm.MethodName)) ∈ jwd := jw_1 (i := 154) rfl rfl
theorem wd_1_155 : (Jvm.Cond.code ({ cls := "MergeWorkbench$Lines", name := "put", desc := "(II)V" } : Jvm.MethodName) prog_6_method_6_code (3 : Nat) (Option.none : Option Jvm.ClassFile.FieldType)) ∈ jwd := jw_1 (i := 155) rfl rfl
theorem wd_1_156 : (Jvm.Cond.methodLink "MergeWorkbench$History" (41 : Nat) ({ cls := "MergeWorkbench$Shelf", name := "place", desc := "(I)LMergeWorkbench$Lines;" } : Jvm.MethodName)) ∈ jwd := jw_1 (i := 156) rfl rfl
theorem wd_1_157 : (Jvm.Cond.methodLink "MergeWorkbench$History" (45 : Nat) ({ cls := "MergeWorkbench$Lines", name := "become", desc := "(LMergeWorkbench$Lines;)V" } : Jvm.MethodName)) ∈ jwd := jw_1 (i := 157) rfl rfl
theorem wd_1_158 : (Jvm.Cond.instanceMethod ({ cls := "MergeWorkbench$Lines", name := "become", desc := "(LMergeWorkbench$Lines;)V" } : Jvm.MethodName)) ∈ jwd := jw_1 (i := 158) rfl rfl
theorem wd_1_159 : (Jvm.Cond.selects "MergeWorkbench$Lines" ({ cls := "MergeWorkbench$Lines", name := "become", desc := "(LMergeWorkbench$Lines;)V" } : Jvm.MethodName) ({ cls := "MergeWorkbench$Lines", name := "become", desc := "(LMergeWorkbench$Lines;)V" } : Jvm.MethodName)) ∈ jwd := jw_1 (i := 159) rfl rfl
theorem wd_1_160 : (Jvm.Cond.code ({ cls := "MergeWorkbench$Lines", name := "become", desc := "(LMergeWorkbench$Lines;)V" } : Jvm.MethodName) prog_6_method_12_code (2 : Nat) (Option.none : Option Jvm.ClassFile.FieldType)) ∈ jwd := jw_1 (i := 160) rfl rfl
theorem wd_1_161 : (Jvm.Cond.methodLink "MergeWorkbench$Lines" (35 : Nat) ({ cls := "MergeWorkbench$Lines", name := "clear", desc := "()V" } : Jvm.MethodName)) ∈ jwd := jw_1 (i := 161) rfl rfl
theorem wd_1_162 : (Jvm.Cond.instanceMethod ({ cls := "MergeWorkbench$Lines", name := "clear", desc := "()V" } : Jvm.MethodName)) ∈ jwd := jw_1 (i := 162) rfl rfl
theorem wd_1_163 : (Jvm.Cond.selects "MergeWorkbench$Lines" ({ cls := "MergeWorkbench$Lines", name := "clear", desc := "()V" } : Jvm.MethodName) ({ cls := "MergeWorkbench$Lines", name := "clear", desc := "()V" } : Jvm.MethodName)) ∈ jwd := jw_1 (i := 163) rfl rfl
theorem wd_1_164 : (Jvm.Cond.code ({ cls := "MergeWorkbench$Lines", name := "clear", desc := "()V" } : Jvm.MethodName) prog_6_method_7_code (1 : Nat) (Option.none : Option Jvm.ClassFile.FieldType)) ∈ jwd := jw_1 (i := 164) rfl rfl
theorem wd_1_165 : (Jvm.Cond.methodLink "MergeWorkbench$Lines" (38 : Nat) ({ cls := "MergeWorkbench$Lines", name := "size", desc := "()I" } : Jvm.MethodName)) ∈ jwd := jw_1 (i := 165) rfl rfl
theorem wd_1_166 : (Jvm.Cond.methodLink "MergeWorkbench$Lines" (42 : Nat) ({ cls := "MergeWorkbench$Lines", name := "pushPart", desc := "(LMergeWorkbench$Lines;II)V" } : Jvm.MethodName)) ∈ jwd := jw_1 (i := 166) rfl rfl
theorem wd_1_167 : (Jvm.Cond.instanceMethod ({ cls := "MergeWorkbench$Lines", name := "pushPart", desc := "(LMergeWorkbench$Lines;II)V" } : Jvm.MethodName)) ∈ jwd := jw_1 (i := 167) rfl rfl
theorem wd_1_168 : (Jvm.Cond.selects "MergeWorkbench$Lines" ({ cls := "MergeWorkbench$Lines", name := "pushPart", desc := "(LMergeWorkbench$Lines;II)V" } : Jvm.MethodName) ({ cls := "MergeWorkbench$Lines", name := "pushPart", desc := "(LMergeWorkbench$Lines;II)V" } : Jvm.MethodName)) ∈ jwd := jw_1 (i := 168) rfl rfl
theorem wd_1_169 : (Jvm.Cond.code ({ cls := "MergeWorkbench$Lines", name := "pushPart", desc := "(LMergeWorkbench$Lines;II)V" } : Jvm.MethodName) prog_6_method_9_code (5 : Nat) (Option.none : Option Jvm.ClassFile.FieldType)) ∈ jwd := jw_1 (i := 169) rfl rfl
theorem wd_1_170 : (Jvm.Cond.methodLink "MergeWorkbench$Lines" (19 : Nat) ({ cls := "MergeWorkbench$Lines", name := "at", desc := "(I)I" } : Jvm.MethodName)) ∈ jwd := jw_1 (i := 170) rfl rfl
theorem wd_1_171 : (Jvm.Cond.instanceMethod ({ cls := "MergeWorkbench$Lines", name := "at", desc := "(I)I" } : Jvm.MethodName)) ∈ jwd := jw_1 (i := 171) rfl rfl
theorem wd_1_172 : (Jvm.Cond.selects "MergeWorkbench$Lines" ({ cls := "MergeWorkbench$Lines", name := "at", desc := "(I)I" } : Jvm.MethodName) ({ cls := "MergeWorkbench$Lines", name := "at", desc := "(I)I" } : Jvm.MethodName)) ∈ jwd := jw_1 (i := 172) rfl rfl
theorem wd_1_173 : (Jvm.Cond.code ({ cls := "MergeWorkbench$Lines", name := "at", desc := "(I)I" } : Jvm.MethodName) prog_6_method_5_code (2 : Nat) (Option.some Jvm.ClassFile.FieldType.int)) ∈ jwd := jw_1 (i := 173) rfl rfl
theorem wd_1_174 : (Jvm.Cond.methodLink "MergeWorkbench$Lines" (23 : Nat) ({ cls := "MergeWorkbench$Lines", name := "push", desc := "(I)V" } : Jvm.MethodName)) ∈ jwd := jw_1 (i := 174) rfl rfl
theorem wd_1_175 : (Jvm.Cond.instanceMethod ({ cls := "MergeWorkbench$Lines", name := "push", desc := "(I)V" } : Jvm.MethodName)) ∈ jwd := jw_1 (i := 175) rfl rfl
theorem wd_1_176 : (Jvm.Cond.selects "MergeWorkbench$Lines" ({ cls := "MergeWorkbench$Lines", name := "push", desc := "(I)V" } : Jvm.MethodName) ({ cls := "MergeWorkbench$Lines", name := "push", desc := "(I)V" } : Jvm.MethodName)) ∈ jwd := jw_1 (i := 176) rfl rfl
theorem wd_1_177 : (Jvm.Cond.code ({ cls := "MergeWorkbench$Lines", name := "push", desc := "(I)V" } : Jvm.MethodName) prog_6_method_8_code (2 : Nat) (Option.none : Option Jvm.ClassFile.FieldType)) ∈ jwd := jw_1 (i := 177) rfl rfl
theorem wd_1_178 : (Jvm.Cond.methodLink "MergeWorkbench" (113 : Nat) ({ cls := "MergeWorkbench$Lines", name := "pushAt", desc := "(II)V" } : Jvm.MethodName)) ∈ jwd := jw_1 (i := 178) rfl rfl
theorem wd_1_179 : (Jvm.Cond.instanceMethod ({ cls := "MergeWorkbench$Lines", name := "pushAt", desc := "(II)V" } : Jvm.MethodName)) ∈ jwd := jw_1 (i := 179) rfl rfl
theorem wd_1_180 : (Jvm.Cond.selects "MergeWorkbench$Lines" ({ cls := "MergeWorkbench$Lines", name := "pushAt", desc := "(II)V" } : Jvm.MethodName) ({ cls := "MergeWorkbench$Lines", name := "pushAt", desc := "(II)V" } : Jvm.MethodName)) ∈ jwd := jw_1 (i := 180) rfl rfl
theorem wd_1_181 : (Jvm.Cond.code ({ cls := "MergeWorkbench$Lines", name := "pushAt", desc := "(II)V" } : Jvm.MethodName) prog_6_method_10_code (4 : Nat) (Option.none : Option Jvm.ClassFile.FieldType)) ∈ jwd := jw_1 (i := 181) rfl rfl
theorem wd_1_182 : (Jvm.Cond.methodLink "MergeWorkbench$Lines" (27 : Nat) ({ cls := "MergeWorkbench$Lines", name := "put", desc := "(II)V" } : Jvm.MethodName)) ∈ jwd := jw_1 (i := 182) rfl rfl
theorem wd_1_183 : (Jvm.Cond.methodLink "MergeWorkbenchLaw" (23 : Nat) ({ cls := "MergeWorkbench", name := "length", desc := "(I)I" } : Jvm.MethodName)) ∈ jwd := jw_1 (i := 183) rfl rfl
theorem wd_1_184 : (Jvm.Cond.instanceMethod ({ cls := "MergeWorkbench", name := "length", desc := "(I)I" } : Jvm.MethodName)) ∈ jwd := jw_1 (i := 184) rfl rfl
theorem wd_1_185 : (Jvm.Cond.selects "MergeWorkbench" ({ cls := "MergeWorkbench", name := "length", desc := "(I)I" } : Jvm.MethodName) ({ cls := "MergeWorkbench", name := "length", desc := "(I)I" } : Jvm.MethodName)) ∈ jwd := jw_1 (i := 185) rfl rfl
theorem wd_1_186 : (Jvm.Cond.code ({ cls := "MergeWorkbench", name := "length", desc := "(I)I" } : Jvm.MethodName) prog_1_method_5_code (2 : Nat) (Option.some Jvm.ClassFile.FieldType.int)) ∈ jwd := jw_1 (i := 186) rfl rfl
theorem wd_1_187 : (Jvm.Cond.methodLink "MergeWorkbenchLaw" (68 : Nat) ({ cls := "MergeWorkbench", name := "line", desc := "(II)I" } : Jvm.MethodName)) ∈ jwd := jw_1 (i := 187) rfl rfl
theorem wd_1_188 : (Jvm.Cond.instanceMethod ({ cls := "MergeWorkbench", name := "line", desc := "(II)I" } : Jvm.MethodName)) ∈ jwd := jw_1 (i := 188) rfl rfl
theorem wd_1_189 : (Jvm.Cond.selects "MergeWorkbench" ({ cls := "MergeWorkbench", name := "line", desc := "(II)I" } : Jvm.MethodName) ({ cls := "MergeWorkbench", name := "line", desc := "(II)I" } : Jvm.MethodName)) ∈ jwd := jw_1 (i := 189) rfl rfl
theorem wd_1_190 : (Jvm.Cond.code ({ cls := "MergeWorkbench", name := "line", desc := "(II)I" } : Jvm.MethodName) prog_1_method_6_code (4 : Nat) (Option.some Jvm.ClassFile.FieldType.int)) ∈ jwd := jw_1 (i := 190) rfl rfl
theorem wd_1_191 : (Jvm.Cond.methodLink "MergeWorkbench" (117 : Nat) ({ cls := "MergeWorkbench$Lines", name := "has", desc := "(I)Z" } : Jvm.MethodName)) ∈ jwd := jw_1 (i := 191) rfl rfl
theorem wd_1_192 : (Jvm.Cond.instanceMethod ({ cls := "MergeWorkbench$Lines", name := "has", desc := "(I)Z" } : Jvm.MethodName)) ∈ jwd := jw_1 (i := 192) rfl rfl
theorem wd_1_193 : (Jvm.Cond.selects "MergeWorkbench$Lines" ({ cls := "MergeWorkbench$Lines", name := "has", desc := "(I)Z" } : Jvm.MethodName) ({ cls := "MergeWorkbench$Lines", name := "has", desc := "(I)Z" } : Jvm.MethodName)) ∈ jwd := jw_1 (i := 193) rfl rfl
theorem wd_1_194 : (Jvm.Cond.code ({ cls := "MergeWorkbench$Lines", name := "has", desc := "(I)Z" } : Jvm.MethodName) prog_6_method_4_code (2 : Nat) (Option.some Jvm.ClassFile.FieldType.boolean)) ∈ jwd := jw_1 (i := 194) rfl rfl
theorem wd_1_195 : (Jvm.Cond.methodLink "MergeWorkbench" (125 : Nat) ({ cls := "MergeWorkbench$Lines", name := "at", desc := "(I)I" } : Jvm.MethodName)) ∈ jwd := jw_1 (i := 195) rfl rfl
theorem wd_1_196 : (Jvm.Cond.methodLink "MergeWorkbenchLaw" (20 : Nat) ({ cls := "MergeWorkbench", name := "copy", desc := "(II)I" } : Jvm.MethodName)) ∈ jwd := jw_1 (i := 196) rfl rfl
theorem wd_1_197 : (Jvm.Cond.instanceMethod ({ cls := "MergeWorkbench", name := "copy", desc := "(II)I" } : Jvm.MethodName)) ∈ jwd := jw_1 (i := 197) rfl rfl
theorem wd_1_198 : (Jvm.Cond.selects "MergeWorkbench" ({ cls := "MergeWorkbench", name := "copy", desc := "(II)I" } : Jvm.MethodName) ({ cls := "MergeWorkbench", name := "copy", desc := "(II)I" } : Jvm.MethodName)) ∈ jwd := jw_1 (i := 198) rfl rfl
theorem wd_1_199 : (Jvm.Cond.code ({ cls := "MergeWorkbench", name := "copy", desc := "(II)I" } : Jvm.MethodName) prog_1_method_7_code (4 : Nat) (Option.some Jvm.ClassFile.FieldType.int)) ∈ jwd := jw_1 (i := 199) rfl rfl
theorem wd_1_200 : (Jvm.Cond.methodLink "MergeWorkbench" (128 : Nat) ({ cls := "MergeWorkbench", name := "changeTo", desc := "(ILMergeWorkbench$Lines;LMergeWorkbench$Lines;)I" } : Jvm.MethodName)) ∈ jwd := jw_1 (i := 200) rfl rfl
theorem wd_1_202 : (Jvm.Cond.instanceMethod ({ cls := "MergeWorkbench", name := "changeTo", desc := "(ILMergeWorkbench$Lines;LMergeWorkbench$Lines;)I" } : Jvm.MethodName)) ∈ jwd := jw_1 (i := 202) rfl rfl
theorem wd_1_203 : (Jvm.Cond.code ({ cls := "MergeWorkbench", name := "changeTo", desc := "(ILMergeWorkbench$Lines;LMergeWorkbench$Lines;)I" } : Jvm.MethodName) prog_1_method_45_code (4 : Nat) (Option.some Jvm.ClassFile.FieldType.int)) ∈ jwd := jw_1 (i := 203) rfl rfl
theorem wd_1_204 : (Jvm.Cond.methodLink "MergeWorkbench" (339 : Nat) ({ cls := "MergeWorkbench$Lines", name := "become", desc := "(LMergeWorkbench$Lines;)V" } : Jvm.MethodName)) ∈ jwd := jw_1 (i := 204) rfl rfl
theorem wd_1_205 : (Jvm.Cond.methodLink "MergeWorkbenchLaw" (98 : Nat) ({ cls := "MergeWorkbench", name := "readDocument", desc := "(I)I" } : Jvm.MethodName)) ∈ jwd := jw_1 (i := 205) rfl rfl
theorem wd_1_206 : (Jvm.Cond.instanceMethod ({ cls := "MergeWorkbench", name := "readDocument", desc := "(I)I" } : Jvm.MethodName)) ∈ jwd := jw_1 (i := 206) rfl rfl
theorem wd_1_207 : (Jvm.Cond.selects "MergeWorkbench" ({ cls := "MergeWorkbench", name := "readDocument", desc := "(I)I" } : Jvm.MethodName) ({ cls := "MergeWorkbench", name := "readDocument", desc := "(I)I" } : Jvm.MethodName)) ∈ jwd := jw_1 (i := 207) rfl rfl
theorem wd_1_208 : (Jvm.Cond.code ({ cls := "MergeWorkbench", name := "readDocument", desc := "(I)I" } : Jvm.MethodName) prog_1_method_11_code (5 : Nat) (Option.some Jvm.ClassFile.FieldType.int)) ∈ jwd := jw_1 (i := 208) rfl rfl
theorem wd_1_209 : (Jvm.Cond.methodLink "MergeWorkbench" (156 : Nat) ({ cls := "MergeWorkbench$Input", name := "errorPosition", desc := "()I" } : Jvm.MethodName)) ∈ jwd := jw_1 (i := 209) rfl rfl
theorem wd_1_210 : (Jvm.Cond.instanceMethod ({ cls := "MergeWorkbench$Input", name := "errorPosition", desc := "()I" } : Jvm.MethodName)) ∈ jwd := jw_1 (i := 210) rfl rfl
theorem wd_1_211 : (Jvm.Cond.selects "MergeWorkbench$Input" ({ cls := "MergeWorkbench$Input", name := "errorPosition", desc := "()I" } : Jvm.MethodName) ({ cls := "MergeWorkbench$Input", name := "errorPosition", desc := "()I" } : Jvm.MethodName)) ∈ jwd := jw_1 (i := 211) rfl rfl
theorem wd_1_212 : (Jvm.Cond.code ({ cls := "MergeWorkbench$Input", name := "errorPosition", desc := "()I" } : Jvm.MethodName) prog_5_method_5_code (5 : Nat) (Option.some Jvm.ClassFile.FieldType.int)) ∈ jwd := jw_1 (i := 212) rfl rfl
theorem wd_1_213 : (Jvm.Cond.methodLink "MergeWorkbench$Input" (30 : Nat) ({ cls := "MergeWorkbench$Lines", name := "size", desc := "()I" } : Jvm.MethodName)) ∈ jwd := jw_1 (i := 213) rfl rfl
theorem wd_1_214 : (Jvm.Cond.methodLink "MergeWorkbench$Input" (37 : Nat) ({ cls := "MergeWorkbench$Lines", name := "at", desc := "(I)I" } : Jvm.MethodName)) ∈ jwd := jw_1 (i := 214) rfl rfl
theorem wd_1_215 : (Jvm.Cond.methodLink "MergeWorkbench$Input" (41 : Nat) ({ cls := "MergeWorkbench$Input", name := "mayFollow", desc := "(III)Z" } : Jvm.MethodName)) ∈ jwd := jw_1 (i := 215) rfl rfl
theorem wd_1_216 : (Jvm.Cond.static ({ cls := "MergeWorkbench$Input", name := "mayFollow", desc := "(III)Z" } : Jvm.MethodName)) ∈ jwd := jw_1 (i := 216) rfl rfl
theorem wd_1_217 : (Jvm.Cond.code ({ cls := "MergeWorkbench$Input", name := "mayFollow", desc := "(III)Z" } : Jvm.MethodName) prog_5_method_6_code (3 : Nat) (Option.some Jvm.ClassFile.FieldType.boolean)) ∈ jwd := jw_1 (i := 217) rfl rfl
theorem wd_1_218 : (Jvm.Cond.methodLink "MergeWorkbench$Input" (45 : Nat) ({ cls := "MergeWorkbench$Input", name := "isDigit", desc := "(I)Z" } : Jvm.MethodName)) ∈ jwd := jw_1 (i := 218) rfl rfl
theorem wd_1_219 : (Jvm.Cond.static ({ cls := "MergeWorkbench$Input", name := "isDigit", desc := "(I)Z" } : Jvm.MethodName)) ∈ jwd := jw_1 (i := 219) rfl rfl
theorem wd_1_220 : (Jvm.Cond.code ({ cls := "MergeWorkbench$Input", name := "isDigit", desc := "(I)Z" } : Jvm.MethodName) prog_5_method_8_code (1 : Nat) (Option.some Jvm.ClassFile.FieldType.boolean)) ∈ jwd := jw_1 (i := 220) rfl rfl
theorem wd_1_221 : (Jvm.Cond.methodLink "MergeWorkbench$Input" (49 : Nat) ({ cls := "MergeWorkbench$Input", name := "isLetter", desc := "(I)Z" } : Jvm.MethodName)) ∈ jwd := jw_1 (i := 221) rfl rfl
theorem wd_1_222 : (Jvm.Cond.static ({ cls := "MergeWorkbench$Input", name := "isLetter", desc := "(I)Z" } : Jvm.MethodName)) ∈ jwd := jw_1 (i := 222) rfl rfl
theorem wd_1_223 : (Jvm.Cond.code ({ cls := "MergeWorkbench$Input", name := "isLetter", desc := "(I)Z" } : Jvm.MethodName) prog_5_method_7_code (1 : Nat) (Option.some Jvm.ClassFile.FieldType.boolean)) ∈ jwd := jw_1 (i := 223) rfl rfl
theorem wd_1_224 : (Jvm.Cond.methodLink "MergeWorkbench" (159 : Nat) ({ cls := "MergeWorkbench$Input", name := "expandInto", desc := "(LMergeWorkbench$Lines;)Z" } : Jvm.MethodName)) ∈ jwd := jw_1 (i := 224) rfl rfl
theorem wd_1_225 : (Jvm.Cond.instanceMethod ({ cls := "MergeWorkbench$Input", name := "expandInto", desc := "(LMergeWorkbench$Lines;)Z" } : Jvm.MethodName)) ∈ jwd := jw_1 (i := 225) rfl rfl
theorem wd_1_226 : (Jvm.Cond.selects "MergeWorkbench$Input" ({ cls := "MergeWorkbench$Input", name := "expandInto", desc := "(LMergeWorkbench$Lines;)Z" } : Jvm.MethodName) ({ cls := "MergeWorkbench$Input", name := "expandInto", desc := "(LMergeWorkbench$Lines;)Z" } : Jvm.MethodName)) ∈ jwd := jw_1 (i := 226) rfl rfl
theorem wd_1_227 : (Jvm.Cond.code ({ cls := "MergeWorkbench$Input", name := "expandInto", desc := "(LMergeWorkbench$Lines;)Z" } : Jvm.MethodName) prog_5_method_9_code (6 : Nat) (Option.some Jvm.ClassFile.FieldType.boolean)) ∈ jwd := jw_1 (i := 227) rfl rfl
theorem wd_1_228 : (Jvm.Cond.methodLink "MergeWorkbench$Input" (34 : Nat) ({ cls := "MergeWorkbench$Lines", name := "clear", desc := "()V" } : Jvm.MethodName)) ∈ jwd := jw_1 (i := 228) rfl rfl
theorem wd_1_229 : (Jvm.Cond.methodLink "MergeWorkbench$Input" (27 : Nat) ({ cls := "MergeWorkbench$Lines", name := "push", desc := "(I)V" } : Jvm.MethodName)) ∈ jwd := jw_1 (i := 229) rfl rfl
theorem wd_1_230 : (Jvm.Cond.methodLink "MergeWorkbench$Input" (52 : Nat) ({ cls := "MergeWorkbench$Lines", name := "removeAt", desc := "(I)I" } : Jvm.MethodName)) ∈ jwd := jw_1 (i := 230) rfl rfl
theorem wd_1_231 : (Jvm.Cond.instanceMethod ({ cls := "MergeWorkbench$Lines", name := "removeAt", desc := "(I)I" } : Jvm.MethodName)) ∈ jwd := jw_1 (i := 231) rfl rfl
theorem wd_1_232 : (Jvm.Cond.selects "MergeWorkbench$Lines" ({ cls := "MergeWorkbench$Lines", name := "removeAt", desc := "(I)I" } : Jvm.MethodName) ({ cls := "MergeWorkbench$Lines", name := "removeAt", desc := "(I)I" } : Jvm.MethodName)) ∈ jwd := jw_1 (i := 232) rfl rfl
theorem wd_1_233 : (Jvm.Cond.code ({ cls := "MergeWorkbench$Lines", name := "removeAt", desc := "(I)I" } : Jvm.MethodName) prog_6_method_11_code (4 : Nat) (Option.some Jvm.ClassFile.FieldType.int)) ∈ jwd := jw_1 (i := 233) rfl rfl
theorem wd_1_234 : (Jvm.Cond.methodLink "MergeWorkbench$Lines" (31 : Nat) ({ cls := "MergeWorkbench$Lines", name := "has", desc := "(I)Z" } : Jvm.MethodName)) ∈ jwd := jw_1 (i := 234) rfl rfl
theorem wd_1_235 : (Jvm.Cond.methodLink "MergeWorkbench$Input" (23 : Nat) ({ cls := "MergeWorkbench$Lines", name := "isFull", desc := "()Z" } : Jvm.MethodName)) ∈ jwd := jw_1 (i := 235) rfl rfl
theorem wd_1_236 : (Jvm.Cond.instanceMethod ({ cls := "MergeWorkbench$Lines", name := "isFull", desc := "()Z" } : Jvm.MethodName)) ∈ jwd := jw_1 (i := 236) rfl rfl
theorem wd_1_237 : (Jvm.Cond.selects "MergeWorkbench$Lines" ({ cls := "MergeWorkbench$Lines", name := "isFull", desc := "()Z" } : Jvm.MethodName) ({ cls := "MergeWorkbench$Lines", name := "isFull", desc := "()Z" } : Jvm.MethodName)) ∈ jwd := jw_1 (i := 237) rfl rfl
theorem wd_1_238 : (Jvm.Cond.code ({ cls := "MergeWorkbench$Lines", name := "isFull", desc := "()Z" } : Jvm.MethodName) prog_6_method_3_code (1 : Nat) (Option.some Jvm.ClassFile.FieldType.boolean)) ∈ jwd := jw_1 (i := 238) rfl rfl
theorem wd_1_239 : (Jvm.Cond.methodLink "MergeWorkbench$Input" (55 : Nat) ({ cls := "MergeWorkbench$Input", name := "repeatEnd", desc := "(LMergeWorkbench$Lines;II)Z" } : Jvm.MethodName)) ∈ jwd := jw_1 (i := 239) rfl rfl
theorem wd_2_0 : (Jvm.Cond.static ({ cls := "MergeWorkbench$Input", name := "repeatEnd", desc := "(LMergeWorkbench$Lines;II)Z" } : Jvm.MethodName)) ∈ jwd := jw_2 (i := 0) rfl rfl
theorem wd_2_1 : (Jvm.Cond.code ({ cls := "MergeWorkbench$Input", name := "repeatEnd", desc := "(LMergeWorkbench$Lines;II)Z" } : Jvm.MethodName) prog_5_method_10_code (5 : Nat) (Option.some Jvm.ClassFile.FieldType.boolean)) ∈ jwd := jw_2 (i := 1) rfl rfl
theorem wd_2_2 : (Jvm.Cond.methodLink "MergeWorkbench$Input" (59 : Nat) ({ cls := "MergeWorkbench$Lines", name := "pushPart", desc := "(LMergeWorkbench$Lines;II)V" } : Jvm.MethodName)) ∈ jwd := jw_2 (i := 2) rfl rfl
theorem wd_2_3 : (Jvm.Cond.methodLink "MergeWorkbench" (163 : Nat) ({ cls := "MergeWorkbench$Input", name := "discard", desc := "()V" } : Jvm.MethodName)) ∈ jwd := jw_2 (i := 3) rfl rfl
theorem wd_2_4 : (Jvm.Cond.instanceMethod ({ cls := "MergeWorkbench$Input", name := "discard", desc := "()V" } : Jvm.MethodName)) ∈ jwd := jw_2 (i := 4) rfl rfl
theorem wd_2_5 : (Jvm.Cond.selects "MergeWorkbench$Input" ({ cls := "MergeWorkbench$Input", name := "discard", desc := "()V" } : Jvm.MethodName) ({ cls := "MergeWorkbench$Input", name := "discard", desc := "()V" } : Jvm.MethodName)) ∈ jwd := jw_2 (i := 5) rfl rfl
theorem wd_2_6 : (Jvm.Cond.code ({ cls := "MergeWorkbench$Input", name := "discard", desc := "()V" } : Jvm.MethodName) prog_5_method_4_code (1 : Nat) (Option.none : Option Jvm.ClassFile.FieldType)) ∈ jwd := jw_2 (i := 6) rfl rfl
theorem wd_2_8 : (Jvm.Cond.methodLink "MergeWorkbenchLaw" (59 : Nat) ({ cls := "MergeWorkbench", name := "compare", desc := "(II)I" } : Jvm.MethodName)) ∈ jwd := jw_2 (i := 8) rfl rfl
theorem wd_2_9 : (Jvm.Cond.instanceMethod ({ cls := "MergeWorkbench", name := "compare", desc := "(II)I" } : Jvm.MethodName)) ∈ jwd := jw_2 (i := 9) rfl rfl
theorem wd_2_10 : (Jvm.Cond.selects "MergeWorkbench" ({ cls := "MergeWorkbench", name := "compare", desc := "(II)I" } : Jvm.MethodName) ({ cls := "MergeWorkbench", name := "compare", desc := "(II)I" } : Jvm.MethodName)) ∈ jwd := jw_2 (i := 10) rfl rfl
theorem wd_2_11 : (Jvm.Cond.code ({ cls := "MergeWorkbench", name := "compare", desc := "(II)I" } : Jvm.MethodName) prog_1_method_13_code (5 : Nat) (Option.some Jvm.ClassFile.FieldType.int)) ∈ jwd := jw_2 (i := 11) rfl rfl
theorem wd_2_12 : (Jvm.Cond.methodLink "MergeWorkbench" (173 : Nat) ({ cls := "MergeWorkbench$Comparison", name := "make", desc := "(LMergeWorkbench$Lines;LMergeWorkbench$Lines;I)I" } : Jvm.MethodName)) ∈ jwd := jw_2 (i := 12) rfl rfl
theorem wd_2_13 : (Jvm.Cond.instanceMethod ({ cls := "MergeWorkbench$Comparison", name := "make", desc := "(LMergeWorkbench$Lines;LMergeWorkbench$Lines;I)I" } : Jvm.MethodName)) ∈ jwd := jw_2 (i := 13) rfl rfl
theorem wd_2_14 : (Jvm.Cond.selects "MergeWorkbench$Comparison" ({ cls := "MergeWorkbench$Comparison", name := "make", desc := "(LMergeWorkbench$Lines;LMergeWorkbench$Lines;I)I" } : Jvm.MethodName) ({ cls := "MergeWorkbench$Comparison", name := "make", desc := "(LMergeWorkbench$Lines;LMergeWorkbench$Lines;I)I" } : Jvm.MethodName)) ∈ jwd := jw_2 (i := 14) rfl rfl
theorem wd_2_15 : (Jvm.Cond.code ({ cls := "MergeWorkbench$Comparison", name := "make", desc := "(LMergeWorkbench$Lines;LMergeWorkbench$Lines;I)I" } : Jvm.MethodName) prog_3_method_9_code (4 : Nat) (Option.some Jvm.ClassFile.FieldType.int)) ∈ jwd := jw_2 (i := 15) rfl rfl
theorem wd_2_16 : (Jvm.Cond.methodLink "MergeWorkbench$Comparison" (55 : Nat) ({ cls := "MergeWorkbench$Lines", name := "become", desc := "(LMergeWorkbench$Lines;)V" } : Jvm.MethodName)) ∈ jwd := jw_2 (i := 16) rfl rfl
theorem wd_2_17 : (Jvm.Cond.methodLink "MergeWorkbench$Comparison" (59 : Nat) ({ cls := "MergeWorkbench$Alignment", name := "build", desc := "(LMergeWorkbench$Lines;LMergeWorkbench$Lines;I)V" } : Jvm.MethodName)) ∈ jwd := jw_2 (i := 17) rfl rfl
theorem wd_2_18 : (Jvm.Cond.instanceMethod ({ cls := "MergeWorkbench$Alignment", name := "build", desc := "(LMergeWorkbench$Lines;LMergeWorkbench$Lines;I)V" } : Jvm.MethodName)) ∈ jwd := jw_2 (i := 18) rfl rfl
theorem wd_2_19 : (Jvm.Cond.selects "MergeWorkbench$Alignment" ({ cls := "MergeWorkbench$Alignment", name := "build", desc := "(LMergeWorkbench$Lines;LMergeWorkbench$Lines;I)V" } : Jvm.MethodName) ({ cls := "MergeWorkbench$Alignment", name := "build", desc := "(LMergeWorkbench$Lines;LMergeWorkbench$Lines;I)V" } : Jvm.MethodName)) ∈ jwd := jw_2 (i := 19) rfl rfl
theorem wd_2_20 : (Jvm.Cond.code ({ cls := "MergeWorkbench$Alignment", name := "build", desc := "(LMergeWorkbench$Lines;LMergeWorkbench$Lines;I)V" } : Jvm.MethodName) prog_2_method_7_code (4 : Nat) (Option.none : Option Jvm.ClassFile.FieldType)) ∈ jwd := jw_2 (i := 20) rfl rfl
theorem wd_2_21 : (Jvm.Cond.methodLink "MergeWorkbench$Alignment" (53 : Nat) ({ cls := "MergeWorkbench$Lines", name := "size", desc := "()I" } : Jvm.MethodName)) ∈ jwd := jw_2 (i := 21) rfl rfl
theorem wd_2_22 : (Jvm.Cond.methodLink "MergeWorkbench$Alignment" (56 : Nat) ({ cls := "MergeWorkbench$Lines", name := "fillWith", desc := "(II)V" } : Jvm.MethodName)) ∈ jwd := jw_2 (i := 22) rfl rfl
theorem wd_2_23 : (Jvm.Cond.instanceMethod ({ cls := "MergeWorkbench$Lines", name := "fillWith", desc := "(II)V" } : Jvm.MethodName)) ∈ jwd := jw_2 (i := 23) rfl rfl
theorem wd_2_24 : (Jvm.Cond.selects "MergeWorkbench$Lines" ({ cls := "MergeWorkbench$Lines", name := "fillWith", desc := "(II)V" } : Jvm.MethodName) ({ cls := "MergeWorkbench$Lines", name := "fillWith", desc := "(II)V" } : Jvm.MethodName)) ∈ jwd := jw_2 (i := 24) rfl rfl
theorem wd_2_25 : (Jvm.Cond.code ({ cls := "MergeWorkbench$Lines", name := "fillWith", desc := "(II)V" } : Jvm.MethodName) prog_6_method_13_code (4 : Nat) (Option.none : Option Jvm.ClassFile.FieldType)) ∈ jwd := jw_2 (i := 25) rfl rfl
theorem wd_2_26 : (Jvm.Cond.methodLink "MergeWorkbench$Alignment" (59 : Nat) ({ cls := "MergeWorkbench$Alignment", name := "alignByAnchors", desc := "(LMergeWorkbench$Lines;LMergeWorkbench$Lines;)V" } : Jvm.MethodName)) ∈ jwd := jw_2 (i := 26) rfl rfl
theorem wd_2_28 : (Jvm.Cond.instanceMethod ({ cls := "MergeWorkbench$Alignment", name := "alignByAnchors", desc := "(LMergeWorkbench$Lines;LMergeWorkbench$Lines;)V" } : Jvm.MethodName)) ∈ jwd := jw_2 (i := 28) rfl rfl
theorem wd_2_29 : (Jvm.Cond.instantiable "MergeWorkbench$Alignment" (7 : Nat)) ∈ jwd := jw_2 (i := 29) rfl rfl
theorem wd_2_30 : (Jvm.Cond.code ({ cls := "MergeWorkbench$Alignment", name := "alignByAnchors", desc := "(LMergeWorkbench$Lines;LMergeWorkbench$Lines;)V" } : Jvm.MethodName) prog_2_method_11_code (8 : Nat) (Option.none : Option Jvm.ClassFile.FieldType)) ∈ jwd := jw_2 (i := 30) rfl rfl
theorem wd_2_31 : (Jvm.Cond.methodLink "MergeWorkbench$Alignment" (91 : Nat) ({ cls := "MergeWorkbench$Alignment", name := "findCandidates", desc := "(LMergeWorkbench$Lines;LMergeWorkbench$Lines;)V" } : Jvm.MethodName)) ∈ jwd := jw_2 (i := 31) rfl rfl
theorem wd_2_33 : (Jvm.Cond.instanceMethod ({ cls := "MergeWorkbench$Alignment", name := "findCandidates", desc := "(LMergeWorkbench$Lines;LMergeWorkbench$Lines;)V" } : Jvm.MethodName)) ∈ jwd := jw_2 (i := 33) rfl rfl
theorem wd_2_34 : (Jvm.Cond.code ({ cls := "MergeWorkbench$Alignment", name := "findCandidates", desc := "(LMergeWorkbench$Lines;LMergeWorkbench$Lines;)V" } : Jvm.MethodName) prog_2_method_12_code (6 : Nat) (Option.none : Option Jvm.ClassFile.FieldType)) ∈ jwd := jw_2 (i := 34) rfl rfl
theorem wd_2_35 : (Jvm.Cond.methodLink "MergeWorkbench$Alignment" (97 : Nat) ({ cls := "MergeWorkbench$Lines", name := "clear", desc := "()V" } : Jvm.MethodName)) ∈ jwd := jw_2 (i := 35) rfl rfl
theorem wd_2_36 : (Jvm.Cond.methodLink "MergeWorkbench$Alignment" (49 : Nat) ({ cls := "MergeWorkbench$Lines", name := "at", desc := "(I)I" } : Jvm.MethodName)) ∈ jwd := jw_2 (i := 36) rfl rfl
theorem wd_2_37 : (Jvm.Cond.methodLink "MergeWorkbench$Alignment" (100 : Nat) ({ cls := "MergeWorkbench$Lines", name := "isOnce", desc := "(I)Z" } : Jvm.MethodName)) ∈ jwd := jw_2 (i := 37) rfl rfl
theorem wd_2_38 : (Jvm.Cond.instanceMethod ({ cls := "MergeWorkbench$Lines", name := "isOnce", desc := "(I)Z" } : Jvm.MethodName)) ∈ jwd := jw_2 (i := 38) rfl rfl
theorem wd_2_39 : (Jvm.Cond.selects "MergeWorkbench$Lines" ({ cls := "MergeWorkbench$Lines", name := "isOnce", desc := "(I)Z" } : Jvm.MethodName) ({ cls := "MergeWorkbench$Lines", name := "isOnce", desc := "(I)Z" } : Jvm.MethodName)) ∈ jwd := jw_2 (i := 39) rfl rfl
theorem wd_2_40 : (Jvm.Cond.code ({ cls := "MergeWorkbench$Lines", name := "isOnce", desc := "(I)Z" } : Jvm.MethodName) prog_6_method_15_code (4 : Nat) (Option.some Jvm.ClassFile.FieldType.boolean)) ∈ jwd := jw_2 (i := 40) rfl rfl
theorem wd_2_41 : (Jvm.Cond.methodLink "MergeWorkbench$Alignment" (73 : Nat) ({ cls := "MergeWorkbench$Lines", name := "find", desc := "(III)I" } : Jvm.MethodName)) ∈ jwd := jw_2 (i := 41) rfl rfl
theorem wd_2_42 : (Jvm.Cond.instanceMethod ({ cls := "MergeWorkbench$Lines", name := "find", desc := "(III)I" } : Jvm.MethodName)) ∈ jwd := jw_2 (i := 42) rfl rfl
theorem wd_2_43 : (Jvm.Cond.selects "MergeWorkbench$Lines" ({ cls := "MergeWorkbench$Lines", name := "find", desc := "(III)I" } : Jvm.MethodName) ({ cls := "MergeWorkbench$Lines", name := "find", desc := "(III)I" } : Jvm.MethodName)) ∈ jwd := jw_2 (i := 43) rfl rfl
theorem wd_2_44 : (Jvm.Cond.code ({ cls := "MergeWorkbench$Lines", name := "find", desc := "(III)I" } : Jvm.MethodName) prog_6_method_14_code (5 : Nat) (Option.some Jvm.ClassFile.FieldType.int)) ∈ jwd := jw_2 (i := 44) rfl rfl
theorem wd_2_45 : (Jvm.Cond.methodLink "MergeWorkbench$Alignment" (104 : Nat) ({ cls := "MergeWorkbench$Lines", name := "push", desc := "(I)V" } : Jvm.MethodName)) ∈ jwd := jw_2 (i := 45) rfl rfl
theorem wd_2_46 : (Jvm.Cond.methodLink "MergeWorkbench$Alignment" (94 : Nat) ({ cls := "MergeWorkbench$Alignment", name := "measureChains", desc := "()I" } : Jvm.MethodName)) ∈ jwd := jw_2 (i := 46) rfl rfl
theorem wd_2_48 : (Jvm.Cond.instanceMethod ({ cls := "MergeWorkbench$Alignment", name := "measureChains", desc := "()I" } : Jvm.MethodName)) ∈ jwd := jw_2 (i := 48) rfl rfl
theorem wd_2_49 : (Jvm.Cond.code ({ cls := "MergeWorkbench$Alignment", name := "measureChains", desc := "()I" } : Jvm.MethodName) prog_2_method_13_code (5 : Nat) (Option.some Jvm.ClassFile.FieldType.int)) ∈ jwd := jw_2 (i := 49) rfl rfl
theorem wd_2_50 : (Jvm.Cond.methodLink "MergeWorkbench$Alignment" (83 : Nat) ({ cls := "java/lang/Math", name := "max", desc := "(II)I" } : Jvm.MethodName)) ∈ jwd := jw_2 (i := 50) rfl rfl
theorem wd_2_51 : (Jvm.Cond.static ({ cls := "java/lang/Math", name := "max", desc := "(II)I" } : Jvm.MethodName)) ∈ jwd := jw_2 (i := 51) rfl rfl
theorem wd_2_52 : (Jvm.Cond.code ({ cls := "java/lang/Math", name := "max", desc := "(II)I" } : Jvm.MethodName) prog_18_method_65_code (2 : Nat) (Option.some Jvm.ClassFile.FieldType.int)) ∈ jwd := jw_2 (i := 52) rfl rfl
theorem wd_2_53 : (Jvm.Cond.methodLink "MergeWorkbench$Alignment" (67 : Nat) ({ cls := "MergeWorkbench$Lines", name := "put", desc := "(II)V" } : Jvm.MethodName)) ∈ jwd := jw_2 (i := 53) rfl rfl
theorem wd_2_54 : (Jvm.Cond.methodLink "MergeWorkbench$Alignment" (63 : Nat) ({ cls := "MergeWorkbench$Alignment", name := "alignPart", desc := "(LMergeWorkbench$Lines;IILMergeWorkbench$Lines;II)V" } : Jvm.MethodName)) ∈ jwd := jw_2 (i := 54) rfl rfl
theorem wd_2_56 : (Jvm.Cond.instanceMethod ({ cls := "MergeWorkbench$Alignment", name := "alignPart", desc := "(LMergeWorkbench$Lines;IILMergeWorkbench$Lines;II)V" } : Jvm.MethodName)) ∈ jwd := jw_2 (i := 56) rfl rfl
theorem wd_2_57 : (Jvm.Cond.code ({ cls := "MergeWorkbench$Alignment", name := "alignPart", desc := "(LMergeWorkbench$Lines;IILMergeWorkbench$Lines;II)V" } : Jvm.MethodName) prog_2_method_9_code (10 : Nat) (Option.none : Option Jvm.ClassFile.FieldType)) ∈ jwd := jw_2 (i := 57) rfl rfl
theorem wd_2_58 : (Jvm.Cond.methodLink "MergeWorkbench$Alignment" (70 : Nat) ({ cls := "MergeWorkbench$Alignment", name := "measureEnds", desc := "(LMergeWorkbench$Lines;IILMergeWorkbench$Lines;II)V" } : Jvm.MethodName)) ∈ jwd := jw_2 (i := 58) rfl rfl
theorem wd_2_60 : (Jvm.Cond.instanceMethod ({ cls := "MergeWorkbench$Alignment", name := "measureEnds", desc := "(LMergeWorkbench$Lines;IILMergeWorkbench$Lines;II)V" } : Jvm.MethodName)) ∈ jwd := jw_2 (i := 60) rfl rfl
theorem wd_2_61 : (Jvm.Cond.code ({ cls := "MergeWorkbench$Alignment", name := "measureEnds", desc := "(LMergeWorkbench$Lines;IILMergeWorkbench$Lines;II)V" } : Jvm.MethodName) prog_2_method_10_code (10 : Nat) (Option.none : Option Jvm.ClassFile.FieldType)) ∈ jwd := jw_2 (i := 61) rfl rfl
theorem wd_2_62 : (Jvm.Cond.methodLink "MergeWorkbench$Alignment" (77 : Nat) ({ cls := "MergeWorkbench$Table", name := "at", desc := "(II)I" } : Jvm.MethodName)) ∈ jwd := jw_2 (i := 62) rfl rfl
theorem wd_2_63 : (Jvm.Cond.instanceMethod ({ cls := "MergeWorkbench$Table", name := "at", desc := "(II)I" } : Jvm.MethodName)) ∈ jwd := jw_2 (i := 63) rfl rfl
theorem wd_2_64 : (Jvm.Cond.selects "MergeWorkbench$Table" ({ cls := "MergeWorkbench$Table", name := "at", desc := "(II)I" } : Jvm.MethodName) ({ cls := "MergeWorkbench$Table", name := "at", desc := "(II)I" } : Jvm.MethodName)) ∈ jwd := jw_2 (i := 64) rfl rfl
theorem wd_2_65 : (Jvm.Cond.code ({ cls := "MergeWorkbench$Table", name := "at", desc := "(II)I" } : Jvm.MethodName) prog_10_method_4_code (5 : Nat) (Option.some Jvm.ClassFile.FieldType.int)) ∈ jwd := jw_2 (i := 65) rfl rfl
theorem wd_2_66 : (Jvm.Cond.methodLink "MergeWorkbench$Alignment" (88 : Nat) ({ cls := "MergeWorkbench$Table", name := "put", desc := "(III)V" } : Jvm.MethodName)) ∈ jwd := jw_2 (i := 66) rfl rfl
theorem wd_2_67 : (Jvm.Cond.instanceMethod ({ cls := "MergeWorkbench$Table", name := "put", desc := "(III)V" } : Jvm.MethodName)) ∈ jwd := jw_2 (i := 67) rfl rfl
theorem wd_2_68 : (Jvm.Cond.selects "MergeWorkbench$Table" ({ cls := "MergeWorkbench$Table", name := "put", desc := "(III)V" } : Jvm.MethodName) ({ cls := "MergeWorkbench$Table", name := "put", desc := "(III)V" } : Jvm.MethodName)) ∈ jwd := jw_2 (i := 68) rfl rfl
theorem wd_2_69 : (Jvm.Cond.code ({ cls := "MergeWorkbench$Table", name := "put", desc := "(III)V" } : Jvm.MethodName) prog_10_method_5_code (6 : Nat) (Option.none : Option Jvm.ClassFile.FieldType)) ∈ jwd := jw_2 (i := 69) rfl rfl
theorem wd_2_70 : (Jvm.Cond.methodLink "MergeWorkbench$Alignment" (80 : Nat) ({ cls := "MergeWorkbench$Alignment", name := "addPair", desc := "(II)V" } : Jvm.MethodName)) ∈ jwd := jw_2 (i := 70) rfl rfl
theorem wd_2_72 : (Jvm.Cond.instanceMethod ({ cls := "MergeWorkbench$Alignment", name := "addPair", desc := "(II)V" } : Jvm.MethodName)) ∈ jwd := jw_2 (i := 72) rfl rfl
theorem wd_2_73 : (Jvm.Cond.code ({ cls := "MergeWorkbench$Alignment", name := "addPair", desc := "(II)V" } : Jvm.MethodName) prog_2_method_8_code (3 : Nat) (Option.none : Option Jvm.ClassFile.FieldType)) ∈ jwd := jw_2 (i := 73) rfl rfl
theorem wd_2_74 : (Jvm.Cond.methodLink "MergeWorkbench$Comparison" (63 : Nat) ({ cls := "MergeWorkbench$Table", name := "clear", desc := "()V" } : Jvm.MethodName)) ∈ jwd := jw_2 (i := 74) rfl rfl
theorem wd_2_75 : (Jvm.Cond.instanceMethod ({ cls := "MergeWorkbench$Table", name := "clear", desc := "()V" } : Jvm.MethodName)) ∈ jwd := jw_2 (i := 75) rfl rfl
theorem wd_2_76 : (Jvm.Cond.selects "MergeWorkbench$Table" ({ cls := "MergeWorkbench$Table", name := "clear", desc := "()V" } : Jvm.MethodName) ({ cls := "MergeWorkbench$Table", name := "clear", desc := "()V" } : Jvm.MethodName)) ∈ jwd := jw_2 (i := 76) rfl rfl
theorem wd_2_77 : (Jvm.Cond.code ({ cls := "MergeWorkbench$Table", name := "clear", desc := "()V" } : Jvm.MethodName) prog_10_method_6_code (1 : Nat) (Option.none : Option Jvm.ClassFile.FieldType)) ∈ jwd := jw_2 (i := 77) rfl rfl
theorem wd_2_78 : (Jvm.Cond.methodLink "MergeWorkbench$Comparison" (66 : Nat) ({ cls := "MergeWorkbench$Lines", name := "clear", desc := "()V" } : Jvm.MethodName)) ∈ jwd := jw_2 (i := 78) rfl rfl
theorem wd_2_79 : (Jvm.Cond.methodLink "MergeWorkbench$Comparison" (67 : Nat) ({ cls := "MergeWorkbench$Comparison", name := "collectDifferences", desc := "()V" } : Jvm.MethodName)) ∈ jwd := jw_2 (i := 79) rfl rfl
theorem wd_2_81 : (Jvm.Cond.instanceMethod ({ cls := "MergeWorkbench$Comparison", name := "collectDifferences", desc := "()V" } : Jvm.MethodName)) ∈ jwd := jw_2 (i := 81) rfl rfl
theorem wd_2_82 : (Jvm.Cond.instantiable "MergeWorkbench$Comparison" (9 : Nat)) ∈ jwd := jw_2 (i := 82) rfl rfl
theorem wd_2_83 : (Jvm.Cond.code ({ cls := "MergeWorkbench$Comparison", name := "collectDifferences", desc := "()V" } : Jvm.MethodName) prog_3_method_10_code (5 : Nat) (Option.none : Option Jvm.ClassFile.FieldType)) ∈ jwd := jw_2 (i := 83) rfl rfl
theorem wd_2_84 : (Jvm.Cond.methodLink "MergeWorkbench$Comparison" (74 : Nat) ({ cls := "MergeWorkbench$Lines", name := "size", desc := "()I" } : Jvm.MethodName)) ∈ jwd := jw_2 (i := 84) rfl rfl
theorem wd_2_85 : (Jvm.Cond.methodLink "MergeWorkbench$Comparison" (77 : Nat) ({ cls := "MergeWorkbench$Alignment", name := "isFirstKept", desc := "(I)Z" } : Jvm.MethodName)) ∈ jwd := jw_2 (i := 85) rfl rfl
theorem wd_2_86 : (Jvm.Cond.instanceMethod ({ cls := "MergeWorkbench$Alignment", name := "isFirstKept", desc := "(I)Z" } : Jvm.MethodName)) ∈ jwd := jw_2 (i := 86) rfl rfl
theorem wd_2_87 : (Jvm.Cond.selects "MergeWorkbench$Alignment" ({ cls := "MergeWorkbench$Alignment", name := "isFirstKept", desc := "(I)Z" } : Jvm.MethodName) ({ cls := "MergeWorkbench$Alignment", name := "isFirstKept", desc := "(I)Z" } : Jvm.MethodName)) ∈ jwd := jw_2 (i := 87) rfl rfl
theorem wd_2_88 : (Jvm.Cond.code ({ cls := "MergeWorkbench$Alignment", name := "isFirstKept", desc := "(I)Z" } : Jvm.MethodName) prog_2_method_5_code (2 : Nat) (Option.some Jvm.ClassFile.FieldType.boolean)) ∈ jwd := jw_2 (i := 88) rfl rfl
theorem wd_2_89 : (Jvm.Cond.methodLink "MergeWorkbench$Comparison" (81 : Nat) ({ cls := "MergeWorkbench$Alignment", name := "partnerOf", desc := "(I)I" } : Jvm.MethodName)) ∈ jwd := jw_2 (i := 89) rfl rfl
theorem wd_2_90 : (Jvm.Cond.instanceMethod ({ cls := "MergeWorkbench$Alignment", name := "partnerOf", desc := "(I)I" } : Jvm.MethodName)) ∈ jwd := jw_2 (i := 90) rfl rfl
theorem wd_2_91 : (Jvm.Cond.selects "MergeWorkbench$Alignment" ({ cls := "MergeWorkbench$Alignment", name := "partnerOf", desc := "(I)I" } : Jvm.MethodName) ({ cls := "MergeWorkbench$Alignment", name := "partnerOf", desc := "(I)I" } : Jvm.MethodName)) ∈ jwd := jw_2 (i := 91) rfl rfl
theorem wd_2_92 : (Jvm.Cond.code ({ cls := "MergeWorkbench$Alignment", name := "partnerOf", desc := "(I)I" } : Jvm.MethodName) prog_2_method_4_code (2 : Nat) (Option.some Jvm.ClassFile.FieldType.int)) ∈ jwd := jw_2 (i := 92) rfl rfl
theorem wd_2_93 : (Jvm.Cond.methodLink "MergeWorkbench$Comparison" (85 : Nat) ({ cls := "MergeWorkbench$Comparison", name := "addDifference", desc := "(IIII)V" } : Jvm.MethodName)) ∈ jwd := jw_2 (i := 93) rfl rfl
theorem wd_2_95 : (Jvm.Cond.instanceMethod ({ cls := "MergeWorkbench$Comparison", name := "addDifference", desc := "(IIII)V" } : Jvm.MethodName)) ∈ jwd := jw_2 (i := 95) rfl rfl
theorem wd_2_96 : (Jvm.Cond.code ({ cls := "MergeWorkbench$Comparison", name := "addDifference", desc := "(IIII)V" } : Jvm.MethodName) prog_3_method_11_code (7 : Nat) (Option.none : Option Jvm.ClassFile.FieldType)) ∈ jwd := jw_2 (i := 96) rfl rfl
theorem wd_2_97 : (Jvm.Cond.methodLink "MergeWorkbench$Comparison" (95 : Nat) ({ cls := "MergeWorkbench$Table", name := "addRow", desc := "()I" } : Jvm.MethodName)) ∈ jwd := jw_2 (i := 97) rfl rfl
theorem wd_2_98 : (Jvm.Cond.instanceMethod ({ cls := "MergeWorkbench$Table", name := "addRow", desc := "()I" } : Jvm.MethodName)) ∈ jwd := jw_2 (i := 98) rfl rfl
theorem wd_2_99 : (Jvm.Cond.selects "MergeWorkbench$Table" ({ cls := "MergeWorkbench$Table", name := "addRow", desc := "()I" } : Jvm.MethodName) ({ cls := "MergeWorkbench$Table", name := "addRow", desc := "()I" } : Jvm.MethodName)) ∈ jwd := jw_2 (i := 99) rfl rfl
theorem wd_2_100 : (Jvm.Cond.code ({ cls := "MergeWorkbench$Table", name := "addRow", desc := "()I" } : Jvm.MethodName) prog_10_method_7_code (3 : Nat) (Option.some Jvm.ClassFile.FieldType.int)) ∈ jwd := jw_2 (i := 100) rfl rfl
theorem wd_2_101 : (Jvm.Cond.methodLink "MergeWorkbench$Table" (22 : Nat) ({ cls := "MergeWorkbench$Table", name := "put", desc := "(III)V" } : Jvm.MethodName)) ∈ jwd := jw_2 (i := 101) rfl rfl
theorem wd_2_102 : (Jvm.Cond.methodLink "MergeWorkbench$Comparison" (98 : Nat) ({ cls := "MergeWorkbench$Table", name := "put", desc := "(III)V" } : Jvm.MethodName)) ∈ jwd := jw_2 (i := 102) rfl rfl
theorem wd_2_103 : (Jvm.Cond.methodLink "MergeWorkbench$Comparison" (89 : Nat) ({ cls := "MergeWorkbench$Lines", name := "at", desc := "(I)I" } : Jvm.MethodName)) ∈ jwd := jw_2 (i := 103) rfl rfl
theorem wd_2_104 : (Jvm.Cond.methodLink "MergeWorkbench$Comparison" (92 : Nat) ({ cls := "MergeWorkbench$Lines", name := "push", desc := "(I)V" } : Jvm.MethodName)) ∈ jwd := jw_2 (i := 104) rfl rfl
theorem wd_2_105 : (Jvm.Cond.methodLink "MergeWorkbench$Comparison" (70 : Nat) ({ cls := "MergeWorkbench$Alignment", name := "pairs", desc := "()I" } : Jvm.MethodName)) ∈ jwd := jw_2 (i := 105) rfl rfl
theorem wd_2_106 : (Jvm.Cond.instanceMethod ({ cls := "MergeWorkbench$Alignment", name := "pairs", desc := "()I" } : Jvm.MethodName)) ∈ jwd := jw_2 (i := 106) rfl rfl
theorem wd_2_107 : (Jvm.Cond.selects "MergeWorkbench$Alignment" ({ cls := "MergeWorkbench$Alignment", name := "pairs", desc := "()I" } : Jvm.MethodName) ({ cls := "MergeWorkbench$Alignment", name := "pairs", desc := "()I" } : Jvm.MethodName)) ∈ jwd := jw_2 (i := 107) rfl rfl
theorem wd_2_108 : (Jvm.Cond.code ({ cls := "MergeWorkbench$Alignment", name := "pairs", desc := "()I" } : Jvm.MethodName) prog_2_method_2_code (1 : Nat) (Option.some Jvm.ClassFile.FieldType.int)) ∈ jwd := jw_2 (i := 108) rfl rfl
theorem wd_2_109 : (Jvm.Cond.methodLink "MergeWorkbenchLaw" (71 : Nat) ({ cls := "MergeWorkbench", name := "partner", desc := "(I)I" } : Jvm.MethodName)) ∈ jwd := jw_2 (i := 109) rfl rfl
theorem wd_2_110 : (Jvm.Cond.instanceMethod ({ cls := "MergeWorkbench", name := "partner", desc := "(I)I" } : Jvm.MethodName)) ∈ jwd := jw_2 (i := 110) rfl rfl
theorem wd_2_111 : (Jvm.Cond.selects "MergeWorkbench" ({ cls := "MergeWorkbench", name := "partner", desc := "(I)I" } : Jvm.MethodName) ({ cls := "MergeWorkbench", name := "partner", desc := "(I)I" } : Jvm.MethodName)) ∈ jwd := jw_2 (i := 111) rfl rfl
theorem wd_2_112 : (Jvm.Cond.code ({ cls := "MergeWorkbench", name := "partner", desc := "(I)I" } : Jvm.MethodName) prog_1_method_14_code (2 : Nat) (Option.some Jvm.ClassFile.FieldType.int)) ∈ jwd := jw_2 (i := 112) rfl rfl
theorem wd_2_113 : (Jvm.Cond.methodLink "MergeWorkbench" (177 : Nat) ({ cls := "MergeWorkbench", name := "requireComparison", desc := "()V" } : Jvm.MethodName)) ∈ jwd := jw_2 (i := 113) rfl rfl
theorem wd_2_115 : (Jvm.Cond.instanceMethod ({ cls := "MergeWorkbench", name := "requireComparison", desc := "()V" } : Jvm.MethodName)) ∈ jwd := jw_2 (i := 115) rfl rfl
theorem wd_2_116 : (Jvm.Cond.code ({ cls := "MergeWorkbench", name := "requireComparison", desc := "()V" } : Jvm.MethodName) prog_1_method_41_code (1 : Nat) (Option.none : Option Jvm.ClassFile.FieldType)) ∈ jwd := jw_2 (i := 116) rfl rfl
theorem wd_2_117 : (Jvm.Cond.methodLink "MergeWorkbench" (328 : Nat) ({ cls := "MergeWorkbench$Comparison", name := "exists", desc := "()Z" } : Jvm.MethodName)) ∈ jwd := jw_2 (i := 117) rfl rfl
theorem wd_2_118 : (Jvm.Cond.instanceMethod ({ cls := "MergeWorkbench$Comparison", name := "exists", desc := "()Z" } : Jvm.MethodName)) ∈ jwd := jw_2 (i := 118) rfl rfl
theorem wd_2_119 : (Jvm.Cond.selects "MergeWorkbench$Comparison" ({ cls := "MergeWorkbench$Comparison", name := "exists", desc := "()Z" } : Jvm.MethodName) ({ cls := "MergeWorkbench$Comparison", name := "exists", desc := "()Z" } : Jvm.MethodName)) ∈ jwd := jw_2 (i := 119) rfl rfl
theorem wd_2_120 : (Jvm.Cond.code ({ cls := "MergeWorkbench$Comparison", name := "exists", desc := "()Z" } : Jvm.MethodName) prog_3_method_2_code (1 : Nat) (Option.some Jvm.ClassFile.FieldType.boolean)) ∈ jwd := jw_2 (i := 120) rfl rfl
theorem wd_2_122 : (Jvm.Cond.methodLink "MergeWorkbench" (180 : Nat) ({ cls := "MergeWorkbench$Comparison", name := "first", desc := "()LMergeWorkbench$Lines;" } : Jvm.MethodName)) ∈ jwd := jw_2 (i := 122) rfl rfl
theorem wd_2_123 : (Jvm.Cond.instanceMethod ({ cls := "MergeWorkbench$Comparison", name := "first", desc := "()LMergeWorkbench$Lines;" } : Jvm.MethodName)) ∈ jwd := jw_2 (i := 123) rfl rfl
theorem wd_2_124 : (Jvm.Cond.selects "MergeWorkbench$Comparison" ({ cls := "MergeWorkbench$Comparison", name := "first", desc := "()LMergeWorkbench$Lines;" } : Jvm.MethodName) ({ cls := "MergeWorkbench$Comparison", name := "first", desc := "()LMergeWorkbench$Lines;" } : Jvm.MethodName)) ∈ jwd := jw_2 (i := 124) rfl rfl
theorem wd_2_125 : (Jvm.Cond.code ({ cls := "MergeWorkbench$Comparison", name := "first", desc := "()LMergeWorkbench$Lines;" } : Jvm.MethodName) prog_3_method_3_code (1 : Nat) (Option.some (Jvm.ClassFile.FieldType.object "MergeWorkbench$Lines"))) ∈ jwd := jw_2 (i := 125) rfl rfl
theorem wd_2_126 : (Jvm.Cond.methodLink "MergeWorkbench" (184 : Nat) ({ cls := "MergeWorkbench$Comparison", name := "alignment", desc := "()LMergeWorkbench$Alignment;" } : Jvm.MethodName)) ∈ jwd := jw_2 (i := 126) rfl rfl
theorem wd_2_127 : (Jvm.Cond.instanceMethod ({ cls := "MergeWorkbench$Comparison", name := "alignment", desc := "()LMergeWorkbench$Alignment;" } : Jvm.MethodName)) ∈ jwd := jw_2 (i := 127) rfl rfl
theorem wd_2_128 : (Jvm.Cond.selects "MergeWorkbench$Comparison" ({ cls := "MergeWorkbench$Comparison", name := "alignment", desc := "()LMergeWorkbench$Alignment;" } : Jvm.MethodName) ({ cls := "MergeWorkbench$Comparison", name := "alignment", desc := "()LMergeWorkbench$Alignment;" } : Jvm.MethodName)) ∈ jwd := jw_2 (i := 128) rfl rfl
theorem wd_2_129 : (Jvm.Cond.code ({ cls := "MergeWorkbench$Comparison", name := "alignment", desc := "()LMergeWorkbench$Alignment;" } : Jvm.MethodName) prog_3_method_5_code (1 : Nat) (Option.some (Jvm.ClassFile.FieldType.object "MergeWorkbench$Alignment"))) ∈ jwd := jw_2 (i := 129) rfl rfl
theorem wd_2_130 : (Jvm.Cond.methodLink "MergeWorkbench" (188 : Nat) ({ cls := "MergeWorkbench$Alignment", name := "partnerOf", desc := "(I)I" } : Jvm.MethodName)) ∈ jwd := jw_2 (i := 130) rfl rfl
theorem wd_2_131 : (Jvm.Cond.methodLink "MergeWorkbenchLaw" (62 : Nat) ({ cls := "MergeWorkbench", name := "findMoves", desc := "(I)I" } : Jvm.MethodName)) ∈ jwd := jw_2 (i := 131) rfl rfl
theorem wd_2_132 : (Jvm.Cond.instanceMethod ({ cls := "MergeWorkbench", name := "findMoves", desc := "(I)I" } : Jvm.MethodName)) ∈ jwd := jw_2 (i := 132) rfl rfl
theorem wd_2_133 : (Jvm.Cond.selects "MergeWorkbench" ({ cls := "MergeWorkbench", name := "findMoves", desc := "(I)I" } : Jvm.MethodName) ({ cls := "MergeWorkbench", name := "findMoves", desc := "(I)I" } : Jvm.MethodName)) ∈ jwd := jw_2 (i := 133) rfl rfl
theorem wd_2_134 : (Jvm.Cond.code ({ cls := "MergeWorkbench", name := "findMoves", desc := "(I)I" } : Jvm.MethodName) prog_1_method_20_code (2 : Nat) (Option.some Jvm.ClassFile.FieldType.int)) ∈ jwd := jw_2 (i := 134) rfl rfl
theorem wd_2_136 : (Jvm.Cond.methodLink "MergeWorkbench" (225 : Nat) ({ cls := "MergeWorkbench$Comparison", name := "searchMoves", desc := "(I)I" } : Jvm.MethodName)) ∈ jwd := jw_2 (i := 136) rfl rfl
theorem wd_2_137 : (Jvm.Cond.instanceMethod ({ cls := "MergeWorkbench$Comparison", name := "searchMoves", desc := "(I)I" } : Jvm.MethodName)) ∈ jwd := jw_2 (i := 137) rfl rfl
theorem wd_2_138 : (Jvm.Cond.selects "MergeWorkbench$Comparison" ({ cls := "MergeWorkbench$Comparison", name := "searchMoves", desc := "(I)I" } : Jvm.MethodName) ({ cls := "MergeWorkbench$Comparison", name := "searchMoves", desc := "(I)I" } : Jvm.MethodName)) ∈ jwd := jw_2 (i := 138) rfl rfl
theorem wd_2_139 : (Jvm.Cond.code ({ cls := "MergeWorkbench$Comparison", name := "searchMoves", desc := "(I)I" } : Jvm.MethodName) prog_3_method_12_code (4 : Nat) (Option.some Jvm.ClassFile.FieldType.int)) ∈ jwd := jw_2 (i := 139) rfl rfl
theorem wd_2_140 : (Jvm.Cond.methodLink "MergeWorkbench$Comparison" (102 : Nat) ({ cls := "MergeWorkbench$Comparison", name := "freeAllButKept", desc := "()V" } : Jvm.MethodName)) ∈ jwd := jw_2 (i := 140) rfl rfl
theorem wd_2_142 : (Jvm.Cond.instanceMethod ({ cls := "MergeWorkbench$Comparison", name := "freeAllButKept", desc := "()V" } : Jvm.MethodName)) ∈ jwd := jw_2 (i := 142) rfl rfl
theorem wd_2_143 : (Jvm.Cond.code ({ cls := "MergeWorkbench$Comparison", name := "freeAllButKept", desc := "()V" } : Jvm.MethodName) prog_3_method_13_code (2 : Nat) (Option.none : Option Jvm.ClassFile.FieldType)) ∈ jwd := jw_2 (i := 143) rfl rfl
theorem wd_2_144 : (Jvm.Cond.methodLink "MergeWorkbench$Comparison" (111 : Nat) ({ cls := "MergeWorkbench$Alignment", name := "isSecondKept", desc := "(I)Z" } : Jvm.MethodName)) ∈ jwd := jw_2 (i := 144) rfl rfl
theorem wd_2_145 : (Jvm.Cond.instanceMethod ({ cls := "MergeWorkbench$Alignment", name := "isSecondKept", desc := "(I)Z" } : Jvm.MethodName)) ∈ jwd := jw_2 (i := 145) rfl rfl
theorem wd_2_146 : (Jvm.Cond.selects "MergeWorkbench$Alignment" ({ cls := "MergeWorkbench$Alignment", name := "isSecondKept", desc := "(I)Z" } : Jvm.MethodName) ({ cls := "MergeWorkbench$Alignment", name := "isSecondKept", desc := "(I)Z" } : Jvm.MethodName)) ∈ jwd := jw_2 (i := 146) rfl rfl
theorem wd_2_147 : (Jvm.Cond.code ({ cls := "MergeWorkbench$Alignment", name := "isSecondKept", desc := "(I)Z" } : Jvm.MethodName) prog_2_method_6_code (2 : Nat) (Option.some Jvm.ClassFile.FieldType.boolean)) ∈ jwd := jw_2 (i := 147) rfl rfl
theorem wd_2_148 : (Jvm.Cond.methodLink "MergeWorkbench$Comparison" (105 : Nat) ({ cls := "MergeWorkbench$Comparison", name := "addLongestMove", desc := "(I)Z" } : Jvm.MethodName)) ∈ jwd := jw_2 (i := 148) rfl rfl
theorem wd_2_150 : (Jvm.Cond.instanceMethod ({ cls := "MergeWorkbench$Comparison", name := "addLongestMove", desc := "(I)Z" } : Jvm.MethodName)) ∈ jwd := jw_2 (i := 150) rfl rfl
theorem wd_2_151 : (Jvm.Cond.code ({ cls := "MergeWorkbench$Comparison", name := "addLongestMove", desc := "(I)Z" } : Jvm.MethodName) prog_3_method_14_code (8 : Nat) (Option.some Jvm.ClassFile.FieldType.boolean)) ∈ jwd := jw_2 (i := 151) rfl rfl
theorem wd_2_152 : (Jvm.Cond.methodLink "MergeWorkbench$Comparison" (114 : Nat) ({ cls := "MergeWorkbench$Comparison", name := "runLength", desc := "(II)I" } : Jvm.MethodName)) ∈ jwd := jw_2 (i := 152) rfl rfl
theorem wd_2_154 : (Jvm.Cond.instanceMethod ({ cls := "MergeWorkbench$Comparison", name := "runLength", desc := "(II)I" } : Jvm.MethodName)) ∈ jwd := jw_2 (i := 154) rfl rfl
theorem wd_2_155 : (Jvm.Cond.code ({ cls := "MergeWorkbench$Comparison", name := "runLength", desc := "(II)I" } : Jvm.MethodName) prog_3_method_15_code (4 : Nat) (Option.some Jvm.ClassFile.FieldType.int)) ∈ jwd := jw_2 (i := 155) rfl rfl
theorem wd_2_156 : (Jvm.Cond.methodLink "MergeWorkbench$Comparison" (121 : Nat) ({ cls := "MergeWorkbench$Comparison", name := "isMovable", desc := "(II)Z" } : Jvm.MethodName)) ∈ jwd := jw_2 (i := 156) rfl rfl
theorem wd_2_158 : (Jvm.Cond.instanceMethod ({ cls := "MergeWorkbench$Comparison", name := "isMovable", desc := "(II)Z" } : Jvm.MethodName)) ∈ jwd := jw_2 (i := 158) rfl rfl
theorem wd_2_159 : (Jvm.Cond.code ({ cls := "MergeWorkbench$Comparison", name := "isMovable", desc := "(II)Z" } : Jvm.MethodName) prog_3_method_16_code (3 : Nat) (Option.some Jvm.ClassFile.FieldType.boolean)) ∈ jwd := jw_2 (i := 159) rfl rfl
theorem wd_2_160 : (Jvm.Cond.methodLink "MergeWorkbench$Comparison" (118 : Nat) ({ cls := "MergeWorkbench$Comparison", name := "addMove", desc := "(III)V" } : Jvm.MethodName)) ∈ jwd := jw_2 (i := 160) rfl rfl
theorem wd_2_162 : (Jvm.Cond.instanceMethod ({ cls := "MergeWorkbench$Comparison", name := "addMove", desc := "(III)V" } : Jvm.MethodName)) ∈ jwd := jw_2 (i := 162) rfl rfl
theorem wd_2_163 : (Jvm.Cond.code ({ cls := "MergeWorkbench$Comparison", name := "addMove", desc := "(III)V" } : Jvm.MethodName) prog_3_method_17_code (6 : Nat) (Option.none : Option Jvm.ClassFile.FieldType)) ∈ jwd := jw_2 (i := 163) rfl rfl
theorem wd_2_164 : (Jvm.Cond.methodLink "MergeWorkbench$Comparison" (125 : Nat) ({ cls := "MergeWorkbench$Lines", name := "put", desc := "(II)V" } : Jvm.MethodName)) ∈ jwd := jw_2 (i := 164) rfl rfl
theorem wd_2_165 : (Jvm.Cond.methodLink "MergeWorkbench$Comparison" (108 : Nat) ({ cls := "MergeWorkbench$Table", name := "rows", desc := "()I" } : Jvm.MethodName)) ∈ jwd := jw_2 (i := 165) rfl rfl
theorem wd_2_166 : (Jvm.Cond.instanceMethod ({ cls := "MergeWorkbench$Table", name := "rows", desc := "()I" } : Jvm.MethodName)) ∈ jwd := jw_2 (i := 166) rfl rfl
theorem wd_2_167 : (Jvm.Cond.selects "MergeWorkbench$Table" ({ cls := "MergeWorkbench$Table", name := "rows", desc := "()I" } : Jvm.MethodName) ({ cls := "MergeWorkbench$Table", name := "rows", desc := "()I" } : Jvm.MethodName)) ∈ jwd := jw_2 (i := 167) rfl rfl
theorem wd_2_168 : (Jvm.Cond.code ({ cls := "MergeWorkbench$Table", name := "rows", desc := "()I" } : Jvm.MethodName) prog_10_method_2_code (1 : Nat) (Option.some Jvm.ClassFile.FieldType.int)) ∈ jwd := jw_2 (i := 168) rfl rfl
theorem wd_2_169 : (Jvm.Cond.methodLink "MergeWorkbenchLaw" (65 : Nat) ({ cls := "MergeWorkbench", name := "move", desc := "(II)I" } : Jvm.MethodName)) ∈ jwd := jw_2 (i := 169) rfl rfl
theorem wd_2_170 : (Jvm.Cond.instanceMethod ({ cls := "MergeWorkbench", name := "move", desc := "(II)I" } : Jvm.MethodName)) ∈ jwd := jw_2 (i := 170) rfl rfl
theorem wd_2_171 : (Jvm.Cond.selects "MergeWorkbench" ({ cls := "MergeWorkbench", name := "move", desc := "(II)I" } : Jvm.MethodName) ({ cls := "MergeWorkbench", name := "move", desc := "(II)I" } : Jvm.MethodName)) ∈ jwd := jw_2 (i := 171) rfl rfl
theorem wd_2_172 : (Jvm.Cond.code ({ cls := "MergeWorkbench", name := "move", desc := "(II)I" } : Jvm.MethodName) prog_1_method_21_code (3 : Nat) (Option.some Jvm.ClassFile.FieldType.int)) ∈ jwd := jw_2 (i := 172) rfl rfl
theorem wd_2_173 : (Jvm.Cond.methodLink "MergeWorkbench" (228 : Nat) ({ cls := "MergeWorkbench$Comparison", name := "moved", desc := "()LMergeWorkbench$Table;" } : Jvm.MethodName)) ∈ jwd := jw_2 (i := 173) rfl rfl
theorem wd_2_174 : (Jvm.Cond.instanceMethod ({ cls := "MergeWorkbench$Comparison", name := "moved", desc := "()LMergeWorkbench$Table;" } : Jvm.MethodName)) ∈ jwd := jw_2 (i := 174) rfl rfl
theorem wd_2_175 : (Jvm.Cond.selects "MergeWorkbench$Comparison" ({ cls := "MergeWorkbench$Comparison", name := "moved", desc := "()LMergeWorkbench$Table;" } : Jvm.MethodName) ({ cls := "MergeWorkbench$Comparison", name := "moved", desc := "()LMergeWorkbench$Table;" } : Jvm.MethodName)) ∈ jwd := jw_2 (i := 175) rfl rfl
theorem wd_2_176 : (Jvm.Cond.code ({ cls := "MergeWorkbench$Comparison", name := "moved", desc := "()LMergeWorkbench$Table;" } : Jvm.MethodName) prog_3_method_8_code (1 : Nat) (Option.some (Jvm.ClassFile.FieldType.object "MergeWorkbench$Table"))) ∈ jwd := jw_2 (i := 176) rfl rfl
theorem wd_2_177 : (Jvm.Cond.methodLink "MergeWorkbench" (203 : Nat) ({ cls := "MergeWorkbench", name := "property", desc := "(LMergeWorkbench$Table;III)I" } : Jvm.MethodName)) ∈ jwd := jw_2 (i := 177) rfl rfl
theorem wd_2_178 : (Jvm.Cond.static ({ cls := "MergeWorkbench", name := "property", desc := "(LMergeWorkbench$Table;III)I" } : Jvm.MethodName)) ∈ jwd := jw_2 (i := 178) rfl rfl
theorem wd_2_179 : (Jvm.Cond.code ({ cls := "MergeWorkbench", name := "property", desc := "(LMergeWorkbench$Table;III)I" } : Jvm.MethodName) prog_1_method_44_code (4 : Nat) (Option.some Jvm.ClassFile.FieldType.int)) ∈ jwd := jw_2 (i := 179) rfl rfl
theorem wd_2_180 : (Jvm.Cond.methodLink "MergeWorkbench" (289 : Nat) ({ cls := "MergeWorkbench$Table", name := "hasRow", desc := "(I)Z" } : Jvm.MethodName)) ∈ jwd := jw_2 (i := 180) rfl rfl
theorem wd_2_181 : (Jvm.Cond.instanceMethod ({ cls := "MergeWorkbench$Table", name := "hasRow", desc := "(I)Z" } : Jvm.MethodName)) ∈ jwd := jw_2 (i := 181) rfl rfl
theorem wd_2_182 : (Jvm.Cond.selects "MergeWorkbench$Table" ({ cls := "MergeWorkbench$Table", name := "hasRow", desc := "(I)Z" } : Jvm.MethodName) ({ cls := "MergeWorkbench$Table", name := "hasRow", desc := "(I)Z" } : Jvm.MethodName)) ∈ jwd := jw_2 (i := 182) rfl rfl
theorem wd_2_183 : (Jvm.Cond.code ({ cls := "MergeWorkbench$Table", name := "hasRow", desc := "(I)Z" } : Jvm.MethodName) prog_10_method_3_code (2 : Nat) (Option.some Jvm.ClassFile.FieldType.boolean)) ∈ jwd := jw_2 (i := 183) rfl rfl
theorem wd_2_186 : (Jvm.Cond.methodLink "MergeWorkbench" (296 : Nat) ({ cls := "MergeWorkbench$Table", name := "at", desc := "(II)I" } : Jvm.MethodName)) ∈ jwd := jw_2 (i := 186) rfl rfl
theorem wd_2_187 : (Jvm.Cond.methodLink "MergeWorkbenchLaw" (104 : Nat) ({ cls := "MergeWorkbench", name := "merge", desc := "(III)I" } : Jvm.MethodName)) ∈ jwd := jw_2 (i := 187) rfl rfl
theorem wd_2_188 : (Jvm.Cond.instanceMethod ({ cls := "MergeWorkbench", name := "merge", desc := "(III)I" } : Jvm.MethodName)) ∈ jwd := jw_2 (i := 188) rfl rfl
theorem wd_2_189 : (Jvm.Cond.selects "MergeWorkbench" ({ cls := "MergeWorkbench", name := "merge", desc := "(III)I" } : Jvm.MethodName) ({ cls := "MergeWorkbench", name := "merge", desc := "(III)I" } : Jvm.MethodName)) ∈ jwd := jw_2 (i := 189) rfl rfl
theorem wd_2_190 : (Jvm.Cond.code ({ cls := "MergeWorkbench", name := "merge", desc := "(III)I" } : Jvm.MethodName) prog_1_method_23_code (7 : Nat) (Option.some Jvm.ClassFile.FieldType.int)) ∈ jwd := jw_2 (i := 190) rfl rfl
theorem wd_2_191 : (Jvm.Cond.methodLink "MergeWorkbench" (231 : Nat) ({ cls := "MergeWorkbench$Merge", name := "hold", desc := "(LMergeWorkbench$Lines;LMergeWorkbench$Lines;LMergeWorkbench$Lines;)V" } : Jvm.MethodName)) ∈ jwd := jw_2 (i := 191) rfl rfl
theorem wd_2_192 : (Jvm.Cond.instanceMethod ({ cls := "MergeWorkbench$Merge", name := "hold", desc := "(LMergeWorkbench$Lines;LMergeWorkbench$Lines;LMergeWorkbench$Lines;)V" } : Jvm.MethodName)) ∈ jwd := jw_2 (i := 192) rfl rfl
theorem wd_2_193 : (Jvm.Cond.selects "MergeWorkbench$Merge" ({ cls := "MergeWorkbench$Merge", name := "hold", desc := "(LMergeWorkbench$Lines;LMergeWorkbench$Lines;LMergeWorkbench$Lines;)V" } : Jvm.MethodName) ({ cls := "MergeWorkbench$Merge", name := "hold", desc := "(LMergeWorkbench$Lines;LMergeWorkbench$Lines;LMergeWorkbench$Lines;)V" } : Jvm.MethodName)) ∈ jwd := jw_2 (i := 193) rfl rfl
theorem wd_2_194 : (Jvm.Cond.code ({ cls := "MergeWorkbench$Merge", name := "hold", desc := "(LMergeWorkbench$Lines;LMergeWorkbench$Lines;LMergeWorkbench$Lines;)V" } : Jvm.MethodName) prog_7_method_6_code (4 : Nat) (Option.none : Option Jvm.ClassFile.FieldType)) ∈ jwd := jw_2 (i := 194) rfl rfl
theorem wd_2_195 : (Jvm.Cond.methodLink "MergeWorkbench$Merge" (59 : Nat) ({ cls := "MergeWorkbench$Lines", name := "become", desc := "(LMergeWorkbench$Lines;)V" } : Jvm.MethodName)) ∈ jwd := jw_2 (i := 195) rfl rfl
theorem wd_2_196 : (Jvm.Cond.methodLink "MergeWorkbench" (235 : Nat) ({ cls := "MergeWorkbench$Merge", name := "make", desc := "(IZ)I" } : Jvm.MethodName)) ∈ jwd := jw_2 (i := 196) rfl rfl
theorem wd_2_197 : (Jvm.Cond.instanceMethod ({ cls := "MergeWorkbench$Merge", name := "make", desc := "(IZ)I" } : Jvm.MethodName)) ∈ jwd := jw_2 (i := 197) rfl rfl
theorem wd_2_198 : (Jvm.Cond.selects "MergeWorkbench$Merge" ({ cls := "MergeWorkbench$Merge", name := "make", desc := "(IZ)I" } : Jvm.MethodName) ({ cls := "MergeWorkbench$Merge", name := "make", desc := "(IZ)I" } : Jvm.MethodName)) ∈ jwd := jw_2 (i := 198) rfl rfl
theorem wd_2_199 : (Jvm.Cond.code ({ cls := "MergeWorkbench$Merge", name := "make", desc := "(IZ)I" } : Jvm.MethodName) prog_7_method_7_code (9 : Nat) (Option.some Jvm.ClassFile.FieldType.int)) ∈ jwd := jw_2 (i := 199) rfl rfl
theorem wd_2_200 : (Jvm.Cond.methodLink "MergeWorkbench$Merge" (63 : Nat) ({ cls := "MergeWorkbench$Alignment", name := "build", desc := "(LMergeWorkbench$Lines;LMergeWorkbench$Lines;I)V" } : Jvm.MethodName)) ∈ jwd := jw_2 (i := 200) rfl rfl
theorem wd_2_201 : (Jvm.Cond.methodLink "MergeWorkbench$Merge" (67 : Nat) ({ cls := "MergeWorkbench$Table", name := "clear", desc := "()V" } : Jvm.MethodName)) ∈ jwd := jw_2 (i := 201) rfl rfl
theorem wd_2_202 : (Jvm.Cond.methodLink "MergeWorkbench$Merge" (70 : Nat) ({ cls := "MergeWorkbench$Lines", name := "clear", desc := "()V" } : Jvm.MethodName)) ∈ jwd := jw_2 (i := 202) rfl rfl
theorem wd_2_203 : (Jvm.Cond.methodLink "MergeWorkbench$Merge" (71 : Nat) ({ cls := "MergeWorkbench$Lines", name := "size", desc := "()I" } : Jvm.MethodName)) ∈ jwd := jw_2 (i := 203) rfl rfl
theorem wd_2_204 : (Jvm.Cond.methodLink "MergeWorkbench$Merge" (75 : Nat) ({ cls := "MergeWorkbench$Alignment", name := "isFirstKept", desc := "(I)Z" } : Jvm.MethodName)) ∈ jwd := jw_2 (i := 204) rfl rfl
theorem wd_2_205 : (Jvm.Cond.methodLink "MergeWorkbench$Merge" (78 : Nat) ({ cls := "MergeWorkbench$Alignment", name := "partnerOf", desc := "(I)I" } : Jvm.MethodName)) ∈ jwd := jw_2 (i := 205) rfl rfl
theorem wd_2_206 : (Jvm.Cond.methodLink "MergeWorkbench$Merge" (82 : Nat) ({ cls := "MergeWorkbench$Merge", name := "addPart", desc := "(IIIIII)I" } : Jvm.MethodName)) ∈ jwd := jw_2 (i := 206) rfl rfl
theorem wd_2_208 : (Jvm.Cond.instanceMethod ({ cls := "MergeWorkbench$Merge", name := "addPart", desc := "(IIIIII)I" } : Jvm.MethodName)) ∈ jwd := jw_2 (i := 208) rfl rfl
theorem wd_2_209 : (Jvm.Cond.instantiable "MergeWorkbench$Merge" (9 : Nat)) ∈ jwd := jw_2 (i := 209) rfl rfl
theorem wd_2_210 : (Jvm.Cond.code ({ cls := "MergeWorkbench$Merge", name := "addPart", desc := "(IIIIII)I" } : Jvm.MethodName) prog_7_method_8_code (8 : Nat) (Option.some Jvm.ClassFile.FieldType.int)) ∈ jwd := jw_2 (i := 210) rfl rfl
theorem wd_2_211 : (Jvm.Cond.methodLink "MergeWorkbench$Merge" (97 : Nat) ({ cls := "MergeWorkbench$Table", name := "addRow", desc := "()I" } : Jvm.MethodName)) ∈ jwd := jw_2 (i := 211) rfl rfl
theorem wd_2_212 : (Jvm.Cond.methodLink "MergeWorkbench$Merge" (100 : Nat) ({ cls := "MergeWorkbench$Table", name := "put", desc := "(III)V" } : Jvm.MethodName)) ∈ jwd := jw_2 (i := 212) rfl rfl
theorem wd_2_213 : (Jvm.Cond.methodLink "MergeWorkbench$Merge" (86 : Nat) ({ cls := "MergeWorkbench$Merge", name := "addRegion", desc := "(IZ)V" } : Jvm.MethodName)) ∈ jwd := jw_2 (i := 213) rfl rfl
theorem wd_2_215 : (Jvm.Cond.instanceMethod ({ cls := "MergeWorkbench$Merge", name := "addRegion", desc := "(IZ)V" } : Jvm.MethodName)) ∈ jwd := jw_2 (i := 215) rfl rfl
theorem wd_2_216 : (Jvm.Cond.code ({ cls := "MergeWorkbench$Merge", name := "addRegion", desc := "(IZ)V" } : Jvm.MethodName) prog_7_method_11_code (4 : Nat) (Option.none : Option Jvm.ClassFile.FieldType)) ∈ jwd := jw_2 (i := 216) rfl rfl
theorem wd_2_217 : (Jvm.Cond.methodLink "MergeWorkbench$Merge" (113 : Nat) ({ cls := "MergeWorkbench$Merge", name := "kindOf", desc := "(I)I" } : Jvm.MethodName)) ∈ jwd := jw_2 (i := 217) rfl rfl
theorem wd_2_219 : (Jvm.Cond.instanceMethod ({ cls := "MergeWorkbench$Merge", name := "kindOf", desc := "(I)I" } : Jvm.MethodName)) ∈ jwd := jw_2 (i := 219) rfl rfl
theorem wd_2_220 : (Jvm.Cond.code ({ cls := "MergeWorkbench$Merge", name := "kindOf", desc := "(I)I" } : Jvm.MethodName) prog_7_method_12_code (2 : Nat) (Option.some Jvm.ClassFile.FieldType.int)) ∈ jwd := jw_2 (i := 220) rfl rfl
theorem wd_2_221 : (Jvm.Cond.methodLink "MergeWorkbench$Merge" (122 : Nat) ({ cls := "MergeWorkbench$Merge", name := "samePart", desc := "(LMergeWorkbench$Lines;IILMergeWorkbench$Lines;I)Z" } : Jvm.MethodName)) ∈ jwd := jw_2 (i := 221) rfl rfl
theorem wd_2_223 : (Jvm.Cond.instanceMethod ({ cls := "MergeWorkbench$Merge", name := "samePart", desc := "(LMergeWorkbench$Lines;IILMergeWorkbench$Lines;I)Z" } : Jvm.MethodName)) ∈ jwd := jw_2 (i := 223) rfl rfl
theorem wd_2_224 : (Jvm.Cond.code ({ cls := "MergeWorkbench$Merge", name := "samePart", desc := "(LMergeWorkbench$Lines;IILMergeWorkbench$Lines;I)Z" } : Jvm.MethodName) prog_7_method_13_code (6 : Nat) (Option.some Jvm.ClassFile.FieldType.boolean)) ∈ jwd := jw_2 (i := 224) rfl rfl
theorem wd_2_225 : (Jvm.Cond.methodLink "MergeWorkbench$Merge" (106 : Nat) ({ cls := "MergeWorkbench$Table", name := "at", desc := "(II)I" } : Jvm.MethodName)) ∈ jwd := jw_2 (i := 225) rfl rfl
theorem wd_2_226 : (Jvm.Cond.methodLink "MergeWorkbench$Merge" (126 : Nat) ({ cls := "MergeWorkbench$Lines", name := "samePart", desc := "(IILMergeWorkbench$Lines;II)Z" } : Jvm.MethodName)) ∈ jwd := jw_2 (i := 226) rfl rfl
theorem wd_2_227 : (Jvm.Cond.instanceMethod ({ cls := "MergeWorkbench$Lines", name := "samePart", desc := "(IILMergeWorkbench$Lines;II)Z" } : Jvm.MethodName)) ∈ jwd := jw_2 (i := 227) rfl rfl
theorem wd_2_228 : (Jvm.Cond.selects "MergeWorkbench$Lines" ({ cls := "MergeWorkbench$Lines", name := "samePart", desc := "(IILMergeWorkbench$Lines;II)Z" } : Jvm.MethodName) ({ cls := "MergeWorkbench$Lines", name := "samePart", desc := "(IILMergeWorkbench$Lines;II)Z" } : Jvm.MethodName)) ∈ jwd := jw_2 (i := 228) rfl rfl
theorem wd_2_229 : (Jvm.Cond.code ({ cls := "MergeWorkbench$Lines", name := "samePart", desc := "(IILMergeWorkbench$Lines;II)Z" } : Jvm.MethodName) prog_6_method_16_code (7 : Nat) (Option.some Jvm.ClassFile.FieldType.boolean)) ∈ jwd := jw_2 (i := 229) rfl rfl
theorem wd_2_230 : (Jvm.Cond.methodLink "MergeWorkbench$Merge" (110 : Nat) ({ cls := "MergeWorkbench$Merge", name := "setKind", desc := "(II)V" } : Jvm.MethodName)) ∈ jwd := jw_2 (i := 230) rfl rfl
theorem wd_2_232 : (Jvm.Cond.instanceMethod ({ cls := "MergeWorkbench$Merge", name := "setKind", desc := "(II)V" } : Jvm.MethodName)) ∈ jwd := jw_2 (i := 232) rfl rfl
theorem wd_2_233 : (Jvm.Cond.code ({ cls := "MergeWorkbench$Merge", name := "setKind", desc := "(II)V" } : Jvm.MethodName) prog_7_method_9_code (3 : Nat) (Option.none : Option Jvm.ClassFile.FieldType)) ∈ jwd := jw_2 (i := 233) rfl rfl
theorem wd_2_234 : (Jvm.Cond.methodLink "MergeWorkbench$Merge" (116 : Nat) ({ cls := "MergeWorkbench$Merge", name := "shrink", desc := "(I)V" } : Jvm.MethodName)) ∈ jwd := jw_2 (i := 234) rfl rfl
theorem wd_2_236 : (Jvm.Cond.instanceMethod ({ cls := "MergeWorkbench$Merge", name := "shrink", desc := "(I)V" } : Jvm.MethodName)) ∈ jwd := jw_2 (i := 236) rfl rfl
theorem wd_2_237 : (Jvm.Cond.code ({ cls := "MergeWorkbench$Merge", name := "shrink", desc := "(I)V" } : Jvm.MethodName) prog_7_method_14_code (11 : Nat) (Option.none : Option Jvm.ClassFile.FieldType)) ∈ jwd := jw_2 (i := 237) rfl rfl
theorem wd_2_238 : (Jvm.Cond.methodLink "MergeWorkbench$Merge" (129 : Nat) ({ cls := "MergeWorkbench$Merge", name := "commonBegin", desc := "(IIII)I" } : Jvm.MethodName)) ∈ jwd := jw_2 (i := 238) rfl rfl
theorem wd_3_0 : (Jvm.Cond.instanceMethod ({ cls := "MergeWorkbench$Merge", name := "commonBegin", desc := "(IIII)I" } : Jvm.MethodName)) ∈ jwd := jw_3 (i := 0) rfl rfl
theorem wd_3_1 : (Jvm.Cond.code ({ cls := "MergeWorkbench$Merge", name := "commonBegin", desc := "(IIII)I" } : Jvm.MethodName) prog_7_method_15_code (7 : Nat) (Option.some Jvm.ClassFile.FieldType.int)) ∈ jwd := jw_3 (i := 1) rfl rfl
theorem wd_3_2 : (Jvm.Cond.methodLink "MergeWorkbench$Merge" (136 : Nat) ({ cls := "java/lang/Math", name := "min", desc := "(II)I" } : Jvm.MethodName)) ∈ jwd := jw_3 (i := 2) rfl rfl
theorem wd_3_3 : (Jvm.Cond.static ({ cls := "java/lang/Math", name := "min", desc := "(II)I" } : Jvm.MethodName)) ∈ jwd := jw_3 (i := 3) rfl rfl
theorem wd_3_4 : (Jvm.Cond.code ({ cls := "java/lang/Math", name := "min", desc := "(II)I" } : Jvm.MethodName) prog_18_method_69_code (2 : Nat) (Option.some Jvm.ClassFile.FieldType.int)) ∈ jwd := jw_3 (i := 4) rfl rfl
theorem wd_3_5 : (Jvm.Cond.methodLink "MergeWorkbench$Merge" (141 : Nat) ({ cls := "MergeWorkbench$Lines", name := "at", desc := "(I)I" } : Jvm.MethodName)) ∈ jwd := jw_3 (i := 5) rfl rfl
theorem wd_3_6 : (Jvm.Cond.methodLink "MergeWorkbench$Merge" (133 : Nat) ({ cls := "MergeWorkbench$Merge", name := "commonEnd", desc := "(IIII)I" } : Jvm.MethodName)) ∈ jwd := jw_3 (i := 6) rfl rfl
theorem wd_3_8 : (Jvm.Cond.instanceMethod ({ cls := "MergeWorkbench$Merge", name := "commonEnd", desc := "(IIII)I" } : Jvm.MethodName)) ∈ jwd := jw_3 (i := 8) rfl rfl
theorem wd_3_9 : (Jvm.Cond.code ({ cls := "MergeWorkbench$Merge", name := "commonEnd", desc := "(IIII)I" } : Jvm.MethodName) prog_7_method_16_code (7 : Nat) (Option.some Jvm.ClassFile.FieldType.int)) ∈ jwd := jw_3 (i := 9) rfl rfl
theorem wd_3_10 : (Jvm.Cond.methodLink "MergeWorkbench$Merge" (119 : Nat) ({ cls := "MergeWorkbench$Lines", name := "push", desc := "(I)V" } : Jvm.MethodName)) ∈ jwd := jw_3 (i := 10) rfl rfl
theorem wd_3_11 : (Jvm.Cond.methodLink "MergeWorkbench$Merge" (90 : Nat) ({ cls := "MergeWorkbench$Merge", name := "addStable", desc := "(III)V" } : Jvm.MethodName)) ∈ jwd := jw_3 (i := 11) rfl rfl
theorem wd_3_13 : (Jvm.Cond.instanceMethod ({ cls := "MergeWorkbench$Merge", name := "addStable", desc := "(III)V" } : Jvm.MethodName)) ∈ jwd := jw_3 (i := 13) rfl rfl
theorem wd_3_14 : (Jvm.Cond.code ({ cls := "MergeWorkbench$Merge", name := "addStable", desc := "(III)V" } : Jvm.MethodName) prog_7_method_10_code (5 : Nat) (Option.none : Option Jvm.ClassFile.FieldType)) ∈ jwd := jw_3 (i := 14) rfl rfl
theorem wd_3_15 : (Jvm.Cond.methodLink "MergeWorkbench$Merge" (103 : Nat) ({ cls := "MergeWorkbench$Table", name := "rows", desc := "()I" } : Jvm.MethodName)) ∈ jwd := jw_3 (i := 15) rfl rfl
theorem wd_3_16 : (Jvm.Cond.methodLink "MergeWorkbench$Merge" (94 : Nat) ({ cls := "MergeWorkbench$Merge", name := "writeResult", desc := "()V" } : Jvm.MethodName)) ∈ jwd := jw_3 (i := 16) rfl rfl
theorem wd_3_18 : (Jvm.Cond.instanceMethod ({ cls := "MergeWorkbench$Merge", name := "writeResult", desc := "()V" } : Jvm.MethodName)) ∈ jwd := jw_3 (i := 18) rfl rfl
theorem wd_3_19 : (Jvm.Cond.code ({ cls := "MergeWorkbench$Merge", name := "writeResult", desc := "()V" } : Jvm.MethodName) prog_7_method_20_code (3 : Nat) (Option.none : Option Jvm.ClassFile.FieldType)) ∈ jwd := jw_3 (i := 19) rfl rfl
theorem wd_3_20 : (Jvm.Cond.methodLink "MergeWorkbench$Merge" (146 : Nat) ({ cls := "MergeWorkbench$Merge", name := "writeConflict", desc := "(II)V" } : Jvm.MethodName)) ∈ jwd := jw_3 (i := 20) rfl rfl
theorem wd_3_22 : (Jvm.Cond.instanceMethod ({ cls := "MergeWorkbench$Merge", name := "writeConflict", desc := "(II)V" } : Jvm.MethodName)) ∈ jwd := jw_3 (i := 22) rfl rfl
theorem wd_3_23 : (Jvm.Cond.code ({ cls := "MergeWorkbench$Merge", name := "writeConflict", desc := "(II)V" } : Jvm.MethodName) prog_7_method_21_code (3 : Nat) (Option.none : Option Jvm.ClassFile.FieldType)) ∈ jwd := jw_3 (i := 23) rfl rfl
theorem wd_3_24 : (Jvm.Cond.methodLink "MergeWorkbench$Merge" (152 : Nat) ({ cls := "MergeWorkbench$Merge", name := "writeLeft", desc := "(I)V" } : Jvm.MethodName)) ∈ jwd := jw_3 (i := 24) rfl rfl
theorem wd_3_26 : (Jvm.Cond.instanceMethod ({ cls := "MergeWorkbench$Merge", name := "writeLeft", desc := "(I)V" } : Jvm.MethodName)) ∈ jwd := jw_3 (i := 26) rfl rfl
theorem wd_3_27 : (Jvm.Cond.code ({ cls := "MergeWorkbench$Merge", name := "writeLeft", desc := "(I)V" } : Jvm.MethodName) prog_7_method_22_code (2 : Nat) (Option.none : Option Jvm.ClassFile.FieldType)) ∈ jwd := jw_3 (i := 27) rfl rfl
theorem wd_3_28 : (Jvm.Cond.methodLink "MergeWorkbench$Merge" (155 : Nat) ({ cls := "MergeWorkbench$Lines", name := "pushPart", desc := "(LMergeWorkbench$Lines;II)V" } : Jvm.MethodName)) ∈ jwd := jw_3 (i := 28) rfl rfl
theorem wd_3_29 : (Jvm.Cond.methodLink "MergeWorkbench$Merge" (149 : Nat) ({ cls := "MergeWorkbench$Merge", name := "writeRight", desc := "(I)V" } : Jvm.MethodName)) ∈ jwd := jw_3 (i := 29) rfl rfl
theorem wd_3_31 : (Jvm.Cond.instanceMethod ({ cls := "MergeWorkbench$Merge", name := "writeRight", desc := "(I)V" } : Jvm.MethodName)) ∈ jwd := jw_3 (i := 31) rfl rfl
theorem wd_3_32 : (Jvm.Cond.code ({ cls := "MergeWorkbench$Merge", name := "writeRight", desc := "(I)V" } : Jvm.MethodName) prog_7_method_23_code (2 : Nat) (Option.none : Option Jvm.ClassFile.FieldType)) ∈ jwd := jw_3 (i := 32) rfl rfl
theorem wd_3_33 : (Jvm.Cond.methodLink "MergeWorkbenchLaw" (107 : Nat) ({ cls := "MergeWorkbench", name := "mergedLength", desc := "()I" } : Jvm.MethodName)) ∈ jwd := jw_3 (i := 33) rfl rfl
theorem wd_3_34 : (Jvm.Cond.instanceMethod ({ cls := "MergeWorkbench", name := "mergedLength", desc := "()I" } : Jvm.MethodName)) ∈ jwd := jw_3 (i := 34) rfl rfl
theorem wd_3_35 : (Jvm.Cond.selects "MergeWorkbench" ({ cls := "MergeWorkbench", name := "mergedLength", desc := "()I" } : Jvm.MethodName) ({ cls := "MergeWorkbench", name := "mergedLength", desc := "()I" } : Jvm.MethodName)) ∈ jwd := jw_3 (i := 35) rfl rfl
theorem wd_3_36 : (Jvm.Cond.code ({ cls := "MergeWorkbench", name := "mergedLength", desc := "()I" } : Jvm.MethodName) prog_1_method_28_code (1 : Nat) (Option.some Jvm.ClassFile.FieldType.int)) ∈ jwd := jw_3 (i := 36) rfl rfl
theorem wd_3_37 : (Jvm.Cond.methodLink "MergeWorkbench" (238 : Nat) ({ cls := "MergeWorkbench", name := "requireMerge", desc := "()V" } : Jvm.MethodName)) ∈ jwd := jw_3 (i := 37) rfl rfl
theorem wd_3_39 : (Jvm.Cond.instanceMethod ({ cls := "MergeWorkbench", name := "requireMerge", desc := "()V" } : Jvm.MethodName)) ∈ jwd := jw_3 (i := 39) rfl rfl
theorem wd_3_40 : (Jvm.Cond.code ({ cls := "MergeWorkbench", name := "requireMerge", desc := "()V" } : Jvm.MethodName) prog_1_method_42_code (1 : Nat) (Option.none : Option Jvm.ClassFile.FieldType)) ∈ jwd := jw_3 (i := 40) rfl rfl
theorem wd_3_41 : (Jvm.Cond.methodLink "MergeWorkbench" (333 : Nat) ({ cls := "MergeWorkbench$Merge", name := "exists", desc := "()Z" } : Jvm.MethodName)) ∈ jwd := jw_3 (i := 41) rfl rfl
theorem wd_3_42 : (Jvm.Cond.instanceMethod ({ cls := "MergeWorkbench$Merge", name := "exists", desc := "()Z" } : Jvm.MethodName)) ∈ jwd := jw_3 (i := 42) rfl rfl
theorem wd_3_43 : (Jvm.Cond.selects "MergeWorkbench$Merge" ({ cls := "MergeWorkbench$Merge", name := "exists", desc := "()Z" } : Jvm.MethodName) ({ cls := "MergeWorkbench$Merge", name := "exists", desc := "()Z" } : Jvm.MethodName)) ∈ jwd := jw_3 (i := 43) rfl rfl
theorem wd_3_44 : (Jvm.Cond.code ({ cls := "MergeWorkbench$Merge", name := "exists", desc := "()Z" } : Jvm.MethodName) prog_7_method_2_code (1 : Nat) (Option.some Jvm.ClassFile.FieldType.boolean)) ∈ jwd := jw_3 (i := 44) rfl rfl
theorem wd_3_46 : (Jvm.Cond.methodLink "MergeWorkbench" (256 : Nat) ({ cls := "MergeWorkbench$Merge", name := "outcomeLines", desc := "()LMergeWorkbench$Lines;" } : Jvm.MethodName)) ∈ jwd := jw_3 (i := 46) rfl rfl
theorem wd_3_47 : (Jvm.Cond.instanceMethod ({ cls := "MergeWorkbench$Merge", name := "outcomeLines", desc := "()LMergeWorkbench$Lines;" } : Jvm.MethodName)) ∈ jwd := jw_3 (i := 47) rfl rfl
theorem wd_3_48 : (Jvm.Cond.selects "MergeWorkbench$Merge" ({ cls := "MergeWorkbench$Merge", name := "outcomeLines", desc := "()LMergeWorkbench$Lines;" } : Jvm.MethodName) ({ cls := "MergeWorkbench$Merge", name := "outcomeLines", desc := "()LMergeWorkbench$Lines;" } : Jvm.MethodName)) ∈ jwd := jw_3 (i := 48) rfl rfl
theorem wd_3_49 : (Jvm.Cond.code ({ cls := "MergeWorkbench$Merge", name := "outcomeLines", desc := "()LMergeWorkbench$Lines;" } : Jvm.MethodName) prog_7_method_4_code (1 : Nat) (Option.some (Jvm.ClassFile.FieldType.object "MergeWorkbench$Lines"))) ∈ jwd := jw_3 (i := 49) rfl rfl
theorem wd_3_50 : (Jvm.Cond.methodLink "MergeWorkbenchLaw" (74 : Nat) ({ cls := "MergeWorkbench", name := "makePatch", desc := "(I)I" } : Jvm.MethodName)) ∈ jwd := jw_3 (i := 50) rfl rfl
theorem wd_3_51 : (Jvm.Cond.instanceMethod ({ cls := "MergeWorkbench", name := "makePatch", desc := "(I)I" } : Jvm.MethodName)) ∈ jwd := jw_3 (i := 51) rfl rfl
theorem wd_3_52 : (Jvm.Cond.selects "MergeWorkbench" ({ cls := "MergeWorkbench", name := "makePatch", desc := "(I)I" } : Jvm.MethodName) ({ cls := "MergeWorkbench", name := "makePatch", desc := "(I)I" } : Jvm.MethodName)) ∈ jwd := jw_3 (i := 52) rfl rfl
theorem wd_3_53 : (Jvm.Cond.code ({ cls := "MergeWorkbench", name := "makePatch", desc := "(I)I" } : Jvm.MethodName) prog_1_method_31_code (2 : Nat) (Option.some Jvm.ClassFile.FieldType.int)) ∈ jwd := jw_3 (i := 53) rfl rfl
theorem wd_3_55 : (Jvm.Cond.methodLink "MergeWorkbench" (270 : Nat) ({ cls := "MergeWorkbench$Patch", name := "make", desc := "(LMergeWorkbench$Comparison;I)I" } : Jvm.MethodName)) ∈ jwd := jw_3 (i := 55) rfl rfl
theorem wd_3_56 : (Jvm.Cond.instanceMethod ({ cls := "MergeWorkbench$Patch", name := "make", desc := "(LMergeWorkbench$Comparison;I)I" } : Jvm.MethodName)) ∈ jwd := jw_3 (i := 56) rfl rfl
theorem wd_3_57 : (Jvm.Cond.selects "MergeWorkbench$Patch" ({ cls := "MergeWorkbench$Patch", name := "make", desc := "(LMergeWorkbench$Comparison;I)I" } : Jvm.MethodName) ({ cls := "MergeWorkbench$Patch", name := "make", desc := "(LMergeWorkbench$Comparison;I)I" } : Jvm.MethodName)) ∈ jwd := jw_3 (i := 57) rfl rfl
theorem wd_3_58 : (Jvm.Cond.code ({ cls := "MergeWorkbench$Patch", name := "make", desc := "(LMergeWorkbench$Comparison;I)I" } : Jvm.MethodName) prog_8_method_5_code (6 : Nat) (Option.some Jvm.ClassFile.FieldType.int)) ∈ jwd := jw_3 (i := 58) rfl rfl
theorem wd_3_59 : (Jvm.Cond.methodLink "MergeWorkbench$Patch" (45 : Nat) ({ cls := "MergeWorkbench$Comparison", name := "first", desc := "()LMergeWorkbench$Lines;" } : Jvm.MethodName)) ∈ jwd := jw_3 (i := 59) rfl rfl
theorem wd_3_60 : (Jvm.Cond.methodLink "MergeWorkbench$Patch" (50 : Nat) ({ cls := "MergeWorkbench$Lines", name := "become", desc := "(LMergeWorkbench$Lines;)V" } : Jvm.MethodName)) ∈ jwd := jw_3 (i := 60) rfl rfl
theorem wd_3_61 : (Jvm.Cond.methodLink "MergeWorkbench$Patch" (54 : Nat) ({ cls := "MergeWorkbench$Comparison", name := "second", desc := "()LMergeWorkbench$Lines;" } : Jvm.MethodName)) ∈ jwd := jw_3 (i := 61) rfl rfl
theorem wd_3_62 : (Jvm.Cond.instanceMethod ({ cls := "MergeWorkbench$Comparison", name := "second", desc := "()LMergeWorkbench$Lines;" } : Jvm.MethodName)) ∈ jwd := jw_3 (i := 62) rfl rfl
theorem wd_3_63 : (Jvm.Cond.selects "MergeWorkbench$Comparison" ({ cls := "MergeWorkbench$Comparison", name := "second", desc := "()LMergeWorkbench$Lines;" } : Jvm.MethodName) ({ cls := "MergeWorkbench$Comparison", name := "second", desc := "()LMergeWorkbench$Lines;" } : Jvm.MethodName)) ∈ jwd := jw_3 (i := 63) rfl rfl
theorem wd_3_64 : (Jvm.Cond.code ({ cls := "MergeWorkbench$Comparison", name := "second", desc := "()LMergeWorkbench$Lines;" } : Jvm.MethodName) prog_3_method_4_code (1 : Nat) (Option.some (Jvm.ClassFile.FieldType.object "MergeWorkbench$Lines"))) ∈ jwd := jw_3 (i := 64) rfl rfl
theorem wd_3_65 : (Jvm.Cond.methodLink "MergeWorkbench$Patch" (56 : Nat) ({ cls := "MergeWorkbench$Table", name := "clear", desc := "()V" } : Jvm.MethodName)) ∈ jwd := jw_3 (i := 65) rfl rfl
theorem wd_3_66 : (Jvm.Cond.methodLink "MergeWorkbench$Patch" (59 : Nat) ({ cls := "MergeWorkbench$Comparison", name := "parts", desc := "()LMergeWorkbench$Table;" } : Jvm.MethodName)) ∈ jwd := jw_3 (i := 66) rfl rfl
theorem wd_3_67 : (Jvm.Cond.instanceMethod ({ cls := "MergeWorkbench$Comparison", name := "parts", desc := "()LMergeWorkbench$Table;" } : Jvm.MethodName)) ∈ jwd := jw_3 (i := 67) rfl rfl
theorem wd_3_68 : (Jvm.Cond.selects "MergeWorkbench$Comparison" ({ cls := "MergeWorkbench$Comparison", name := "parts", desc := "()LMergeWorkbench$Table;" } : Jvm.MethodName) ({ cls := "MergeWorkbench$Comparison", name := "parts", desc := "()LMergeWorkbench$Table;" } : Jvm.MethodName)) ∈ jwd := jw_3 (i := 68) rfl rfl
theorem wd_3_69 : (Jvm.Cond.code ({ cls := "MergeWorkbench$Comparison", name := "parts", desc := "()LMergeWorkbench$Table;" } : Jvm.MethodName) prog_3_method_6_code (1 : Nat) (Option.some (Jvm.ClassFile.FieldType.object "MergeWorkbench$Table"))) ∈ jwd := jw_3 (i := 69) rfl rfl
theorem wd_3_70 : (Jvm.Cond.methodLink "MergeWorkbench$Patch" (63 : Nat) ({ cls := "MergeWorkbench$Table", name := "rows", desc := "()I" } : Jvm.MethodName)) ∈ jwd := jw_3 (i := 70) rfl rfl
theorem wd_3_71 : (Jvm.Cond.methodLink "MergeWorkbench$Patch" (67 : Nat) ({ cls := "MergeWorkbench$Patch", name := "isLastOfHunk", desc := "(LMergeWorkbench$Table;II)Z" } : Jvm.MethodName)) ∈ jwd := jw_3 (i := 71) rfl rfl
theorem wd_3_72 : (Jvm.Cond.static ({ cls := "MergeWorkbench$Patch", name := "isLastOfHunk", desc := "(LMergeWorkbench$Table;II)Z" } : Jvm.MethodName)) ∈ jwd := jw_3 (i := 72) rfl rfl
theorem wd_3_73 : (Jvm.Cond.code ({ cls := "MergeWorkbench$Patch", name := "isLastOfHunk", desc := "(LMergeWorkbench$Table;II)Z" } : Jvm.MethodName) prog_8_method_6_code (3 : Nat) (Option.some Jvm.ClassFile.FieldType.boolean)) ∈ jwd := jw_3 (i := 73) rfl rfl
theorem wd_3_74 : (Jvm.Cond.methodLink "MergeWorkbench$Patch" (75 : Nat) ({ cls := "MergeWorkbench$Table", name := "hasRow", desc := "(I)Z" } : Jvm.MethodName)) ∈ jwd := jw_3 (i := 74) rfl rfl
theorem wd_3_75 : (Jvm.Cond.methodLink "MergeWorkbench$Patch" (79 : Nat) ({ cls := "MergeWorkbench$Table", name := "at", desc := "(II)I" } : Jvm.MethodName)) ∈ jwd := jw_3 (i := 75) rfl rfl
theorem wd_3_76 : (Jvm.Cond.methodLink "MergeWorkbench$Patch" (71 : Nat) ({ cls := "MergeWorkbench$Patch", name := "addHunk", desc := "(LMergeWorkbench$Table;III)V" } : Jvm.MethodName)) ∈ jwd := jw_3 (i := 76) rfl rfl
theorem wd_3_78 : (Jvm.Cond.instanceMethod ({ cls := "MergeWorkbench$Patch", name := "addHunk", desc := "(LMergeWorkbench$Table;III)V" } : Jvm.MethodName)) ∈ jwd := jw_3 (i := 78) rfl rfl
theorem wd_3_79 : (Jvm.Cond.instantiable "MergeWorkbench$Patch" (9 : Nat)) ∈ jwd := jw_3 (i := 79) rfl rfl
theorem wd_3_80 : (Jvm.Cond.code ({ cls := "MergeWorkbench$Patch", name := "addHunk", desc := "(LMergeWorkbench$Table;III)V" } : Jvm.MethodName) prog_8_method_7_code (12 : Nat) (Option.none : Option Jvm.ClassFile.FieldType)) ∈ jwd := jw_3 (i := 80) rfl rfl
theorem wd_3_81 : (Jvm.Cond.methodLink "MergeWorkbench$Patch" (83 : Nat) ({ cls := "java/lang/Math", name := "min", desc := "(II)I" } : Jvm.MethodName)) ∈ jwd := jw_3 (i := 81) rfl rfl
theorem wd_3_82 : (Jvm.Cond.methodLink "MergeWorkbench$Patch" (88 : Nat) ({ cls := "MergeWorkbench$Lines", name := "size", desc := "()I" } : Jvm.MethodName)) ∈ jwd := jw_3 (i := 82) rfl rfl
theorem wd_3_83 : (Jvm.Cond.methodLink "MergeWorkbench$Patch" (91 : Nat) ({ cls := "MergeWorkbench$Table", name := "addRow", desc := "()I" } : Jvm.MethodName)) ∈ jwd := jw_3 (i := 83) rfl rfl
theorem wd_3_84 : (Jvm.Cond.methodLink "MergeWorkbench$Patch" (94 : Nat) ({ cls := "MergeWorkbench$Table", name := "put", desc := "(III)V" } : Jvm.MethodName)) ∈ jwd := jw_3 (i := 84) rfl rfl
theorem wd_3_85 : (Jvm.Cond.methodLink "MergeWorkbenchLaw" (84 : Nat) ({ cls := "MergeWorkbench", name := "hunk", desc := "(II)I" } : Jvm.MethodName)) ∈ jwd := jw_3 (i := 85) rfl rfl
theorem wd_3_86 : (Jvm.Cond.instanceMethod ({ cls := "MergeWorkbench", name := "hunk", desc := "(II)I" } : Jvm.MethodName)) ∈ jwd := jw_3 (i := 86) rfl rfl
theorem wd_3_87 : (Jvm.Cond.selects "MergeWorkbench" ({ cls := "MergeWorkbench", name := "hunk", desc := "(II)I" } : Jvm.MethodName) ({ cls := "MergeWorkbench", name := "hunk", desc := "(II)I" } : Jvm.MethodName)) ∈ jwd := jw_3 (i := 87) rfl rfl
theorem wd_3_88 : (Jvm.Cond.code ({ cls := "MergeWorkbench", name := "hunk", desc := "(II)I" } : Jvm.MethodName) prog_1_method_32_code (3 : Nat) (Option.some Jvm.ClassFile.FieldType.int)) ∈ jwd := jw_3 (i := 88) rfl rfl
theorem wd_3_89 : (Jvm.Cond.methodLink "MergeWorkbench" (273 : Nat) ({ cls := "MergeWorkbench", name := "requirePatch", desc := "()V" } : Jvm.MethodName)) ∈ jwd := jw_3 (i := 89) rfl rfl
theorem wd_3_91 : (Jvm.Cond.instanceMethod ({ cls := "MergeWorkbench", name := "requirePatch", desc := "()V" } : Jvm.MethodName)) ∈ jwd := jw_3 (i := 91) rfl rfl
theorem wd_3_92 : (Jvm.Cond.code ({ cls := "MergeWorkbench", name := "requirePatch", desc := "()V" } : Jvm.MethodName) prog_1_method_43_code (1 : Nat) (Option.none : Option Jvm.ClassFile.FieldType)) ∈ jwd := jw_3 (i := 92) rfl rfl
theorem wd_3_93 : (Jvm.Cond.methodLink "MergeWorkbench" (336 : Nat) ({ cls := "MergeWorkbench$Patch", name := "exists", desc := "()Z" } : Jvm.MethodName)) ∈ jwd := jw_3 (i := 93) rfl rfl
theorem wd_3_94 : (Jvm.Cond.instanceMethod ({ cls := "MergeWorkbench$Patch", name := "exists", desc := "()Z" } : Jvm.MethodName)) ∈ jwd := jw_3 (i := 94) rfl rfl
theorem wd_3_95 : (Jvm.Cond.selects "MergeWorkbench$Patch" ({ cls := "MergeWorkbench$Patch", name := "exists", desc := "()Z" } : Jvm.MethodName) ({ cls := "MergeWorkbench$Patch", name := "exists", desc := "()Z" } : Jvm.MethodName)) ∈ jwd := jw_3 (i := 95) rfl rfl
theorem wd_3_96 : (Jvm.Cond.code ({ cls := "MergeWorkbench$Patch", name := "exists", desc := "()Z" } : Jvm.MethodName) prog_8_method_2_code (1 : Nat) (Option.some Jvm.ClassFile.FieldType.boolean)) ∈ jwd := jw_3 (i := 96) rfl rfl
theorem wd_3_98 : (Jvm.Cond.methodLink "MergeWorkbench" (276 : Nat) ({ cls := "MergeWorkbench$Patch", name := "parts", desc := "()LMergeWorkbench$Table;" } : Jvm.MethodName)) ∈ jwd := jw_3 (i := 98) rfl rfl
theorem wd_3_99 : (Jvm.Cond.instanceMethod ({ cls := "MergeWorkbench$Patch", name := "parts", desc := "()LMergeWorkbench$Table;" } : Jvm.MethodName)) ∈ jwd := jw_3 (i := 99) rfl rfl
theorem wd_3_100 : (Jvm.Cond.selects "MergeWorkbench$Patch" ({ cls := "MergeWorkbench$Patch", name := "parts", desc := "()LMergeWorkbench$Table;" } : Jvm.MethodName) ({ cls := "MergeWorkbench$Patch", name := "parts", desc := "()LMergeWorkbench$Table;" } : Jvm.MethodName)) ∈ jwd := jw_3 (i := 100) rfl rfl
theorem wd_3_101 : (Jvm.Cond.code ({ cls := "MergeWorkbench$Patch", name := "parts", desc := "()LMergeWorkbench$Table;" } : Jvm.MethodName) prog_8_method_3_code (1 : Nat) (Option.some (Jvm.ClassFile.FieldType.object "MergeWorkbench$Table"))) ∈ jwd := jw_3 (i := 101) rfl rfl
theorem wd_3_102 : (Jvm.Cond.methodLink "MergeWorkbenchLaw" (81 : Nat) ({ cls := "MergeWorkbench", name := "outcome", desc := "(II)I" } : Jvm.MethodName)) ∈ jwd := jw_3 (i := 102) rfl rfl
theorem wd_3_103 : (Jvm.Cond.instanceMethod ({ cls := "MergeWorkbench", name := "outcome", desc := "(II)I" } : Jvm.MethodName)) ∈ jwd := jw_3 (i := 103) rfl rfl
theorem wd_3_104 : (Jvm.Cond.selects "MergeWorkbench" ({ cls := "MergeWorkbench", name := "outcome", desc := "(II)I" } : Jvm.MethodName) ({ cls := "MergeWorkbench", name := "outcome", desc := "(II)I" } : Jvm.MethodName)) ∈ jwd := jw_3 (i := 104) rfl rfl
theorem wd_3_105 : (Jvm.Cond.code ({ cls := "MergeWorkbench", name := "outcome", desc := "(II)I" } : Jvm.MethodName) prog_1_method_34_code (3 : Nat) (Option.some Jvm.ClassFile.FieldType.int)) ∈ jwd := jw_3 (i := 105) rfl rfl
theorem wd_3_106 : (Jvm.Cond.methodLink "MergeWorkbench" (286 : Nat) ({ cls := "MergeWorkbench$Patch", name := "outcomes", desc := "()LMergeWorkbench$Table;" } : Jvm.MethodName)) ∈ jwd := jw_3 (i := 106) rfl rfl
theorem wd_3_107 : (Jvm.Cond.instanceMethod ({ cls := "MergeWorkbench$Patch", name := "outcomes", desc := "()LMergeWorkbench$Table;" } : Jvm.MethodName)) ∈ jwd := jw_3 (i := 107) rfl rfl
theorem wd_3_108 : (Jvm.Cond.selects "MergeWorkbench$Patch" ({ cls := "MergeWorkbench$Patch", name := "outcomes", desc := "()LMergeWorkbench$Table;" } : Jvm.MethodName) ({ cls := "MergeWorkbench$Patch", name := "outcomes", desc := "()LMergeWorkbench$Table;" } : Jvm.MethodName)) ∈ jwd := jw_3 (i := 108) rfl rfl
theorem wd_3_109 : (Jvm.Cond.code ({ cls := "MergeWorkbench$Patch", name := "outcomes", desc := "()LMergeWorkbench$Table;" } : Jvm.MethodName) prog_8_method_4_code (1 : Nat) (Option.some (Jvm.ClassFile.FieldType.object "MergeWorkbench$Table"))) ∈ jwd := jw_3 (i := 109) rfl rfl
theorem wd_3_110 : (Jvm.Cond.classLink "MergeWorkbench" (210 : Nat) "java/util/NoSuchElementException") ∈ jwd := jw_3 (i := 110) rfl rfl
theorem wd_3_111 : (Jvm.Cond.instantiable "java/util/NoSuchElementException" (6 : Nat)) ∈ jwd := jw_3 (i := 111) rfl rfl
theorem wd_3_113 : (Jvm.Cond.selects "java/util/NoSuchElementException" ({ cls := "java/lang/Throwable", name := "fillInStackTrace", desc := "(I)Ljava/lang/Throwable;" } : Jvm.MethodName) ({ cls := "java/lang/Throwable", name := "fillInStackTrace", desc := "(I)Ljava/lang/Throwable;" } : Jvm.MethodName)) ∈ jwd := jw_3 (i := 113) rfl rfl
theorem wd_3_114 : (Jvm.Cond.lays "java/util/NoSuchElementException" "java/lang/Throwable" "cause" "Ljava/lang/Throwable;") ∈ jwd := jw_3 (i := 114) rfl rfl
theorem wd_3_115 : (Jvm.Cond.lays "java/util/NoSuchElementException" "java/lang/Throwable" "stackTrace" "[Ljava/lang/StackTraceElement;") ∈ jwd := jw_3 (i := 115) rfl rfl
theorem wd_3_116 : (Jvm.Cond.lays "java/util/NoSuchElementException" "java/lang/Throwable" "suppressedExceptions" "Ljava/util/List;") ∈ jwd := jw_3 (i := 116) rfl rfl
theorem wd_3_117 : (Jvm.Cond.lays "java/util/NoSuchElementException" "java/lang/Throwable" "detailMessage" "Ljava/lang/String;") ∈ jwd := jw_3 (i := 117) rfl rfl
theorem wd_3_118 : (Jvm.Cond.lays "java/util/NoSuchElementException" "java/lang/Throwable" "backtrace" "Ljava/lang/Object;") ∈ jwd := jw_3 (i := 118) rfl rfl
theorem wd_3_120 : (Jvm.Cond.methodLink "MergeWorkbench" (214 : Nat) ({ cls := "java/util/NoSuchElementException", name := "<init>", desc := "(Ljava/lang/String;)V" } : Jvm.MethodName)) ∈ jwd := jw_3 (i := 120) rfl rfl
theorem wd_3_121 : (Jvm.Cond.instanceMethod ({ cls := "java/util/NoSuchElementException", name := "<init>", desc := "(Ljava/lang/String;)V" } : Jvm.MethodName)) ∈ jwd := jw_3 (i := 121) rfl rfl
theorem wd_3_122 : (Jvm.Cond.code ({ cls := "java/util/NoSuchElementException", name := "<init>", desc := "(Ljava/lang/String;)V" } : Jvm.MethodName) prog_23_method_4_code (2 : Nat) (Option.none : Option Jvm.ClassFile.FieldType)) ∈ jwd := jw_3 (i := 122) rfl rfl
theorem wd_3_123 : (Jvm.Cond.methodLink "java/util/NoSuchElementException" (13 : Nat) ({ cls := "java/lang/RuntimeException", name := "<init>", desc := "(Ljava/lang/String;)V" } : Jvm.MethodName)) ∈ jwd := jw_3 (i := 123) rfl rfl
theorem wd_3_124 : (Jvm.Cond.lays "java/util/NoSuchElementException" "java/lang/Throwable" "depth" "I") ∈ jwd := jw_3 (i := 124) rfl rfl
theorem wd_3_126 : (Jvm.Cond.methodLink "MergeWorkbenchLaw" (92 : Nat) ({ cls := "MergeWorkbench", name := "undo", desc := "()I" } : Jvm.MethodName)) ∈ jwd := jw_3 (i := 126) rfl rfl
theorem wd_3_127 : (Jvm.Cond.instanceMethod ({ cls := "MergeWorkbench", name := "undo", desc := "()I" } : Jvm.MethodName)) ∈ jwd := jw_3 (i := 127) rfl rfl
theorem wd_3_128 : (Jvm.Cond.selects "MergeWorkbench" ({ cls := "MergeWorkbench", name := "undo", desc := "()I" } : Jvm.MethodName) ({ cls := "MergeWorkbench", name := "undo", desc := "()I" } : Jvm.MethodName)) ∈ jwd := jw_3 (i := 128) rfl rfl
theorem wd_3_129 : (Jvm.Cond.code ({ cls := "MergeWorkbench", name := "undo", desc := "()I" } : Jvm.MethodName) prog_1_method_35_code (1 : Nat) (Option.some Jvm.ClassFile.FieldType.int)) ∈ jwd := jw_3 (i := 129) rfl rfl
theorem wd_3_130 : (Jvm.Cond.methodLink "MergeWorkbench" (298 : Nat) ({ cls := "MergeWorkbench$History", name := "isEmpty", desc := "()Z" } : Jvm.MethodName)) ∈ jwd := jw_3 (i := 130) rfl rfl
theorem wd_3_131 : (Jvm.Cond.instanceMethod ({ cls := "MergeWorkbench$History", name := "isEmpty", desc := "()Z" } : Jvm.MethodName)) ∈ jwd := jw_3 (i := 131) rfl rfl
theorem wd_3_132 : (Jvm.Cond.selects "MergeWorkbench$History" ({ cls := "MergeWorkbench$History", name := "isEmpty", desc := "()Z" } : Jvm.MethodName) ({ cls := "MergeWorkbench$History", name := "isEmpty", desc := "()Z" } : Jvm.MethodName)) ∈ jwd := jw_3 (i := 132) rfl rfl
theorem wd_3_133 : (Jvm.Cond.code ({ cls := "MergeWorkbench$History", name := "isEmpty", desc := "()Z" } : Jvm.MethodName) prog_4_method_2_code (1 : Nat) (Option.some Jvm.ClassFile.FieldType.boolean)) ∈ jwd := jw_3 (i := 133) rfl rfl
theorem wd_3_135 : (Jvm.Cond.methodLink "MergeWorkbench" (303 : Nat) ({ cls := "MergeWorkbench$History", name := "takeBack", desc := "(LMergeWorkbench$Shelf;)I" } : Jvm.MethodName)) ∈ jwd := jw_3 (i := 135) rfl rfl
theorem wd_3_136 : (Jvm.Cond.instanceMethod ({ cls := "MergeWorkbench$History", name := "takeBack", desc := "(LMergeWorkbench$Shelf;)I" } : Jvm.MethodName)) ∈ jwd := jw_3 (i := 136) rfl rfl
theorem wd_3_137 : (Jvm.Cond.selects "MergeWorkbench$History" ({ cls := "MergeWorkbench$History", name := "takeBack", desc := "(LMergeWorkbench$Shelf;)I" } : Jvm.MethodName) ({ cls := "MergeWorkbench$History", name := "takeBack", desc := "(LMergeWorkbench$Shelf;)I" } : Jvm.MethodName)) ∈ jwd := jw_3 (i := 137) rfl rfl
theorem wd_3_138 : (Jvm.Cond.code ({ cls := "MergeWorkbench$History", name := "takeBack", desc := "(LMergeWorkbench$Shelf;)I" } : Jvm.MethodName) prog_4_method_5_code (3 : Nat) (Option.some Jvm.ClassFile.FieldType.int)) ∈ jwd := jw_3 (i := 138) rfl rfl
theorem wd_3_139 : (Jvm.Cond.methodLink "MergeWorkbench$History" (49 : Nat) ({ cls := "MergeWorkbench$Lines", name := "at", desc := "(I)I" } : Jvm.MethodName)) ∈ jwd := jw_3 (i := 139) rfl rfl
theorem wd_3_140 : (Jvm.Cond.methodLink "MergeWorkbenchLaw" (55 : Nat) ({ cls := "MergeWorkbench", name := "save", desc := "()I" } : Jvm.MethodName)) ∈ jwd := jw_3 (i := 140) rfl rfl
theorem wd_3_141 : (Jvm.Cond.instanceMethod ({ cls := "MergeWorkbench", name := "save", desc := "()I" } : Jvm.MethodName)) ∈ jwd := jw_3 (i := 141) rfl rfl
theorem wd_3_142 : (Jvm.Cond.selects "MergeWorkbench" ({ cls := "MergeWorkbench", name := "save", desc := "()I" } : Jvm.MethodName) ({ cls := "MergeWorkbench", name := "save", desc := "()I" } : Jvm.MethodName)) ∈ jwd := jw_3 (i := 142) rfl rfl
theorem wd_3_143 : (Jvm.Cond.code ({ cls := "MergeWorkbench", name := "save", desc := "()I" } : Jvm.MethodName) prog_1_method_36_code (1 : Nat) (Option.some Jvm.ClassFile.FieldType.int)) ∈ jwd := jw_3 (i := 143) rfl rfl
theorem wd_3_144 : (Jvm.Cond.methodLink "MergeWorkbench" (307 : Nat) ({ cls := "MergeWorkbench$Shelf", name := "become", desc := "(LMergeWorkbench$Shelf;)V" } : Jvm.MethodName)) ∈ jwd := jw_3 (i := 144) rfl rfl
theorem wd_3_145 : (Jvm.Cond.instanceMethod ({ cls := "MergeWorkbench$Shelf", name := "become", desc := "(LMergeWorkbench$Shelf;)V" } : Jvm.MethodName)) ∈ jwd := jw_3 (i := 145) rfl rfl
theorem wd_3_146 : (Jvm.Cond.selects "MergeWorkbench$Shelf" ({ cls := "MergeWorkbench$Shelf", name := "become", desc := "(LMergeWorkbench$Shelf;)V" } : Jvm.MethodName) ({ cls := "MergeWorkbench$Shelf", name := "become", desc := "(LMergeWorkbench$Shelf;)V" } : Jvm.MethodName)) ∈ jwd := jw_3 (i := 146) rfl rfl
theorem wd_3_147 : (Jvm.Cond.code ({ cls := "MergeWorkbench$Shelf", name := "become", desc := "(LMergeWorkbench$Shelf;)V" } : Jvm.MethodName) prog_9_method_3_code (3 : Nat) (Option.none : Option Jvm.ClassFile.FieldType)) ∈ jwd := jw_3 (i := 147) rfl rfl
theorem wd_3_148 : (Jvm.Cond.methodLink "MergeWorkbench$Shelf" (24 : Nat) ({ cls := "MergeWorkbench$Shelf", name := "place", desc := "(I)LMergeWorkbench$Lines;" } : Jvm.MethodName)) ∈ jwd := jw_3 (i := 148) rfl rfl
theorem wd_3_149 : (Jvm.Cond.methodLink "MergeWorkbench$Shelf" (28 : Nat) ({ cls := "MergeWorkbench$Lines", name := "become", desc := "(LMergeWorkbench$Lines;)V" } : Jvm.MethodName)) ∈ jwd := jw_3 (i := 149) rfl rfl
theorem wd_3_150 : (Jvm.Cond.methodLink "MergeWorkbench" (311 : Nat) ({ cls := "MergeWorkbench$Shelf", name := "allLines", desc := "()I" } : Jvm.MethodName)) ∈ jwd := jw_3 (i := 150) rfl rfl
theorem wd_3_151 : (Jvm.Cond.instanceMethod ({ cls := "MergeWorkbench$Shelf", name := "allLines", desc := "()I" } : Jvm.MethodName)) ∈ jwd := jw_3 (i := 151) rfl rfl
theorem wd_3_152 : (Jvm.Cond.selects "MergeWorkbench$Shelf" ({ cls := "MergeWorkbench$Shelf", name := "allLines", desc := "()I" } : Jvm.MethodName) ({ cls := "MergeWorkbench$Shelf", name := "allLines", desc := "()I" } : Jvm.MethodName)) ∈ jwd := jw_3 (i := 152) rfl rfl
theorem wd_3_153 : (Jvm.Cond.code ({ cls := "MergeWorkbench$Shelf", name := "allLines", desc := "()I" } : Jvm.MethodName) prog_9_method_4_code (3 : Nat) (Option.some Jvm.ClassFile.FieldType.int)) ∈ jwd := jw_3 (i := 153) rfl rfl
theorem wd_3_154 : (Jvm.Cond.methodLink "MergeWorkbench$Shelf" (32 : Nat) ({ cls := "MergeWorkbench$Lines", name := "size", desc := "()I" } : Jvm.MethodName)) ∈ jwd := jw_3 (i := 154) rfl rfl
theorem wd_3_155 : (Jvm.Cond.methodLink "MergeWorkbenchLaw" (101 : Nat) ({ cls := "MergeWorkbench", name := "restore", desc := "()I" } : Jvm.MethodName)) ∈ jwd := jw_3 (i := 155) rfl rfl
theorem wd_3_156 : (Jvm.Cond.instanceMethod ({ cls := "MergeWorkbench", name := "restore", desc := "()I" } : Jvm.MethodName)) ∈ jwd := jw_3 (i := 156) rfl rfl
theorem wd_3_157 : (Jvm.Cond.selects "MergeWorkbench" ({ cls := "MergeWorkbench", name := "restore", desc := "()I" } : Jvm.MethodName) ({ cls := "MergeWorkbench", name := "restore", desc := "()I" } : Jvm.MethodName)) ∈ jwd := jw_3 (i := 157) rfl rfl
theorem wd_3_158 : (Jvm.Cond.code ({ cls := "MergeWorkbench", name := "restore", desc := "()I" } : Jvm.MethodName) prog_1_method_37_code (1 : Nat) (Option.some Jvm.ClassFile.FieldType.int)) ∈ jwd := jw_3 (i := 158) rfl rfl
theorem wd_3_160 : (Jvm.Cond.methodLink "MergeWorkbench" (316 : Nat) ({ cls := "MergeWorkbench$History", name := "forget", desc := "()V" } : Jvm.MethodName)) ∈ jwd := jw_3 (i := 160) rfl rfl
theorem wd_3_161 : (Jvm.Cond.instanceMethod ({ cls := "MergeWorkbench$History", name := "forget", desc := "()V" } : Jvm.MethodName)) ∈ jwd := jw_3 (i := 161) rfl rfl
theorem wd_3_162 : (Jvm.Cond.selects "MergeWorkbench$History" ({ cls := "MergeWorkbench$History", name := "forget", desc := "()V" } : Jvm.MethodName) ({ cls := "MergeWorkbench$History", name := "forget", desc := "()V" } : Jvm.MethodName)) ∈ jwd := jw_3 (i := 162) rfl rfl
theorem wd_3_163 : (Jvm.Cond.code ({ cls := "MergeWorkbench$History", name := "forget", desc := "()V" } : Jvm.MethodName) prog_4_method_3_code (1 : Nat) (Option.none : Option Jvm.ClassFile.FieldType)) ∈ jwd := jw_3 (i := 163) rfl rfl
theorem wd_3_164 : (Jvm.Cond.methodLink "MergeWorkbenchLaw" (10 : Nat) ({ cls := "MergeWorkbenchLaw", name := "at", desc := "([II)I" } : Jvm.MethodName)) ∈ jwd := jw_3 (i := 164) rfl rfl
theorem wd_3_165 : (Jvm.Cond.static ({ cls := "MergeWorkbenchLaw", name := "at", desc := "([II)I" } : Jvm.MethodName)) ∈ jwd := jw_3 (i := 165) rfl rfl
theorem wd_3_166 : (Jvm.Cond.code ({ cls := "MergeWorkbenchLaw", name := "at", desc := "([II)I" } : Jvm.MethodName) method_2_code (2 : Nat) (Option.some Jvm.ClassFile.FieldType.int)) ∈ jwd := jw_3 (i := 166) rfl rfl
theorem wd_3_167 : (Jvm.Cond.methodLink "MergeWorkbenchLaw" (51 : Nat) ({ cls := "MergeWorkbenchLaw", name := "build", desc := "([I)LMergeWorkbench;" } : Jvm.MethodName)) ∈ jwd := jw_3 (i := 167) rfl rfl
theorem wd_3_168 : (Jvm.Cond.static ({ cls := "MergeWorkbenchLaw", name := "build", desc := "([I)LMergeWorkbench;" } : Jvm.MethodName)) ∈ jwd := jw_3 (i := 168) rfl rfl
theorem wd_3_169 : (Jvm.Cond.code ({ cls := "MergeWorkbenchLaw", name := "build", desc := "([I)LMergeWorkbench;" } : Jvm.MethodName) method_3_code (8 : Nat) (Option.some (Jvm.ClassFile.FieldType.object "MergeWorkbench"))) ∈ jwd := jw_3 (i := 169) rfl rfl
theorem wd_3_170 : (Jvm.Cond.classLink "MergeWorkbenchLaw" (7 : Nat) "MergeWorkbench") ∈ jwd := jw_3 (i := 170) rfl rfl
theorem wd_3_171 : (Jvm.Cond.methodLink "MergeWorkbenchLaw" (9 : Nat) ({ cls := "MergeWorkbench", name := "<init>", desc := "()V" } : Jvm.MethodName)) ∈ jwd := jw_3 (i := 171) rfl rfl
theorem wd_3_172 : (Jvm.Cond.instanceMethod ({ cls := "MergeWorkbench", name := "<init>", desc := "()V" } : Jvm.MethodName)) ∈ jwd := jw_3 (i := 172) rfl rfl
theorem wd_3_173 : (Jvm.Cond.code ({ cls := "MergeWorkbench", name := "<init>", desc := "()V" } : Jvm.MethodName) prog_1_method_1_code (1 : Nat) (Option.none : Option Jvm.ClassFile.FieldType)) ∈ jwd := jw_3 (i := 173) rfl rfl
theorem wd_3_174 : (Jvm.Cond.methodLink "MergeWorkbench" (1 : Nat) ({ cls := "java/lang/Object", name := "<init>", desc := "()V" } : Jvm.MethodName)) ∈ jwd := jw_3 (i := 174) rfl rfl
theorem wd_3_175 : (Jvm.Cond.classLink "MergeWorkbench" (7 : Nat) "MergeWorkbench$Shelf") ∈ jwd := jw_3 (i := 175) rfl rfl
theorem wd_3_176 : (Jvm.Cond.instantiable "MergeWorkbench$Shelf" (2 : Nat)) ∈ jwd := jw_3 (i := 176) rfl rfl
theorem wd_3_177 : (Jvm.Cond.methodLink "MergeWorkbench" (11 : Nat) ({ cls := "MergeWorkbench$Shelf", name := "<init>", desc := "(I)V" } : Jvm.MethodName)) ∈ jwd := jw_3 (i := 177) rfl rfl
theorem wd_3_178 : (Jvm.Cond.instanceMethod ({ cls := "MergeWorkbench$Shelf", name := "<init>", desc := "(I)V" } : Jvm.MethodName)) ∈ jwd := jw_3 (i := 178) rfl rfl
theorem wd_3_179 : (Jvm.Cond.code ({ cls := "MergeWorkbench$Shelf", name := "<init>", desc := "(I)V" } : Jvm.MethodName) prog_9_method_1_code (3 : Nat) (Option.none : Option Jvm.ClassFile.FieldType)) ∈ jwd := jw_3 (i := 179) rfl rfl
theorem wd_3_180 : (Jvm.Cond.methodLink "MergeWorkbench$Shelf" (3 : Nat) ({ cls := "java/lang/Object", name := "<init>", desc := "()V" } : Jvm.MethodName)) ∈ jwd := jw_3 (i := 180) rfl rfl
theorem wd_3_181 : (Jvm.Cond.classLink "MergeWorkbench$Shelf" (9 : Nat) "MergeWorkbench$Lines") ∈ jwd := jw_3 (i := 181) rfl rfl
theorem wd_3_182 : (Jvm.Cond.instantiable "MergeWorkbench$Lines" (2 : Nat)) ∈ jwd := jw_3 (i := 182) rfl rfl
theorem wd_3_183 : (Jvm.Cond.methodLink "MergeWorkbench$Shelf" (11 : Nat) ({ cls := "MergeWorkbench$Lines", name := "<init>", desc := "(I)V" } : Jvm.MethodName)) ∈ jwd := jw_3 (i := 183) rfl rfl
theorem wd_3_184 : (Jvm.Cond.instanceMethod ({ cls := "MergeWorkbench$Lines", name := "<init>", desc := "(I)V" } : Jvm.MethodName)) ∈ jwd := jw_3 (i := 184) rfl rfl
theorem wd_3_185 : (Jvm.Cond.code ({ cls := "MergeWorkbench$Lines", name := "<init>", desc := "(I)V" } : Jvm.MethodName) prog_6_method_1_code (2 : Nat) (Option.none : Option Jvm.ClassFile.FieldType)) ∈ jwd := jw_3 (i := 185) rfl rfl
theorem wd_3_186 : (Jvm.Cond.methodLink "MergeWorkbench$Lines" (3 : Nat) ({ cls := "java/lang/Object", name := "<init>", desc := "()V" } : Jvm.MethodName)) ∈ jwd := jw_3 (i := 186) rfl rfl
theorem wd_3_187 : (Jvm.Cond.fieldLink "MergeWorkbench$Lines" (9 : Nat) "MergeWorkbench$Lines" "cells" "[I") ∈ jwd := jw_3 (i := 187) rfl rfl
theorem wd_3_188 : (Jvm.Cond.fieldLink "MergeWorkbench$Lines" (15 : Nat) "MergeWorkbench$Lines" "count" "I") ∈ jwd := jw_3 (i := 188) rfl rfl
theorem wd_3_189 : (Jvm.Cond.laysFinal "MergeWorkbench$Lines" "MergeWorkbench$Lines" "cells" "[I") ∈ jwd := jw_3 (i := 189) rfl rfl
theorem wd_3_191 : (Jvm.Cond.lays "MergeWorkbench$Lines" "MergeWorkbench$Lines" "count" "I") ∈ jwd := jw_3 (i := 191) rfl rfl
theorem wd_3_194 : (Jvm.Cond.arrayClass Jvm.ClassFile.FieldType.int) ∈ jwd := jw_3 (i := 194) rfl rfl
theorem wd_3_196 : (Jvm.Cond.fieldLink "MergeWorkbench$Shelf" (20 : Nat) "MergeWorkbench$Shelf" "places" "[LMergeWorkbench$Lines;") ∈ jwd := jw_3 (i := 196) rfl rfl
theorem wd_3_197 : (Jvm.Cond.fieldLink "MergeWorkbench$Shelf" (14 : Nat) "MergeWorkbench$Shelf" "nowhere" "LMergeWorkbench$Lines;") ∈ jwd := jw_3 (i := 197) rfl rfl
theorem wd_3_198 : (Jvm.Cond.laysFinal "MergeWorkbench$Shelf" "MergeWorkbench$Shelf" "places" "[LMergeWorkbench$Lines;") ∈ jwd := jw_3 (i := 198) rfl rfl
theorem wd_3_200 : (Jvm.Cond.laysFinal "MergeWorkbench$Shelf" "MergeWorkbench$Shelf" "nowhere" "LMergeWorkbench$Lines;") ∈ jwd := jw_3 (i := 200) rfl rfl
theorem wd_3_203 : (Jvm.Cond.classLink "MergeWorkbench" (21 : Nat) "MergeWorkbench$History") ∈ jwd := jw_3 (i := 203) rfl rfl
theorem wd_3_204 : (Jvm.Cond.instantiable "MergeWorkbench$History" (4 : Nat)) ∈ jwd := jw_3 (i := 204) rfl rfl
theorem wd_3_205 : (Jvm.Cond.methodLink "MergeWorkbench" (23 : Nat) ({ cls := "MergeWorkbench$History", name := "<init>", desc := "()V" } : Jvm.MethodName)) ∈ jwd := jw_3 (i := 205) rfl rfl
theorem wd_3_206 : (Jvm.Cond.instanceMethod ({ cls := "MergeWorkbench$History", name := "<init>", desc := "()V" } : Jvm.MethodName)) ∈ jwd := jw_3 (i := 206) rfl rfl
theorem wd_3_207 : (Jvm.Cond.code ({ cls := "MergeWorkbench$History", name := "<init>", desc := "()V" } : Jvm.MethodName) prog_4_method_1_code (1 : Nat) (Option.none : Option Jvm.ClassFile.FieldType)) ∈ jwd := jw_3 (i := 207) rfl rfl
theorem wd_3_208 : (Jvm.Cond.methodLink "MergeWorkbench$History" (3 : Nat) ({ cls := "java/lang/Object", name := "<init>", desc := "()V" } : Jvm.MethodName)) ∈ jwd := jw_3 (i := 208) rfl rfl
theorem wd_3_209 : (Jvm.Cond.classLink "MergeWorkbench$History" (9 : Nat) "MergeWorkbench$Shelf") ∈ jwd := jw_3 (i := 209) rfl rfl
theorem wd_3_210 : (Jvm.Cond.methodLink "MergeWorkbench$History" (11 : Nat) ({ cls := "MergeWorkbench$Shelf", name := "<init>", desc := "(I)V" } : Jvm.MethodName)) ∈ jwd := jw_3 (i := 210) rfl rfl
theorem wd_3_211 : (Jvm.Cond.classLink "MergeWorkbench$History" (20 : Nat) "MergeWorkbench$Lines") ∈ jwd := jw_3 (i := 211) rfl rfl
theorem wd_3_212 : (Jvm.Cond.methodLink "MergeWorkbench$History" (22 : Nat) ({ cls := "MergeWorkbench$Lines", name := "<init>", desc := "(I)V" } : Jvm.MethodName)) ∈ jwd := jw_3 (i := 212) rfl rfl
theorem wd_3_213 : (Jvm.Cond.methodLink "MergeWorkbench$History" (27 : Nat) ({ cls := "MergeWorkbench$Lines", name := "fillWith", desc := "(II)V" } : Jvm.MethodName)) ∈ jwd := jw_3 (i := 213) rfl rfl
theorem wd_3_214 : (Jvm.Cond.fieldLink "MergeWorkbench$History" (14 : Nat) "MergeWorkbench$History" "before" "LMergeWorkbench$Shelf;") ∈ jwd := jw_3 (i := 214) rfl rfl
theorem wd_3_215 : (Jvm.Cond.fieldLink "MergeWorkbench$History" (23 : Nat) "MergeWorkbench$History" "registers" "LMergeWorkbench$Lines;") ∈ jwd := jw_3 (i := 215) rfl rfl
theorem wd_3_216 : (Jvm.Cond.fieldLink "MergeWorkbench$History" (35 : Nat) "MergeWorkbench$History" "next" "I") ∈ jwd := jw_3 (i := 216) rfl rfl
theorem wd_3_217 : (Jvm.Cond.fieldLink "MergeWorkbench$History" (31 : Nat) "MergeWorkbench$History" "count" "I") ∈ jwd := jw_3 (i := 217) rfl rfl
theorem wd_3_218 : (Jvm.Cond.laysFinal "MergeWorkbench$History" "MergeWorkbench$History" "before" "LMergeWorkbench$Shelf;") ∈ jwd := jw_3 (i := 218) rfl rfl
theorem wd_3_220 : (Jvm.Cond.laysFinal "MergeWorkbench$History" "MergeWorkbench$History" "registers" "LMergeWorkbench$Lines;") ∈ jwd := jw_3 (i := 220) rfl rfl
theorem wd_3_222 : (Jvm.Cond.lays "MergeWorkbench$History" "MergeWorkbench$History" "next" "I") ∈ jwd := jw_3 (i := 222) rfl rfl
theorem wd_3_224 : (Jvm.Cond.lays "MergeWorkbench$History" "MergeWorkbench$History" "count" "I") ∈ jwd := jw_3 (i := 224) rfl rfl
theorem wd_3_227 : (Jvm.Cond.classLink "MergeWorkbench" (28 : Nat) "MergeWorkbench$Input") ∈ jwd := jw_3 (i := 227) rfl rfl
theorem wd_3_228 : (Jvm.Cond.instantiable "MergeWorkbench$Input" (2 : Nat)) ∈ jwd := jw_3 (i := 228) rfl rfl
theorem wd_3_230 : (Jvm.Cond.instanceMethod ({ cls := "MergeWorkbench$Input", name := "<init>", desc := "()V" } : Jvm.MethodName)) ∈ jwd := jw_3 (i := 230) rfl rfl
theorem wd_3_231 : (Jvm.Cond.code ({ cls := "MergeWorkbench$Input", name := "<init>", desc := "()V" } : Jvm.MethodName) prog_5_method_1_code (1 : Nat) (Option.none : Option Jvm.ClassFile.FieldType)) ∈ jwd := jw_3 (i := 231) rfl rfl
theorem wd_3_232 : (Jvm.Cond.methodLink "MergeWorkbench$Input" (3 : Nat) ({ cls := "java/lang/Object", name := "<init>", desc := "()V" } : Jvm.MethodName)) ∈ jwd := jw_3 (i := 232) rfl rfl
theorem wd_3_233 : (Jvm.Cond.classLink "MergeWorkbench$Input" (9 : Nat) "MergeWorkbench$Lines") ∈ jwd := jw_3 (i := 233) rfl rfl
theorem wd_3_234 : (Jvm.Cond.methodLink "MergeWorkbench$Input" (11 : Nat) ({ cls := "MergeWorkbench$Lines", name := "<init>", desc := "(I)V" } : Jvm.MethodName)) ∈ jwd := jw_3 (i := 234) rfl rfl
theorem wd_3_235 : (Jvm.Cond.fieldLink "MergeWorkbench$Input" (14 : Nat) "MergeWorkbench$Input" "characters" "LMergeWorkbench$Lines;") ∈ jwd := jw_3 (i := 235) rfl rfl
theorem wd_3_236 : (Jvm.Cond.fieldLink "MergeWorkbench$Input" (20 : Nat) "MergeWorkbench$Input" "groupBegins" "LMergeWorkbench$Lines;") ∈ jwd := jw_3 (i := 236) rfl rfl
theorem wd_3_237 : (Jvm.Cond.laysFinal "MergeWorkbench$Input" "MergeWorkbench$Input" "characters" "LMergeWorkbench$Lines;") ∈ jwd := jw_3 (i := 237) rfl rfl
theorem wd_3_239 : (Jvm.Cond.laysFinal "MergeWorkbench$Input" "MergeWorkbench$Input" "groupBegins" "LMergeWorkbench$Lines;") ∈ jwd := jw_3 (i := 239) rfl rfl
theorem wd_4_2 : (Jvm.Cond.classLink "MergeWorkbench" (35 : Nat) "MergeWorkbench$Lines") ∈ jwd := jw_4 (i := 2) rfl rfl
theorem wd_4_3 : (Jvm.Cond.methodLink "MergeWorkbench" (37 : Nat) ({ cls := "MergeWorkbench$Lines", name := "<init>", desc := "(I)V" } : Jvm.MethodName)) ∈ jwd := jw_4 (i := 3) rfl rfl
theorem wd_4_4 : (Jvm.Cond.classLink "MergeWorkbench" (42 : Nat) "MergeWorkbench$Alignment") ∈ jwd := jw_4 (i := 4) rfl rfl
theorem wd_4_5 : (Jvm.Cond.methodLink "MergeWorkbench" (44 : Nat) ({ cls := "MergeWorkbench$Alignment", name := "<init>", desc := "()V" } : Jvm.MethodName)) ∈ jwd := jw_4 (i := 5) rfl rfl
theorem wd_4_6 : (Jvm.Cond.instanceMethod ({ cls := "MergeWorkbench$Alignment", name := "<init>", desc := "()V" } : Jvm.MethodName)) ∈ jwd := jw_4 (i := 6) rfl rfl
theorem wd_4_7 : (Jvm.Cond.code ({ cls := "MergeWorkbench$Alignment", name := "<init>", desc := "()V" } : Jvm.MethodName) prog_2_method_1_code (2 : Nat) (Option.none : Option Jvm.ClassFile.FieldType)) ∈ jwd := jw_4 (i := 7) rfl rfl
theorem wd_4_8 : (Jvm.Cond.methodLink "MergeWorkbench$Alignment" (3 : Nat) ({ cls := "java/lang/Object", name := "<init>", desc := "()V" } : Jvm.MethodName)) ∈ jwd := jw_4 (i := 8) rfl rfl
theorem wd_4_9 : (Jvm.Cond.classLink "MergeWorkbench$Alignment" (9 : Nat) "MergeWorkbench$Lines") ∈ jwd := jw_4 (i := 9) rfl rfl
theorem wd_4_10 : (Jvm.Cond.methodLink "MergeWorkbench$Alignment" (11 : Nat) ({ cls := "MergeWorkbench$Lines", name := "<init>", desc := "(I)V" } : Jvm.MethodName)) ∈ jwd := jw_4 (i := 10) rfl rfl
theorem wd_4_11 : (Jvm.Cond.classLink "MergeWorkbench$Alignment" (29 : Nat) "MergeWorkbench$Table") ∈ jwd := jw_4 (i := 11) rfl rfl
theorem wd_4_12 : (Jvm.Cond.instantiable "MergeWorkbench$Table" (3 : Nat)) ∈ jwd := jw_4 (i := 12) rfl rfl
theorem wd_4_13 : (Jvm.Cond.methodLink "MergeWorkbench$Alignment" (31 : Nat) ({ cls := "MergeWorkbench$Table", name := "<init>", desc := "(II)V" } : Jvm.MethodName)) ∈ jwd := jw_4 (i := 13) rfl rfl
theorem wd_4_14 : (Jvm.Cond.instanceMethod ({ cls := "MergeWorkbench$Table", name := "<init>", desc := "(II)V" } : Jvm.MethodName)) ∈ jwd := jw_4 (i := 14) rfl rfl
theorem wd_4_15 : (Jvm.Cond.code ({ cls := "MergeWorkbench$Table", name := "<init>", desc := "(II)V" } : Jvm.MethodName) prog_10_method_1_code (4 : Nat) (Option.none : Option Jvm.ClassFile.FieldType)) ∈ jwd := jw_4 (i := 15) rfl rfl
theorem wd_4_16 : (Jvm.Cond.methodLink "MergeWorkbench$Table" (3 : Nat) ({ cls := "java/lang/Object", name := "<init>", desc := "()V" } : Jvm.MethodName)) ∈ jwd := jw_4 (i := 16) rfl rfl
theorem wd_4_17 : (Jvm.Cond.fieldLink "MergeWorkbench$Table" (9 : Nat) "MergeWorkbench$Table" "cells" "[I") ∈ jwd := jw_4 (i := 17) rfl rfl
theorem wd_4_18 : (Jvm.Cond.fieldLink "MergeWorkbench$Table" (15 : Nat) "MergeWorkbench$Table" "columns" "I") ∈ jwd := jw_4 (i := 18) rfl rfl
theorem wd_4_19 : (Jvm.Cond.fieldLink "MergeWorkbench$Table" (19 : Nat) "MergeWorkbench$Table" "rowCount" "I") ∈ jwd := jw_4 (i := 19) rfl rfl
theorem wd_4_20 : (Jvm.Cond.laysFinal "MergeWorkbench$Table" "MergeWorkbench$Table" "cells" "[I") ∈ jwd := jw_4 (i := 20) rfl rfl
theorem wd_4_22 : (Jvm.Cond.laysFinal "MergeWorkbench$Table" "MergeWorkbench$Table" "columns" "I") ∈ jwd := jw_4 (i := 22) rfl rfl
theorem wd_4_24 : (Jvm.Cond.lays "MergeWorkbench$Table" "MergeWorkbench$Table" "rowCount" "I") ∈ jwd := jw_4 (i := 24) rfl rfl
theorem wd_4_27 : (Jvm.Cond.methodLink "MergeWorkbench$Alignment" (38 : Nat) ({ cls := "MergeWorkbench$Table", name := "addRow", desc := "()I" } : Jvm.MethodName)) ∈ jwd := jw_4 (i := 27) rfl rfl
theorem wd_4_28 : (Jvm.Cond.fieldLink "MergeWorkbench$Alignment" (14 : Nat) "MergeWorkbench$Alignment" "toSecond" "LMergeWorkbench$Lines;") ∈ jwd := jw_4 (i := 28) rfl rfl
theorem wd_4_29 : (Jvm.Cond.fieldLink "MergeWorkbench$Alignment" (20 : Nat) "MergeWorkbench$Alignment" "toFirst" "LMergeWorkbench$Lines;") ∈ jwd := jw_4 (i := 29) rfl rfl
theorem wd_4_30 : (Jvm.Cond.fieldLink "MergeWorkbench$Alignment" (23 : Nat) "MergeWorkbench$Alignment" "candidates" "LMergeWorkbench$Lines;") ∈ jwd := jw_4 (i := 30) rfl rfl
theorem wd_4_31 : (Jvm.Cond.fieldLink "MergeWorkbench$Alignment" (26 : Nat) "MergeWorkbench$Alignment" "chains" "LMergeWorkbench$Lines;") ∈ jwd := jw_4 (i := 31) rfl rfl
theorem wd_4_32 : (Jvm.Cond.fieldLink "MergeWorkbench$Alignment" (34 : Nat) "MergeWorkbench$Alignment" "longest" "LMergeWorkbench$Table;") ∈ jwd := jw_4 (i := 32) rfl rfl
theorem wd_4_33 : (Jvm.Cond.fieldLink "MergeWorkbench$Alignment" (42 : Nat) "MergeWorkbench$Alignment" "pairCount" "I") ∈ jwd := jw_4 (i := 33) rfl rfl
theorem wd_4_34 : (Jvm.Cond.fieldLink "MergeWorkbench$Alignment" (46 : Nat) "MergeWorkbench$Alignment" "anchorPairs" "I") ∈ jwd := jw_4 (i := 34) rfl rfl
theorem wd_4_35 : (Jvm.Cond.laysFinal "MergeWorkbench$Alignment" "MergeWorkbench$Alignment" "toSecond" "LMergeWorkbench$Lines;") ∈ jwd := jw_4 (i := 35) rfl rfl
theorem wd_4_37 : (Jvm.Cond.laysFinal "MergeWorkbench$Alignment" "MergeWorkbench$Alignment" "toFirst" "LMergeWorkbench$Lines;") ∈ jwd := jw_4 (i := 37) rfl rfl
theorem wd_4_39 : (Jvm.Cond.laysFinal "MergeWorkbench$Alignment" "MergeWorkbench$Alignment" "candidates" "LMergeWorkbench$Lines;") ∈ jwd := jw_4 (i := 39) rfl rfl
theorem wd_4_41 : (Jvm.Cond.laysFinal "MergeWorkbench$Alignment" "MergeWorkbench$Alignment" "chains" "LMergeWorkbench$Lines;") ∈ jwd := jw_4 (i := 41) rfl rfl
theorem wd_4_43 : (Jvm.Cond.laysFinal "MergeWorkbench$Alignment" "MergeWorkbench$Alignment" "longest" "LMergeWorkbench$Table;") ∈ jwd := jw_4 (i := 43) rfl rfl
theorem wd_4_45 : (Jvm.Cond.lays "MergeWorkbench$Alignment" "MergeWorkbench$Alignment" "pairCount" "I") ∈ jwd := jw_4 (i := 45) rfl rfl
theorem wd_4_47 : (Jvm.Cond.lays "MergeWorkbench$Alignment" "MergeWorkbench$Alignment" "anchorPairs" "I") ∈ jwd := jw_4 (i := 47) rfl rfl
theorem wd_4_50 : (Jvm.Cond.classLink "MergeWorkbench" (49 : Nat) "MergeWorkbench$Comparison") ∈ jwd := jw_4 (i := 50) rfl rfl
theorem wd_4_52 : (Jvm.Cond.instanceMethod ({ cls := "MergeWorkbench$Comparison", name := "<init>", desc := "()V" } : Jvm.MethodName)) ∈ jwd := jw_4 (i := 52) rfl rfl
theorem wd_4_53 : (Jvm.Cond.code ({ cls := "MergeWorkbench$Comparison", name := "<init>", desc := "()V" } : Jvm.MethodName) prog_3_method_1_code (1 : Nat) (Option.none : Option Jvm.ClassFile.FieldType)) ∈ jwd := jw_4 (i := 53) rfl rfl
theorem wd_4_54 : (Jvm.Cond.methodLink "MergeWorkbench$Comparison" (3 : Nat) ({ cls := "java/lang/Object", name := "<init>", desc := "()V" } : Jvm.MethodName)) ∈ jwd := jw_4 (i := 54) rfl rfl
theorem wd_4_55 : (Jvm.Cond.classLink "MergeWorkbench$Comparison" (9 : Nat) "MergeWorkbench$Lines") ∈ jwd := jw_4 (i := 55) rfl rfl
theorem wd_4_56 : (Jvm.Cond.methodLink "MergeWorkbench$Comparison" (11 : Nat) ({ cls := "MergeWorkbench$Lines", name := "<init>", desc := "(I)V" } : Jvm.MethodName)) ∈ jwd := jw_4 (i := 56) rfl rfl
theorem wd_4_57 : (Jvm.Cond.classLink "MergeWorkbench$Comparison" (23 : Nat) "MergeWorkbench$Alignment") ∈ jwd := jw_4 (i := 57) rfl rfl
theorem wd_4_58 : (Jvm.Cond.methodLink "MergeWorkbench$Comparison" (25 : Nat) ({ cls := "MergeWorkbench$Alignment", name := "<init>", desc := "()V" } : Jvm.MethodName)) ∈ jwd := jw_4 (i := 58) rfl rfl
theorem wd_4_59 : (Jvm.Cond.classLink "MergeWorkbench$Comparison" (30 : Nat) "MergeWorkbench$Table") ∈ jwd := jw_4 (i := 59) rfl rfl
theorem wd_4_60 : (Jvm.Cond.methodLink "MergeWorkbench$Comparison" (32 : Nat) ({ cls := "MergeWorkbench$Table", name := "<init>", desc := "(II)V" } : Jvm.MethodName)) ∈ jwd := jw_4 (i := 60) rfl rfl
theorem wd_4_61 : (Jvm.Cond.fieldLink "MergeWorkbench$Comparison" (14 : Nat) "MergeWorkbench$Comparison" "a" "LMergeWorkbench$Lines;") ∈ jwd := jw_4 (i := 61) rfl rfl
theorem wd_4_62 : (Jvm.Cond.fieldLink "MergeWorkbench$Comparison" (20 : Nat) "MergeWorkbench$Comparison" "b" "LMergeWorkbench$Lines;") ∈ jwd := jw_4 (i := 62) rfl rfl
theorem wd_4_63 : (Jvm.Cond.fieldLink "MergeWorkbench$Comparison" (26 : Nat) "MergeWorkbench$Comparison" "pairing" "LMergeWorkbench$Alignment;") ∈ jwd := jw_4 (i := 63) rfl rfl
theorem wd_4_64 : (Jvm.Cond.fieldLink "MergeWorkbench$Comparison" (35 : Nat) "MergeWorkbench$Comparison" "differenceTable" "LMergeWorkbench$Table;") ∈ jwd := jw_4 (i := 64) rfl rfl
theorem wd_4_65 : (Jvm.Cond.fieldLink "MergeWorkbench$Comparison" (39 : Nat) "MergeWorkbench$Comparison" "steps" "LMergeWorkbench$Lines;") ∈ jwd := jw_4 (i := 65) rfl rfl
theorem wd_4_66 : (Jvm.Cond.fieldLink "MergeWorkbench$Comparison" (42 : Nat) "MergeWorkbench$Comparison" "moves" "LMergeWorkbench$Table;") ∈ jwd := jw_4 (i := 66) rfl rfl
theorem wd_4_67 : (Jvm.Cond.fieldLink "MergeWorkbench$Comparison" (45 : Nat) "MergeWorkbench$Comparison" "freeInA" "LMergeWorkbench$Lines;") ∈ jwd := jw_4 (i := 67) rfl rfl
theorem wd_4_68 : (Jvm.Cond.fieldLink "MergeWorkbench$Comparison" (48 : Nat) "MergeWorkbench$Comparison" "freeInB" "LMergeWorkbench$Lines;") ∈ jwd := jw_4 (i := 68) rfl rfl
theorem wd_4_69 : (Jvm.Cond.fieldLink "MergeWorkbench$Comparison" (51 : Nat) "MergeWorkbench$Comparison" "made" "Z") ∈ jwd := jw_4 (i := 69) rfl rfl
theorem wd_4_70 : (Jvm.Cond.laysFinal "MergeWorkbench$Comparison" "MergeWorkbench$Comparison" "a" "LMergeWorkbench$Lines;") ∈ jwd := jw_4 (i := 70) rfl rfl
theorem wd_4_72 : (Jvm.Cond.laysFinal "MergeWorkbench$Comparison" "MergeWorkbench$Comparison" "b" "LMergeWorkbench$Lines;") ∈ jwd := jw_4 (i := 72) rfl rfl
theorem wd_4_74 : (Jvm.Cond.laysFinal "MergeWorkbench$Comparison" "MergeWorkbench$Comparison" "pairing" "LMergeWorkbench$Alignment;") ∈ jwd := jw_4 (i := 74) rfl rfl
theorem wd_4_76 : (Jvm.Cond.laysFinal "MergeWorkbench$Comparison" "MergeWorkbench$Comparison" "differenceTable" "LMergeWorkbench$Table;") ∈ jwd := jw_4 (i := 76) rfl rfl
theorem wd_4_78 : (Jvm.Cond.laysFinal "MergeWorkbench$Comparison" "MergeWorkbench$Comparison" "steps" "LMergeWorkbench$Lines;") ∈ jwd := jw_4 (i := 78) rfl rfl
theorem wd_4_80 : (Jvm.Cond.laysFinal "MergeWorkbench$Comparison" "MergeWorkbench$Comparison" "moves" "LMergeWorkbench$Table;") ∈ jwd := jw_4 (i := 80) rfl rfl
theorem wd_4_82 : (Jvm.Cond.laysFinal "MergeWorkbench$Comparison" "MergeWorkbench$Comparison" "freeInA" "LMergeWorkbench$Lines;") ∈ jwd := jw_4 (i := 82) rfl rfl
theorem wd_4_84 : (Jvm.Cond.laysFinal "MergeWorkbench$Comparison" "MergeWorkbench$Comparison" "freeInB" "LMergeWorkbench$Lines;") ∈ jwd := jw_4 (i := 84) rfl rfl
theorem wd_4_86 : (Jvm.Cond.lays "MergeWorkbench$Comparison" "MergeWorkbench$Comparison" "made" "Z") ∈ jwd := jw_4 (i := 86) rfl rfl
theorem wd_4_89 : (Jvm.Cond.classLink "MergeWorkbench" (56 : Nat) "MergeWorkbench$Merge") ∈ jwd := jw_4 (i := 89) rfl rfl
theorem wd_4_91 : (Jvm.Cond.instanceMethod ({ cls := "MergeWorkbench$Merge", name := "<init>", desc := "()V" } : Jvm.MethodName)) ∈ jwd := jw_4 (i := 91) rfl rfl
theorem wd_4_92 : (Jvm.Cond.code ({ cls := "MergeWorkbench$Merge", name := "<init>", desc := "()V" } : Jvm.MethodName) prog_7_method_1_code (1 : Nat) (Option.none : Option Jvm.ClassFile.FieldType)) ∈ jwd := jw_4 (i := 92) rfl rfl
theorem wd_4_93 : (Jvm.Cond.methodLink "MergeWorkbench$Merge" (3 : Nat) ({ cls := "java/lang/Object", name := "<init>", desc := "()V" } : Jvm.MethodName)) ∈ jwd := jw_4 (i := 93) rfl rfl
theorem wd_4_94 : (Jvm.Cond.classLink "MergeWorkbench$Merge" (9 : Nat) "MergeWorkbench$Lines") ∈ jwd := jw_4 (i := 94) rfl rfl
theorem wd_4_95 : (Jvm.Cond.methodLink "MergeWorkbench$Merge" (11 : Nat) ({ cls := "MergeWorkbench$Lines", name := "<init>", desc := "(I)V" } : Jvm.MethodName)) ∈ jwd := jw_4 (i := 95) rfl rfl
theorem wd_4_96 : (Jvm.Cond.classLink "MergeWorkbench$Merge" (26 : Nat) "MergeWorkbench$Alignment") ∈ jwd := jw_4 (i := 96) rfl rfl
theorem wd_4_97 : (Jvm.Cond.methodLink "MergeWorkbench$Merge" (28 : Nat) ({ cls := "MergeWorkbench$Alignment", name := "<init>", desc := "()V" } : Jvm.MethodName)) ∈ jwd := jw_4 (i := 97) rfl rfl
theorem wd_4_98 : (Jvm.Cond.classLink "MergeWorkbench$Merge" (36 : Nat) "MergeWorkbench$Table") ∈ jwd := jw_4 (i := 98) rfl rfl
theorem wd_4_99 : (Jvm.Cond.methodLink "MergeWorkbench$Merge" (38 : Nat) ({ cls := "MergeWorkbench$Table", name := "<init>", desc := "(II)V" } : Jvm.MethodName)) ∈ jwd := jw_4 (i := 99) rfl rfl
theorem wd_4_100 : (Jvm.Cond.fieldLink "MergeWorkbench$Merge" (14 : Nat) "MergeWorkbench$Merge" "base" "LMergeWorkbench$Lines;") ∈ jwd := jw_4 (i := 100) rfl rfl
theorem wd_4_101 : (Jvm.Cond.fieldLink "MergeWorkbench$Merge" (20 : Nat) "MergeWorkbench$Merge" "left" "LMergeWorkbench$Lines;") ∈ jwd := jw_4 (i := 101) rfl rfl
theorem wd_4_102 : (Jvm.Cond.fieldLink "MergeWorkbench$Merge" (23 : Nat) "MergeWorkbench$Merge" "right" "LMergeWorkbench$Lines;") ∈ jwd := jw_4 (i := 102) rfl rfl
theorem wd_4_103 : (Jvm.Cond.fieldLink "MergeWorkbench$Merge" (29 : Nat) "MergeWorkbench$Merge" "toLeft" "LMergeWorkbench$Alignment;") ∈ jwd := jw_4 (i := 103) rfl rfl
theorem wd_4_104 : (Jvm.Cond.fieldLink "MergeWorkbench$Merge" (33 : Nat) "MergeWorkbench$Merge" "toRight" "LMergeWorkbench$Alignment;") ∈ jwd := jw_4 (i := 104) rfl rfl
theorem wd_4_105 : (Jvm.Cond.fieldLink "MergeWorkbench$Merge" (41 : Nat) "MergeWorkbench$Merge" "chunkTable" "LMergeWorkbench$Table;") ∈ jwd := jw_4 (i := 105) rfl rfl
theorem wd_4_106 : (Jvm.Cond.fieldLink "MergeWorkbench$Merge" (45 : Nat) "MergeWorkbench$Merge" "conflictRows" "LMergeWorkbench$Lines;") ∈ jwd := jw_4 (i := 106) rfl rfl
theorem wd_4_107 : (Jvm.Cond.fieldLink "MergeWorkbench$Merge" (48 : Nat) "MergeWorkbench$Merge" "result" "LMergeWorkbench$Lines;") ∈ jwd := jw_4 (i := 107) rfl rfl
theorem wd_4_108 : (Jvm.Cond.fieldLink "MergeWorkbench$Merge" (51 : Nat) "MergeWorkbench$Merge" "made" "Z") ∈ jwd := jw_4 (i := 108) rfl rfl
theorem wd_4_109 : (Jvm.Cond.laysFinal "MergeWorkbench$Merge" "MergeWorkbench$Merge" "base" "LMergeWorkbench$Lines;") ∈ jwd := jw_4 (i := 109) rfl rfl
theorem wd_4_111 : (Jvm.Cond.laysFinal "MergeWorkbench$Merge" "MergeWorkbench$Merge" "left" "LMergeWorkbench$Lines;") ∈ jwd := jw_4 (i := 111) rfl rfl
theorem wd_4_113 : (Jvm.Cond.laysFinal "MergeWorkbench$Merge" "MergeWorkbench$Merge" "right" "LMergeWorkbench$Lines;") ∈ jwd := jw_4 (i := 113) rfl rfl
theorem wd_4_115 : (Jvm.Cond.laysFinal "MergeWorkbench$Merge" "MergeWorkbench$Merge" "toLeft" "LMergeWorkbench$Alignment;") ∈ jwd := jw_4 (i := 115) rfl rfl
theorem wd_4_117 : (Jvm.Cond.laysFinal "MergeWorkbench$Merge" "MergeWorkbench$Merge" "toRight" "LMergeWorkbench$Alignment;") ∈ jwd := jw_4 (i := 117) rfl rfl
theorem wd_4_119 : (Jvm.Cond.laysFinal "MergeWorkbench$Merge" "MergeWorkbench$Merge" "chunkTable" "LMergeWorkbench$Table;") ∈ jwd := jw_4 (i := 119) rfl rfl
theorem wd_4_121 : (Jvm.Cond.laysFinal "MergeWorkbench$Merge" "MergeWorkbench$Merge" "conflictRows" "LMergeWorkbench$Lines;") ∈ jwd := jw_4 (i := 121) rfl rfl
theorem wd_4_123 : (Jvm.Cond.laysFinal "MergeWorkbench$Merge" "MergeWorkbench$Merge" "result" "LMergeWorkbench$Lines;") ∈ jwd := jw_4 (i := 123) rfl rfl
theorem wd_4_125 : (Jvm.Cond.lays "MergeWorkbench$Merge" "MergeWorkbench$Merge" "made" "Z") ∈ jwd := jw_4 (i := 125) rfl rfl
theorem wd_4_128 : (Jvm.Cond.classLink "MergeWorkbench" (63 : Nat) "MergeWorkbench$Patch") ∈ jwd := jw_4 (i := 128) rfl rfl
theorem wd_4_130 : (Jvm.Cond.instanceMethod ({ cls := "MergeWorkbench$Patch", name := "<init>", desc := "()V" } : Jvm.MethodName)) ∈ jwd := jw_4 (i := 130) rfl rfl
theorem wd_4_131 : (Jvm.Cond.code ({ cls := "MergeWorkbench$Patch", name := "<init>", desc := "()V" } : Jvm.MethodName) prog_8_method_1_code (1 : Nat) (Option.none : Option Jvm.ClassFile.FieldType)) ∈ jwd := jw_4 (i := 131) rfl rfl
theorem wd_4_132 : (Jvm.Cond.methodLink "MergeWorkbench$Patch" (3 : Nat) ({ cls := "java/lang/Object", name := "<init>", desc := "()V" } : Jvm.MethodName)) ∈ jwd := jw_4 (i := 132) rfl rfl
theorem wd_4_133 : (Jvm.Cond.classLink "MergeWorkbench$Patch" (9 : Nat) "MergeWorkbench$Lines") ∈ jwd := jw_4 (i := 133) rfl rfl
theorem wd_4_134 : (Jvm.Cond.methodLink "MergeWorkbench$Patch" (11 : Nat) ({ cls := "MergeWorkbench$Lines", name := "<init>", desc := "(I)V" } : Jvm.MethodName)) ∈ jwd := jw_4 (i := 134) rfl rfl
theorem wd_4_135 : (Jvm.Cond.classLink "MergeWorkbench$Patch" (23 : Nat) "MergeWorkbench$Table") ∈ jwd := jw_4 (i := 135) rfl rfl
theorem wd_4_136 : (Jvm.Cond.methodLink "MergeWorkbench$Patch" (25 : Nat) ({ cls := "MergeWorkbench$Table", name := "<init>", desc := "(II)V" } : Jvm.MethodName)) ∈ jwd := jw_4 (i := 136) rfl rfl
theorem wd_4_137 : (Jvm.Cond.fieldLink "MergeWorkbench$Patch" (14 : Nat) "MergeWorkbench$Patch" "first" "LMergeWorkbench$Lines;") ∈ jwd := jw_4 (i := 137) rfl rfl
theorem wd_4_138 : (Jvm.Cond.fieldLink "MergeWorkbench$Patch" (20 : Nat) "MergeWorkbench$Patch" "second" "LMergeWorkbench$Lines;") ∈ jwd := jw_4 (i := 138) rfl rfl
theorem wd_4_139 : (Jvm.Cond.fieldLink "MergeWorkbench$Patch" (28 : Nat) "MergeWorkbench$Patch" "hunkTable" "LMergeWorkbench$Table;") ∈ jwd := jw_4 (i := 139) rfl rfl
theorem wd_4_140 : (Jvm.Cond.fieldLink "MergeWorkbench$Patch" (32 : Nat) "MergeWorkbench$Patch" "trials" "LMergeWorkbench$Table;") ∈ jwd := jw_4 (i := 140) rfl rfl
theorem wd_4_141 : (Jvm.Cond.fieldLink "MergeWorkbench$Patch" (35 : Nat) "MergeWorkbench$Patch" "kept" "LMergeWorkbench$Table;") ∈ jwd := jw_4 (i := 141) rfl rfl
theorem wd_4_142 : (Jvm.Cond.fieldLink "MergeWorkbench$Patch" (38 : Nat) "MergeWorkbench$Patch" "result" "LMergeWorkbench$Lines;") ∈ jwd := jw_4 (i := 142) rfl rfl
theorem wd_4_143 : (Jvm.Cond.fieldLink "MergeWorkbench$Patch" (98 : Nat) "MergeWorkbench$Patch" "shift" "I") ∈ jwd := jw_4 (i := 143) rfl rfl
theorem wd_4_144 : (Jvm.Cond.fieldLink "MergeWorkbench$Patch" (102 : Nat) "MergeWorkbench$Patch" "replacedEnd" "I") ∈ jwd := jw_4 (i := 144) rfl rfl
theorem wd_4_145 : (Jvm.Cond.fieldLink "MergeWorkbench$Patch" (41 : Nat) "MergeWorkbench$Patch" "made" "Z") ∈ jwd := jw_4 (i := 145) rfl rfl
theorem wd_4_146 : (Jvm.Cond.laysFinal "MergeWorkbench$Patch" "MergeWorkbench$Patch" "first" "LMergeWorkbench$Lines;") ∈ jwd := jw_4 (i := 146) rfl rfl
theorem wd_4_148 : (Jvm.Cond.laysFinal "MergeWorkbench$Patch" "MergeWorkbench$Patch" "second" "LMergeWorkbench$Lines;") ∈ jwd := jw_4 (i := 148) rfl rfl
theorem wd_4_150 : (Jvm.Cond.laysFinal "MergeWorkbench$Patch" "MergeWorkbench$Patch" "hunkTable" "LMergeWorkbench$Table;") ∈ jwd := jw_4 (i := 150) rfl rfl
theorem wd_4_152 : (Jvm.Cond.laysFinal "MergeWorkbench$Patch" "MergeWorkbench$Patch" "trials" "LMergeWorkbench$Table;") ∈ jwd := jw_4 (i := 152) rfl rfl
theorem wd_4_154 : (Jvm.Cond.laysFinal "MergeWorkbench$Patch" "MergeWorkbench$Patch" "kept" "LMergeWorkbench$Table;") ∈ jwd := jw_4 (i := 154) rfl rfl
theorem wd_4_156 : (Jvm.Cond.laysFinal "MergeWorkbench$Patch" "MergeWorkbench$Patch" "result" "LMergeWorkbench$Lines;") ∈ jwd := jw_4 (i := 156) rfl rfl
theorem wd_4_158 : (Jvm.Cond.lays "MergeWorkbench$Patch" "MergeWorkbench$Patch" "shift" "I") ∈ jwd := jw_4 (i := 158) rfl rfl
theorem wd_4_160 : (Jvm.Cond.lays "MergeWorkbench$Patch" "MergeWorkbench$Patch" "replacedEnd" "I") ∈ jwd := jw_4 (i := 160) rfl rfl
theorem wd_4_162 : (Jvm.Cond.lays "MergeWorkbench$Patch" "MergeWorkbench$Patch" "made" "Z") ∈ jwd := jw_4 (i := 162) rfl rfl
theorem wd_4_165 : (Jvm.Cond.fieldLink "MergeWorkbench" (14 : Nat) "MergeWorkbench" "documents" "LMergeWorkbench$Shelf;") ∈ jwd := jw_4 (i := 165) rfl rfl
theorem wd_4_166 : (Jvm.Cond.fieldLink "MergeWorkbench" (18 : Nat) "MergeWorkbench" "savedDocuments" "LMergeWorkbench$Shelf;") ∈ jwd := jw_4 (i := 166) rfl rfl
theorem wd_4_167 : (Jvm.Cond.fieldLink "MergeWorkbench" (24 : Nat) "MergeWorkbench" "history" "LMergeWorkbench$History;") ∈ jwd := jw_4 (i := 167) rfl rfl
theorem wd_4_168 : (Jvm.Cond.fieldLink "MergeWorkbench" (31 : Nat) "MergeWorkbench" "input" "LMergeWorkbench$Input;") ∈ jwd := jw_4 (i := 168) rfl rfl
theorem wd_4_169 : (Jvm.Cond.fieldLink "MergeWorkbench" (38 : Nat) "MergeWorkbench" "expansion" "LMergeWorkbench$Lines;") ∈ jwd := jw_4 (i := 169) rfl rfl
theorem wd_4_170 : (Jvm.Cond.fieldLink "MergeWorkbench" (45 : Nat) "MergeWorkbench" "measuring" "LMergeWorkbench$Alignment;") ∈ jwd := jw_4 (i := 170) rfl rfl
theorem wd_4_171 : (Jvm.Cond.fieldLink "MergeWorkbench" (52 : Nat) "MergeWorkbench" "lastComparison" "LMergeWorkbench$Comparison;") ∈ jwd := jw_4 (i := 171) rfl rfl
theorem wd_4_172 : (Jvm.Cond.fieldLink "MergeWorkbench" (59 : Nat) "MergeWorkbench" "lastMerge" "LMergeWorkbench$Merge;") ∈ jwd := jw_4 (i := 172) rfl rfl
theorem wd_4_173 : (Jvm.Cond.fieldLink "MergeWorkbench" (66 : Nat) "MergeWorkbench" "lastPatch" "LMergeWorkbench$Patch;") ∈ jwd := jw_4 (i := 173) rfl rfl
theorem wd_4_174 : (Jvm.Cond.fieldLink "MergeWorkbench" (70 : Nat) "MergeWorkbench" "currentMode" "I") ∈ jwd := jw_4 (i := 174) rfl rfl
theorem wd_4_175 : (Jvm.Cond.fieldLink "MergeWorkbench" (74 : Nat) "MergeWorkbench" "savedMode" "I") ∈ jwd := jw_4 (i := 175) rfl rfl
theorem wd_4_176 : (Jvm.Cond.fieldLink "MergeWorkbench" (77 : Nat) "MergeWorkbench" "hasSaved" "Z") ∈ jwd := jw_4 (i := 176) rfl rfl
theorem wd_4_177 : (Jvm.Cond.fieldLink "MergeWorkbench" (81 : Nat) "MergeWorkbench" "shrinking" "Z") ∈ jwd := jw_4 (i := 177) rfl rfl
theorem wd_4_178 : (Jvm.Cond.laysFinal "MergeWorkbench" "MergeWorkbench" "documents" "LMergeWorkbench$Shelf;") ∈ jwd := jw_4 (i := 178) rfl rfl
theorem wd_4_180 : (Jvm.Cond.laysFinal "MergeWorkbench" "MergeWorkbench" "savedDocuments" "LMergeWorkbench$Shelf;") ∈ jwd := jw_4 (i := 180) rfl rfl
theorem wd_4_182 : (Jvm.Cond.laysFinal "MergeWorkbench" "MergeWorkbench" "history" "LMergeWorkbench$History;") ∈ jwd := jw_4 (i := 182) rfl rfl
theorem wd_4_184 : (Jvm.Cond.laysFinal "MergeWorkbench" "MergeWorkbench" "input" "LMergeWorkbench$Input;") ∈ jwd := jw_4 (i := 184) rfl rfl
theorem wd_4_186 : (Jvm.Cond.laysFinal "MergeWorkbench" "MergeWorkbench" "expansion" "LMergeWorkbench$Lines;") ∈ jwd := jw_4 (i := 186) rfl rfl
theorem wd_4_188 : (Jvm.Cond.laysFinal "MergeWorkbench" "MergeWorkbench" "measuring" "LMergeWorkbench$Alignment;") ∈ jwd := jw_4 (i := 188) rfl rfl
theorem wd_4_190 : (Jvm.Cond.laysFinal "MergeWorkbench" "MergeWorkbench" "lastComparison" "LMergeWorkbench$Comparison;") ∈ jwd := jw_4 (i := 190) rfl rfl
theorem wd_4_192 : (Jvm.Cond.laysFinal "MergeWorkbench" "MergeWorkbench" "lastMerge" "LMergeWorkbench$Merge;") ∈ jwd := jw_4 (i := 192) rfl rfl
theorem wd_4_194 : (Jvm.Cond.laysFinal "MergeWorkbench" "MergeWorkbench" "lastPatch" "LMergeWorkbench$Patch;") ∈ jwd := jw_4 (i := 194) rfl rfl
theorem wd_4_196 : (Jvm.Cond.lays "MergeWorkbench" "MergeWorkbench" "currentMode" "I") ∈ jwd := jw_4 (i := 196) rfl rfl
theorem wd_4_198 : (Jvm.Cond.lays "MergeWorkbench" "MergeWorkbench" "savedMode" "I") ∈ jwd := jw_4 (i := 198) rfl rfl
theorem wd_4_200 : (Jvm.Cond.lays "MergeWorkbench" "MergeWorkbench" "hasSaved" "Z") ∈ jwd := jw_4 (i := 200) rfl rfl
theorem wd_4_202 : (Jvm.Cond.lays "MergeWorkbench" "MergeWorkbench" "shrinking" "Z") ∈ jwd := jw_4 (i := 202) rfl rfl
theorem wd_4_205 : (Jvm.Cond.methodLink "MergeWorkbenchLaw" (16 : Nat) ({ cls := "MergeWorkbench", name := "append", desc := "(II)I" } : Jvm.MethodName)) ∈ jwd := jw_4 (i := 205) rfl rfl
theorem wd_4_206 : (Jvm.Cond.instanceMethod ({ cls := "MergeWorkbench", name := "append", desc := "(II)I" } : Jvm.MethodName)) ∈ jwd := jw_4 (i := 206) rfl rfl
theorem wd_4_207 : (Jvm.Cond.selects "MergeWorkbench" ({ cls := "MergeWorkbench", name := "append", desc := "(II)I" } : Jvm.MethodName) ({ cls := "MergeWorkbench", name := "append", desc := "(II)I" } : Jvm.MethodName)) ∈ jwd := jw_4 (i := 207) rfl rfl
theorem wd_4_208 : (Jvm.Cond.code ({ cls := "MergeWorkbench", name := "append", desc := "(II)I" } : Jvm.MethodName) prog_1_method_2_code (4 : Nat) (Option.some Jvm.ClassFile.FieldType.int)) ∈ jwd := jw_4 (i := 208) rfl rfl
theorem wd_4_209 : (Jvm.Cond.methodLink "MergeWorkbench" (99 : Nat) ({ cls := "MergeWorkbench$Lines", name := "push", desc := "(I)V" } : Jvm.MethodName)) ∈ jwd := jw_4 (i := 209) rfl rfl
theorem wd_4_210 : (Jvm.Cond.methodLink "MergeWorkbenchLaw" (27 : Nat) ({ cls := "MergeWorkbench", name := "delete", desc := "(II)I" } : Jvm.MethodName)) ∈ jwd := jw_4 (i := 210) rfl rfl
theorem wd_4_211 : (Jvm.Cond.instanceMethod ({ cls := "MergeWorkbench", name := "delete", desc := "(II)I" } : Jvm.MethodName)) ∈ jwd := jw_4 (i := 211) rfl rfl
theorem wd_4_212 : (Jvm.Cond.selects "MergeWorkbench" ({ cls := "MergeWorkbench", name := "delete", desc := "(II)I" } : Jvm.MethodName) ({ cls := "MergeWorkbench", name := "delete", desc := "(II)I" } : Jvm.MethodName)) ∈ jwd := jw_4 (i := 212) rfl rfl
theorem wd_4_213 : (Jvm.Cond.code ({ cls := "MergeWorkbench", name := "delete", desc := "(II)I" } : Jvm.MethodName) prog_1_method_4_code (4 : Nat) (Option.some Jvm.ClassFile.FieldType.int)) ∈ jwd := jw_4 (i := 213) rfl rfl
theorem wd_4_214 : (Jvm.Cond.methodLink "MergeWorkbench" (121 : Nat) ({ cls := "MergeWorkbench$Lines", name := "removeAt", desc := "(I)I" } : Jvm.MethodName)) ∈ jwd := jw_4 (i := 214) rfl rfl
theorem wd_4_215 : (Jvm.Cond.methodLink "MergeWorkbenchLaw" (34 : Nat) ({ cls := "MergeWorkbench", name := "setMode", desc := "(I)I" } : Jvm.MethodName)) ∈ jwd := jw_4 (i := 215) rfl rfl
theorem wd_4_216 : (Jvm.Cond.instanceMethod ({ cls := "MergeWorkbench", name := "setMode", desc := "(I)I" } : Jvm.MethodName)) ∈ jwd := jw_4 (i := 216) rfl rfl
theorem wd_4_217 : (Jvm.Cond.selects "MergeWorkbench" ({ cls := "MergeWorkbench", name := "setMode", desc := "(I)I" } : Jvm.MethodName) ({ cls := "MergeWorkbench", name := "setMode", desc := "(I)I" } : Jvm.MethodName)) ∈ jwd := jw_4 (i := 217) rfl rfl
theorem wd_4_218 : (Jvm.Cond.code ({ cls := "MergeWorkbench", name := "setMode", desc := "(I)I" } : Jvm.MethodName) prog_1_method_12_code (3 : Nat) (Option.some Jvm.ClassFile.FieldType.int)) ∈ jwd := jw_4 (i := 218) rfl rfl
theorem wd_4_220 : (Jvm.Cond.methodLink "MergeWorkbenchLaw" (37 : Nat) ({ cls := "MergeWorkbench", name := "setShrinking", desc := "(Z)Z" } : Jvm.MethodName)) ∈ jwd := jw_4 (i := 220) rfl rfl
theorem wd_4_221 : (Jvm.Cond.instanceMethod ({ cls := "MergeWorkbench", name := "setShrinking", desc := "(Z)Z" } : Jvm.MethodName)) ∈ jwd := jw_4 (i := 221) rfl rfl
theorem wd_4_222 : (Jvm.Cond.selects "MergeWorkbench" ({ cls := "MergeWorkbench", name := "setShrinking", desc := "(Z)Z" } : Jvm.MethodName) ({ cls := "MergeWorkbench", name := "setShrinking", desc := "(Z)Z" } : Jvm.MethodName)) ∈ jwd := jw_4 (i := 222) rfl rfl
theorem wd_4_223 : (Jvm.Cond.code ({ cls := "MergeWorkbench", name := "setShrinking", desc := "(Z)Z" } : Jvm.MethodName) prog_1_method_22_code (3 : Nat) (Option.some Jvm.ClassFile.FieldType.boolean)) ∈ jwd := jw_4 (i := 223) rfl rfl
theorem wd_4_224 : (Jvm.Cond.methodLink "MergeWorkbenchLaw" (77 : Nat) ({ cls := "MergeWorkbenchLaw", name := "applied", desc := "(LMergeWorkbench;)I" } : Jvm.MethodName)) ∈ jwd := jw_4 (i := 224) rfl rfl
theorem wd_4_225 : (Jvm.Cond.static ({ cls := "MergeWorkbenchLaw", name := "applied", desc := "(LMergeWorkbench;)I" } : Jvm.MethodName)) ∈ jwd := jw_4 (i := 225) rfl rfl
theorem wd_4_226 : (Jvm.Cond.codeWith ({ cls := "MergeWorkbenchLaw", name := "applied", desc := "(LMergeWorkbench;)I" } : Jvm.MethodName) method_4_code (2 : Nat) (Option.some Jvm.ClassFile.FieldType.int) [((0 : Nat), (7 : Nat), (8 : Nat), (45 : Nat))]) ∈ jwd := jw_4 (i := 226) rfl rfl
theorem wd_4_227 : (Jvm.Cond.classLink "MergeWorkbenchLaw" (45 : Nat) "java/lang/UnsupportedOperationException") ∈ jwd := jw_4 (i := 227) rfl rfl
theorem wd_4_228 : (Jvm.Cond.methodLink "MergeWorkbenchLaw" (41 : Nat) ({ cls := "MergeWorkbench", name := "apply", desc := "(IIZ)I" } : Jvm.MethodName)) ∈ jwd := jw_4 (i := 228) rfl rfl
theorem wd_4_229 : (Jvm.Cond.instanceMethod ({ cls := "MergeWorkbench", name := "apply", desc := "(IIZ)I" } : Jvm.MethodName)) ∈ jwd := jw_4 (i := 229) rfl rfl
theorem wd_4_230 : (Jvm.Cond.selects "MergeWorkbench" ({ cls := "MergeWorkbench", name := "apply", desc := "(IIZ)I" } : Jvm.MethodName) ({ cls := "MergeWorkbench", name := "apply", desc := "(IIZ)I" } : Jvm.MethodName)) ∈ jwd := jw_4 (i := 230) rfl rfl
theorem wd_4_231 : (Jvm.Cond.code ({ cls := "MergeWorkbench", name := "apply", desc := "(IIZ)I" } : Jvm.MethodName) prog_1_method_33_code (6 : Nat) (Option.some Jvm.ClassFile.FieldType.int)) ∈ jwd := jw_4 (i := 231) rfl rfl
theorem wd_4_233 : (Jvm.Cond.methodLink "MergeWorkbench" (279 : Nat) ({ cls := "MergeWorkbench$Patch", name := "attempt", desc := "(LMergeWorkbench$Lines;IZ)LMergeWorkbench$Lines;" } : Jvm.MethodName)) ∈ jwd := jw_4 (i := 233) rfl rfl
theorem wd_4_234 : (Jvm.Cond.instanceMethod ({ cls := "MergeWorkbench$Patch", name := "attempt", desc := "(LMergeWorkbench$Lines;IZ)LMergeWorkbench$Lines;" } : Jvm.MethodName)) ∈ jwd := jw_4 (i := 234) rfl rfl
theorem wd_4_235 : (Jvm.Cond.selects "MergeWorkbench$Patch" ({ cls := "MergeWorkbench$Patch", name := "attempt", desc := "(LMergeWorkbench$Lines;IZ)LMergeWorkbench$Lines;" } : Jvm.MethodName) ({ cls := "MergeWorkbench$Patch", name := "attempt", desc := "(LMergeWorkbench$Lines;IZ)LMergeWorkbench$Lines;" } : Jvm.MethodName)) ∈ jwd := jw_4 (i := 235) rfl rfl
theorem wd_4_236 : (Jvm.Cond.code ({ cls := "MergeWorkbench$Patch", name := "attempt", desc := "(LMergeWorkbench$Lines;IZ)LMergeWorkbench$Lines;" } : Jvm.MethodName) prog_8_method_8_code (5 : Nat) (Option.some (Jvm.ClassFile.FieldType.object "MergeWorkbench$Lines"))) ∈ jwd := jw_4 (i := 236) rfl rfl
theorem wd_4_237 : (Jvm.Cond.methodLink "MergeWorkbench$Patch" (105 : Nat) ({ cls := "MergeWorkbench$Lines", name := "clear", desc := "()V" } : Jvm.MethodName)) ∈ jwd := jw_4 (i := 237) rfl rfl
theorem wd_4_238 : (Jvm.Cond.methodLink "MergeWorkbench$Patch" (106 : Nat) ({ cls := "MergeWorkbench$Patch", name := "attemptHunk", desc := "(LMergeWorkbench$Lines;IIZ)V" } : Jvm.MethodName)) ∈ jwd := jw_4 (i := 238) rfl rfl
theorem wd_5_0 : (Jvm.Cond.instanceMethod ({ cls := "MergeWorkbench$Patch", name := "attemptHunk", desc := "(LMergeWorkbench$Lines;IIZ)V" } : Jvm.MethodName)) ∈ jwd := jw_5 (i := 0) rfl rfl
theorem wd_5_1 : (Jvm.Cond.code ({ cls := "MergeWorkbench$Patch", name := "attemptHunk", desc := "(LMergeWorkbench$Lines;IIZ)V" } : Jvm.MethodName) prog_8_method_9_code (11 : Nat) (Option.none : Option Jvm.ClassFile.FieldType)) ∈ jwd := jw_5 (i := 1) rfl rfl
theorem wd_5_2 : (Jvm.Cond.methodLink "MergeWorkbench$Patch" (114 : Nat) ({ cls := "MergeWorkbench$Patch", name := "partBegin", desc := "(III)I" } : Jvm.MethodName)) ∈ jwd := jw_5 (i := 2) rfl rfl
theorem wd_5_4 : (Jvm.Cond.instanceMethod ({ cls := "MergeWorkbench$Patch", name := "partBegin", desc := "(III)I" } : Jvm.MethodName)) ∈ jwd := jw_5 (i := 4) rfl rfl
theorem wd_5_5 : (Jvm.Cond.code ({ cls := "MergeWorkbench$Patch", name := "partBegin", desc := "(III)I" } : Jvm.MethodName) prog_8_method_11_code (4 : Nat) (Option.some Jvm.ClassFile.FieldType.int)) ∈ jwd := jw_5 (i := 5) rfl rfl
theorem wd_5_6 : (Jvm.Cond.methodLink "MergeWorkbench$Patch" (118 : Nat) ({ cls := "MergeWorkbench$Patch", name := "partEnd", desc := "(III)I" } : Jvm.MethodName)) ∈ jwd := jw_5 (i := 6) rfl rfl
theorem wd_5_8 : (Jvm.Cond.instanceMethod ({ cls := "MergeWorkbench$Patch", name := "partEnd", desc := "(III)I" } : Jvm.MethodName)) ∈ jwd := jw_5 (i := 8) rfl rfl
theorem wd_5_9 : (Jvm.Cond.code ({ cls := "MergeWorkbench$Patch", name := "partEnd", desc := "(III)I" } : Jvm.MethodName) prog_8_method_12_code (5 : Nat) (Option.some Jvm.ClassFile.FieldType.int)) ∈ jwd := jw_5 (i := 9) rfl rfl
theorem wd_5_10 : (Jvm.Cond.methodLink "MergeWorkbench$Patch" (121 : Nat) ({ cls := "MergeWorkbench$Patch", name := "findFit", desc := "(LMergeWorkbench$Lines;LMergeWorkbench$Lines;II)I" } : Jvm.MethodName)) ∈ jwd := jw_5 (i := 10) rfl rfl
theorem wd_5_12 : (Jvm.Cond.instanceMethod ({ cls := "MergeWorkbench$Patch", name := "findFit", desc := "(LMergeWorkbench$Lines;LMergeWorkbench$Lines;II)I" } : Jvm.MethodName)) ∈ jwd := jw_5 (i := 12) rfl rfl
theorem wd_5_13 : (Jvm.Cond.code ({ cls := "MergeWorkbench$Patch", name := "findFit", desc := "(LMergeWorkbench$Lines;LMergeWorkbench$Lines;II)I" } : Jvm.MethodName) prog_8_method_13_code (7 : Nat) (Option.some Jvm.ClassFile.FieldType.int)) ∈ jwd := jw_5 (i := 13) rfl rfl
theorem wd_5_14 : (Jvm.Cond.methodLink "MergeWorkbench$Patch" (132 : Nat) ({ cls := "MergeWorkbench$Patch", name := "fits", desc := "(LMergeWorkbench$Lines;ILMergeWorkbench$Lines;II)Z" } : Jvm.MethodName)) ∈ jwd := jw_5 (i := 14) rfl rfl
theorem wd_5_16 : (Jvm.Cond.instanceMethod ({ cls := "MergeWorkbench$Patch", name := "fits", desc := "(LMergeWorkbench$Lines;ILMergeWorkbench$Lines;II)Z" } : Jvm.MethodName)) ∈ jwd := jw_5 (i := 16) rfl rfl
theorem wd_5_17 : (Jvm.Cond.code ({ cls := "MergeWorkbench$Patch", name := "fits", desc := "(LMergeWorkbench$Lines;ILMergeWorkbench$Lines;II)Z" } : Jvm.MethodName) prog_8_method_14_code (7 : Nat) (Option.some Jvm.ClassFile.FieldType.boolean)) ∈ jwd := jw_5 (i := 17) rfl rfl
theorem wd_5_18 : (Jvm.Cond.methodLink "MergeWorkbench$Patch" (136 : Nat) ({ cls := "MergeWorkbench$Lines", name := "samePart", desc := "(IILMergeWorkbench$Lines;II)Z" } : Jvm.MethodName)) ∈ jwd := jw_5 (i := 18) rfl rfl
theorem wd_5_19 : (Jvm.Cond.methodLink "MergeWorkbench$Patch" (110 : Nat) ({ cls := "MergeWorkbench$Lines", name := "pushPart", desc := "(LMergeWorkbench$Lines;II)V" } : Jvm.MethodName)) ∈ jwd := jw_5 (i := 19) rfl rfl
theorem wd_5_20 : (Jvm.Cond.methodLink "MergeWorkbench$Patch" (125 : Nat) ({ cls := "MergeWorkbench$Patch", name := "pushNewPart", desc := "(IIZ)V" } : Jvm.MethodName)) ∈ jwd := jw_5 (i := 20) rfl rfl
theorem wd_5_22 : (Jvm.Cond.instanceMethod ({ cls := "MergeWorkbench$Patch", name := "pushNewPart", desc := "(IIZ)V" } : Jvm.MethodName)) ∈ jwd := jw_5 (i := 22) rfl rfl
theorem wd_5_23 : (Jvm.Cond.code ({ cls := "MergeWorkbench$Patch", name := "pushNewPart", desc := "(IIZ)V" } : Jvm.MethodName) prog_8_method_10_code (6 : Nat) (Option.none : Option Jvm.ClassFile.FieldType)) ∈ jwd := jw_5 (i := 23) rfl rfl
theorem wd_5_24 : (Jvm.Cond.methodLink "MergeWorkbench$Patch" (129 : Nat) ({ cls := "MergeWorkbench$Table", name := "addPair", desc := "(II)V" } : Jvm.MethodName)) ∈ jwd := jw_5 (i := 24) rfl rfl
theorem wd_5_25 : (Jvm.Cond.instanceMethod ({ cls := "MergeWorkbench$Table", name := "addPair", desc := "(II)V" } : Jvm.MethodName)) ∈ jwd := jw_5 (i := 25) rfl rfl
theorem wd_5_26 : (Jvm.Cond.selects "MergeWorkbench$Table" ({ cls := "MergeWorkbench$Table", name := "addPair", desc := "(II)V" } : Jvm.MethodName) ({ cls := "MergeWorkbench$Table", name := "addPair", desc := "(II)V" } : Jvm.MethodName)) ∈ jwd := jw_5 (i := 26) rfl rfl
theorem wd_5_27 : (Jvm.Cond.code ({ cls := "MergeWorkbench$Table", name := "addPair", desc := "(II)V" } : Jvm.MethodName) prog_10_method_8_code (4 : Nat) (Option.none : Option Jvm.ClassFile.FieldType)) ∈ jwd := jw_5 (i := 27) rfl rfl
theorem wd_5_28 : (Jvm.Cond.methodLink "MergeWorkbench$Table" (26 : Nat) ({ cls := "MergeWorkbench$Table", name := "addRow", desc := "()I" } : Jvm.MethodName)) ∈ jwd := jw_5 (i := 28) rfl rfl
theorem wd_5_29 : (Jvm.Cond.classLink "MergeWorkbench" (263 : Nat) "java/lang/UnsupportedOperationException") ∈ jwd := jw_5 (i := 29) rfl rfl
theorem wd_5_30 : (Jvm.Cond.instantiable "java/lang/UnsupportedOperationException" (6 : Nat)) ∈ jwd := jw_5 (i := 30) rfl rfl
theorem wd_5_32 : (Jvm.Cond.selects "java/lang/UnsupportedOperationException" ({ cls := "java/lang/Throwable", name := "fillInStackTrace", desc := "(I)Ljava/lang/Throwable;" } : Jvm.MethodName) ({ cls := "java/lang/Throwable", name := "fillInStackTrace", desc := "(I)Ljava/lang/Throwable;" } : Jvm.MethodName)) ∈ jwd := jw_5 (i := 32) rfl rfl
theorem wd_5_33 : (Jvm.Cond.lays "java/lang/UnsupportedOperationException" "java/lang/Throwable" "cause" "Ljava/lang/Throwable;") ∈ jwd := jw_5 (i := 33) rfl rfl
theorem wd_5_34 : (Jvm.Cond.lays "java/lang/UnsupportedOperationException" "java/lang/Throwable" "stackTrace" "[Ljava/lang/StackTraceElement;") ∈ jwd := jw_5 (i := 34) rfl rfl
theorem wd_5_35 : (Jvm.Cond.lays "java/lang/UnsupportedOperationException" "java/lang/Throwable" "suppressedExceptions" "Ljava/util/List;") ∈ jwd := jw_5 (i := 35) rfl rfl
theorem wd_5_36 : (Jvm.Cond.lays "java/lang/UnsupportedOperationException" "java/lang/Throwable" "detailMessage" "Ljava/lang/String;") ∈ jwd := jw_5 (i := 36) rfl rfl
theorem wd_5_37 : (Jvm.Cond.lays "java/lang/UnsupportedOperationException" "java/lang/Throwable" "backtrace" "Ljava/lang/Object;") ∈ jwd := jw_5 (i := 37) rfl rfl
theorem wd_5_38 : (Jvm.Cond.methodLink "MergeWorkbench" (267 : Nat) ({ cls := "java/lang/UnsupportedOperationException", name := "<init>", desc := "(Ljava/lang/String;)V" } : Jvm.MethodName)) ∈ jwd := jw_5 (i := 38) rfl rfl
theorem wd_5_39 : (Jvm.Cond.instanceMethod ({ cls := "java/lang/UnsupportedOperationException", name := "<init>", desc := "(Ljava/lang/String;)V" } : Jvm.MethodName)) ∈ jwd := jw_5 (i := 39) rfl rfl
theorem wd_5_40 : (Jvm.Cond.code ({ cls := "java/lang/UnsupportedOperationException", name := "<init>", desc := "(Ljava/lang/String;)V" } : Jvm.MethodName) prog_22_method_2_code (2 : Nat) (Option.none : Option Jvm.ClassFile.FieldType)) ∈ jwd := jw_5 (i := 40) rfl rfl
theorem wd_5_41 : (Jvm.Cond.methodLink "java/lang/UnsupportedOperationException" (7 : Nat) ({ cls := "java/lang/RuntimeException", name := "<init>", desc := "(Ljava/lang/String;)V" } : Jvm.MethodName)) ∈ jwd := jw_5 (i := 41) rfl rfl
theorem wd_5_42 : (Jvm.Cond.lays "java/lang/UnsupportedOperationException" "java/lang/Throwable" "depth" "I") ∈ jwd := jw_5 (i := 42) rfl rfl
theorem wd_5_44 : (Jvm.Cond.methodLink "MergeWorkbench" (283 : Nat) ({ cls := "MergeWorkbench$Patch", name := "keepOutcomes", desc := "()I" } : Jvm.MethodName)) ∈ jwd := jw_5 (i := 44) rfl rfl
theorem wd_5_45 : (Jvm.Cond.instanceMethod ({ cls := "MergeWorkbench$Patch", name := "keepOutcomes", desc := "()I" } : Jvm.MethodName)) ∈ jwd := jw_5 (i := 45) rfl rfl
theorem wd_5_46 : (Jvm.Cond.selects "MergeWorkbench$Patch" ({ cls := "MergeWorkbench$Patch", name := "keepOutcomes", desc := "()I" } : Jvm.MethodName) ({ cls := "MergeWorkbench$Patch", name := "keepOutcomes", desc := "()I" } : Jvm.MethodName)) ∈ jwd := jw_5 (i := 46) rfl rfl
theorem wd_5_47 : (Jvm.Cond.code ({ cls := "MergeWorkbench$Patch", name := "keepOutcomes", desc := "()I" } : Jvm.MethodName) prog_8_method_15_code (3 : Nat) (Option.some Jvm.ClassFile.FieldType.int)) ∈ jwd := jw_5 (i := 47) rfl rfl
theorem wd_5_48 : (Jvm.Cond.methodLink "MergeWorkbenchLaw" (95 : Nat) ({ cls := "MergeWorkbenchLaw", name := "feed", desc := "(LMergeWorkbench;[C)V" } : Jvm.MethodName)) ∈ jwd := jw_5 (i := 48) rfl rfl
theorem wd_5_49 : (Jvm.Cond.static ({ cls := "MergeWorkbenchLaw", name := "feed", desc := "(LMergeWorkbench;[C)V" } : Jvm.MethodName)) ∈ jwd := jw_5 (i := 49) rfl rfl
theorem wd_5_50 : (Jvm.Cond.code ({ cls := "MergeWorkbenchLaw", name := "feed", desc := "(LMergeWorkbench;[C)V" } : Jvm.MethodName) method_5_code (3 : Nat) (Option.none : Option Jvm.ClassFile.FieldType)) ∈ jwd := jw_5 (i := 50) rfl rfl
theorem wd_5_51 : (Jvm.Cond.methodLink "MergeWorkbenchLaw" (47 : Nat) ({ cls := "MergeWorkbench", name := "feed", desc := "(C)I" } : Jvm.MethodName)) ∈ jwd := jw_5 (i := 51) rfl rfl
theorem wd_5_52 : (Jvm.Cond.instanceMethod ({ cls := "MergeWorkbench", name := "feed", desc := "(C)I" } : Jvm.MethodName)) ∈ jwd := jw_5 (i := 52) rfl rfl
theorem wd_5_53 : (Jvm.Cond.selects "MergeWorkbench" ({ cls := "MergeWorkbench", name := "feed", desc := "(C)I" } : Jvm.MethodName) ({ cls := "MergeWorkbench", name := "feed", desc := "(C)I" } : Jvm.MethodName)) ∈ jwd := jw_5 (i := 53) rfl rfl
theorem wd_5_54 : (Jvm.Cond.code ({ cls := "MergeWorkbench", name := "feed", desc := "(C)I" } : Jvm.MethodName) prog_1_method_10_code (2 : Nat) (Option.some Jvm.ClassFile.FieldType.int)) ∈ jwd := jw_5 (i := 54) rfl rfl
theorem wd_5_55 : (Jvm.Cond.methodLink "MergeWorkbench" (143 : Nat) ({ cls := "MergeWorkbench$Input", name := "isFull", desc := "()Z" } : Jvm.MethodName)) ∈ jwd := jw_5 (i := 55) rfl rfl
theorem wd_5_56 : (Jvm.Cond.instanceMethod ({ cls := "MergeWorkbench$Input", name := "isFull", desc := "()Z" } : Jvm.MethodName)) ∈ jwd := jw_5 (i := 56) rfl rfl
theorem wd_5_57 : (Jvm.Cond.selects "MergeWorkbench$Input" ({ cls := "MergeWorkbench$Input", name := "isFull", desc := "()Z" } : Jvm.MethodName) ({ cls := "MergeWorkbench$Input", name := "isFull", desc := "()Z" } : Jvm.MethodName)) ∈ jwd := jw_5 (i := 57) rfl rfl
theorem wd_5_58 : (Jvm.Cond.code ({ cls := "MergeWorkbench$Input", name := "isFull", desc := "()Z" } : Jvm.MethodName) prog_5_method_2_code (1 : Nat) (Option.some Jvm.ClassFile.FieldType.boolean)) ∈ jwd := jw_5 (i := 58) rfl rfl
theorem wd_5_60 : (Jvm.Cond.methodLink "MergeWorkbench" (152 : Nat) ({ cls := "MergeWorkbench$Input", name := "take", desc := "(C)I" } : Jvm.MethodName)) ∈ jwd := jw_5 (i := 60) rfl rfl
theorem wd_5_61 : (Jvm.Cond.instanceMethod ({ cls := "MergeWorkbench$Input", name := "take", desc := "(C)I" } : Jvm.MethodName)) ∈ jwd := jw_5 (i := 61) rfl rfl
theorem wd_5_62 : (Jvm.Cond.selects "MergeWorkbench$Input" ({ cls := "MergeWorkbench$Input", name := "take", desc := "(C)I" } : Jvm.MethodName) ({ cls := "MergeWorkbench$Input", name := "take", desc := "(C)I" } : Jvm.MethodName)) ∈ jwd := jw_5 (i := 62) rfl rfl
theorem wd_5_63 : (Jvm.Cond.code ({ cls := "MergeWorkbench$Input", name := "take", desc := "(C)I" } : Jvm.MethodName) prog_5_method_3_code (2 : Nat) (Option.some Jvm.ClassFile.FieldType.int)) ∈ jwd := jw_5 (i := 63) rfl rfl
theorem wd_5_64 : (Jvm.Cond.methodLink "MergeWorkbenchLaw" (87 : Nat) ({ cls := "java/lang/Math", name := "abs", desc := "(I)I" } : Jvm.MethodName)) ∈ jwd := jw_5 (i := 64) rfl rfl
theorem wd_5_65 : (Jvm.Cond.static ({ cls := "java/lang/Math", name := "abs", desc := "(I)I" } : Jvm.MethodName)) ∈ jwd := jw_5 (i := 65) rfl rfl
theorem wd_5_66 : (Jvm.Cond.code ({ cls := "java/lang/Math", name := "abs", desc := "(I)I" } : Jvm.MethodName) prog_18_method_59_code (1 : Nat) (Option.some Jvm.ClassFile.FieldType.int)) ∈ jwd := jw_5 (i := 66) rfl rfl
theorem wd_5_67 : (Jvm.Cond.arrayClass Jvm.ClassFile.FieldType.boolean) ∈ jwd := jw_5 (i := 67) rfl rfl
theorem wd_5_68 : (Jvm.Cond.arrayClass Jvm.ClassFile.FieldType.char) ∈ jwd := jw_5 (i := 68) rfl rfl
theorem wp_1_0 : Cond.selects "MergeWorkbench" (⟨"MergeWorkbench", "document", "(I)LMergeWorkbench$Lines;"⟩ : MethodName) (⟨"MergeWorkbench", "document", "(I)LMergeWorkbench$Lines;"⟩ : MethodName) ∈ jwd := jp_1 (i := 0) rfl
theorem wp_1_1 : Cond.selects "java/lang/Throwable" (⟨"java/lang/Throwable", "fillInStackTrace", "(I)Ljava/lang/Throwable;"⟩ : MethodName) (⟨"java/lang/Throwable", "fillInStackTrace", "(I)Ljava/lang/Throwable;"⟩ : MethodName) ∈ jwd := jp_1 (i := 1) rfl
theorem wp_1_2 : Cond.selects "MergeWorkbench" (⟨"MergeWorkbench", "changeTo", "(ILMergeWorkbench$Lines;LMergeWorkbench$Lines;)I"⟩ : MethodName) (⟨"MergeWorkbench", "changeTo", "(ILMergeWorkbench$Lines;LMergeWorkbench$Lines;)I"⟩ : MethodName) ∈ jwd := jp_1 (i := 2) rfl
theorem wp_1_3 : Cond.selects "MergeWorkbench$Alignment" (⟨"MergeWorkbench$Alignment", "alignByAnchors", "(LMergeWorkbench$Lines;LMergeWorkbench$Lines;)V"⟩ : MethodName) (⟨"MergeWorkbench$Alignment", "alignByAnchors", "(LMergeWorkbench$Lines;LMergeWorkbench$Lines;)V"⟩ : MethodName) ∈ jwd := jp_1 (i := 3) rfl
theorem wp_1_4 : Cond.selects "MergeWorkbench$Alignment" (⟨"MergeWorkbench$Alignment", "findCandidates", "(LMergeWorkbench$Lines;LMergeWorkbench$Lines;)V"⟩ : MethodName) (⟨"MergeWorkbench$Alignment", "findCandidates", "(LMergeWorkbench$Lines;LMergeWorkbench$Lines;)V"⟩ : MethodName) ∈ jwd := jp_1 (i := 4) rfl
theorem wp_1_5 : Cond.selects "MergeWorkbench$Alignment" (⟨"MergeWorkbench$Alignment", "measureChains", "()I"⟩ : MethodName) (⟨"MergeWorkbench$Alignment", "measureChains", "()I"⟩ : MethodName) ∈ jwd := jp_1 (i := 5) rfl
theorem wp_1_6 : Cond.selects "MergeWorkbench$Alignment" (⟨"MergeWorkbench$Alignment", "alignPart", "(LMergeWorkbench$Lines;IILMergeWorkbench$Lines;II)V"⟩ : MethodName) (⟨"MergeWorkbench$Alignment", "alignPart", "(LMergeWorkbench$Lines;IILMergeWorkbench$Lines;II)V"⟩ : MethodName) ∈ jwd := jp_1 (i := 6) rfl
theorem wp_1_7 : Cond.selects "MergeWorkbench$Alignment" (⟨"MergeWorkbench$Alignment", "measureEnds", "(LMergeWorkbench$Lines;IILMergeWorkbench$Lines;II)V"⟩ : MethodName) (⟨"MergeWorkbench$Alignment", "measureEnds", "(LMergeWorkbench$Lines;IILMergeWorkbench$Lines;II)V"⟩ : MethodName) ∈ jwd := jp_1 (i := 7) rfl
theorem wp_1_8 : Cond.selects "MergeWorkbench$Alignment" (⟨"MergeWorkbench$Alignment", "addPair", "(II)V"⟩ : MethodName) (⟨"MergeWorkbench$Alignment", "addPair", "(II)V"⟩ : MethodName) ∈ jwd := jp_1 (i := 8) rfl
theorem wp_1_9 : Cond.selects "MergeWorkbench$Comparison" (⟨"MergeWorkbench$Comparison", "collectDifferences", "()V"⟩ : MethodName) (⟨"MergeWorkbench$Comparison", "collectDifferences", "()V"⟩ : MethodName) ∈ jwd := jp_1 (i := 9) rfl
theorem wp_1_10 : Cond.selects "MergeWorkbench$Comparison" (⟨"MergeWorkbench$Comparison", "addDifference", "(IIII)V"⟩ : MethodName) (⟨"MergeWorkbench$Comparison", "addDifference", "(IIII)V"⟩ : MethodName) ∈ jwd := jp_1 (i := 10) rfl
theorem wp_1_11 : Cond.selects "MergeWorkbench" (⟨"MergeWorkbench", "requireComparison", "()V"⟩ : MethodName) (⟨"MergeWorkbench", "requireComparison", "()V"⟩ : MethodName) ∈ jwd := jp_1 (i := 11) rfl
theorem wp_1_12 : Cond.selects "MergeWorkbench$Comparison" (⟨"MergeWorkbench$Comparison", "freeAllButKept", "()V"⟩ : MethodName) (⟨"MergeWorkbench$Comparison", "freeAllButKept", "()V"⟩ : MethodName) ∈ jwd := jp_1 (i := 12) rfl
theorem wp_1_13 : Cond.selects "MergeWorkbench$Comparison" (⟨"MergeWorkbench$Comparison", "addLongestMove", "(I)Z"⟩ : MethodName) (⟨"MergeWorkbench$Comparison", "addLongestMove", "(I)Z"⟩ : MethodName) ∈ jwd := jp_1 (i := 13) rfl
theorem wp_1_14 : Cond.selects "MergeWorkbench$Comparison" (⟨"MergeWorkbench$Comparison", "runLength", "(II)I"⟩ : MethodName) (⟨"MergeWorkbench$Comparison", "runLength", "(II)I"⟩ : MethodName) ∈ jwd := jp_1 (i := 14) rfl
theorem wp_1_15 : Cond.selects "MergeWorkbench$Comparison" (⟨"MergeWorkbench$Comparison", "isMovable", "(II)Z"⟩ : MethodName) (⟨"MergeWorkbench$Comparison", "isMovable", "(II)Z"⟩ : MethodName) ∈ jwd := jp_1 (i := 15) rfl
theorem wp_2_0 : Cond.selects "MergeWorkbench$Comparison" (⟨"MergeWorkbench$Comparison", "addMove", "(III)V"⟩ : MethodName) (⟨"MergeWorkbench$Comparison", "addMove", "(III)V"⟩ : MethodName) ∈ jwd := jp_2 (i := 0) rfl
theorem wp_2_1 : Cond.selects "MergeWorkbench$Merge" (⟨"MergeWorkbench$Merge", "addPart", "(IIIIII)I"⟩ : MethodName) (⟨"MergeWorkbench$Merge", "addPart", "(IIIIII)I"⟩ : MethodName) ∈ jwd := jp_2 (i := 1) rfl
theorem wp_2_2 : Cond.selects "MergeWorkbench$Merge" (⟨"MergeWorkbench$Merge", "addRegion", "(IZ)V"⟩ : MethodName) (⟨"MergeWorkbench$Merge", "addRegion", "(IZ)V"⟩ : MethodName) ∈ jwd := jp_2 (i := 2) rfl
theorem wp_2_3 : Cond.selects "MergeWorkbench$Merge" (⟨"MergeWorkbench$Merge", "kindOf", "(I)I"⟩ : MethodName) (⟨"MergeWorkbench$Merge", "kindOf", "(I)I"⟩ : MethodName) ∈ jwd := jp_2 (i := 3) rfl
theorem wp_2_4 : Cond.selects "MergeWorkbench$Merge" (⟨"MergeWorkbench$Merge", "samePart", "(LMergeWorkbench$Lines;IILMergeWorkbench$Lines;I)Z"⟩ : MethodName) (⟨"MergeWorkbench$Merge", "samePart", "(LMergeWorkbench$Lines;IILMergeWorkbench$Lines;I)Z"⟩ : MethodName) ∈ jwd := jp_2 (i := 4) rfl
theorem wp_2_5 : Cond.selects "MergeWorkbench$Merge" (⟨"MergeWorkbench$Merge", "setKind", "(II)V"⟩ : MethodName) (⟨"MergeWorkbench$Merge", "setKind", "(II)V"⟩ : MethodName) ∈ jwd := jp_2 (i := 5) rfl
theorem wp_2_6 : Cond.selects "MergeWorkbench$Merge" (⟨"MergeWorkbench$Merge", "shrink", "(I)V"⟩ : MethodName) (⟨"MergeWorkbench$Merge", "shrink", "(I)V"⟩ : MethodName) ∈ jwd := jp_2 (i := 6) rfl
theorem wp_2_7 : Cond.selects "MergeWorkbench$Merge" (⟨"MergeWorkbench$Merge", "commonBegin", "(IIII)I"⟩ : MethodName) (⟨"MergeWorkbench$Merge", "commonBegin", "(IIII)I"⟩ : MethodName) ∈ jwd := jp_2 (i := 7) rfl
theorem wp_2_8 : Cond.selects "MergeWorkbench$Merge" (⟨"MergeWorkbench$Merge", "commonEnd", "(IIII)I"⟩ : MethodName) (⟨"MergeWorkbench$Merge", "commonEnd", "(IIII)I"⟩ : MethodName) ∈ jwd := jp_2 (i := 8) rfl
theorem wp_2_9 : Cond.selects "MergeWorkbench$Merge" (⟨"MergeWorkbench$Merge", "addStable", "(III)V"⟩ : MethodName) (⟨"MergeWorkbench$Merge", "addStable", "(III)V"⟩ : MethodName) ∈ jwd := jp_2 (i := 9) rfl
theorem wp_2_10 : Cond.selects "MergeWorkbench$Merge" (⟨"MergeWorkbench$Merge", "writeResult", "()V"⟩ : MethodName) (⟨"MergeWorkbench$Merge", "writeResult", "()V"⟩ : MethodName) ∈ jwd := jp_2 (i := 10) rfl
theorem wp_2_11 : Cond.selects "MergeWorkbench$Merge" (⟨"MergeWorkbench$Merge", "writeConflict", "(II)V"⟩ : MethodName) (⟨"MergeWorkbench$Merge", "writeConflict", "(II)V"⟩ : MethodName) ∈ jwd := jp_2 (i := 11) rfl
theorem wp_2_12 : Cond.selects "MergeWorkbench$Merge" (⟨"MergeWorkbench$Merge", "writeLeft", "(I)V"⟩ : MethodName) (⟨"MergeWorkbench$Merge", "writeLeft", "(I)V"⟩ : MethodName) ∈ jwd := jp_2 (i := 12) rfl
theorem wp_2_13 : Cond.selects "MergeWorkbench$Merge" (⟨"MergeWorkbench$Merge", "writeRight", "(I)V"⟩ : MethodName) (⟨"MergeWorkbench$Merge", "writeRight", "(I)V"⟩ : MethodName) ∈ jwd := jp_2 (i := 13) rfl
theorem wp_2_14 : Cond.selects "MergeWorkbench" (⟨"MergeWorkbench", "requireMerge", "()V"⟩ : MethodName) (⟨"MergeWorkbench", "requireMerge", "()V"⟩ : MethodName) ∈ jwd := jp_2 (i := 14) rfl
theorem wp_2_15 : Cond.selects "MergeWorkbench$Patch" (⟨"MergeWorkbench$Patch", "addHunk", "(LMergeWorkbench$Table;III)V"⟩ : MethodName) (⟨"MergeWorkbench$Patch", "addHunk", "(LMergeWorkbench$Table;III)V"⟩ : MethodName) ∈ jwd := jp_2 (i := 15) rfl
theorem wp_3_0 : Cond.selects "MergeWorkbench" (⟨"MergeWorkbench", "requirePatch", "()V"⟩ : MethodName) (⟨"MergeWorkbench", "requirePatch", "()V"⟩ : MethodName) ∈ jwd := jp_3 (i := 0) rfl
theorem wp_3_1 : Cond.selects "MergeWorkbench$Patch" (⟨"MergeWorkbench$Patch", "attemptHunk", "(LMergeWorkbench$Lines;IIZ)V"⟩ : MethodName) (⟨"MergeWorkbench$Patch", "attemptHunk", "(LMergeWorkbench$Lines;IIZ)V"⟩ : MethodName) ∈ jwd := jp_3 (i := 1) rfl
theorem wp_3_2 : Cond.selects "MergeWorkbench$Patch" (⟨"MergeWorkbench$Patch", "partBegin", "(III)I"⟩ : MethodName) (⟨"MergeWorkbench$Patch", "partBegin", "(III)I"⟩ : MethodName) ∈ jwd := jp_3 (i := 2) rfl
theorem wp_3_3 : Cond.selects "MergeWorkbench$Patch" (⟨"MergeWorkbench$Patch", "partEnd", "(III)I"⟩ : MethodName) (⟨"MergeWorkbench$Patch", "partEnd", "(III)I"⟩ : MethodName) ∈ jwd := jp_3 (i := 3) rfl
theorem wp_3_4 : Cond.selects "MergeWorkbench$Patch" (⟨"MergeWorkbench$Patch", "findFit", "(LMergeWorkbench$Lines;LMergeWorkbench$Lines;II)I"⟩ : MethodName) (⟨"MergeWorkbench$Patch", "findFit", "(LMergeWorkbench$Lines;LMergeWorkbench$Lines;II)I"⟩ : MethodName) ∈ jwd := jp_3 (i := 4) rfl
theorem wp_3_5 : Cond.selects "MergeWorkbench$Patch" (⟨"MergeWorkbench$Patch", "fits", "(LMergeWorkbench$Lines;ILMergeWorkbench$Lines;II)Z"⟩ : MethodName) (⟨"MergeWorkbench$Patch", "fits", "(LMergeWorkbench$Lines;ILMergeWorkbench$Lines;II)Z"⟩ : MethodName) ∈ jwd := jp_3 (i := 5) rfl
theorem wp_3_6 : Cond.selects "MergeWorkbench$Patch" (⟨"MergeWorkbench$Patch", "pushNewPart", "(IIZ)V"⟩ : MethodName) (⟨"MergeWorkbench$Patch", "pushNewPart", "(IIZ)V"⟩ : MethodName) ∈ jwd := jp_3 (i := 6) rfl
set_option maxRecDepth 20000 in
theorem jin_0 : ∀ x ∈ u_ws RX0 TX0 7, x ∈ jwd := List.forall_mem_cons.mpr ⟨wd_4_35, List.forall_mem_cons.mpr ⟨wd_4_37, List.forall_mem_cons.mpr ⟨wd_4_39, List.forall_mem_cons.mpr ⟨wd_4_41, List.forall_mem_cons.mpr ⟨wd_4_43, List.forall_mem_cons.mpr ⟨wd_4_45, List.forall_mem_cons.mpr ⟨wd_4_47, fun _ h => absurd h List.not_mem_nil⟩⟩⟩⟩⟩⟩⟩
set_option maxRecDepth 20000 in
theorem jin_1 : ∀ x ∈ u_ws RX1 TX1 9, x ∈ jwd := List.forall_mem_cons.mpr ⟨wd_4_70, List.forall_mem_cons.mpr ⟨wd_4_72, List.forall_mem_cons.mpr ⟨wd_4_74, List.forall_mem_cons.mpr ⟨wd_4_76, List.forall_mem_cons.mpr ⟨wd_4_78, List.forall_mem_cons.mpr ⟨wd_4_80, List.forall_mem_cons.mpr ⟨wd_4_82, List.forall_mem_cons.mpr ⟨wd_4_84, List.forall_mem_cons.mpr ⟨wd_4_86, fun _ h => absurd h List.not_mem_nil⟩⟩⟩⟩⟩⟩⟩⟩⟩
set_option maxRecDepth 20000 in
theorem jin_2 : ∀ x ∈ u_ws RX2 TX2 4, x ∈ jwd := List.forall_mem_cons.mpr ⟨wd_3_218, List.forall_mem_cons.mpr ⟨wd_3_220, List.forall_mem_cons.mpr ⟨wd_3_222, List.forall_mem_cons.mpr ⟨wd_3_224, fun _ h => absurd h List.not_mem_nil⟩⟩⟩⟩
set_option maxRecDepth 20000 in
theorem jin_3 : ∀ x ∈ u_ws RX3 TX3 2, x ∈ jwd := List.forall_mem_cons.mpr ⟨wd_3_237, List.forall_mem_cons.mpr ⟨wd_3_239, fun _ h => absurd h List.not_mem_nil⟩⟩
set_option maxRecDepth 20000 in
theorem jin_4 : ∀ x ∈ u_ws RX4 TX4 2, x ∈ jwd := List.forall_mem_cons.mpr ⟨wd_3_189, List.forall_mem_cons.mpr ⟨wd_3_191, fun _ h => absurd h List.not_mem_nil⟩⟩
set_option maxRecDepth 20000 in
theorem jin_5 : ∀ x ∈ u_ws RX5 TX5 9, x ∈ jwd := List.forall_mem_cons.mpr ⟨wd_4_109, List.forall_mem_cons.mpr ⟨wd_4_111, List.forall_mem_cons.mpr ⟨wd_4_113, List.forall_mem_cons.mpr ⟨wd_4_115, List.forall_mem_cons.mpr ⟨wd_4_117, List.forall_mem_cons.mpr ⟨wd_4_119, List.forall_mem_cons.mpr ⟨wd_4_121, List.forall_mem_cons.mpr ⟨wd_4_123, List.forall_mem_cons.mpr ⟨wd_4_125, fun _ h => absurd h List.not_mem_nil⟩⟩⟩⟩⟩⟩⟩⟩⟩
set_option maxRecDepth 20000 in
theorem jin_6 : ∀ x ∈ u_ws RX6 TX6 9, x ∈ jwd := List.forall_mem_cons.mpr ⟨wd_4_146, List.forall_mem_cons.mpr ⟨wd_4_148, List.forall_mem_cons.mpr ⟨wd_4_150, List.forall_mem_cons.mpr ⟨wd_4_152, List.forall_mem_cons.mpr ⟨wd_4_154, List.forall_mem_cons.mpr ⟨wd_4_156, List.forall_mem_cons.mpr ⟨wd_4_158, List.forall_mem_cons.mpr ⟨wd_4_160, List.forall_mem_cons.mpr ⟨wd_4_162, fun _ h => absurd h List.not_mem_nil⟩⟩⟩⟩⟩⟩⟩⟩⟩
set_option maxRecDepth 20000 in
theorem jin_7 : ∀ x ∈ u_ws RX7 TX7 2, x ∈ jwd := List.forall_mem_cons.mpr ⟨wd_3_198, List.forall_mem_cons.mpr ⟨wd_3_200, fun _ h => absurd h List.not_mem_nil⟩⟩
set_option maxRecDepth 20000 in
theorem jin_8 : ∀ x ∈ u_ws RX8 TX8 3, x ∈ jwd := List.forall_mem_cons.mpr ⟨wd_4_20, List.forall_mem_cons.mpr ⟨wd_4_22, List.forall_mem_cons.mpr ⟨wd_4_24, fun _ h => absurd h List.not_mem_nil⟩⟩⟩
set_option maxRecDepth 20000 in
theorem jin_9 : ∀ x ∈ u_ws RX9 TX9 13, x ∈ jwd := List.forall_mem_cons.mpr ⟨wd_4_178, List.forall_mem_cons.mpr ⟨wd_4_180, List.forall_mem_cons.mpr ⟨wd_4_182, List.forall_mem_cons.mpr ⟨wd_4_184, List.forall_mem_cons.mpr ⟨wd_4_186, List.forall_mem_cons.mpr ⟨wd_4_188, List.forall_mem_cons.mpr ⟨wd_4_190, List.forall_mem_cons.mpr ⟨wd_4_192, List.forall_mem_cons.mpr ⟨wd_4_194, List.forall_mem_cons.mpr ⟨wd_4_196, List.forall_mem_cons.mpr ⟨wd_4_198, List.forall_mem_cons.mpr ⟨wd_4_200, List.forall_mem_cons.mpr ⟨wd_4_202, fun _ h => absurd h List.not_mem_nil⟩⟩⟩⟩⟩⟩⟩⟩⟩⟩⟩⟩⟩
