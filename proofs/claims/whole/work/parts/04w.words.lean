/-! ===== the words: all of the tables that a call may hand on ===== -/
def jwd : List Cond := lw_tbl.filter goodWord
theorem jw_t {w : Cond} (h : w ∈ tables_1) (hg : goodWord w = true) : w ∈ jwd := List.mem_filter.mpr ⟨List.mem_append_right _ h, hg⟩
theorem jw_p {w : Cond} (h : w ∈ k2_sels lw_privs) (hg : goodWord w = true) : w ∈ jwd := List.mem_filter.mpr ⟨List.mem_append_left _ h, hg⟩
theorem jw_1 {i : Nat} {w : Cond} (h0 : tables_1_1[i]? = some w) (hg : goodWord w = true) : w ∈ jwd := by
  have h := List.mem_of_getElem? h0
  exact jw_t (by unfold tables_1; exact (List.mem_append_left _ h)) hg
theorem jw_2 {i : Nat} {w : Cond} (h0 : tables_1_2[i]? = some w) (hg : goodWord w = true) : w ∈ jwd := by
  have h := List.mem_of_getElem? h0
  exact jw_t (by unfold tables_1; exact (List.mem_append_right _ (List.mem_append_left _ h))) hg
theorem jw_3 {i : Nat} {w : Cond} (h0 : tables_1_3[i]? = some w) (hg : goodWord w = true) : w ∈ jwd := by
  have h := List.mem_of_getElem? h0
  exact jw_t (by unfold tables_1; exact (List.mem_append_right _ (List.mem_append_right _ (List.mem_append_left _ h)))) hg
theorem jw_4 {i : Nat} {w : Cond} (h0 : tables_1_4[i]? = some w) (hg : goodWord w = true) : w ∈ jwd := by
  have h := List.mem_of_getElem? h0
  exact jw_t (by unfold tables_1; exact (List.mem_append_right _ (List.mem_append_right _ (List.mem_append_right _ (List.mem_append_left _ h))))) hg
theorem jw_5 {i : Nat} {w : Cond} (h0 : tables_1_5[i]? = some w) (hg : goodWord w = true) : w ∈ jwd := by
  have h := List.mem_of_getElem? h0
  exact jw_t (by unfold tables_1; exact (List.mem_append_right _ (List.mem_append_right _ (List.mem_append_right _ (List.mem_append_right _ (List.mem_append_left _ h)))))) hg
theorem jw_6 {i : Nat} {w : Cond} (h0 : tables_1_6[i]? = some w) (hg : goodWord w = true) : w ∈ jwd := by
  have h := List.mem_of_getElem? h0
  exact jw_t (by unfold tables_1; exact (List.mem_append_right _ (List.mem_append_right _ (List.mem_append_right _ (List.mem_append_right _ (List.mem_append_right _ (List.mem_append_left _ h))))))) hg
theorem jw_7 {i : Nat} {w : Cond} (h0 : tables_1_7[i]? = some w) (hg : goodWord w = true) : w ∈ jwd := by
  have h := List.mem_of_getElem? h0
  exact jw_t (by unfold tables_1; exact (List.mem_append_right _ (List.mem_append_right _ (List.mem_append_right _ (List.mem_append_right _ (List.mem_append_right _ (List.mem_append_right _ (List.mem_append_left _ h)))))))) hg
theorem jw_8 {i : Nat} {w : Cond} (h0 : tables_1_8[i]? = some w) (hg : goodWord w = true) : w ∈ jwd := by
  have h := List.mem_of_getElem? h0
  exact jw_t (by unfold tables_1; exact (List.mem_append_right _ (List.mem_append_right _ (List.mem_append_right _ (List.mem_append_right _ (List.mem_append_right _ (List.mem_append_right _ (List.mem_append_right _ h)))))))) hg
theorem jp_1 {i : Nat} {q : MethodName × Nat} (h0 : lw_privs_1[i]? = some q) : Cond.selects q.1.cls q.1 q.1 ∈ jwd := by
  have h := List.mem_of_getElem? h0
  exact jw_p (List.mem_map.mpr ⟨q, by unfold lw_privs; exact (List.mem_append_left _ h), rfl⟩) rfl
theorem jp_2 {i : Nat} {q : MethodName × Nat} (h0 : lw_privs_2[i]? = some q) : Cond.selects q.1.cls q.1 q.1 ∈ jwd := by
  have h := List.mem_of_getElem? h0
  exact jw_p (List.mem_map.mpr ⟨q, by unfold lw_privs; exact (List.mem_append_right _ (List.mem_append_left _ h)), rfl⟩) rfl
theorem jp_3 {i : Nat} {q : MethodName × Nat} (h0 : lw_privs_3[i]? = some q) : Cond.selects q.1.cls q.1 q.1 ∈ jwd := by
  have h := List.mem_of_getElem? h0
  exact jw_p (List.mem_map.mpr ⟨q, by unfold lw_privs; exact (List.mem_append_right _ (List.mem_append_right _ (List.mem_append_left _ h))), rfl⟩) rfl
theorem jp_4 {i : Nat} {q : MethodName × Nat} (h0 : lw_privs_4[i]? = some q) : Cond.selects q.1.cls q.1 q.1 ∈ jwd := by
  have h := List.mem_of_getElem? h0
  exact jw_p (List.mem_map.mpr ⟨q, by unfold lw_privs; exact (List.mem_append_right _ (List.mem_append_right _ (List.mem_append_right _ (List.mem_append_left _ h)))), rfl⟩) rfl
theorem jp_5 {i : Nat} {q : MethodName × Nat} (h0 : lw_privs_5[i]? = some q) : Cond.selects q.1.cls q.1 q.1 ∈ jwd := by
  have h := List.mem_of_getElem? h0
  exact jw_p (List.mem_map.mpr ⟨q, by unfold lw_privs; exact (List.mem_append_right _ (List.mem_append_right _ (List.mem_append_right _ (List.mem_append_right _ h)))), rfl⟩) rfl
theorem wd_1_0 : (Jvm.Cond.initialized "MergeWorkbenchLaw") ∈ jwd := jw_1 (i := 0) rfl rfl
theorem wd_1_1 : (Jvm.Cond.initialized "MergeWorkbench") ∈ jwd := jw_1 (i := 1) rfl rfl
theorem wd_1_2 : (Jvm.Cond.initialized "MergeWorkbench$Shelf") ∈ jwd := jw_1 (i := 2) rfl rfl
theorem wd_1_3 : (Jvm.Cond.initialized "MergeWorkbench$Lines") ∈ jwd := jw_1 (i := 3) rfl rfl
theorem wd_1_4 : (Jvm.Cond.initialized "MergeWorkbench$History") ∈ jwd := jw_1 (i := 4) rfl rfl
theorem wd_1_5 : (Jvm.Cond.initialized "MergeWorkbench$Input") ∈ jwd := jw_1 (i := 5) rfl rfl
theorem wd_1_6 : (Jvm.Cond.initialized "MergeWorkbench$Alignment") ∈ jwd := jw_1 (i := 6) rfl rfl
theorem wd_1_7 : (Jvm.Cond.initialized "MergeWorkbench$Table") ∈ jwd := jw_1 (i := 7) rfl rfl
theorem wd_1_8 : (Jvm.Cond.initialized "MergeWorkbench$Comparison") ∈ jwd := jw_1 (i := 8) rfl rfl
theorem wd_1_9 : (Jvm.Cond.initialized "MergeWorkbench$Merge") ∈ jwd := jw_1 (i := 9) rfl rfl
theorem wd_1_10 : (Jvm.Cond.initialized "MergeWorkbench$Patch") ∈ jwd := jw_1 (i := 10) rfl rfl
theorem wd_1_11 : (Jvm.Cond.initialized "MergeWorkbenchModel") ∈ jwd := jw_1 (i := 11) rfl rfl
theorem wd_1_12 : (Jvm.Cond.initialized "java/lang/Throwable") ∈ jwd := jw_1 (i := 12) rfl rfl
theorem wd_1_13 : (Jvm.Cond.initialized "java/lang/Exception") ∈ jwd := jw_1 (i := 13) rfl rfl
theorem wd_1_14 : (Jvm.Cond.initialized "java/lang/RuntimeException") ∈ jwd := jw_1 (i := 14) rfl rfl
theorem wd_1_15 : (Jvm.Cond.initialized "java/lang/IllegalArgumentException") ∈ jwd := jw_1 (i := 15) rfl rfl
theorem wd_1_16 : (Jvm.Cond.initialized "java/lang/IllegalStateException") ∈ jwd := jw_1 (i := 16) rfl rfl
theorem wd_1_17 : (Jvm.Cond.initialized "java/lang/IndexOutOfBoundsException") ∈ jwd := jw_1 (i := 17) rfl rfl
theorem wd_1_18 : (Jvm.Cond.initialized "java/lang/ArrayIndexOutOfBoundsException") ∈ jwd := jw_1 (i := 18) rfl rfl
theorem wd_1_19 : (Jvm.Cond.initialized "java/lang/String") ∈ jwd := jw_1 (i := 19) rfl rfl
theorem wd_1_20 : (Jvm.Cond.initialized "java/lang/Math") ∈ jwd := jw_1 (i := 20) rfl rfl
theorem wd_1_21 : (Jvm.Cond.initialized "java/util/NoSuchElementException") ∈ jwd := jw_1 (i := 21) rfl rfl
theorem wd_1_22 : (Jvm.Cond.initialized "java/lang/ArithmeticException") ∈ jwd := jw_1 (i := 22) rfl rfl
theorem wd_1_23 : (Jvm.Cond.initialized "java/lang/UnsupportedOperationException") ∈ jwd := jw_1 (i := 23) rfl rfl
theorem wd_1_24 : (Jvm.Cond.classLink "MergeWorkbenchLaw" (8 : Nat) "MergeWorkbench") ∈ jwd := jw_1 (i := 24) rfl rfl
theorem wd_1_25 : (Jvm.Cond.instantiable "MergeWorkbench" (13 : Nat)) ∈ jwd := jw_1 (i := 25) rfl rfl
theorem wd_1_26 : (Jvm.Cond.methodLink "MergeWorkbenchLaw" (131 : Nat) ({ cls := "MergeWorkbench", name := "<init>", desc := "()V" } : Jvm.MethodName)) ∈ jwd := jw_1 (i := 26) rfl rfl
theorem wd_1_27 : (Jvm.Cond.instanceMethod ({ cls := "MergeWorkbench", name := "<init>", desc := "()V" } : Jvm.MethodName)) ∈ jwd := jw_1 (i := 27) rfl rfl
theorem wd_1_28 : (Jvm.Cond.code ({ cls := "MergeWorkbench", name := "<init>", desc := "()V" } : Jvm.MethodName) prog_1_method_1_code (1 : Nat) (Option.none : Option Jvm.ClassFile.FieldType)) ∈ jwd := jw_1 (i := 28) rfl rfl
theorem wd_1_29 : (Jvm.Cond.methodLink "MergeWorkbench" (1 : Nat) ({ cls := "java/lang/Object", name := "<init>", desc := "()V" } : Jvm.MethodName)) ∈ jwd := jw_1 (i := 29) rfl rfl
theorem wd_1_30 : (Jvm.Cond.instanceMethod ({ cls := "java/lang/Object", name := "<init>", desc := "()V" } : Jvm.MethodName)) ∈ jwd := jw_1 (i := 30) rfl rfl
theorem wd_1_31 : (Jvm.Cond.code ({ cls := "java/lang/Object", name := "<init>", desc := "()V" } : Jvm.MethodName) object_method_1_code (1 : Nat) (Option.none : Option Jvm.ClassFile.FieldType)) ∈ jwd := jw_1 (i := 31) rfl rfl
theorem wd_1_32 : (Jvm.Cond.classLink "MergeWorkbench" (7 : Nat) "MergeWorkbench$Shelf") ∈ jwd := jw_1 (i := 32) rfl rfl
theorem wd_1_33 : (Jvm.Cond.instantiable "MergeWorkbench$Shelf" (2 : Nat)) ∈ jwd := jw_1 (i := 33) rfl rfl
theorem wd_1_34 : (Jvm.Cond.methodLink "MergeWorkbench" (11 : Nat) ({ cls := "MergeWorkbench$Shelf", name := "<init>", desc := "(I)V" } : Jvm.MethodName)) ∈ jwd := jw_1 (i := 34) rfl rfl
theorem wd_1_35 : (Jvm.Cond.instanceMethod ({ cls := "MergeWorkbench$Shelf", name := "<init>", desc := "(I)V" } : Jvm.MethodName)) ∈ jwd := jw_1 (i := 35) rfl rfl
theorem wd_1_36 : (Jvm.Cond.code ({ cls := "MergeWorkbench$Shelf", name := "<init>", desc := "(I)V" } : Jvm.MethodName) prog_9_method_1_code (3 : Nat) (Option.none : Option Jvm.ClassFile.FieldType)) ∈ jwd := jw_1 (i := 36) rfl rfl
theorem wd_1_37 : (Jvm.Cond.methodLink "MergeWorkbench$Shelf" (3 : Nat) ({ cls := "java/lang/Object", name := "<init>", desc := "()V" } : Jvm.MethodName)) ∈ jwd := jw_1 (i := 37) rfl rfl
theorem wd_1_38 : (Jvm.Cond.classLink "MergeWorkbench$Shelf" (9 : Nat) "MergeWorkbench$Lines") ∈ jwd := jw_1 (i := 38) rfl rfl
theorem wd_1_39 : (Jvm.Cond.instantiable "MergeWorkbench$Lines" (2 : Nat)) ∈ jwd := jw_1 (i := 39) rfl rfl
theorem wd_1_40 : (Jvm.Cond.methodLink "MergeWorkbench$Shelf" (11 : Nat) ({ cls := "MergeWorkbench$Lines", name := "<init>", desc := "(I)V" } : Jvm.MethodName)) ∈ jwd := jw_1 (i := 40) rfl rfl
theorem wd_1_41 : (Jvm.Cond.instanceMethod ({ cls := "MergeWorkbench$Lines", name := "<init>", desc := "(I)V" } : Jvm.MethodName)) ∈ jwd := jw_1 (i := 41) rfl rfl
theorem wd_1_42 : (Jvm.Cond.code ({ cls := "MergeWorkbench$Lines", name := "<init>", desc := "(I)V" } : Jvm.MethodName) prog_6_method_1_code (2 : Nat) (Option.none : Option Jvm.ClassFile.FieldType)) ∈ jwd := jw_1 (i := 42) rfl rfl
theorem wd_1_43 : (Jvm.Cond.methodLink "MergeWorkbench$Lines" (3 : Nat) ({ cls := "java/lang/Object", name := "<init>", desc := "()V" } : Jvm.MethodName)) ∈ jwd := jw_1 (i := 43) rfl rfl
theorem wd_1_44 : (Jvm.Cond.fieldLink "MergeWorkbench$Lines" (9 : Nat) "MergeWorkbench$Lines" "cells" "[I") ∈ jwd := jw_1 (i := 44) rfl rfl
theorem wd_1_45 : (Jvm.Cond.fieldLink "MergeWorkbench$Lines" (15 : Nat) "MergeWorkbench$Lines" "count" "I") ∈ jwd := jw_1 (i := 45) rfl rfl
theorem wd_1_46 : (Jvm.Cond.laysFinal "MergeWorkbench$Lines" "MergeWorkbench$Lines" "cells" "[I") ∈ jwd := jw_1 (i := 46) rfl rfl
theorem wd_1_48 : (Jvm.Cond.lays "MergeWorkbench$Lines" "MergeWorkbench$Lines" "count" "I") ∈ jwd := jw_1 (i := 48) rfl rfl
theorem wd_1_51 : (Jvm.Cond.arrayClass Jvm.ClassFile.FieldType.int) ∈ jwd := jw_1 (i := 51) rfl rfl
theorem wd_1_53 : (Jvm.Cond.fieldLink "MergeWorkbench$Shelf" (20 : Nat) "MergeWorkbench$Shelf" "places" "[LMergeWorkbench$Lines;") ∈ jwd := jw_1 (i := 53) rfl rfl
theorem wd_1_54 : (Jvm.Cond.fieldLink "MergeWorkbench$Shelf" (14 : Nat) "MergeWorkbench$Shelf" "nowhere" "LMergeWorkbench$Lines;") ∈ jwd := jw_1 (i := 54) rfl rfl
theorem wd_1_55 : (Jvm.Cond.laysFinal "MergeWorkbench$Shelf" "MergeWorkbench$Shelf" "places" "[LMergeWorkbench$Lines;") ∈ jwd := jw_1 (i := 55) rfl rfl
theorem wd_1_57 : (Jvm.Cond.laysFinal "MergeWorkbench$Shelf" "MergeWorkbench$Shelf" "nowhere" "LMergeWorkbench$Lines;") ∈ jwd := jw_1 (i := 57) rfl rfl
theorem wd_1_60 : (Jvm.Cond.classLink "MergeWorkbench" (21 : Nat) "MergeWorkbench$History") ∈ jwd := jw_1 (i := 60) rfl rfl
theorem wd_1_61 : (Jvm.Cond.instantiable "MergeWorkbench$History" (4 : Nat)) ∈ jwd := jw_1 (i := 61) rfl rfl
theorem wd_1_62 : (Jvm.Cond.methodLink "MergeWorkbench" (23 : Nat) ({ cls := "MergeWorkbench$History", name := "<init>", desc := "()V" } : Jvm.MethodName)) ∈ jwd := jw_1 (i := 62) rfl rfl
theorem wd_1_63 : (Jvm.Cond.instanceMethod ({ cls := "MergeWorkbench$History", name := "<init>", desc := "()V" } : Jvm.MethodName)) ∈ jwd := jw_1 (i := 63) rfl rfl
theorem wd_1_64 : (Jvm.Cond.code ({ cls := "MergeWorkbench$History", name := "<init>", desc := "()V" } : Jvm.MethodName) prog_4_method_1_code (1 : Nat) (Option.none : Option Jvm.ClassFile.FieldType)) ∈ jwd := jw_1 (i := 64) rfl rfl
theorem wd_1_65 : (Jvm.Cond.methodLink "MergeWorkbench$History" (3 : Nat) ({ cls := "java/lang/Object", name := "<init>", desc := "()V" } : Jvm.MethodName)) ∈ jwd := jw_1 (i := 65) rfl rfl
theorem wd_1_66 : (Jvm.Cond.classLink "MergeWorkbench$History" (9 : Nat) "MergeWorkbench$Shelf") ∈ jwd := jw_1 (i := 66) rfl rfl
theorem wd_1_67 : (Jvm.Cond.methodLink "MergeWorkbench$History" (11 : Nat) ({ cls := "MergeWorkbench$Shelf", name := "<init>", desc := "(I)V" } : Jvm.MethodName)) ∈ jwd := jw_1 (i := 67) rfl rfl
theorem wd_1_68 : (Jvm.Cond.classLink "MergeWorkbench$History" (20 : Nat) "MergeWorkbench$Lines") ∈ jwd := jw_1 (i := 68) rfl rfl
theorem wd_1_69 : (Jvm.Cond.methodLink "MergeWorkbench$History" (22 : Nat) ({ cls := "MergeWorkbench$Lines", name := "<init>", desc := "(I)V" } : Jvm.MethodName)) ∈ jwd := jw_1 (i := 69) rfl rfl
theorem wd_1_70 : (Jvm.Cond.methodLink "MergeWorkbench$History" (27 : Nat) ({ cls := "MergeWorkbench$Lines", name := "fillWith", desc := "(II)V" } : Jvm.MethodName)) ∈ jwd := jw_1 (i := 70) rfl rfl
theorem wd_1_71 : (Jvm.Cond.instanceMethod ({ cls := "MergeWorkbench$Lines", name := "fillWith", desc := "(II)V" } : Jvm.MethodName)) ∈ jwd := jw_1 (i := 71) rfl rfl
theorem wd_1_72 : (Jvm.Cond.selects "MergeWorkbench$Lines" ({ cls := "MergeWorkbench$Lines", name := "fillWith", desc := "(II)V" } : Jvm.MethodName) ({ cls := "MergeWorkbench$Lines", name := "fillWith", desc := "(II)V" } : Jvm.MethodName)) ∈ jwd := jw_1 (i := 72) rfl rfl
theorem wd_1_73 : (Jvm.Cond.code ({ cls := "MergeWorkbench$Lines", name := "fillWith", desc := "(II)V" } : Jvm.MethodName) prog_6_method_13_code (4 : Nat) (Option.none : Option Jvm.ClassFile.FieldType)) ∈ jwd := jw_1 (i := 73) rfl rfl
theorem wd_1_74 : (Jvm.Cond.methodLink "MergeWorkbench$Lines" (35 : Nat) ({ cls := "MergeWorkbench$Lines", name := "clear", desc := "()V" } : Jvm.MethodName)) ∈ jwd := jw_1 (i := 74) rfl rfl
theorem wd_1_75 : (Jvm.Cond.instanceMethod ({ cls := "MergeWorkbench$Lines", name := "clear", desc := "()V" } : Jvm.MethodName)) ∈ jwd := jw_1 (i := 75) rfl rfl
theorem wd_1_76 : (Jvm.Cond.selects "MergeWorkbench$Lines" ({ cls := "MergeWorkbench$Lines", name := "clear", desc := "()V" } : Jvm.MethodName) ({ cls := "MergeWorkbench$Lines", name := "clear", desc := "()V" } : Jvm.MethodName)) ∈ jwd := jw_1 (i := 76) rfl rfl
theorem wd_1_77 : (Jvm.Cond.code ({ cls := "MergeWorkbench$Lines", name := "clear", desc := "()V" } : Jvm.MethodName) prog_6_method_7_code (1 : Nat) (Option.none : Option Jvm.ClassFile.FieldType)) ∈ jwd := jw_1 (i := 77) rfl rfl
theorem wd_1_78 : (Jvm.Cond.methodLink "MergeWorkbench$Lines" (23 : Nat) ({ cls := "MergeWorkbench$Lines", name := "push", desc := "(I)V" } : Jvm.MethodName)) ∈ jwd := jw_1 (i := 78) rfl rfl
theorem wd_1_79 : (Jvm.Cond.instanceMethod ({ cls := "MergeWorkbench$Lines", name := "push", desc := "(I)V" } : Jvm.MethodName)) ∈ jwd := jw_1 (i := 79) rfl rfl
theorem wd_1_80 : (Jvm.Cond.selects "MergeWorkbench$Lines" ({ cls := "MergeWorkbench$Lines", name := "push", desc := "(I)V" } : Jvm.MethodName) ({ cls := "MergeWorkbench$Lines", name := "push", desc := "(I)V" } : Jvm.MethodName)) ∈ jwd := jw_1 (i := 80) rfl rfl
theorem wd_1_81 : (Jvm.Cond.code ({ cls := "MergeWorkbench$Lines", name := "push", desc := "(I)V" } : Jvm.MethodName) prog_6_method_8_code (2 : Nat) (Option.none : Option Jvm.ClassFile.FieldType)) ∈ jwd := jw_1 (i := 81) rfl rfl
theorem wd_1_82 : (Jvm.Cond.fieldLink "MergeWorkbench$History" (14 : Nat) "MergeWorkbench$History" "before" "LMergeWorkbench$Shelf;") ∈ jwd := jw_1 (i := 82) rfl rfl
theorem wd_1_83 : (Jvm.Cond.fieldLink "MergeWorkbench$History" (23 : Nat) "MergeWorkbench$History" "registers" "LMergeWorkbench$Lines;") ∈ jwd := jw_1 (i := 83) rfl rfl
theorem wd_1_84 : (Jvm.Cond.fieldLink "MergeWorkbench$History" (35 : Nat) "MergeWorkbench$History" "next" "I") ∈ jwd := jw_1 (i := 84) rfl rfl
theorem wd_1_85 : (Jvm.Cond.fieldLink "MergeWorkbench$History" (31 : Nat) "MergeWorkbench$History" "count" "I") ∈ jwd := jw_1 (i := 85) rfl rfl
theorem wd_1_86 : (Jvm.Cond.laysFinal "MergeWorkbench$History" "MergeWorkbench$History" "before" "LMergeWorkbench$Shelf;") ∈ jwd := jw_1 (i := 86) rfl rfl
theorem wd_1_88 : (Jvm.Cond.laysFinal "MergeWorkbench$History" "MergeWorkbench$History" "registers" "LMergeWorkbench$Lines;") ∈ jwd := jw_1 (i := 88) rfl rfl
theorem wd_1_90 : (Jvm.Cond.lays "MergeWorkbench$History" "MergeWorkbench$History" "next" "I") ∈ jwd := jw_1 (i := 90) rfl rfl
theorem wd_1_92 : (Jvm.Cond.lays "MergeWorkbench$History" "MergeWorkbench$History" "count" "I") ∈ jwd := jw_1 (i := 92) rfl rfl
theorem wd_1_95 : (Jvm.Cond.classLink "MergeWorkbench" (28 : Nat) "MergeWorkbench$Input") ∈ jwd := jw_1 (i := 95) rfl rfl
theorem wd_1_96 : (Jvm.Cond.instantiable "MergeWorkbench$Input" (2 : Nat)) ∈ jwd := jw_1 (i := 96) rfl rfl
theorem wd_1_98 : (Jvm.Cond.instanceMethod ({ cls := "MergeWorkbench$Input", name := "<init>", desc := "()V" } : Jvm.MethodName)) ∈ jwd := jw_1 (i := 98) rfl rfl
theorem wd_1_99 : (Jvm.Cond.code ({ cls := "MergeWorkbench$Input", name := "<init>", desc := "()V" } : Jvm.MethodName) prog_5_method_1_code (1 : Nat) (Option.none : Option Jvm.ClassFile.FieldType)) ∈ jwd := jw_1 (i := 99) rfl rfl
theorem wd_1_100 : (Jvm.Cond.methodLink "MergeWorkbench$Input" (3 : Nat) ({ cls := "java/lang/Object", name := "<init>", desc := "()V" } : Jvm.MethodName)) ∈ jwd := jw_1 (i := 100) rfl rfl
theorem wd_1_101 : (Jvm.Cond.classLink "MergeWorkbench$Input" (9 : Nat) "MergeWorkbench$Lines") ∈ jwd := jw_1 (i := 101) rfl rfl
theorem wd_1_102 : (Jvm.Cond.methodLink "MergeWorkbench$Input" (11 : Nat) ({ cls := "MergeWorkbench$Lines", name := "<init>", desc := "(I)V" } : Jvm.MethodName)) ∈ jwd := jw_1 (i := 102) rfl rfl
theorem wd_1_103 : (Jvm.Cond.fieldLink "MergeWorkbench$Input" (14 : Nat) "MergeWorkbench$Input" "characters" "LMergeWorkbench$Lines;") ∈ jwd := jw_1 (i := 103) rfl rfl
theorem wd_1_104 : (Jvm.Cond.fieldLink "MergeWorkbench$Input" (20 : Nat) "MergeWorkbench$Input" "groupBegins" "LMergeWorkbench$Lines;") ∈ jwd := jw_1 (i := 104) rfl rfl
theorem wd_1_105 : (Jvm.Cond.laysFinal "MergeWorkbench$Input" "MergeWorkbench$Input" "characters" "LMergeWorkbench$Lines;") ∈ jwd := jw_1 (i := 105) rfl rfl
theorem wd_1_107 : (Jvm.Cond.laysFinal "MergeWorkbench$Input" "MergeWorkbench$Input" "groupBegins" "LMergeWorkbench$Lines;") ∈ jwd := jw_1 (i := 107) rfl rfl
theorem wd_1_110 : (Jvm.Cond.classLink "MergeWorkbench" (35 : Nat) "MergeWorkbench$Lines") ∈ jwd := jw_1 (i := 110) rfl rfl
theorem wd_1_111 : (Jvm.Cond.methodLink "MergeWorkbench" (37 : Nat) ({ cls := "MergeWorkbench$Lines", name := "<init>", desc := "(I)V" } : Jvm.MethodName)) ∈ jwd := jw_1 (i := 111) rfl rfl
theorem wd_1_112 : (Jvm.Cond.classLink "MergeWorkbench" (42 : Nat) "MergeWorkbench$Alignment") ∈ jwd := jw_1 (i := 112) rfl rfl
theorem wd_1_113 : (Jvm.Cond.instantiable "MergeWorkbench$Alignment" (7 : Nat)) ∈ jwd := jw_1 (i := 113) rfl rfl
theorem wd_1_114 : (Jvm.Cond.methodLink "MergeWorkbench" (44 : Nat) ({ cls := "MergeWorkbench$Alignment", name := "<init>", desc := "()V" } : Jvm.MethodName)) ∈ jwd := jw_1 (i := 114) rfl rfl
theorem wd_1_115 : (Jvm.Cond.instanceMethod ({ cls := "MergeWorkbench$Alignment", name := "<init>", desc := "()V" } : Jvm.MethodName)) ∈ jwd := jw_1 (i := 115) rfl rfl
theorem wd_1_116 : (Jvm.Cond.code ({ cls := "MergeWorkbench$Alignment", name := "<init>", desc := "()V" } : Jvm.MethodName) prog_2_method_1_code (2 : Nat) (Option.none : Option Jvm.ClassFile.FieldType)) ∈ jwd := jw_1 (i := 116) rfl rfl
theorem wd_1_117 : (Jvm.Cond.methodLink "MergeWorkbench$Alignment" (3 : Nat) ({ cls := "java/lang/Object", name := "<init>", desc := "()V" } : Jvm.MethodName)) ∈ jwd := jw_1 (i := 117) rfl rfl
theorem wd_1_118 : (Jvm.Cond.classLink "MergeWorkbench$Alignment" (9 : Nat) "MergeWorkbench$Lines") ∈ jwd := jw_1 (i := 118) rfl rfl
theorem wd_1_119 : (Jvm.Cond.methodLink "MergeWorkbench$Alignment" (11 : Nat) ({ cls := "MergeWorkbench$Lines", name := "<init>", desc := "(I)V" } : Jvm.MethodName)) ∈ jwd := jw_1 (i := 119) rfl rfl
theorem wd_1_120 : (Jvm.Cond.classLink "MergeWorkbench$Alignment" (29 : Nat) "MergeWorkbench$Table") ∈ jwd := jw_1 (i := 120) rfl rfl
theorem wd_1_121 : (Jvm.Cond.instantiable "MergeWorkbench$Table" (3 : Nat)) ∈ jwd := jw_1 (i := 121) rfl rfl
theorem wd_1_122 : (Jvm.Cond.methodLink "MergeWorkbench$Alignment" (31 : Nat) ({ cls := "MergeWorkbench$Table", name := "<init>", desc := "(II)V" } : Jvm.MethodName)) ∈ jwd := jw_1 (i := 122) rfl rfl
theorem wd_1_123 : (Jvm.Cond.instanceMethod ({ cls := "MergeWorkbench$Table", name := "<init>", desc := "(II)V" } : Jvm.MethodName)) ∈ jwd := jw_1 (i := 123) rfl rfl
theorem wd_1_124 : (Jvm.Cond.code ({ cls := "MergeWorkbench$Table", name := "<init>", desc := "(II)V" } : Jvm.MethodName) prog_10_method_1_code (4 : Nat) (Option.none : Option Jvm.ClassFile.FieldType)) ∈ jwd := jw_1 (i := 124) rfl rfl
theorem wd_1_125 : (Jvm.Cond.methodLink "MergeWorkbench$Table" (3 : Nat) ({ cls := "java/lang/Object", name := "<init>", desc := "()V" } : Jvm.MethodName)) ∈ jwd := jw_1 (i := 125) rfl rfl
theorem wd_1_126 : (Jvm.Cond.fieldLink "MergeWorkbench$Table" (9 : Nat) "MergeWorkbench$Table" "cells" "[I") ∈ jwd := jw_1 (i := 126) rfl rfl
theorem wd_1_127 : (Jvm.Cond.fieldLink "MergeWorkbench$Table" (15 : Nat) "MergeWorkbench$Table" "columns" "I") ∈ jwd := jw_1 (i := 127) rfl rfl
theorem wd_1_128 : (Jvm.Cond.fieldLink "MergeWorkbench$Table" (19 : Nat) "MergeWorkbench$Table" "rowCount" "I") ∈ jwd := jw_1 (i := 128) rfl rfl
theorem wd_1_129 : (Jvm.Cond.laysFinal "MergeWorkbench$Table" "MergeWorkbench$Table" "cells" "[I") ∈ jwd := jw_1 (i := 129) rfl rfl
theorem wd_1_131 : (Jvm.Cond.laysFinal "MergeWorkbench$Table" "MergeWorkbench$Table" "columns" "I") ∈ jwd := jw_1 (i := 131) rfl rfl
theorem wd_1_133 : (Jvm.Cond.lays "MergeWorkbench$Table" "MergeWorkbench$Table" "rowCount" "I") ∈ jwd := jw_1 (i := 133) rfl rfl
theorem wd_1_136 : (Jvm.Cond.methodLink "MergeWorkbench$Alignment" (38 : Nat) ({ cls := "MergeWorkbench$Table", name := "addRow", desc := "()I" } : Jvm.MethodName)) ∈ jwd := jw_1 (i := 136) rfl rfl
theorem wd_1_137 : (Jvm.Cond.instanceMethod ({ cls := "MergeWorkbench$Table", name := "addRow", desc := "()I" } : Jvm.MethodName)) ∈ jwd := jw_1 (i := 137) rfl rfl
theorem wd_1_138 : (Jvm.Cond.selects "MergeWorkbench$Table" ({ cls := "MergeWorkbench$Table", name := "addRow", desc := "()I" } : Jvm.MethodName) ({ cls := "MergeWorkbench$Table", name := "addRow", desc := "()I" } : Jvm.MethodName)) ∈ jwd := jw_1 (i := 138) rfl rfl
theorem wd_1_139 : (Jvm.Cond.code ({ cls := "MergeWorkbench$Table", name := "addRow", desc := "()I" } : Jvm.MethodName) prog_10_method_7_code (3 : Nat) (Option.some Jvm.ClassFile.FieldType.int)) ∈ jwd := jw_1 (i := 139) rfl rfl
theorem wd_1_140 : (Jvm.Cond.methodLink "MergeWorkbench$Table" (22 : Nat) ({ cls := "MergeWorkbench$Table", name := "put", desc := "(III)V" } : Jvm.MethodName)) ∈ jwd := jw_1 (i := 140) rfl rfl
theorem wd_1_141 : (Jvm.Cond.instanceMethod ({ cls := "MergeWorkbench$Table", name := "put", desc := "(III)V" } : Jvm.MethodName)) ∈ jwd := jw_1 (i := 141) rfl rfl
theorem wd_1_142 : (Jvm.Cond.selects "MergeWorkbench$Table" ({ cls := "MergeWorkbench$Table", name := "put", desc := "(III)V" } : Jvm.MethodName) ({ cls := "MergeWorkbench$Table", name := "put", desc := "(III)V" } : Jvm.MethodName)) ∈ jwd := jw_1 (i := 142) rfl rfl
theorem wd_1_143 : (Jvm.Cond.code ({ cls := "MergeWorkbench$Table", name := "put", desc := "(III)V" } : Jvm.MethodName) prog_10_method_5_code (6 : Nat) (Option.none : Option Jvm.ClassFile.FieldType)) ∈ jwd := jw_1 (i := 143) rfl rfl
theorem wd_1_144 : (Jvm.Cond.fieldLink "MergeWorkbench$Alignment" (14 : Nat) "MergeWorkbench$Alignment" "toSecond" "LMergeWorkbench$Lines;") ∈ jwd := jw_1 (i := 144) rfl rfl
theorem wd_1_145 : (Jvm.Cond.fieldLink "MergeWorkbench$Alignment" (20 : Nat) "MergeWorkbench$Alignment" "toFirst" "LMergeWorkbench$Lines;") ∈ jwd := jw_1 (i := 145) rfl rfl
theorem wd_1_146 : (Jvm.Cond.fieldLink "MergeWorkbench$Alignment" (23 : Nat) "MergeWorkbench$Alignment" "candidates" "LMergeWorkbench$Lines;") ∈ jwd := jw_1 (i := 146) rfl rfl
theorem wd_1_147 : (Jvm.Cond.fieldLink "MergeWorkbench$Alignment" (26 : Nat) "MergeWorkbench$Alignment" "chains" "LMergeWorkbench$Lines;") ∈ jwd := jw_1 (i := 147) rfl rfl
theorem wd_1_148 : (Jvm.Cond.fieldLink "MergeWorkbench$Alignment" (34 : Nat) "MergeWorkbench$Alignment" "longest" "LMergeWorkbench$Table;") ∈ jwd := jw_1 (i := 148) rfl rfl
theorem wd_1_149 : (Jvm.Cond.fieldLink "MergeWorkbench$Alignment" (42 : Nat) "MergeWorkbench$Alignment" "pairCount" "I") ∈ jwd := jw_1 (i := 149) rfl rfl
theorem wd_1_150 : (Jvm.Cond.fieldLink "MergeWorkbench$Alignment" (46 : Nat) "MergeWorkbench$Alignment" "anchorPairs" "I") ∈ jwd := jw_1 (i := 150) rfl rfl
theorem wd_1_151 : (Jvm.Cond.laysFinal "MergeWorkbench$Alignment" "MergeWorkbench$Alignment" "toSecond" "LMergeWorkbench$Lines;") ∈ jwd := jw_1 (i := 151) rfl rfl
theorem wd_1_153 : (Jvm.Cond.laysFinal "MergeWorkbench$Alignment" "MergeWorkbench$Alignment" "toFirst" "LMergeWorkbench$Lines;") ∈ jwd := jw_1 (i := 153) rfl rfl
theorem wd_1_155 : (Jvm.Cond.laysFinal "MergeWorkbench$Alignment" "MergeWorkbench$Alignment" "candidates" "LMergeWorkbench$Lines;") ∈ jwd := jw_1 (i := 155) rfl rfl
theorem wd_1_157 : (Jvm.Cond.laysFinal "MergeWorkbench$Alignment" "MergeWorkbench$Alignment" "chains" "LMergeWorkbench$Lines;") ∈ jwd := jw_1 (i := 157) rfl rfl
theorem wd_1_159 : (Jvm.Cond.laysFinal "MergeWorkbench$Alignment" "MergeWorkbench$Alignment" "longest" "LMergeWorkbench$Table;") ∈ jwd := jw_1 (i := 159) rfl rfl
theorem wd_1_161 : (Jvm.Cond.lays "MergeWorkbench$Alignment" "MergeWorkbench$Alignment" "pairCount" "I") ∈ jwd := jw_1 (i := 161) rfl rfl
theorem wd_1_163 : (Jvm.Cond.lays "MergeWorkbench$Alignment" "MergeWorkbench$Alignment" "anchorPairs" "I") ∈ jwd := jw_1 (i := 163) rfl rfl
theorem wd_1_166 : (Jvm.Cond.classLink "MergeWorkbench" (49 : Nat) "MergeWorkbench$Comparison") ∈ jwd := jw_1 (i := 166) rfl rfl
theorem wd_1_167 : (Jvm.Cond.instantiable "MergeWorkbench$Comparison" (9 : Nat)) ∈ jwd := jw_1 (i := 167) rfl rfl
theorem wd_1_169 : (Jvm.Cond.instanceMethod ({ cls := "MergeWorkbench$Comparison", name := "<init>", desc := "()V" } : Jvm.MethodName)) ∈ jwd := jw_1 (i := 169) rfl rfl
theorem wd_1_170 : (Jvm.Cond.code ({ cls := "MergeWorkbench$Comparison", name := "<init>", desc := "()V" } : Jvm.MethodName) prog_3_method_1_code (1 : Nat) (Option.none : Option Jvm.ClassFile.FieldType)) ∈ jwd := jw_1 (i := 170) rfl rfl
theorem wd_1_171 : (Jvm.Cond.methodLink "MergeWorkbench$Comparison" (3 : Nat) ({ cls := "java/lang/Object", name := "<init>", desc := "()V" } : Jvm.MethodName)) ∈ jwd := jw_1 (i := 171) rfl rfl
theorem wd_1_172 : (Jvm.Cond.classLink "MergeWorkbench$Comparison" (9 : Nat) "MergeWorkbench$Lines") ∈ jwd := jw_1 (i := 172) rfl rfl
theorem wd_1_173 : (Jvm.Cond.methodLink "MergeWorkbench$Comparison" (11 : Nat) ({ cls := "MergeWorkbench$Lines", name := "<init>", desc := "(I)V" } : Jvm.MethodName)) ∈ jwd := jw_1 (i := 173) rfl rfl
theorem wd_1_174 : (Jvm.Cond.classLink "MergeWorkbench$Comparison" (23 : Nat) "MergeWorkbench$Alignment") ∈ jwd := jw_1 (i := 174) rfl rfl
theorem wd_1_175 : (Jvm.Cond.methodLink "MergeWorkbench$Comparison" (25 : Nat) ({ cls := "MergeWorkbench$Alignment", name := "<init>", desc := "()V" } : Jvm.MethodName)) ∈ jwd := jw_1 (i := 175) rfl rfl
theorem wd_1_176 : (Jvm.Cond.classLink "MergeWorkbench$Comparison" (30 : Nat) "MergeWorkbench$Table") ∈ jwd := jw_1 (i := 176) rfl rfl
theorem wd_1_177 : (Jvm.Cond.methodLink "MergeWorkbench$Comparison" (32 : Nat) ({ cls := "MergeWorkbench$Table", name := "<init>", desc := "(II)V" } : Jvm.MethodName)) ∈ jwd := jw_1 (i := 177) rfl rfl
theorem wd_1_178 : (Jvm.Cond.fieldLink "MergeWorkbench$Comparison" (14 : Nat) "MergeWorkbench$Comparison" "a" "LMergeWorkbench$Lines;") ∈ jwd := jw_1 (i := 178) rfl rfl
theorem wd_1_179 : (Jvm.Cond.fieldLink "MergeWorkbench$Comparison" (20 : Nat) "MergeWorkbench$Comparison" "b" "LMergeWorkbench$Lines;") ∈ jwd := jw_1 (i := 179) rfl rfl
theorem wd_1_180 : (Jvm.Cond.fieldLink "MergeWorkbench$Comparison" (26 : Nat) "MergeWorkbench$Comparison" "pairing" "LMergeWorkbench$Alignment;") ∈ jwd := jw_1 (i := 180) rfl rfl
theorem wd_1_181 : (Jvm.Cond.fieldLink "MergeWorkbench$Comparison" (35 : Nat) "MergeWorkbench$Comparison" "differenceTable" "LMergeWorkbench$Table;") ∈ jwd := jw_1 (i := 181) rfl rfl
theorem wd_1_182 : (Jvm.Cond.fieldLink "MergeWorkbench$Comparison" (39 : Nat) "MergeWorkbench$Comparison" "steps" "LMergeWorkbench$Lines;") ∈ jwd := jw_1 (i := 182) rfl rfl
theorem wd_1_183 : (Jvm.Cond.fieldLink "MergeWorkbench$Comparison" (42 : Nat) "MergeWorkbench$Comparison" "moves" "LMergeWorkbench$Table;") ∈ jwd := jw_1 (i := 183) rfl rfl
theorem wd_1_184 : (Jvm.Cond.fieldLink "MergeWorkbench$Comparison" (45 : Nat) "MergeWorkbench$Comparison" "freeInA" "LMergeWorkbench$Lines;") ∈ jwd := jw_1 (i := 184) rfl rfl
theorem wd_1_185 : (Jvm.Cond.fieldLink "MergeWorkbench$Comparison" (48 : Nat) "MergeWorkbench$Comparison" "freeInB" "LMergeWorkbench$Lines;") ∈ jwd := jw_1 (i := 185) rfl rfl
theorem wd_1_186 : (Jvm.Cond.fieldLink "MergeWorkbench$Comparison" (51 : Nat) "MergeWorkbench$Comparison" "made" "Z") ∈ jwd := jw_1 (i := 186) rfl rfl
theorem wd_1_187 : (Jvm.Cond.laysFinal "MergeWorkbench$Comparison" "MergeWorkbench$Comparison" "a" "LMergeWorkbench$Lines;") ∈ jwd := jw_1 (i := 187) rfl rfl
theorem wd_1_189 : (Jvm.Cond.laysFinal "MergeWorkbench$Comparison" "MergeWorkbench$Comparison" "b" "LMergeWorkbench$Lines;") ∈ jwd := jw_1 (i := 189) rfl rfl
theorem wd_1_191 : (Jvm.Cond.laysFinal "MergeWorkbench$Comparison" "MergeWorkbench$Comparison" "pairing" "LMergeWorkbench$Alignment;") ∈ jwd := jw_1 (i := 191) rfl rfl
theorem wd_1_193 : (Jvm.Cond.laysFinal "MergeWorkbench$Comparison" "MergeWorkbench$Comparison" "differenceTable" "LMergeWorkbench$Table;") ∈ jwd := jw_1 (i := 193) rfl rfl
theorem wd_1_195 : (Jvm.Cond.laysFinal "MergeWorkbench$Comparison" "MergeWorkbench$Comparison" "steps" "LMergeWorkbench$Lines;") ∈ jwd := jw_1 (i := 195) rfl rfl
theorem wd_1_197 : (Jvm.Cond.laysFinal "MergeWorkbench$Comparison" "MergeWorkbench$Comparison" "moves" "LMergeWorkbench$Table;") ∈ jwd := jw_1 (i := 197) rfl rfl
theorem wd_1_199 : (Jvm.Cond.laysFinal "MergeWorkbench$Comparison" "MergeWorkbench$Comparison" "freeInA" "LMergeWorkbench$Lines;") ∈ jwd := jw_1 (i := 199) rfl rfl
theorem wd_1_201 : (Jvm.Cond.laysFinal "MergeWorkbench$Comparison" "MergeWorkbench$Comparison" "freeInB" "LMergeWorkbench$Lines;") ∈ jwd := jw_1 (i := 201) rfl rfl
theorem wd_1_203 : (Jvm.Cond.lays "MergeWorkbench$Comparison" "MergeWorkbench$Comparison" "made" "Z") ∈ jwd := jw_1 (i := 203) rfl rfl
theorem wd_1_206 : (Jvm.Cond.classLink "MergeWorkbench" (56 : Nat) "MergeWorkbench$Merge") ∈ jwd := jw_1 (i := 206) rfl rfl
theorem wd_1_207 : (Jvm.Cond.instantiable "MergeWorkbench$Merge" (9 : Nat)) ∈ jwd := jw_1 (i := 207) rfl rfl
theorem wd_1_209 : (Jvm.Cond.instanceMethod ({ cls := "MergeWorkbench$Merge", name := "<init>", desc := "()V" } : Jvm.MethodName)) ∈ jwd := jw_1 (i := 209) rfl rfl
theorem wd_1_210 : (Jvm.Cond.code ({ cls := "MergeWorkbench$Merge", name := "<init>", desc := "()V" } : Jvm.MethodName) prog_7_method_1_code (1 : Nat) (Option.none : Option Jvm.ClassFile.FieldType)) ∈ jwd := jw_1 (i := 210) rfl rfl
theorem wd_1_211 : (Jvm.Cond.methodLink "MergeWorkbench$Merge" (3 : Nat) ({ cls := "java/lang/Object", name := "<init>", desc := "()V" } : Jvm.MethodName)) ∈ jwd := jw_1 (i := 211) rfl rfl
theorem wd_1_212 : (Jvm.Cond.classLink "MergeWorkbench$Merge" (9 : Nat) "MergeWorkbench$Lines") ∈ jwd := jw_1 (i := 212) rfl rfl
theorem wd_1_213 : (Jvm.Cond.methodLink "MergeWorkbench$Merge" (11 : Nat) ({ cls := "MergeWorkbench$Lines", name := "<init>", desc := "(I)V" } : Jvm.MethodName)) ∈ jwd := jw_1 (i := 213) rfl rfl
theorem wd_1_214 : (Jvm.Cond.classLink "MergeWorkbench$Merge" (26 : Nat) "MergeWorkbench$Alignment") ∈ jwd := jw_1 (i := 214) rfl rfl
theorem wd_1_215 : (Jvm.Cond.methodLink "MergeWorkbench$Merge" (28 : Nat) ({ cls := "MergeWorkbench$Alignment", name := "<init>", desc := "()V" } : Jvm.MethodName)) ∈ jwd := jw_1 (i := 215) rfl rfl
theorem wd_1_216 : (Jvm.Cond.classLink "MergeWorkbench$Merge" (36 : Nat) "MergeWorkbench$Table") ∈ jwd := jw_1 (i := 216) rfl rfl
theorem wd_1_217 : (Jvm.Cond.methodLink "MergeWorkbench$Merge" (38 : Nat) ({ cls := "MergeWorkbench$Table", name := "<init>", desc := "(II)V" } : Jvm.MethodName)) ∈ jwd := jw_1 (i := 217) rfl rfl
theorem wd_1_218 : (Jvm.Cond.fieldLink "MergeWorkbench$Merge" (14 : Nat) "MergeWorkbench$Merge" "base" "LMergeWorkbench$Lines;") ∈ jwd := jw_1 (i := 218) rfl rfl
theorem wd_1_219 : (Jvm.Cond.fieldLink "MergeWorkbench$Merge" (20 : Nat) "MergeWorkbench$Merge" "left" "LMergeWorkbench$Lines;") ∈ jwd := jw_1 (i := 219) rfl rfl
theorem wd_1_220 : (Jvm.Cond.fieldLink "MergeWorkbench$Merge" (23 : Nat) "MergeWorkbench$Merge" "right" "LMergeWorkbench$Lines;") ∈ jwd := jw_1 (i := 220) rfl rfl
theorem wd_1_221 : (Jvm.Cond.fieldLink "MergeWorkbench$Merge" (29 : Nat) "MergeWorkbench$Merge" "toLeft" "LMergeWorkbench$Alignment;") ∈ jwd := jw_1 (i := 221) rfl rfl
theorem wd_1_222 : (Jvm.Cond.fieldLink "MergeWorkbench$Merge" (33 : Nat) "MergeWorkbench$Merge" "toRight" "LMergeWorkbench$Alignment;") ∈ jwd := jw_1 (i := 222) rfl rfl
theorem wd_1_223 : (Jvm.Cond.fieldLink "MergeWorkbench$Merge" (41 : Nat) "MergeWorkbench$Merge" "chunkTable" "LMergeWorkbench$Table;") ∈ jwd := jw_1 (i := 223) rfl rfl
theorem wd_1_224 : (Jvm.Cond.fieldLink "MergeWorkbench$Merge" (45 : Nat) "MergeWorkbench$Merge" "conflictRows" "LMergeWorkbench$Lines;") ∈ jwd := jw_1 (i := 224) rfl rfl
theorem wd_1_225 : (Jvm.Cond.fieldLink "MergeWorkbench$Merge" (48 : Nat) "MergeWorkbench$Merge" "result" "LMergeWorkbench$Lines;") ∈ jwd := jw_1 (i := 225) rfl rfl
theorem wd_1_226 : (Jvm.Cond.fieldLink "MergeWorkbench$Merge" (51 : Nat) "MergeWorkbench$Merge" "made" "Z") ∈ jwd := jw_1 (i := 226) rfl rfl
theorem wd_1_227 : (Jvm.Cond.laysFinal "MergeWorkbench$Merge" "MergeWorkbench$Merge" "base" "LMergeWorkbench$Lines;") ∈ jwd := jw_1 (i := 227) rfl rfl
theorem wd_1_229 : (Jvm.Cond.laysFinal "MergeWorkbench$Merge" "MergeWorkbench$Merge" "left" "LMergeWorkbench$Lines;") ∈ jwd := jw_1 (i := 229) rfl rfl
theorem wd_1_231 : (Jvm.Cond.laysFinal "MergeWorkbench$Merge" "MergeWorkbench$Merge" "right" "LMergeWorkbench$Lines;") ∈ jwd := jw_1 (i := 231) rfl rfl
theorem wd_1_233 : (Jvm.Cond.laysFinal "MergeWorkbench$Merge" "MergeWorkbench$Merge" "toLeft" "LMergeWorkbench$Alignment;") ∈ jwd := jw_1 (i := 233) rfl rfl
theorem wd_1_235 : (Jvm.Cond.laysFinal "MergeWorkbench$Merge" "MergeWorkbench$Merge" "toRight" "LMergeWorkbench$Alignment;") ∈ jwd := jw_1 (i := 235) rfl rfl
theorem wd_1_237 : (Jvm.Cond.laysFinal "MergeWorkbench$Merge" "MergeWorkbench$Merge" "chunkTable" "LMergeWorkbench$Table;") ∈ jwd := jw_1 (i := 237) rfl rfl
theorem wd_1_239 : (Jvm.Cond.laysFinal "MergeWorkbench$Merge" "MergeWorkbench$Merge" "conflictRows" "LMergeWorkbench$Lines;") ∈ jwd := jw_1 (i := 239) rfl rfl
theorem wd_2_1 : (Jvm.Cond.laysFinal "MergeWorkbench$Merge" "MergeWorkbench$Merge" "result" "LMergeWorkbench$Lines;") ∈ jwd := jw_2 (i := 1) rfl rfl
theorem wd_2_3 : (Jvm.Cond.lays "MergeWorkbench$Merge" "MergeWorkbench$Merge" "made" "Z") ∈ jwd := jw_2 (i := 3) rfl rfl
theorem wd_2_6 : (Jvm.Cond.classLink "MergeWorkbench" (63 : Nat) "MergeWorkbench$Patch") ∈ jwd := jw_2 (i := 6) rfl rfl
theorem wd_2_7 : (Jvm.Cond.instantiable "MergeWorkbench$Patch" (9 : Nat)) ∈ jwd := jw_2 (i := 7) rfl rfl
theorem wd_2_9 : (Jvm.Cond.instanceMethod ({ cls := "MergeWorkbench$Patch", name := "<init>", desc := "()V" } : Jvm.MethodName)) ∈ jwd := jw_2 (i := 9) rfl rfl
theorem wd_2_10 : (Jvm.Cond.code ({ cls := "MergeWorkbench$Patch", name := "<init>", desc := "()V" } : Jvm.MethodName) prog_8_method_1_code (1 : Nat) (Option.none : Option Jvm.ClassFile.FieldType)) ∈ jwd := jw_2 (i := 10) rfl rfl
theorem wd_2_11 : (Jvm.Cond.methodLink "MergeWorkbench$Patch" (3 : Nat) ({ cls := "java/lang/Object", name := "<init>", desc := "()V" } : Jvm.MethodName)) ∈ jwd := jw_2 (i := 11) rfl rfl
theorem wd_2_12 : (Jvm.Cond.classLink "MergeWorkbench$Patch" (9 : Nat) "MergeWorkbench$Lines") ∈ jwd := jw_2 (i := 12) rfl rfl
theorem wd_2_13 : (Jvm.Cond.methodLink "MergeWorkbench$Patch" (11 : Nat) ({ cls := "MergeWorkbench$Lines", name := "<init>", desc := "(I)V" } : Jvm.MethodName)) ∈ jwd := jw_2 (i := 13) rfl rfl
theorem wd_2_14 : (Jvm.Cond.classLink "MergeWorkbench$Patch" (23 : Nat) "MergeWorkbench$Table") ∈ jwd := jw_2 (i := 14) rfl rfl
theorem wd_2_15 : (Jvm.Cond.methodLink "MergeWorkbench$Patch" (25 : Nat) ({ cls := "MergeWorkbench$Table", name := "<init>", desc := "(II)V" } : Jvm.MethodName)) ∈ jwd := jw_2 (i := 15) rfl rfl
theorem wd_2_16 : (Jvm.Cond.fieldLink "MergeWorkbench$Patch" (14 : Nat) "MergeWorkbench$Patch" "first" "LMergeWorkbench$Lines;") ∈ jwd := jw_2 (i := 16) rfl rfl
theorem wd_2_17 : (Jvm.Cond.fieldLink "MergeWorkbench$Patch" (20 : Nat) "MergeWorkbench$Patch" "second" "LMergeWorkbench$Lines;") ∈ jwd := jw_2 (i := 17) rfl rfl
theorem wd_2_18 : (Jvm.Cond.fieldLink "MergeWorkbench$Patch" (28 : Nat) "MergeWorkbench$Patch" "hunkTable" "LMergeWorkbench$Table;") ∈ jwd := jw_2 (i := 18) rfl rfl
theorem wd_2_19 : (Jvm.Cond.fieldLink "MergeWorkbench$Patch" (32 : Nat) "MergeWorkbench$Patch" "trials" "LMergeWorkbench$Table;") ∈ jwd := jw_2 (i := 19) rfl rfl
theorem wd_2_20 : (Jvm.Cond.fieldLink "MergeWorkbench$Patch" (35 : Nat) "MergeWorkbench$Patch" "kept" "LMergeWorkbench$Table;") ∈ jwd := jw_2 (i := 20) rfl rfl
theorem wd_2_21 : (Jvm.Cond.fieldLink "MergeWorkbench$Patch" (38 : Nat) "MergeWorkbench$Patch" "result" "LMergeWorkbench$Lines;") ∈ jwd := jw_2 (i := 21) rfl rfl
theorem wd_2_22 : (Jvm.Cond.fieldLink "MergeWorkbench$Patch" (98 : Nat) "MergeWorkbench$Patch" "shift" "I") ∈ jwd := jw_2 (i := 22) rfl rfl
theorem wd_2_23 : (Jvm.Cond.fieldLink "MergeWorkbench$Patch" (102 : Nat) "MergeWorkbench$Patch" "replacedEnd" "I") ∈ jwd := jw_2 (i := 23) rfl rfl
theorem wd_2_24 : (Jvm.Cond.fieldLink "MergeWorkbench$Patch" (41 : Nat) "MergeWorkbench$Patch" "made" "Z") ∈ jwd := jw_2 (i := 24) rfl rfl
theorem wd_2_25 : (Jvm.Cond.laysFinal "MergeWorkbench$Patch" "MergeWorkbench$Patch" "first" "LMergeWorkbench$Lines;") ∈ jwd := jw_2 (i := 25) rfl rfl
theorem wd_2_27 : (Jvm.Cond.laysFinal "MergeWorkbench$Patch" "MergeWorkbench$Patch" "second" "LMergeWorkbench$Lines;") ∈ jwd := jw_2 (i := 27) rfl rfl
theorem wd_2_29 : (Jvm.Cond.laysFinal "MergeWorkbench$Patch" "MergeWorkbench$Patch" "hunkTable" "LMergeWorkbench$Table;") ∈ jwd := jw_2 (i := 29) rfl rfl
theorem wd_2_31 : (Jvm.Cond.laysFinal "MergeWorkbench$Patch" "MergeWorkbench$Patch" "trials" "LMergeWorkbench$Table;") ∈ jwd := jw_2 (i := 31) rfl rfl
theorem wd_2_33 : (Jvm.Cond.laysFinal "MergeWorkbench$Patch" "MergeWorkbench$Patch" "kept" "LMergeWorkbench$Table;") ∈ jwd := jw_2 (i := 33) rfl rfl
theorem wd_2_35 : (Jvm.Cond.laysFinal "MergeWorkbench$Patch" "MergeWorkbench$Patch" "result" "LMergeWorkbench$Lines;") ∈ jwd := jw_2 (i := 35) rfl rfl
theorem wd_2_37 : (Jvm.Cond.lays "MergeWorkbench$Patch" "MergeWorkbench$Patch" "shift" "I") ∈ jwd := jw_2 (i := 37) rfl rfl
theorem wd_2_39 : (Jvm.Cond.lays "MergeWorkbench$Patch" "MergeWorkbench$Patch" "replacedEnd" "I") ∈ jwd := jw_2 (i := 39) rfl rfl
theorem wd_2_41 : (Jvm.Cond.lays "MergeWorkbench$Patch" "MergeWorkbench$Patch" "made" "Z") ∈ jwd := jw_2 (i := 41) rfl rfl
theorem wd_2_44 : (Jvm.Cond.fieldLink "MergeWorkbench" (14 : Nat) "MergeWorkbench" "documents" "LMergeWorkbench$Shelf;") ∈ jwd := jw_2 (i := 44) rfl rfl
theorem wd_2_45 : (Jvm.Cond.fieldLink "MergeWorkbench" (18 : Nat) "MergeWorkbench" "savedDocuments" "LMergeWorkbench$Shelf;") ∈ jwd := jw_2 (i := 45) rfl rfl
theorem wd_2_46 : (Jvm.Cond.fieldLink "MergeWorkbench" (24 : Nat) "MergeWorkbench" "history" "LMergeWorkbench$History;") ∈ jwd := jw_2 (i := 46) rfl rfl
theorem wd_2_47 : (Jvm.Cond.fieldLink "MergeWorkbench" (31 : Nat) "MergeWorkbench" "input" "LMergeWorkbench$Input;") ∈ jwd := jw_2 (i := 47) rfl rfl
theorem wd_2_48 : (Jvm.Cond.fieldLink "MergeWorkbench" (38 : Nat) "MergeWorkbench" "expansion" "LMergeWorkbench$Lines;") ∈ jwd := jw_2 (i := 48) rfl rfl
theorem wd_2_49 : (Jvm.Cond.fieldLink "MergeWorkbench" (45 : Nat) "MergeWorkbench" "measuring" "LMergeWorkbench$Alignment;") ∈ jwd := jw_2 (i := 49) rfl rfl
theorem wd_2_50 : (Jvm.Cond.fieldLink "MergeWorkbench" (52 : Nat) "MergeWorkbench" "lastComparison" "LMergeWorkbench$Comparison;") ∈ jwd := jw_2 (i := 50) rfl rfl
theorem wd_2_51 : (Jvm.Cond.fieldLink "MergeWorkbench" (59 : Nat) "MergeWorkbench" "lastMerge" "LMergeWorkbench$Merge;") ∈ jwd := jw_2 (i := 51) rfl rfl
theorem wd_2_52 : (Jvm.Cond.fieldLink "MergeWorkbench" (66 : Nat) "MergeWorkbench" "lastPatch" "LMergeWorkbench$Patch;") ∈ jwd := jw_2 (i := 52) rfl rfl
theorem wd_2_53 : (Jvm.Cond.fieldLink "MergeWorkbench" (70 : Nat) "MergeWorkbench" "currentMode" "I") ∈ jwd := jw_2 (i := 53) rfl rfl
theorem wd_2_54 : (Jvm.Cond.fieldLink "MergeWorkbench" (74 : Nat) "MergeWorkbench" "savedMode" "I") ∈ jwd := jw_2 (i := 54) rfl rfl
theorem wd_2_55 : (Jvm.Cond.fieldLink "MergeWorkbench" (77 : Nat) "MergeWorkbench" "hasSaved" "Z") ∈ jwd := jw_2 (i := 55) rfl rfl
theorem wd_2_56 : (Jvm.Cond.fieldLink "MergeWorkbench" (81 : Nat) "MergeWorkbench" "shrinking" "Z") ∈ jwd := jw_2 (i := 56) rfl rfl
theorem wd_2_57 : (Jvm.Cond.laysFinal "MergeWorkbench" "MergeWorkbench" "documents" "LMergeWorkbench$Shelf;") ∈ jwd := jw_2 (i := 57) rfl rfl
theorem wd_2_59 : (Jvm.Cond.laysFinal "MergeWorkbench" "MergeWorkbench" "savedDocuments" "LMergeWorkbench$Shelf;") ∈ jwd := jw_2 (i := 59) rfl rfl
theorem wd_2_61 : (Jvm.Cond.laysFinal "MergeWorkbench" "MergeWorkbench" "history" "LMergeWorkbench$History;") ∈ jwd := jw_2 (i := 61) rfl rfl
theorem wd_2_63 : (Jvm.Cond.laysFinal "MergeWorkbench" "MergeWorkbench" "input" "LMergeWorkbench$Input;") ∈ jwd := jw_2 (i := 63) rfl rfl
theorem wd_2_65 : (Jvm.Cond.laysFinal "MergeWorkbench" "MergeWorkbench" "expansion" "LMergeWorkbench$Lines;") ∈ jwd := jw_2 (i := 65) rfl rfl
theorem wd_2_67 : (Jvm.Cond.laysFinal "MergeWorkbench" "MergeWorkbench" "measuring" "LMergeWorkbench$Alignment;") ∈ jwd := jw_2 (i := 67) rfl rfl
theorem wd_2_69 : (Jvm.Cond.laysFinal "MergeWorkbench" "MergeWorkbench" "lastComparison" "LMergeWorkbench$Comparison;") ∈ jwd := jw_2 (i := 69) rfl rfl
theorem wd_2_71 : (Jvm.Cond.laysFinal "MergeWorkbench" "MergeWorkbench" "lastMerge" "LMergeWorkbench$Merge;") ∈ jwd := jw_2 (i := 71) rfl rfl
theorem wd_2_73 : (Jvm.Cond.laysFinal "MergeWorkbench" "MergeWorkbench" "lastPatch" "LMergeWorkbench$Patch;") ∈ jwd := jw_2 (i := 73) rfl rfl
theorem wd_2_75 : (Jvm.Cond.lays "MergeWorkbench" "MergeWorkbench" "currentMode" "I") ∈ jwd := jw_2 (i := 75) rfl rfl
theorem wd_2_77 : (Jvm.Cond.lays "MergeWorkbench" "MergeWorkbench" "savedMode" "I") ∈ jwd := jw_2 (i := 77) rfl rfl
theorem wd_2_79 : (Jvm.Cond.lays "MergeWorkbench" "MergeWorkbench" "hasSaved" "Z") ∈ jwd := jw_2 (i := 79) rfl rfl
theorem wd_2_81 : (Jvm.Cond.lays "MergeWorkbench" "MergeWorkbench" "shrinking" "Z") ∈ jwd := jw_2 (i := 81) rfl rfl
theorem wd_2_84 : (Jvm.Cond.methodLink "MergeWorkbenchLaw" (206 : Nat) ({ cls := "MergeWorkbench", name := "setShrinking", desc := "(Z)Z" } : Jvm.MethodName)) ∈ jwd := jw_2 (i := 84) rfl rfl
theorem wd_2_85 : (Jvm.Cond.instanceMethod ({ cls := "MergeWorkbench", name := "setShrinking", desc := "(Z)Z" } : Jvm.MethodName)) ∈ jwd := jw_2 (i := 85) rfl rfl
theorem wd_2_86 : (Jvm.Cond.selects "MergeWorkbench" ({ cls := "MergeWorkbench", name := "setShrinking", desc := "(Z)Z" } : Jvm.MethodName) ({ cls := "MergeWorkbench", name := "setShrinking", desc := "(Z)Z" } : Jvm.MethodName)) ∈ jwd := jw_2 (i := 86) rfl rfl
theorem wd_2_87 : (Jvm.Cond.code ({ cls := "MergeWorkbench", name := "setShrinking", desc := "(Z)Z" } : Jvm.MethodName) prog_1_method_22_code (3 : Nat) (Option.some Jvm.ClassFile.FieldType.boolean)) ∈ jwd := jw_2 (i := 87) rfl rfl
theorem wd_2_88 : (Jvm.Cond.methodLink "MergeWorkbenchLaw" (251 : Nat) ({ cls := "MergeWorkbench", name := "save", desc := "()I" } : Jvm.MethodName)) ∈ jwd := jw_2 (i := 88) rfl rfl
theorem wd_2_89 : (Jvm.Cond.instanceMethod ({ cls := "MergeWorkbench", name := "save", desc := "()I" } : Jvm.MethodName)) ∈ jwd := jw_2 (i := 89) rfl rfl
theorem wd_2_90 : (Jvm.Cond.selects "MergeWorkbench" ({ cls := "MergeWorkbench", name := "save", desc := "()I" } : Jvm.MethodName) ({ cls := "MergeWorkbench", name := "save", desc := "()I" } : Jvm.MethodName)) ∈ jwd := jw_2 (i := 90) rfl rfl
theorem wd_2_91 : (Jvm.Cond.code ({ cls := "MergeWorkbench", name := "save", desc := "()I" } : Jvm.MethodName) prog_1_method_36_code (1 : Nat) (Option.some Jvm.ClassFile.FieldType.int)) ∈ jwd := jw_2 (i := 91) rfl rfl
theorem wd_2_92 : (Jvm.Cond.methodLink "MergeWorkbench" (307 : Nat) ({ cls := "MergeWorkbench$Shelf", name := "become", desc := "(LMergeWorkbench$Shelf;)V" } : Jvm.MethodName)) ∈ jwd := jw_2 (i := 92) rfl rfl
theorem wd_2_93 : (Jvm.Cond.instanceMethod ({ cls := "MergeWorkbench$Shelf", name := "become", desc := "(LMergeWorkbench$Shelf;)V" } : Jvm.MethodName)) ∈ jwd := jw_2 (i := 93) rfl rfl
theorem wd_2_94 : (Jvm.Cond.selects "MergeWorkbench$Shelf" ({ cls := "MergeWorkbench$Shelf", name := "become", desc := "(LMergeWorkbench$Shelf;)V" } : Jvm.MethodName) ({ cls := "MergeWorkbench$Shelf", name := "become", desc := "(LMergeWorkbench$Shelf;)V" } : Jvm.MethodName)) ∈ jwd := jw_2 (i := 94) rfl rfl
theorem wd_2_95 : (Jvm.Cond.code ({ cls := "MergeWorkbench$Shelf", name := "become", desc := "(LMergeWorkbench$Shelf;)V" } : Jvm.MethodName) prog_9_method_3_code (3 : Nat) (Option.none : Option Jvm.ClassFile.FieldType)) ∈ jwd := jw_2 (i := 95) rfl rfl
theorem wd_2_96 : (Jvm.Cond.methodLink "MergeWorkbench$Shelf" (24 : Nat) ({ cls := "MergeWorkbench$Shelf", name := "place", desc := "(I)LMergeWorkbench$Lines;" } : Jvm.MethodName)) ∈ jwd := jw_2 (i := 96) rfl rfl
theorem wd_2_97 : (Jvm.Cond.instanceMethod ({ cls := "MergeWorkbench$Shelf", name := "place", desc := "(I)LMergeWorkbench$Lines;" } : Jvm.MethodName)) ∈ jwd := jw_2 (i := 97) rfl rfl
theorem wd_2_98 : (Jvm.Cond.selects "MergeWorkbench$Shelf" ({ cls := "MergeWorkbench$Shelf", name := "place", desc := "(I)LMergeWorkbench$Lines;" } : Jvm.MethodName) ({ cls := "MergeWorkbench$Shelf", name := "place", desc := "(I)LMergeWorkbench$Lines;" } : Jvm.MethodName)) ∈ jwd := jw_2 (i := 98) rfl rfl
theorem wd_2_99 : (Jvm.Cond.code ({ cls := "MergeWorkbench$Shelf", name := "place", desc := "(I)LMergeWorkbench$Lines;" } : Jvm.MethodName) prog_9_method_2_code (3 : Nat) (Option.some (Jvm.ClassFile.FieldType.object "MergeWorkbench$Lines"))) ∈ jwd := jw_2 (i := 99) rfl rfl
theorem wd_2_100 : (Jvm.Cond.methodLink "MergeWorkbench$Shelf" (28 : Nat) ({ cls := "MergeWorkbench$Lines", name := "become", desc := "(LMergeWorkbench$Lines;)V" } : Jvm.MethodName)) ∈ jwd := jw_2 (i := 100) rfl rfl
theorem wd_2_101 : (Jvm.Cond.instanceMethod ({ cls := "MergeWorkbench$Lines", name := "become", desc := "(LMergeWorkbench$Lines;)V" } : Jvm.MethodName)) ∈ jwd := jw_2 (i := 101) rfl rfl
theorem wd_2_102 : (Jvm.Cond.selects "MergeWorkbench$Lines" ({ cls := "MergeWorkbench$Lines", name := "become", desc := "(LMergeWorkbench$Lines;)V" } : Jvm.MethodName) ({ cls := "MergeWorkbench$Lines", name := "become", desc := "(LMergeWorkbench$Lines;)V" } : Jvm.MethodName)) ∈ jwd := jw_2 (i := 102) rfl rfl
theorem wd_2_103 : (Jvm.Cond.code ({ cls := "MergeWorkbench$Lines", name := "become", desc := "(LMergeWorkbench$Lines;)V" } : Jvm.MethodName) prog_6_method_12_code (2 : Nat) (Option.none : Option Jvm.ClassFile.FieldType)) ∈ jwd := jw_2 (i := 103) rfl rfl
theorem wd_2_104 : (Jvm.Cond.methodLink "MergeWorkbench$Lines" (38 : Nat) ({ cls := "MergeWorkbench$Lines", name := "size", desc := "()I" } : Jvm.MethodName)) ∈ jwd := jw_2 (i := 104) rfl rfl
theorem wd_2_105 : (Jvm.Cond.instanceMethod ({ cls := "MergeWorkbench$Lines", name := "size", desc := "()I" } : Jvm.MethodName)) ∈ jwd := jw_2 (i := 105) rfl rfl
theorem wd_2_106 : (Jvm.Cond.selects "MergeWorkbench$Lines" ({ cls := "MergeWorkbench$Lines", name := "size", desc := "()I" } : Jvm.MethodName) ({ cls := "MergeWorkbench$Lines", name := "size", desc := "()I" } : Jvm.MethodName)) ∈ jwd := jw_2 (i := 106) rfl rfl
theorem wd_2_107 : (Jvm.Cond.code ({ cls := "MergeWorkbench$Lines", name := "size", desc := "()I" } : Jvm.MethodName) prog_6_method_2_code (1 : Nat) (Option.some Jvm.ClassFile.FieldType.int)) ∈ jwd := jw_2 (i := 107) rfl rfl
theorem wd_2_108 : (Jvm.Cond.methodLink "MergeWorkbench$Lines" (42 : Nat) ({ cls := "MergeWorkbench$Lines", name := "pushPart", desc := "(LMergeWorkbench$Lines;II)V" } : Jvm.MethodName)) ∈ jwd := jw_2 (i := 108) rfl rfl
theorem wd_2_109 : (Jvm.Cond.instanceMethod ({ cls := "MergeWorkbench$Lines", name := "pushPart", desc := "(LMergeWorkbench$Lines;II)V" } : Jvm.MethodName)) ∈ jwd := jw_2 (i := 109) rfl rfl
theorem wd_2_110 : (Jvm.Cond.selects "MergeWorkbench$Lines" ({ cls := "MergeWorkbench$Lines", name := "pushPart", desc := "(LMergeWorkbench$Lines;II)V" } : Jvm.MethodName) ({ cls := "MergeWorkbench$Lines", name := "pushPart", desc := "(LMergeWorkbench$Lines;II)V" } : Jvm.MethodName)) ∈ jwd := jw_2 (i := 110) rfl rfl
theorem wd_2_111 : (Jvm.Cond.code ({ cls := "MergeWorkbench$Lines", name := "pushPart", desc := "(LMergeWorkbench$Lines;II)V" } : Jvm.MethodName) prog_6_method_9_code (5 : Nat) (Option.none : Option Jvm.ClassFile.FieldType)) ∈ jwd := jw_2 (i := 111) rfl rfl
theorem wd_2_112 : (Jvm.Cond.methodLink "MergeWorkbench$Lines" (19 : Nat) ({ cls := "MergeWorkbench$Lines", name := "at", desc := "(I)I" } : Jvm.MethodName)) ∈ jwd := jw_2 (i := 112) rfl rfl
theorem wd_2_113 : (Jvm.Cond.instanceMethod ({ cls := "MergeWorkbench$Lines", name := "at", desc := "(I)I" } : Jvm.MethodName)) ∈ jwd := jw_2 (i := 113) rfl rfl
theorem wd_2_114 : (Jvm.Cond.selects "MergeWorkbench$Lines" ({ cls := "MergeWorkbench$Lines", name := "at", desc := "(I)I" } : Jvm.MethodName) ({ cls := "MergeWorkbench$Lines", name := "at", desc := "(I)I" } : Jvm.MethodName)) ∈ jwd := jw_2 (i := 114) rfl rfl
theorem wd_2_115 : (Jvm.Cond.code ({ cls := "MergeWorkbench$Lines", name := "at", desc := "(I)I" } : Jvm.MethodName) prog_6_method_5_code (2 : Nat) (Option.some Jvm.ClassFile.FieldType.int)) ∈ jwd := jw_2 (i := 115) rfl rfl
theorem wd_2_116 : (Jvm.Cond.methodLink "MergeWorkbench" (311 : Nat) ({ cls := "MergeWorkbench$Shelf", name := "allLines", desc := "()I" } : Jvm.MethodName)) ∈ jwd := jw_2 (i := 116) rfl rfl
theorem wd_2_117 : (Jvm.Cond.instanceMethod ({ cls := "MergeWorkbench$Shelf", name := "allLines", desc := "()I" } : Jvm.MethodName)) ∈ jwd := jw_2 (i := 117) rfl rfl
theorem wd_2_118 : (Jvm.Cond.selects "MergeWorkbench$Shelf" ({ cls := "MergeWorkbench$Shelf", name := "allLines", desc := "()I" } : Jvm.MethodName) ({ cls := "MergeWorkbench$Shelf", name := "allLines", desc := "()I" } : Jvm.MethodName)) ∈ jwd := jw_2 (i := 118) rfl rfl
theorem wd_2_119 : (Jvm.Cond.code ({ cls := "MergeWorkbench$Shelf", name := "allLines", desc := "()I" } : Jvm.MethodName) prog_9_method_4_code (3 : Nat) (Option.some Jvm.ClassFile.FieldType.int)) ∈ jwd := jw_2 (i := 119) rfl rfl
theorem wd_2_120 : (Jvm.Cond.methodLink "MergeWorkbench$Shelf" (32 : Nat) ({ cls := "MergeWorkbench$Lines", name := "size", desc := "()I" } : Jvm.MethodName)) ∈ jwd := jw_2 (i := 120) rfl rfl
theorem wd_2_121 : (Jvm.Cond.methodLink "MergeWorkbenchLaw" (135 : Nat) ({ cls := "MergeWorkbenchLaw", name := "append", desc := "(LMergeWorkbench;II[J)I" } : Jvm.MethodName)) ∈ jwd := jw_2 (i := 121) rfl rfl
theorem wd_2_122 : (Jvm.Cond.static ({ cls := "MergeWorkbenchLaw", name := "append", desc := "(LMergeWorkbench;II[J)I" } : Jvm.MethodName)) ∈ jwd := jw_2 (i := 122) rfl rfl
theorem wd_2_123 : (Jvm.Cond.codeWith ({ cls := "MergeWorkbenchLaw", name := "append", desc := "(LMergeWorkbench;II[J)I" } : Jvm.MethodName) method_3_code (5 : Nat) (Option.some Jvm.ClassFile.FieldType.int) [((0 : Nat), (10 : Nat), (13 : Nat), (13 : Nat)), ((0 : Nat), (10 : Nat), (17 : Nat), (15 : Nat))]) ∈ jwd := jw_2 (i := 123) rfl rfl
theorem wd_2_124 : (Jvm.Cond.classLink "MergeWorkbenchLaw" (13 : Nat) "java/lang/IllegalArgumentException") ∈ jwd := jw_2 (i := 124) rfl rfl
theorem wd_2_125 : (Jvm.Cond.classLink "MergeWorkbenchLaw" (15 : Nat) "java/lang/IllegalStateException") ∈ jwd := jw_2 (i := 125) rfl rfl
theorem wd_2_126 : (Jvm.Cond.methodLink "MergeWorkbenchLaw" (7 : Nat) ({ cls := "MergeWorkbench", name := "append", desc := "(II)I" } : Jvm.MethodName)) ∈ jwd := jw_2 (i := 126) rfl rfl
theorem wd_2_127 : (Jvm.Cond.instanceMethod ({ cls := "MergeWorkbench", name := "append", desc := "(II)I" } : Jvm.MethodName)) ∈ jwd := jw_2 (i := 127) rfl rfl
theorem wd_2_128 : (Jvm.Cond.selects "MergeWorkbench" ({ cls := "MergeWorkbench", name := "append", desc := "(II)I" } : Jvm.MethodName) ({ cls := "MergeWorkbench", name := "append", desc := "(II)I" } : Jvm.MethodName)) ∈ jwd := jw_2 (i := 128) rfl rfl
theorem wd_2_129 : (Jvm.Cond.code ({ cls := "MergeWorkbench", name := "append", desc := "(II)I" } : Jvm.MethodName) prog_1_method_2_code (4 : Nat) (Option.some Jvm.ClassFile.FieldType.int)) ∈ jwd := jw_2 (i := 129) rfl rfl
theorem wd_2_130 : (Jvm.Cond.methodLink "MergeWorkbench" (84 : Nat) ({ cls := "MergeWorkbench", name := "document", desc := "(I)LMergeWorkbench$Lines;" } : Jvm.MethodName)) ∈ jwd := jw_2 (i := 130) rfl rfl
theorem wd_2_132 : (Jvm.Cond.instanceMethod ({ cls := "MergeWorkbench", name := "document", desc := "(I)LMergeWorkbench$Lines;" } : Jvm.MethodName)) ∈ jwd := jw_2 (i := 132) rfl rfl
theorem wd_2_133 : (Jvm.Cond.code ({ cls := "MergeWorkbench", name := "document", desc := "(I)LMergeWorkbench$Lines;" } : Jvm.MethodName) prog_1_method_38_code (2 : Nat) (Option.some (Jvm.ClassFile.FieldType.object "MergeWorkbench$Lines"))) ∈ jwd := jw_2 (i := 133) rfl rfl
theorem wd_2_134 : (Jvm.Cond.classLink "MergeWorkbench" (168 : Nat) "java/lang/IllegalArgumentException") ∈ jwd := jw_2 (i := 134) rfl rfl
theorem wd_2_135 : (Jvm.Cond.instantiable "java/lang/IllegalArgumentException" (6 : Nat)) ∈ jwd := jw_2 (i := 135) rfl rfl
theorem wd_2_143 : (Jvm.Cond.selects "java/lang/IllegalArgumentException" ({ cls := "java/lang/Throwable", name := "fillInStackTrace", desc := "(I)Ljava/lang/Throwable;" } : Jvm.MethodName) ({ cls := "java/lang/Throwable", name := "fillInStackTrace", desc := "(I)Ljava/lang/Throwable;" } : Jvm.MethodName)) ∈ jwd := jw_2 (i := 143) rfl rfl
theorem wd_2_144 : (Jvm.Cond.selects "java/lang/IllegalArgumentException" ({ cls := "java/lang/Throwable", name := "fillInStackTrace", desc := "()Ljava/lang/Throwable;" } : Jvm.MethodName) ({ cls := "java/lang/Throwable", name := "fillInStackTrace", desc := "()Ljava/lang/Throwable;" } : Jvm.MethodName)) ∈ jwd := jw_2 (i := 144) rfl rfl
theorem wd_2_145 : (Jvm.Cond.lays "java/lang/IllegalArgumentException" "java/lang/Throwable" "cause" "Ljava/lang/Throwable;") ∈ jwd := jw_2 (i := 145) rfl rfl
theorem wd_2_146 : (Jvm.Cond.lays "java/lang/Throwable" "java/lang/Throwable" "cause" "Ljava/lang/Throwable;") ∈ jwd := jw_2 (i := 146) rfl rfl
theorem wd_2_147 : (Jvm.Cond.lays "java/lang/IllegalArgumentException" "java/lang/Throwable" "stackTrace" "[Ljava/lang/StackTraceElement;") ∈ jwd := jw_2 (i := 147) rfl rfl
theorem wd_2_148 : (Jvm.Cond.lays "java/lang/Throwable" "java/lang/Throwable" "stackTrace" "[Ljava/lang/StackTraceElement;") ∈ jwd := jw_2 (i := 148) rfl rfl
theorem wd_2_149 : (Jvm.Cond.lays "java/lang/IllegalArgumentException" "java/lang/Throwable" "suppressedExceptions" "Ljava/util/List;") ∈ jwd := jw_2 (i := 149) rfl rfl
theorem wd_2_150 : (Jvm.Cond.lays "java/lang/Throwable" "java/lang/Throwable" "suppressedExceptions" "Ljava/util/List;") ∈ jwd := jw_2 (i := 150) rfl rfl
theorem wd_2_151 : (Jvm.Cond.lays "java/lang/IllegalArgumentException" "java/lang/Throwable" "detailMessage" "Ljava/lang/String;") ∈ jwd := jw_2 (i := 151) rfl rfl
theorem wd_2_152 : (Jvm.Cond.lays "java/lang/Throwable" "java/lang/Throwable" "detailMessage" "Ljava/lang/String;") ∈ jwd := jw_2 (i := 152) rfl rfl
theorem wd_2_153 : (Jvm.Cond.lays "java/lang/IllegalArgumentException" "java/lang/Throwable" "backtrace" "Ljava/lang/Object;") ∈ jwd := jw_2 (i := 153) rfl rfl
theorem wd_2_154 : (Jvm.Cond.lays "java/lang/Throwable" "java/lang/Throwable" "backtrace" "Ljava/lang/Object;") ∈ jwd := jw_2 (i := 154) rfl rfl
theorem wd_2_155 : (Jvm.Cond.fieldLink "java/lang/Throwable" (198 : Nat) "java/lang/Throwable" "backtrace" "Ljava/lang/Object;") ∈ jwd := jw_2 (i := 155) rfl rfl
theorem wd_2_157 : (Jvm.Cond.instanceMethod ({ cls := "java/lang/Throwable", name := "<init>", desc := "()V" } : Jvm.MethodName)) ∈ jwd := jw_2 (i := 157) rfl rfl
theorem wd_2_158 : (Jvm.Cond.code ({ cls := "java/lang/Throwable", name := "<init>", desc := "()V" } : Jvm.MethodName) prog_23_method_1_code (1 : Nat) (Option.none : Option Jvm.ClassFile.FieldType)) ∈ jwd := jw_2 (i := 158) rfl rfl
theorem wd_2_159 : (Jvm.Cond.methodLink "java/lang/Throwable" (1 : Nat) ({ cls := "java/lang/Object", name := "<init>", desc := "()V" } : Jvm.MethodName)) ∈ jwd := jw_2 (i := 159) rfl rfl
theorem wd_2_160 : (Jvm.Cond.fieldLink "java/lang/Throwable" (13 : Nat) "java/lang/Throwable" "UNASSIGNED_STACK" "[Ljava/lang/StackTraceElement;") ∈ jwd := jw_2 (i := 160) rfl rfl
theorem wd_2_162 : (Jvm.Cond.fieldLink "java/lang/Throwable" (20 : Nat) "java/lang/Throwable" "SUPPRESSED_SENTINEL" "Ljava/util/List;") ∈ jwd := jw_2 (i := 162) rfl rfl
theorem wd_2_164 : (Jvm.Cond.methodLink "java/lang/Throwable" (27 : Nat) ({ cls := "java/lang/Throwable", name := "fillInStackTrace", desc := "()Ljava/lang/Throwable;" } : Jvm.MethodName)) ∈ jwd := jw_2 (i := 164) rfl rfl
theorem wd_2_165 : (Jvm.Cond.instanceMethod ({ cls := "java/lang/Throwable", name := "fillInStackTrace", desc := "()Ljava/lang/Throwable;" } : Jvm.MethodName)) ∈ jwd := jw_2 (i := 165) rfl rfl
theorem wd_2_167 : (Jvm.Cond.selects "java/lang/ArithmeticException" ({ cls := "java/lang/Throwable", name := "fillInStackTrace", desc := "()Ljava/lang/Throwable;" } : Jvm.MethodName) ({ cls := "java/lang/Throwable", name := "fillInStackTrace", desc := "()Ljava/lang/Throwable;" } : Jvm.MethodName)) ∈ jwd := jw_2 (i := 167) rfl rfl
theorem wd_2_168 : (Jvm.Cond.selects "java/lang/ArrayIndexOutOfBoundsException" ({ cls := "java/lang/Throwable", name := "fillInStackTrace", desc := "()Ljava/lang/Throwable;" } : Jvm.MethodName) ({ cls := "java/lang/Throwable", name := "fillInStackTrace", desc := "()Ljava/lang/Throwable;" } : Jvm.MethodName)) ∈ jwd := jw_2 (i := 168) rfl rfl
theorem wd_2_169 : (Jvm.Cond.selects "java/lang/IllegalStateException" ({ cls := "java/lang/Throwable", name := "fillInStackTrace", desc := "()Ljava/lang/Throwable;" } : Jvm.MethodName) ({ cls := "java/lang/Throwable", name := "fillInStackTrace", desc := "()Ljava/lang/Throwable;" } : Jvm.MethodName)) ∈ jwd := jw_2 (i := 169) rfl rfl
theorem wd_2_170 : (Jvm.Cond.selects "java/lang/IndexOutOfBoundsException" ({ cls := "java/lang/Throwable", name := "fillInStackTrace", desc := "()Ljava/lang/Throwable;" } : Jvm.MethodName) ({ cls := "java/lang/Throwable", name := "fillInStackTrace", desc := "()Ljava/lang/Throwable;" } : Jvm.MethodName)) ∈ jwd := jw_2 (i := 170) rfl rfl
theorem wd_2_171 : (Jvm.Cond.selects "java/lang/UnsupportedOperationException" ({ cls := "java/lang/Throwable", name := "fillInStackTrace", desc := "()Ljava/lang/Throwable;" } : Jvm.MethodName) ({ cls := "java/lang/Throwable", name := "fillInStackTrace", desc := "()Ljava/lang/Throwable;" } : Jvm.MethodName)) ∈ jwd := jw_2 (i := 171) rfl rfl
theorem wd_2_172 : (Jvm.Cond.selects "java/util/NoSuchElementException" ({ cls := "java/lang/Throwable", name := "fillInStackTrace", desc := "()Ljava/lang/Throwable;" } : Jvm.MethodName) ({ cls := "java/lang/Throwable", name := "fillInStackTrace", desc := "()Ljava/lang/Throwable;" } : Jvm.MethodName)) ∈ jwd := jw_2 (i := 172) rfl rfl
theorem wd_2_174 : (Jvm.Cond.methodLink "java/lang/Throwable" (202 : Nat) ({ cls := "java/lang/Throwable", name := "fillInStackTrace", desc := "(I)Ljava/lang/Throwable;" } : Jvm.MethodName)) ∈ jwd := jw_2 (i := 174) rfl rfl
theorem wd_2_176 : (Jvm.Cond.instanceMethod ({ cls := "java/lang/Throwable", name := "fillInStackTrace", desc := "(I)Ljava/lang/Throwable;" } : Jvm.MethodName)) ∈ jwd := jw_2 (i := 176) rfl rfl
theorem wd_2_177 : (Jvm.Cond.instantiable "java/lang/Throwable" (6 : Nat)) ∈ jwd := jw_2 (i := 177) rfl rfl
theorem wd_2_180 : (Jvm.Cond.methodLink "MergeWorkbench" (172 : Nat) ({ cls := "java/lang/IllegalArgumentException", name := "<init>", desc := "(Ljava/lang/String;)V" } : Jvm.MethodName)) ∈ jwd := jw_2 (i := 180) rfl rfl
theorem wd_2_181 : (Jvm.Cond.instanceMethod ({ cls := "java/lang/IllegalArgumentException", name := "<init>", desc := "(Ljava/lang/String;)V" } : Jvm.MethodName)) ∈ jwd := jw_2 (i := 181) rfl rfl
theorem wd_2_182 : (Jvm.Cond.code ({ cls := "java/lang/IllegalArgumentException", name := "<init>", desc := "(Ljava/lang/String;)V" } : Jvm.MethodName) prog_17_method_2_code (2 : Nat) (Option.none : Option Jvm.ClassFile.FieldType)) ∈ jwd := jw_2 (i := 182) rfl rfl
theorem wd_2_183 : (Jvm.Cond.methodLink "java/lang/IllegalArgumentException" (7 : Nat) ({ cls := "java/lang/RuntimeException", name := "<init>", desc := "(Ljava/lang/String;)V" } : Jvm.MethodName)) ∈ jwd := jw_2 (i := 183) rfl rfl
theorem wd_2_184 : (Jvm.Cond.instanceMethod ({ cls := "java/lang/RuntimeException", name := "<init>", desc := "(Ljava/lang/String;)V" } : Jvm.MethodName)) ∈ jwd := jw_2 (i := 184) rfl rfl
theorem wd_2_185 : (Jvm.Cond.code ({ cls := "java/lang/RuntimeException", name := "<init>", desc := "(Ljava/lang/String;)V" } : Jvm.MethodName) prog_21_method_2_code (2 : Nat) (Option.none : Option Jvm.ClassFile.FieldType)) ∈ jwd := jw_2 (i := 185) rfl rfl
theorem wd_2_186 : (Jvm.Cond.methodLink "java/lang/RuntimeException" (7 : Nat) ({ cls := "java/lang/Exception", name := "<init>", desc := "(Ljava/lang/String;)V" } : Jvm.MethodName)) ∈ jwd := jw_2 (i := 186) rfl rfl
theorem wd_2_187 : (Jvm.Cond.instanceMethod ({ cls := "java/lang/Exception", name := "<init>", desc := "(Ljava/lang/String;)V" } : Jvm.MethodName)) ∈ jwd := jw_2 (i := 187) rfl rfl
theorem wd_2_188 : (Jvm.Cond.code ({ cls := "java/lang/Exception", name := "<init>", desc := "(Ljava/lang/String;)V" } : Jvm.MethodName) prog_16_method_2_code (2 : Nat) (Option.none : Option Jvm.ClassFile.FieldType)) ∈ jwd := jw_2 (i := 188) rfl rfl
theorem wd_2_189 : (Jvm.Cond.methodLink "java/lang/Exception" (7 : Nat) ({ cls := "java/lang/Throwable", name := "<init>", desc := "(Ljava/lang/String;)V" } : Jvm.MethodName)) ∈ jwd := jw_2 (i := 189) rfl rfl
theorem wd_2_190 : (Jvm.Cond.instanceMethod ({ cls := "java/lang/Throwable", name := "<init>", desc := "(Ljava/lang/String;)V" } : Jvm.MethodName)) ∈ jwd := jw_2 (i := 190) rfl rfl
theorem wd_2_191 : (Jvm.Cond.code ({ cls := "java/lang/Throwable", name := "<init>", desc := "(Ljava/lang/String;)V" } : Jvm.MethodName) prog_23_method_2_code (2 : Nat) (Option.none : Option Jvm.ClassFile.FieldType)) ∈ jwd := jw_2 (i := 191) rfl rfl
theorem wd_2_193 : (Jvm.Cond.fieldLink "java/lang/Throwable" (31 : Nat) "java/lang/Throwable" "detailMessage" "Ljava/lang/String;") ∈ jwd := jw_2 (i := 193) rfl rfl
theorem wd_2_194 : (Jvm.Cond.fieldLink "java/lang/Throwable" (7 : Nat) "java/lang/Throwable" "cause" "Ljava/lang/Throwable;") ∈ jwd := jw_2 (i := 194) rfl rfl
theorem wd_2_195 : (Jvm.Cond.fieldLink "java/lang/Throwable" (17 : Nat) "java/lang/Throwable" "stackTrace" "[Ljava/lang/StackTraceElement;") ∈ jwd := jw_2 (i := 195) rfl rfl
theorem wd_2_196 : (Jvm.Cond.fieldLink "java/lang/Throwable" (24 : Nat) "java/lang/Throwable" "suppressedExceptions" "Ljava/util/List;") ∈ jwd := jw_2 (i := 196) rfl rfl
theorem wd_2_201 : (Jvm.Cond.lays "java/lang/IllegalArgumentException" "java/lang/Throwable" "depth" "I") ∈ jwd := jw_2 (i := 201) rfl rfl
theorem wd_2_205 : (Jvm.Cond.arrayClass Jvm.ClassFile.FieldType.byte) ∈ jwd := jw_2 (i := 205) rfl rfl
theorem wd_2_206 : (Jvm.Cond.methodLink "MergeWorkbench" (321 : Nat) ({ cls := "MergeWorkbench$Shelf", name := "place", desc := "(I)LMergeWorkbench$Lines;" } : Jvm.MethodName)) ∈ jwd := jw_2 (i := 206) rfl rfl
theorem wd_2_207 : (Jvm.Cond.methodLink "MergeWorkbench" (88 : Nat) ({ cls := "MergeWorkbench", name := "requireLine", desc := "(I)V" } : Jvm.MethodName)) ∈ jwd := jw_2 (i := 207) rfl rfl
theorem wd_2_208 : (Jvm.Cond.static ({ cls := "MergeWorkbench", name := "requireLine", desc := "(I)V" } : Jvm.MethodName)) ∈ jwd := jw_2 (i := 208) rfl rfl
theorem wd_2_209 : (Jvm.Cond.code ({ cls := "MergeWorkbench", name := "requireLine", desc := "(I)V" } : Jvm.MethodName) prog_1_method_39_code (1 : Nat) (Option.none : Option Jvm.ClassFile.FieldType)) ∈ jwd := jw_2 (i := 209) rfl rfl
theorem wd_2_211 : (Jvm.Cond.methodLink "MergeWorkbench" (91 : Nat) ({ cls := "MergeWorkbench", name := "requireRoom", desc := "(LMergeWorkbench$Lines;)V" } : Jvm.MethodName)) ∈ jwd := jw_2 (i := 211) rfl rfl
theorem wd_2_212 : (Jvm.Cond.static ({ cls := "MergeWorkbench", name := "requireRoom", desc := "(LMergeWorkbench$Lines;)V" } : Jvm.MethodName)) ∈ jwd := jw_2 (i := 212) rfl rfl
theorem wd_2_213 : (Jvm.Cond.code ({ cls := "MergeWorkbench", name := "requireRoom", desc := "(LMergeWorkbench$Lines;)V" } : Jvm.MethodName) prog_1_method_40_code (1 : Nat) (Option.none : Option Jvm.ClassFile.FieldType)) ∈ jwd := jw_2 (i := 213) rfl rfl
theorem wd_2_214 : (Jvm.Cond.methodLink "MergeWorkbench" (102 : Nat) ({ cls := "MergeWorkbench$Lines", name := "size", desc := "()I" } : Jvm.MethodName)) ∈ jwd := jw_2 (i := 214) rfl rfl
theorem wd_2_215 : (Jvm.Cond.classLink "MergeWorkbench" (147 : Nat) "java/lang/IllegalStateException") ∈ jwd := jw_2 (i := 215) rfl rfl
theorem wd_2_216 : (Jvm.Cond.instantiable "java/lang/IllegalStateException" (6 : Nat)) ∈ jwd := jw_2 (i := 216) rfl rfl
theorem wd_2_218 : (Jvm.Cond.selects "java/lang/IllegalStateException" ({ cls := "java/lang/Throwable", name := "fillInStackTrace", desc := "(I)Ljava/lang/Throwable;" } : Jvm.MethodName) ({ cls := "java/lang/Throwable", name := "fillInStackTrace", desc := "(I)Ljava/lang/Throwable;" } : Jvm.MethodName)) ∈ jwd := jw_2 (i := 218) rfl rfl
theorem wd_2_219 : (Jvm.Cond.lays "java/lang/IllegalStateException" "java/lang/Throwable" "cause" "Ljava/lang/Throwable;") ∈ jwd := jw_2 (i := 219) rfl rfl
theorem wd_2_220 : (Jvm.Cond.lays "java/lang/IllegalStateException" "java/lang/Throwable" "stackTrace" "[Ljava/lang/StackTraceElement;") ∈ jwd := jw_2 (i := 220) rfl rfl
theorem wd_2_221 : (Jvm.Cond.lays "java/lang/IllegalStateException" "java/lang/Throwable" "suppressedExceptions" "Ljava/util/List;") ∈ jwd := jw_2 (i := 221) rfl rfl
theorem wd_2_222 : (Jvm.Cond.lays "java/lang/IllegalStateException" "java/lang/Throwable" "detailMessage" "Ljava/lang/String;") ∈ jwd := jw_2 (i := 222) rfl rfl
theorem wd_2_223 : (Jvm.Cond.lays "java/lang/IllegalStateException" "java/lang/Throwable" "backtrace" "Ljava/lang/Object;") ∈ jwd := jw_2 (i := 223) rfl rfl
theorem wd_2_225 : (Jvm.Cond.methodLink "MergeWorkbench" (151 : Nat) ({ cls := "java/lang/IllegalStateException", name := "<init>", desc := "(Ljava/lang/String;)V" } : Jvm.MethodName)) ∈ jwd := jw_2 (i := 225) rfl rfl
theorem wd_2_226 : (Jvm.Cond.instanceMethod ({ cls := "java/lang/IllegalStateException", name := "<init>", desc := "(Ljava/lang/String;)V" } : Jvm.MethodName)) ∈ jwd := jw_2 (i := 226) rfl rfl
theorem wd_2_227 : (Jvm.Cond.code ({ cls := "java/lang/IllegalStateException", name := "<init>", desc := "(Ljava/lang/String;)V" } : Jvm.MethodName) prog_18_method_2_code (2 : Nat) (Option.none : Option Jvm.ClassFile.FieldType)) ∈ jwd := jw_2 (i := 227) rfl rfl
theorem wd_2_228 : (Jvm.Cond.methodLink "java/lang/IllegalStateException" (7 : Nat) ({ cls := "java/lang/RuntimeException", name := "<init>", desc := "(Ljava/lang/String;)V" } : Jvm.MethodName)) ∈ jwd := jw_2 (i := 228) rfl rfl
theorem wd_2_229 : (Jvm.Cond.lays "java/lang/IllegalStateException" "java/lang/Throwable" "depth" "I") ∈ jwd := jw_2 (i := 229) rfl rfl
theorem wd_2_231 : (Jvm.Cond.methodLink "MergeWorkbench" (95 : Nat) ({ cls := "MergeWorkbench$History", name := "remember", desc := "(ILMergeWorkbench$Lines;)V" } : Jvm.MethodName)) ∈ jwd := jw_2 (i := 231) rfl rfl
theorem wd_2_232 : (Jvm.Cond.instanceMethod ({ cls := "MergeWorkbench$History", name := "remember", desc := "(ILMergeWorkbench$Lines;)V" } : Jvm.MethodName)) ∈ jwd := jw_2 (i := 232) rfl rfl
theorem wd_2_233 : (Jvm.Cond.selects "MergeWorkbench$History" ({ cls := "MergeWorkbench$History", name := "remember", desc := "(ILMergeWorkbench$Lines;)V" } : Jvm.MethodName) ({ cls := "MergeWorkbench$History", name := "remember", desc := "(ILMergeWorkbench$Lines;)V" } : Jvm.MethodName)) ∈ jwd := jw_2 (i := 233) rfl rfl
theorem wd_2_234 : (Jvm.Cond.code ({ cls := "MergeWorkbench$History", name := "remember", desc := "(ILMergeWorkbench$Lines;)V" } : Jvm.MethodName) prog_4_method_4_code (3 : Nat) (Option.none : Option Jvm.ClassFile.FieldType)) ∈ jwd := jw_2 (i := 234) rfl rfl
theorem wd_2_235 : (Jvm.Cond.methodLink "MergeWorkbench$History" (38 : Nat) ({ cls := "MergeWorkbench$Lines", name := "put", desc := "(II)V" } : Jvm.MethodName)) ∈ jwd := jw_2 (i := 235) rfl rfl
theorem wd_2_236 : (Jvm.Cond.instanceMethod ({ cls := "MergeWorkbench$Lines", name := "put", desc := "(II)V" } : Jvm.MethodName)) ∈ jwd := jw_2 (i := 236) rfl rfl
theorem wd_2_237 : (Jvm.Cond.selects "MergeWorkbench$Lines" ({ cls := "MergeWorkbench$Lines", name := "put", desc := "(II)V" } : Jvm.MethodName) ({ cls := "MergeWorkbench$Lines", name := "put", desc := "(II)V" } : Jvm.MethodName)) ∈ jwd := jw_2 (i := 237) rfl rfl
theorem wd_2_238 : (Jvm.Cond.code ({ cls := "MergeWorkbench$Lines", name := "put", desc := "(II)V" } : Jvm.MethodName) prog_6_method_6_code (3 : Nat) (Option.none : Option Jvm.ClassFile.FieldType)) ∈ jwd := jw_2 (i := 238) rfl rfl
theorem wd_2_239 : (Jvm.Cond.methodLink "MergeWorkbench$History" (41 : Nat) ({ cls := "MergeWorkbench$Shelf", name := "place", desc := "(I)LMergeWorkbench$Lines;" } : Jvm.MethodName)) ∈ jwd := jw_2 (i := 239) rfl rfl
theorem wd_3_0 : (Jvm.Cond.methodLink "MergeWorkbench$History" (45 : Nat) ({ cls := "MergeWorkbench$Lines", name := "become", desc := "(LMergeWorkbench$Lines;)V" } : Jvm.MethodName)) ∈ jwd := jw_3 (i := 0) rfl rfl
theorem wd_3_1 : (Jvm.Cond.methodLink "MergeWorkbench" (99 : Nat) ({ cls := "MergeWorkbench$Lines", name := "push", desc := "(I)V" } : Jvm.MethodName)) ∈ jwd := jw_3 (i := 1) rfl rfl
theorem wd_3_2 : (Jvm.Cond.methodLink "MergeWorkbenchLaw" (144 : Nat) ({ cls := "MergeWorkbenchLaw", name := "insert", desc := "(LMergeWorkbench;III[J)I" } : Jvm.MethodName)) ∈ jwd := jw_3 (i := 2) rfl rfl
theorem wd_3_3 : (Jvm.Cond.static ({ cls := "MergeWorkbenchLaw", name := "insert", desc := "(LMergeWorkbench;III[J)I" } : Jvm.MethodName)) ∈ jwd := jw_3 (i := 3) rfl rfl
theorem wd_3_4 : (Jvm.Cond.codeWith ({ cls := "MergeWorkbenchLaw", name := "insert", desc := "(LMergeWorkbench;III[J)I" } : Jvm.MethodName) method_4_code (6 : Nat) (Option.some Jvm.ClassFile.FieldType.int) [((0 : Nat), (12 : Nat), (15 : Nat), (13 : Nat)), ((0 : Nat), (12 : Nat), (19 : Nat), (15 : Nat)), ((0 : Nat), (12 : Nat), (23 : Nat), (21 : Nat))]) ∈ jwd := jw_3 (i := 4) rfl rfl
theorem wd_3_5 : (Jvm.Cond.classLink "MergeWorkbenchLaw" (21 : Nat) "java/lang/IndexOutOfBoundsException") ∈ jwd := jw_3 (i := 5) rfl rfl
theorem wd_3_6 : (Jvm.Cond.instantiable "java/lang/ArrayIndexOutOfBoundsException" (6 : Nat)) ∈ jwd := jw_3 (i := 6) rfl rfl
theorem wd_3_7 : (Jvm.Cond.instanceMethod ({ cls := "java/lang/ArrayIndexOutOfBoundsException", name := "<init>", desc := "(Ljava/lang/String;)V" } : Jvm.MethodName)) ∈ jwd := jw_3 (i := 7) rfl rfl
theorem wd_3_8 : (Jvm.Cond.code ({ cls := "java/lang/ArrayIndexOutOfBoundsException", name := "<init>", desc := "(Ljava/lang/String;)V" } : Jvm.MethodName) prog_15_method_2_code (2 : Nat) (Option.none : Option Jvm.ClassFile.FieldType)) ∈ jwd := jw_3 (i := 8) rfl rfl
theorem wd_3_9 : (Jvm.Cond.methodLink "java/lang/ArrayIndexOutOfBoundsException" (7 : Nat) ({ cls := "java/lang/IndexOutOfBoundsException", name := "<init>", desc := "(Ljava/lang/String;)V" } : Jvm.MethodName)) ∈ jwd := jw_3 (i := 9) rfl rfl
theorem wd_3_10 : (Jvm.Cond.instanceMethod ({ cls := "java/lang/IndexOutOfBoundsException", name := "<init>", desc := "(Ljava/lang/String;)V" } : Jvm.MethodName)) ∈ jwd := jw_3 (i := 10) rfl rfl
theorem wd_3_11 : (Jvm.Cond.code ({ cls := "java/lang/IndexOutOfBoundsException", name := "<init>", desc := "(Ljava/lang/String;)V" } : Jvm.MethodName) prog_19_method_2_code (2 : Nat) (Option.none : Option Jvm.ClassFile.FieldType)) ∈ jwd := jw_3 (i := 11) rfl rfl
theorem wd_3_12 : (Jvm.Cond.methodLink "java/lang/IndexOutOfBoundsException" (7 : Nat) ({ cls := "java/lang/RuntimeException", name := "<init>", desc := "(Ljava/lang/String;)V" } : Jvm.MethodName)) ∈ jwd := jw_3 (i := 12) rfl rfl
theorem wd_3_13 : (Jvm.Cond.lays "java/lang/ArrayIndexOutOfBoundsException" "java/lang/Throwable" "backtrace" "Ljava/lang/Object;") ∈ jwd := jw_3 (i := 13) rfl rfl
theorem wd_3_14 : (Jvm.Cond.lays "java/lang/ArrayIndexOutOfBoundsException" "java/lang/Throwable" "detailMessage" "Ljava/lang/String;") ∈ jwd := jw_3 (i := 14) rfl rfl
theorem wd_3_15 : (Jvm.Cond.lays "java/lang/ArrayIndexOutOfBoundsException" "java/lang/Throwable" "cause" "Ljava/lang/Throwable;") ∈ jwd := jw_3 (i := 15) rfl rfl
theorem wd_3_16 : (Jvm.Cond.lays "java/lang/ArrayIndexOutOfBoundsException" "java/lang/Throwable" "stackTrace" "[Ljava/lang/StackTraceElement;") ∈ jwd := jw_3 (i := 16) rfl rfl
theorem wd_3_17 : (Jvm.Cond.lays "java/lang/ArrayIndexOutOfBoundsException" "java/lang/Throwable" "depth" "I") ∈ jwd := jw_3 (i := 17) rfl rfl
theorem wd_3_18 : (Jvm.Cond.lays "java/lang/ArrayIndexOutOfBoundsException" "java/lang/Throwable" "suppressedExceptions" "Ljava/util/List;") ∈ jwd := jw_3 (i := 18) rfl rfl
theorem wd_3_23 : (Jvm.Cond.selects "java/lang/ArrayIndexOutOfBoundsException" ({ cls := "java/lang/Throwable", name := "fillInStackTrace", desc := "(I)Ljava/lang/Throwable;" } : Jvm.MethodName) ({ cls := "java/lang/Throwable", name := "fillInStackTrace", desc := "(I)Ljava/lang/Throwable;" } : Jvm.MethodName)) ∈ jwd := jw_3 (i := 23) rfl rfl
theorem wd_3_24 : (Jvm.Cond.instantiable "java/lang/String" (4 : Nat)) ∈ jwd := jw_3 (i := 24) rfl rfl
theorem wd_3_25 : (Jvm.Cond.laysFinal "java/lang/String" "java/lang/String" "value" "[B") ∈ jwd := jw_3 (i := 25) rfl rfl
theorem wd_3_27 : (Jvm.Cond.laysFinal "java/lang/String" "java/lang/String" "coder" "B") ∈ jwd := jw_3 (i := 27) rfl rfl
theorem wd_3_29 : (Jvm.Cond.methodLink "MergeWorkbenchLaw" (17 : Nat) ({ cls := "MergeWorkbench", name := "insert", desc := "(III)I" } : Jvm.MethodName)) ∈ jwd := jw_3 (i := 29) rfl rfl
theorem wd_3_30 : (Jvm.Cond.instanceMethod ({ cls := "MergeWorkbench", name := "insert", desc := "(III)I" } : Jvm.MethodName)) ∈ jwd := jw_3 (i := 30) rfl rfl
theorem wd_3_31 : (Jvm.Cond.selects "MergeWorkbench" ({ cls := "MergeWorkbench", name := "insert", desc := "(III)I" } : Jvm.MethodName) ({ cls := "MergeWorkbench", name := "insert", desc := "(III)I" } : Jvm.MethodName)) ∈ jwd := jw_3 (i := 31) rfl rfl
theorem wd_3_32 : (Jvm.Cond.code ({ cls := "MergeWorkbench", name := "insert", desc := "(III)I" } : Jvm.MethodName) prog_1_method_3_code (5 : Nat) (Option.some Jvm.ClassFile.FieldType.int)) ∈ jwd := jw_3 (i := 32) rfl rfl
theorem wd_3_33 : (Jvm.Cond.classLink "MergeWorkbench" (106 : Nat) "java/lang/IndexOutOfBoundsException") ∈ jwd := jw_3 (i := 33) rfl rfl
theorem wd_3_34 : (Jvm.Cond.instantiable "java/lang/IndexOutOfBoundsException" (6 : Nat)) ∈ jwd := jw_3 (i := 34) rfl rfl
theorem wd_3_36 : (Jvm.Cond.selects "java/lang/IndexOutOfBoundsException" ({ cls := "java/lang/Throwable", name := "fillInStackTrace", desc := "(I)Ljava/lang/Throwable;" } : Jvm.MethodName) ({ cls := "java/lang/Throwable", name := "fillInStackTrace", desc := "(I)Ljava/lang/Throwable;" } : Jvm.MethodName)) ∈ jwd := jw_3 (i := 36) rfl rfl
theorem wd_3_37 : (Jvm.Cond.lays "java/lang/IndexOutOfBoundsException" "java/lang/Throwable" "cause" "Ljava/lang/Throwable;") ∈ jwd := jw_3 (i := 37) rfl rfl
theorem wd_3_38 : (Jvm.Cond.lays "java/lang/IndexOutOfBoundsException" "java/lang/Throwable" "stackTrace" "[Ljava/lang/StackTraceElement;") ∈ jwd := jw_3 (i := 38) rfl rfl
theorem wd_3_39 : (Jvm.Cond.lays "java/lang/IndexOutOfBoundsException" "java/lang/Throwable" "suppressedExceptions" "Ljava/util/List;") ∈ jwd := jw_3 (i := 39) rfl rfl
theorem wd_3_40 : (Jvm.Cond.lays "java/lang/IndexOutOfBoundsException" "java/lang/Throwable" "detailMessage" "Ljava/lang/String;") ∈ jwd := jw_3 (i := 40) rfl rfl
theorem wd_3_41 : (Jvm.Cond.lays "java/lang/IndexOutOfBoundsException" "java/lang/Throwable" "backtrace" "Ljava/lang/Object;") ∈ jwd := jw_3 (i := 41) rfl rfl
theorem wd_3_43 : (Jvm.Cond.methodLink "MergeWorkbench" (110 : Nat) ({ cls := "java/lang/IndexOutOfBoundsException", name := "<init>", desc := "(Ljava/lang/String;)V" } : Jvm.MethodName)) ∈ jwd := jw_3 (i := 43) rfl rfl
theorem wd_3_44 : (Jvm.Cond.lays "java/lang/IndexOutOfBoundsException" "java/lang/Throwable" "depth" "I") ∈ jwd := jw_3 (i := 44) rfl rfl
theorem wd_3_46 : (Jvm.Cond.methodLink "MergeWorkbench" (113 : Nat) ({ cls := "MergeWorkbench$Lines", name := "pushAt", desc := "(II)V" } : Jvm.MethodName)) ∈ jwd := jw_3 (i := 46) rfl rfl
theorem wd_3_47 : (Jvm.Cond.instanceMethod ({ cls := "MergeWorkbench$Lines", name := "pushAt", desc := "(II)V" } : Jvm.MethodName)) ∈ jwd := jw_3 (i := 47) rfl rfl
theorem wd_3_48 : (Jvm.Cond.selects "MergeWorkbench$Lines" ({ cls := "MergeWorkbench$Lines", name := "pushAt", desc := "(II)V" } : Jvm.MethodName) ({ cls := "MergeWorkbench$Lines", name := "pushAt", desc := "(II)V" } : Jvm.MethodName)) ∈ jwd := jw_3 (i := 48) rfl rfl
theorem wd_3_49 : (Jvm.Cond.code ({ cls := "MergeWorkbench$Lines", name := "pushAt", desc := "(II)V" } : Jvm.MethodName) prog_6_method_10_code (4 : Nat) (Option.none : Option Jvm.ClassFile.FieldType)) ∈ jwd := jw_3 (i := 49) rfl rfl
theorem wd_3_50 : (Jvm.Cond.methodLink "MergeWorkbench$Lines" (27 : Nat) ({ cls := "MergeWorkbench$Lines", name := "put", desc := "(II)V" } : Jvm.MethodName)) ∈ jwd := jw_3 (i := 50) rfl rfl
theorem wd_3_51 : (Jvm.Cond.methodLink "MergeWorkbenchLaw" (148 : Nat) ({ cls := "MergeWorkbenchLaw", name := "delete", desc := "(LMergeWorkbench;II[J)I" } : Jvm.MethodName)) ∈ jwd := jw_3 (i := 51) rfl rfl
theorem wd_3_52 : (Jvm.Cond.static ({ cls := "MergeWorkbenchLaw", name := "delete", desc := "(LMergeWorkbench;II[J)I" } : Jvm.MethodName)) ∈ jwd := jw_3 (i := 52) rfl rfl
theorem wd_3_53 : (Jvm.Cond.codeWith ({ cls := "MergeWorkbenchLaw", name := "delete", desc := "(LMergeWorkbench;II[J)I" } : Jvm.MethodName) method_5_code (5 : Nat) (Option.some Jvm.ClassFile.FieldType.int) [((0 : Nat), (10 : Nat), (13 : Nat), (13 : Nat)), ((0 : Nat), (10 : Nat), (17 : Nat), (21 : Nat))]) ∈ jwd := jw_3 (i := 53) rfl rfl
theorem wd_3_54 : (Jvm.Cond.methodLink "MergeWorkbenchLaw" (23 : Nat) ({ cls := "MergeWorkbench", name := "delete", desc := "(II)I" } : Jvm.MethodName)) ∈ jwd := jw_3 (i := 54) rfl rfl
theorem wd_3_55 : (Jvm.Cond.instanceMethod ({ cls := "MergeWorkbench", name := "delete", desc := "(II)I" } : Jvm.MethodName)) ∈ jwd := jw_3 (i := 55) rfl rfl
theorem wd_3_56 : (Jvm.Cond.selects "MergeWorkbench" ({ cls := "MergeWorkbench", name := "delete", desc := "(II)I" } : Jvm.MethodName) ({ cls := "MergeWorkbench", name := "delete", desc := "(II)I" } : Jvm.MethodName)) ∈ jwd := jw_3 (i := 56) rfl rfl
theorem wd_3_57 : (Jvm.Cond.code ({ cls := "MergeWorkbench", name := "delete", desc := "(II)I" } : Jvm.MethodName) prog_1_method_4_code (4 : Nat) (Option.some Jvm.ClassFile.FieldType.int)) ∈ jwd := jw_3 (i := 57) rfl rfl
theorem wd_3_58 : (Jvm.Cond.methodLink "MergeWorkbench" (117 : Nat) ({ cls := "MergeWorkbench$Lines", name := "has", desc := "(I)Z" } : Jvm.MethodName)) ∈ jwd := jw_3 (i := 58) rfl rfl
theorem wd_3_59 : (Jvm.Cond.instanceMethod ({ cls := "MergeWorkbench$Lines", name := "has", desc := "(I)Z" } : Jvm.MethodName)) ∈ jwd := jw_3 (i := 59) rfl rfl
theorem wd_3_60 : (Jvm.Cond.selects "MergeWorkbench$Lines" ({ cls := "MergeWorkbench$Lines", name := "has", desc := "(I)Z" } : Jvm.MethodName) ({ cls := "MergeWorkbench$Lines", name := "has", desc := "(I)Z" } : Jvm.MethodName)) ∈ jwd := jw_3 (i := 60) rfl rfl
theorem wd_3_61 : (Jvm.Cond.code ({ cls := "MergeWorkbench$Lines", name := "has", desc := "(I)Z" } : Jvm.MethodName) prog_6_method_4_code (2 : Nat) (Option.some Jvm.ClassFile.FieldType.boolean)) ∈ jwd := jw_3 (i := 61) rfl rfl
theorem wd_3_62 : (Jvm.Cond.methodLink "MergeWorkbench" (121 : Nat) ({ cls := "MergeWorkbench$Lines", name := "removeAt", desc := "(I)I" } : Jvm.MethodName)) ∈ jwd := jw_3 (i := 62) rfl rfl
theorem wd_3_63 : (Jvm.Cond.instanceMethod ({ cls := "MergeWorkbench$Lines", name := "removeAt", desc := "(I)I" } : Jvm.MethodName)) ∈ jwd := jw_3 (i := 63) rfl rfl
theorem wd_3_64 : (Jvm.Cond.selects "MergeWorkbench$Lines" ({ cls := "MergeWorkbench$Lines", name := "removeAt", desc := "(I)I" } : Jvm.MethodName) ({ cls := "MergeWorkbench$Lines", name := "removeAt", desc := "(I)I" } : Jvm.MethodName)) ∈ jwd := jw_3 (i := 64) rfl rfl
theorem wd_3_65 : (Jvm.Cond.code ({ cls := "MergeWorkbench$Lines", name := "removeAt", desc := "(I)I" } : Jvm.MethodName) prog_6_method_11_code (4 : Nat) (Option.some Jvm.ClassFile.FieldType.int)) ∈ jwd := jw_3 (i := 65) rfl rfl
theorem wd_3_66 : (Jvm.Cond.methodLink "MergeWorkbench$Lines" (31 : Nat) ({ cls := "MergeWorkbench$Lines", name := "has", desc := "(I)Z" } : Jvm.MethodName)) ∈ jwd := jw_3 (i := 66) rfl rfl
theorem wd_3_67 : (Jvm.Cond.methodLink "MergeWorkbenchLaw" (151 : Nat) ({ cls := "MergeWorkbenchLaw", name := "length", desc := "(LMergeWorkbench;I[J)I" } : Jvm.MethodName)) ∈ jwd := jw_3 (i := 67) rfl rfl
theorem wd_3_68 : (Jvm.Cond.static ({ cls := "MergeWorkbenchLaw", name := "length", desc := "(LMergeWorkbench;I[J)I" } : Jvm.MethodName)) ∈ jwd := jw_3 (i := 68) rfl rfl
theorem wd_3_69 : (Jvm.Cond.codeWith ({ cls := "MergeWorkbenchLaw", name := "length", desc := "(LMergeWorkbench;I[J)I" } : Jvm.MethodName) method_6_code (4 : Nat) (Option.some Jvm.ClassFile.FieldType.int) [((0 : Nat), (9 : Nat), (12 : Nat), (13 : Nat))]) ∈ jwd := jw_3 (i := 69) rfl rfl
theorem wd_3_70 : (Jvm.Cond.methodLink "MergeWorkbenchLaw" (26 : Nat) ({ cls := "MergeWorkbench", name := "length", desc := "(I)I" } : Jvm.MethodName)) ∈ jwd := jw_3 (i := 70) rfl rfl
theorem wd_3_71 : (Jvm.Cond.instanceMethod ({ cls := "MergeWorkbench", name := "length", desc := "(I)I" } : Jvm.MethodName)) ∈ jwd := jw_3 (i := 71) rfl rfl
theorem wd_3_72 : (Jvm.Cond.selects "MergeWorkbench" ({ cls := "MergeWorkbench", name := "length", desc := "(I)I" } : Jvm.MethodName) ({ cls := "MergeWorkbench", name := "length", desc := "(I)I" } : Jvm.MethodName)) ∈ jwd := jw_3 (i := 72) rfl rfl
theorem wd_3_73 : (Jvm.Cond.code ({ cls := "MergeWorkbench", name := "length", desc := "(I)I" } : Jvm.MethodName) prog_1_method_5_code (2 : Nat) (Option.some Jvm.ClassFile.FieldType.int)) ∈ jwd := jw_3 (i := 73) rfl rfl
theorem wd_3_74 : (Jvm.Cond.methodLink "MergeWorkbenchLaw" (155 : Nat) ({ cls := "MergeWorkbenchLaw", name := "line", desc := "(LMergeWorkbench;II[J)I" } : Jvm.MethodName)) ∈ jwd := jw_3 (i := 74) rfl rfl
theorem wd_3_75 : (Jvm.Cond.static ({ cls := "MergeWorkbenchLaw", name := "line", desc := "(LMergeWorkbench;II[J)I" } : Jvm.MethodName)) ∈ jwd := jw_3 (i := 75) rfl rfl
theorem wd_3_76 : (Jvm.Cond.codeWith ({ cls := "MergeWorkbenchLaw", name := "line", desc := "(LMergeWorkbench;II[J)I" } : Jvm.MethodName) method_7_code (5 : Nat) (Option.some Jvm.ClassFile.FieldType.int) [((0 : Nat), (10 : Nat), (13 : Nat), (13 : Nat)), ((0 : Nat), (10 : Nat), (17 : Nat), (21 : Nat))]) ∈ jwd := jw_3 (i := 76) rfl rfl
theorem wd_3_77 : (Jvm.Cond.methodLink "MergeWorkbenchLaw" (30 : Nat) ({ cls := "MergeWorkbench", name := "line", desc := "(II)I" } : Jvm.MethodName)) ∈ jwd := jw_3 (i := 77) rfl rfl
theorem wd_3_78 : (Jvm.Cond.instanceMethod ({ cls := "MergeWorkbench", name := "line", desc := "(II)I" } : Jvm.MethodName)) ∈ jwd := jw_3 (i := 78) rfl rfl
theorem wd_3_79 : (Jvm.Cond.selects "MergeWorkbench" ({ cls := "MergeWorkbench", name := "line", desc := "(II)I" } : Jvm.MethodName) ({ cls := "MergeWorkbench", name := "line", desc := "(II)I" } : Jvm.MethodName)) ∈ jwd := jw_3 (i := 79) rfl rfl
theorem wd_3_80 : (Jvm.Cond.code ({ cls := "MergeWorkbench", name := "line", desc := "(II)I" } : Jvm.MethodName) prog_1_method_6_code (4 : Nat) (Option.some Jvm.ClassFile.FieldType.int)) ∈ jwd := jw_3 (i := 80) rfl rfl
theorem wd_3_81 : (Jvm.Cond.methodLink "MergeWorkbench" (125 : Nat) ({ cls := "MergeWorkbench$Lines", name := "at", desc := "(I)I" } : Jvm.MethodName)) ∈ jwd := jw_3 (i := 81) rfl rfl
theorem wd_3_82 : (Jvm.Cond.methodLink "MergeWorkbenchLaw" (158 : Nat) ({ cls := "MergeWorkbenchLaw", name := "copy", desc := "(LMergeWorkbench;II[J)I" } : Jvm.MethodName)) ∈ jwd := jw_3 (i := 82) rfl rfl
theorem wd_3_83 : (Jvm.Cond.static ({ cls := "MergeWorkbenchLaw", name := "copy", desc := "(LMergeWorkbench;II[J)I" } : Jvm.MethodName)) ∈ jwd := jw_3 (i := 83) rfl rfl
theorem wd_3_84 : (Jvm.Cond.codeWith ({ cls := "MergeWorkbenchLaw", name := "copy", desc := "(LMergeWorkbench;II[J)I" } : Jvm.MethodName) method_8_code (5 : Nat) (Option.some Jvm.ClassFile.FieldType.int) [((0 : Nat), (10 : Nat), (13 : Nat), (13 : Nat))]) ∈ jwd := jw_3 (i := 84) rfl rfl
theorem wd_3_85 : (Jvm.Cond.methodLink "MergeWorkbenchLaw" (33 : Nat) ({ cls := "MergeWorkbench", name := "copy", desc := "(II)I" } : Jvm.MethodName)) ∈ jwd := jw_3 (i := 85) rfl rfl
theorem wd_3_86 : (Jvm.Cond.instanceMethod ({ cls := "MergeWorkbench", name := "copy", desc := "(II)I" } : Jvm.MethodName)) ∈ jwd := jw_3 (i := 86) rfl rfl
theorem wd_3_87 : (Jvm.Cond.selects "MergeWorkbench" ({ cls := "MergeWorkbench", name := "copy", desc := "(II)I" } : Jvm.MethodName) ({ cls := "MergeWorkbench", name := "copy", desc := "(II)I" } : Jvm.MethodName)) ∈ jwd := jw_3 (i := 87) rfl rfl
theorem wd_3_88 : (Jvm.Cond.code ({ cls := "MergeWorkbench", name := "copy", desc := "(II)I" } : Jvm.MethodName) prog_1_method_7_code (4 : Nat) (Option.some Jvm.ClassFile.FieldType.int)) ∈ jwd := jw_3 (i := 88) rfl rfl
theorem wd_3_89 : (Jvm.Cond.methodLink "MergeWorkbench" (128 : Nat) ({ cls := "MergeWorkbench", name := "changeTo", desc := "(ILMergeWorkbench$Lines;LMergeWorkbench$Lines;)I" } : Jvm.MethodName)) ∈ jwd := jw_3 (i := 89) rfl rfl
theorem wd_3_91 : (Jvm.Cond.instanceMethod ({ cls := "MergeWorkbench", name := "changeTo", desc := "(ILMergeWorkbench$Lines;LMergeWorkbench$Lines;)I" } : Jvm.MethodName)) ∈ jwd := jw_3 (i := 91) rfl rfl
theorem wd_3_92 : (Jvm.Cond.code ({ cls := "MergeWorkbench", name := "changeTo", desc := "(ILMergeWorkbench$Lines;LMergeWorkbench$Lines;)I" } : Jvm.MethodName) prog_1_method_45_code (4 : Nat) (Option.some Jvm.ClassFile.FieldType.int)) ∈ jwd := jw_3 (i := 92) rfl rfl
theorem wd_3_93 : (Jvm.Cond.methodLink "MergeWorkbench" (339 : Nat) ({ cls := "MergeWorkbench$Lines", name := "become", desc := "(LMergeWorkbench$Lines;)V" } : Jvm.MethodName)) ∈ jwd := jw_3 (i := 93) rfl rfl
theorem wd_3_94 : (Jvm.Cond.methodLink "MergeWorkbenchLaw" (161 : Nat) ({ cls := "MergeWorkbenchLaw", name := "isSame", desc := "(LMergeWorkbench;II[J)I" } : Jvm.MethodName)) ∈ jwd := jw_3 (i := 94) rfl rfl
theorem wd_3_95 : (Jvm.Cond.static ({ cls := "MergeWorkbenchLaw", name := "isSame", desc := "(LMergeWorkbench;II[J)I" } : Jvm.MethodName)) ∈ jwd := jw_3 (i := 95) rfl rfl
theorem wd_3_96 : (Jvm.Cond.codeWith ({ cls := "MergeWorkbenchLaw", name := "isSame", desc := "(LMergeWorkbench;II[J)I" } : Jvm.MethodName) method_9_code (5 : Nat) (Option.some Jvm.ClassFile.FieldType.int) [((0 : Nat), (17 : Nat), (20 : Nat), (13 : Nat))]) ∈ jwd := jw_3 (i := 96) rfl rfl
theorem wd_3_97 : (Jvm.Cond.methodLink "MergeWorkbenchLaw" (36 : Nat) ({ cls := "MergeWorkbench", name := "isSame", desc := "(II)Z" } : Jvm.MethodName)) ∈ jwd := jw_3 (i := 97) rfl rfl
theorem wd_3_98 : (Jvm.Cond.instanceMethod ({ cls := "MergeWorkbench", name := "isSame", desc := "(II)Z" } : Jvm.MethodName)) ∈ jwd := jw_3 (i := 98) rfl rfl
theorem wd_3_99 : (Jvm.Cond.selects "MergeWorkbench" ({ cls := "MergeWorkbench", name := "isSame", desc := "(II)Z" } : Jvm.MethodName) ({ cls := "MergeWorkbench", name := "isSame", desc := "(II)Z" } : Jvm.MethodName)) ∈ jwd := jw_3 (i := 99) rfl rfl
theorem wd_3_100 : (Jvm.Cond.code ({ cls := "MergeWorkbench", name := "isSame", desc := "(II)Z" } : Jvm.MethodName) prog_1_method_8_code (5 : Nat) (Option.some Jvm.ClassFile.FieldType.boolean)) ∈ jwd := jw_3 (i := 100) rfl rfl
theorem wd_3_101 : (Jvm.Cond.methodLink "MergeWorkbench" (132 : Nat) ({ cls := "MergeWorkbench$Lines", name := "samePart", desc := "(IILMergeWorkbench$Lines;II)Z" } : Jvm.MethodName)) ∈ jwd := jw_3 (i := 101) rfl rfl
theorem wd_3_102 : (Jvm.Cond.instanceMethod ({ cls := "MergeWorkbench$Lines", name := "samePart", desc := "(IILMergeWorkbench$Lines;II)Z" } : Jvm.MethodName)) ∈ jwd := jw_3 (i := 102) rfl rfl
theorem wd_3_103 : (Jvm.Cond.selects "MergeWorkbench$Lines" ({ cls := "MergeWorkbench$Lines", name := "samePart", desc := "(IILMergeWorkbench$Lines;II)Z" } : Jvm.MethodName) ({ cls := "MergeWorkbench$Lines", name := "samePart", desc := "(IILMergeWorkbench$Lines;II)Z" } : Jvm.MethodName)) ∈ jwd := jw_3 (i := 103) rfl rfl
theorem wd_3_104 : (Jvm.Cond.code ({ cls := "MergeWorkbench$Lines", name := "samePart", desc := "(IILMergeWorkbench$Lines;II)Z" } : Jvm.MethodName) prog_6_method_16_code (7 : Nat) (Option.some Jvm.ClassFile.FieldType.boolean)) ∈ jwd := jw_3 (i := 104) rfl rfl
theorem wd_3_105 : (Jvm.Cond.methodLink "MergeWorkbenchLaw" (164 : Nat) ({ cls := "MergeWorkbenchLaw", name := "distance", desc := "(LMergeWorkbench;II[J)I" } : Jvm.MethodName)) ∈ jwd := jw_3 (i := 105) rfl rfl
theorem wd_3_106 : (Jvm.Cond.static ({ cls := "MergeWorkbenchLaw", name := "distance", desc := "(LMergeWorkbench;II[J)I" } : Jvm.MethodName)) ∈ jwd := jw_3 (i := 106) rfl rfl
theorem wd_3_107 : (Jvm.Cond.codeWith ({ cls := "MergeWorkbenchLaw", name := "distance", desc := "(LMergeWorkbench;II[J)I" } : Jvm.MethodName) method_10_code (5 : Nat) (Option.some Jvm.ClassFile.FieldType.int) [((0 : Nat), (10 : Nat), (13 : Nat), (13 : Nat))]) ∈ jwd := jw_3 (i := 107) rfl rfl
theorem wd_3_108 : (Jvm.Cond.methodLink "MergeWorkbenchLaw" (40 : Nat) ({ cls := "MergeWorkbench", name := "distance", desc := "(II)I" } : Jvm.MethodName)) ∈ jwd := jw_3 (i := 108) rfl rfl
theorem wd_3_109 : (Jvm.Cond.instanceMethod ({ cls := "MergeWorkbench", name := "distance", desc := "(II)I" } : Jvm.MethodName)) ∈ jwd := jw_3 (i := 109) rfl rfl
theorem wd_3_110 : (Jvm.Cond.selects "MergeWorkbench" ({ cls := "MergeWorkbench", name := "distance", desc := "(II)I" } : Jvm.MethodName) ({ cls := "MergeWorkbench", name := "distance", desc := "(II)I" } : Jvm.MethodName)) ∈ jwd := jw_3 (i := 110) rfl rfl
theorem wd_3_111 : (Jvm.Cond.code ({ cls := "MergeWorkbench", name := "distance", desc := "(II)I" } : Jvm.MethodName) prog_1_method_9_code (5 : Nat) (Option.some Jvm.ClassFile.FieldType.int)) ∈ jwd := jw_3 (i := 111) rfl rfl
theorem wd_3_112 : (Jvm.Cond.methodLink "MergeWorkbench" (136 : Nat) ({ cls := "MergeWorkbench$Alignment", name := "build", desc := "(LMergeWorkbench$Lines;LMergeWorkbench$Lines;I)V" } : Jvm.MethodName)) ∈ jwd := jw_3 (i := 112) rfl rfl
theorem wd_3_113 : (Jvm.Cond.instanceMethod ({ cls := "MergeWorkbench$Alignment", name := "build", desc := "(LMergeWorkbench$Lines;LMergeWorkbench$Lines;I)V" } : Jvm.MethodName)) ∈ jwd := jw_3 (i := 113) rfl rfl
theorem wd_3_114 : (Jvm.Cond.selects "MergeWorkbench$Alignment" ({ cls := "MergeWorkbench$Alignment", name := "build", desc := "(LMergeWorkbench$Lines;LMergeWorkbench$Lines;I)V" } : Jvm.MethodName) ({ cls := "MergeWorkbench$Alignment", name := "build", desc := "(LMergeWorkbench$Lines;LMergeWorkbench$Lines;I)V" } : Jvm.MethodName)) ∈ jwd := jw_3 (i := 114) rfl rfl
theorem wd_3_115 : (Jvm.Cond.code ({ cls := "MergeWorkbench$Alignment", name := "build", desc := "(LMergeWorkbench$Lines;LMergeWorkbench$Lines;I)V" } : Jvm.MethodName) prog_2_method_7_code (4 : Nat) (Option.none : Option Jvm.ClassFile.FieldType)) ∈ jwd := jw_3 (i := 115) rfl rfl
theorem wd_3_116 : (Jvm.Cond.methodLink "MergeWorkbench$Alignment" (53 : Nat) ({ cls := "MergeWorkbench$Lines", name := "size", desc := "()I" } : Jvm.MethodName)) ∈ jwd := jw_3 (i := 116) rfl rfl
theorem wd_3_117 : (Jvm.Cond.methodLink "MergeWorkbench$Alignment" (56 : Nat) ({ cls := "MergeWorkbench$Lines", name := "fillWith", desc := "(II)V" } : Jvm.MethodName)) ∈ jwd := jw_3 (i := 117) rfl rfl
theorem wd_3_118 : (Jvm.Cond.methodLink "MergeWorkbench$Alignment" (59 : Nat) ({ cls := "MergeWorkbench$Alignment", name := "alignByAnchors", desc := "(LMergeWorkbench$Lines;LMergeWorkbench$Lines;)V" } : Jvm.MethodName)) ∈ jwd := jw_3 (i := 118) rfl rfl
theorem wd_3_120 : (Jvm.Cond.instanceMethod ({ cls := "MergeWorkbench$Alignment", name := "alignByAnchors", desc := "(LMergeWorkbench$Lines;LMergeWorkbench$Lines;)V" } : Jvm.MethodName)) ∈ jwd := jw_3 (i := 120) rfl rfl
theorem wd_3_121 : (Jvm.Cond.code ({ cls := "MergeWorkbench$Alignment", name := "alignByAnchors", desc := "(LMergeWorkbench$Lines;LMergeWorkbench$Lines;)V" } : Jvm.MethodName) prog_2_method_11_code (8 : Nat) (Option.none : Option Jvm.ClassFile.FieldType)) ∈ jwd := jw_3 (i := 121) rfl rfl
theorem wd_3_122 : (Jvm.Cond.methodLink "MergeWorkbench$Alignment" (91 : Nat) ({ cls := "MergeWorkbench$Alignment", name := "findCandidates", desc := "(LMergeWorkbench$Lines;LMergeWorkbench$Lines;)V" } : Jvm.MethodName)) ∈ jwd := jw_3 (i := 122) rfl rfl
theorem wd_3_124 : (Jvm.Cond.instanceMethod ({ cls := "MergeWorkbench$Alignment", name := "findCandidates", desc := "(LMergeWorkbench$Lines;LMergeWorkbench$Lines;)V" } : Jvm.MethodName)) ∈ jwd := jw_3 (i := 124) rfl rfl
theorem wd_3_125 : (Jvm.Cond.code ({ cls := "MergeWorkbench$Alignment", name := "findCandidates", desc := "(LMergeWorkbench$Lines;LMergeWorkbench$Lines;)V" } : Jvm.MethodName) prog_2_method_12_code (6 : Nat) (Option.none : Option Jvm.ClassFile.FieldType)) ∈ jwd := jw_3 (i := 125) rfl rfl
theorem wd_3_126 : (Jvm.Cond.methodLink "MergeWorkbench$Alignment" (97 : Nat) ({ cls := "MergeWorkbench$Lines", name := "clear", desc := "()V" } : Jvm.MethodName)) ∈ jwd := jw_3 (i := 126) rfl rfl
theorem wd_3_127 : (Jvm.Cond.methodLink "MergeWorkbench$Alignment" (49 : Nat) ({ cls := "MergeWorkbench$Lines", name := "at", desc := "(I)I" } : Jvm.MethodName)) ∈ jwd := jw_3 (i := 127) rfl rfl
theorem wd_3_128 : (Jvm.Cond.methodLink "MergeWorkbench$Alignment" (100 : Nat) ({ cls := "MergeWorkbench$Lines", name := "isOnce", desc := "(I)Z" } : Jvm.MethodName)) ∈ jwd := jw_3 (i := 128) rfl rfl
theorem wd_3_129 : (Jvm.Cond.instanceMethod ({ cls := "MergeWorkbench$Lines", name := "isOnce", desc := "(I)Z" } : Jvm.MethodName)) ∈ jwd := jw_3 (i := 129) rfl rfl
theorem wd_3_130 : (Jvm.Cond.selects "MergeWorkbench$Lines" ({ cls := "MergeWorkbench$Lines", name := "isOnce", desc := "(I)Z" } : Jvm.MethodName) ({ cls := "MergeWorkbench$Lines", name := "isOnce", desc := "(I)Z" } : Jvm.MethodName)) ∈ jwd := jw_3 (i := 130) rfl rfl
theorem wd_3_131 : (Jvm.Cond.code ({ cls := "MergeWorkbench$Lines", name := "isOnce", desc := "(I)Z" } : Jvm.MethodName) prog_6_method_15_code (4 : Nat) (Option.some Jvm.ClassFile.FieldType.boolean)) ∈ jwd := jw_3 (i := 131) rfl rfl
theorem wd_3_132 : (Jvm.Cond.methodLink "MergeWorkbench$Alignment" (73 : Nat) ({ cls := "MergeWorkbench$Lines", name := "find", desc := "(III)I" } : Jvm.MethodName)) ∈ jwd := jw_3 (i := 132) rfl rfl
theorem wd_3_133 : (Jvm.Cond.instanceMethod ({ cls := "MergeWorkbench$Lines", name := "find", desc := "(III)I" } : Jvm.MethodName)) ∈ jwd := jw_3 (i := 133) rfl rfl
theorem wd_3_134 : (Jvm.Cond.selects "MergeWorkbench$Lines" ({ cls := "MergeWorkbench$Lines", name := "find", desc := "(III)I" } : Jvm.MethodName) ({ cls := "MergeWorkbench$Lines", name := "find", desc := "(III)I" } : Jvm.MethodName)) ∈ jwd := jw_3 (i := 134) rfl rfl
theorem wd_3_135 : (Jvm.Cond.code ({ cls := "MergeWorkbench$Lines", name := "find", desc := "(III)I" } : Jvm.MethodName) prog_6_method_14_code (5 : Nat) (Option.some Jvm.ClassFile.FieldType.int)) ∈ jwd := jw_3 (i := 135) rfl rfl
theorem wd_3_136 : (Jvm.Cond.methodLink "MergeWorkbench$Alignment" (104 : Nat) ({ cls := "MergeWorkbench$Lines", name := "push", desc := "(I)V" } : Jvm.MethodName)) ∈ jwd := jw_3 (i := 136) rfl rfl
theorem wd_3_137 : (Jvm.Cond.methodLink "MergeWorkbench$Alignment" (94 : Nat) ({ cls := "MergeWorkbench$Alignment", name := "measureChains", desc := "()I" } : Jvm.MethodName)) ∈ jwd := jw_3 (i := 137) rfl rfl
theorem wd_3_139 : (Jvm.Cond.instanceMethod ({ cls := "MergeWorkbench$Alignment", name := "measureChains", desc := "()I" } : Jvm.MethodName)) ∈ jwd := jw_3 (i := 139) rfl rfl
theorem wd_3_140 : (Jvm.Cond.code ({ cls := "MergeWorkbench$Alignment", name := "measureChains", desc := "()I" } : Jvm.MethodName) prog_2_method_13_code (5 : Nat) (Option.some Jvm.ClassFile.FieldType.int)) ∈ jwd := jw_3 (i := 140) rfl rfl
theorem wd_3_141 : (Jvm.Cond.methodLink "MergeWorkbench$Alignment" (83 : Nat) ({ cls := "java/lang/Math", name := "max", desc := "(II)I" } : Jvm.MethodName)) ∈ jwd := jw_3 (i := 141) rfl rfl
theorem wd_3_142 : (Jvm.Cond.static ({ cls := "java/lang/Math", name := "max", desc := "(II)I" } : Jvm.MethodName)) ∈ jwd := jw_3 (i := 142) rfl rfl
theorem wd_3_143 : (Jvm.Cond.code ({ cls := "java/lang/Math", name := "max", desc := "(II)I" } : Jvm.MethodName) prog_20_method_65_code (2 : Nat) (Option.some Jvm.ClassFile.FieldType.int)) ∈ jwd := jw_3 (i := 143) rfl rfl
theorem wd_3_144 : (Jvm.Cond.methodLink "MergeWorkbench$Alignment" (67 : Nat) ({ cls := "MergeWorkbench$Lines", name := "put", desc := "(II)V" } : Jvm.MethodName)) ∈ jwd := jw_3 (i := 144) rfl rfl
theorem wd_3_145 : (Jvm.Cond.methodLink "MergeWorkbench$Alignment" (63 : Nat) ({ cls := "MergeWorkbench$Alignment", name := "alignPart", desc := "(LMergeWorkbench$Lines;IILMergeWorkbench$Lines;II)V" } : Jvm.MethodName)) ∈ jwd := jw_3 (i := 145) rfl rfl
theorem wd_3_147 : (Jvm.Cond.instanceMethod ({ cls := "MergeWorkbench$Alignment", name := "alignPart", desc := "(LMergeWorkbench$Lines;IILMergeWorkbench$Lines;II)V" } : Jvm.MethodName)) ∈ jwd := jw_3 (i := 147) rfl rfl
theorem wd_3_148 : (Jvm.Cond.code ({ cls := "MergeWorkbench$Alignment", name := "alignPart", desc := "(LMergeWorkbench$Lines;IILMergeWorkbench$Lines;II)V" } : Jvm.MethodName) prog_2_method_9_code (10 : Nat) (Option.none : Option Jvm.ClassFile.FieldType)) ∈ jwd := jw_3 (i := 148) rfl rfl
theorem wd_3_149 : (Jvm.Cond.methodLink "MergeWorkbench$Alignment" (70 : Nat) ({ cls := "MergeWorkbench$Alignment", name := "measureEnds", desc := "(LMergeWorkbench$Lines;IILMergeWorkbench$Lines;II)V" } : Jvm.MethodName)) ∈ jwd := jw_3 (i := 149) rfl rfl
theorem wd_3_151 : (Jvm.Cond.instanceMethod ({ cls := "MergeWorkbench$Alignment", name := "measureEnds", desc := "(LMergeWorkbench$Lines;IILMergeWorkbench$Lines;II)V" } : Jvm.MethodName)) ∈ jwd := jw_3 (i := 151) rfl rfl
theorem wd_3_152 : (Jvm.Cond.code ({ cls := "MergeWorkbench$Alignment", name := "measureEnds", desc := "(LMergeWorkbench$Lines;IILMergeWorkbench$Lines;II)V" } : Jvm.MethodName) prog_2_method_10_code (10 : Nat) (Option.none : Option Jvm.ClassFile.FieldType)) ∈ jwd := jw_3 (i := 152) rfl rfl
theorem wd_3_153 : (Jvm.Cond.methodLink "MergeWorkbench$Alignment" (77 : Nat) ({ cls := "MergeWorkbench$Table", name := "at", desc := "(II)I" } : Jvm.MethodName)) ∈ jwd := jw_3 (i := 153) rfl rfl
theorem wd_3_154 : (Jvm.Cond.instanceMethod ({ cls := "MergeWorkbench$Table", name := "at", desc := "(II)I" } : Jvm.MethodName)) ∈ jwd := jw_3 (i := 154) rfl rfl
theorem wd_3_155 : (Jvm.Cond.selects "MergeWorkbench$Table" ({ cls := "MergeWorkbench$Table", name := "at", desc := "(II)I" } : Jvm.MethodName) ({ cls := "MergeWorkbench$Table", name := "at", desc := "(II)I" } : Jvm.MethodName)) ∈ jwd := jw_3 (i := 155) rfl rfl
theorem wd_3_156 : (Jvm.Cond.code ({ cls := "MergeWorkbench$Table", name := "at", desc := "(II)I" } : Jvm.MethodName) prog_10_method_4_code (5 : Nat) (Option.some Jvm.ClassFile.FieldType.int)) ∈ jwd := jw_3 (i := 156) rfl rfl
theorem wd_3_157 : (Jvm.Cond.methodLink "MergeWorkbench$Alignment" (88 : Nat) ({ cls := "MergeWorkbench$Table", name := "put", desc := "(III)V" } : Jvm.MethodName)) ∈ jwd := jw_3 (i := 157) rfl rfl
theorem wd_3_158 : (Jvm.Cond.methodLink "MergeWorkbench$Alignment" (80 : Nat) ({ cls := "MergeWorkbench$Alignment", name := "addPair", desc := "(II)V" } : Jvm.MethodName)) ∈ jwd := jw_3 (i := 158) rfl rfl
theorem wd_3_160 : (Jvm.Cond.instanceMethod ({ cls := "MergeWorkbench$Alignment", name := "addPair", desc := "(II)V" } : Jvm.MethodName)) ∈ jwd := jw_3 (i := 160) rfl rfl
theorem wd_3_161 : (Jvm.Cond.code ({ cls := "MergeWorkbench$Alignment", name := "addPair", desc := "(II)V" } : Jvm.MethodName) prog_2_method_8_code (3 : Nat) (Option.none : Option Jvm.ClassFile.FieldType)) ∈ jwd := jw_3 (i := 161) rfl rfl
theorem wd_3_162 : (Jvm.Cond.methodLink "MergeWorkbench" (140 : Nat) ({ cls := "MergeWorkbench$Alignment", name := "pairs", desc := "()I" } : Jvm.MethodName)) ∈ jwd := jw_3 (i := 162) rfl rfl
theorem wd_3_163 : (Jvm.Cond.instanceMethod ({ cls := "MergeWorkbench$Alignment", name := "pairs", desc := "()I" } : Jvm.MethodName)) ∈ jwd := jw_3 (i := 163) rfl rfl
theorem wd_3_164 : (Jvm.Cond.selects "MergeWorkbench$Alignment" ({ cls := "MergeWorkbench$Alignment", name := "pairs", desc := "()I" } : Jvm.MethodName) ({ cls := "MergeWorkbench$Alignment", name := "pairs", desc := "()I" } : Jvm.MethodName)) ∈ jwd := jw_3 (i := 164) rfl rfl
theorem wd_3_165 : (Jvm.Cond.code ({ cls := "MergeWorkbench$Alignment", name := "pairs", desc := "()I" } : Jvm.MethodName) prog_2_method_2_code (1 : Nat) (Option.some Jvm.ClassFile.FieldType.int)) ∈ jwd := jw_3 (i := 165) rfl rfl
theorem wd_3_166 : (Jvm.Cond.methodLink "MergeWorkbenchLaw" (167 : Nat) ({ cls := "MergeWorkbenchLaw", name := "feed", desc := "(LMergeWorkbench;C[J)I" } : Jvm.MethodName)) ∈ jwd := jw_3 (i := 166) rfl rfl
theorem wd_3_167 : (Jvm.Cond.static ({ cls := "MergeWorkbenchLaw", name := "feed", desc := "(LMergeWorkbench;C[J)I" } : Jvm.MethodName)) ∈ jwd := jw_3 (i := 167) rfl rfl
theorem wd_3_168 : (Jvm.Cond.codeWith ({ cls := "MergeWorkbenchLaw", name := "feed", desc := "(LMergeWorkbench;C[J)I" } : Jvm.MethodName) method_11_code (4 : Nat) (Option.some Jvm.ClassFile.FieldType.int) [((0 : Nat), (9 : Nat), (12 : Nat), (15 : Nat))]) ∈ jwd := jw_3 (i := 168) rfl rfl
theorem wd_3_169 : (Jvm.Cond.methodLink "MergeWorkbenchLaw" (43 : Nat) ({ cls := "MergeWorkbench", name := "feed", desc := "(C)I" } : Jvm.MethodName)) ∈ jwd := jw_3 (i := 169) rfl rfl
theorem wd_3_170 : (Jvm.Cond.instanceMethod ({ cls := "MergeWorkbench", name := "feed", desc := "(C)I" } : Jvm.MethodName)) ∈ jwd := jw_3 (i := 170) rfl rfl
theorem wd_3_171 : (Jvm.Cond.selects "MergeWorkbench" ({ cls := "MergeWorkbench", name := "feed", desc := "(C)I" } : Jvm.MethodName) ({ cls := "MergeWorkbench", name := "feed", desc := "(C)I" } : Jvm.MethodName)) ∈ jwd := jw_3 (i := 171) rfl rfl
theorem wd_3_172 : (Jvm.Cond.code ({ cls := "MergeWorkbench", name := "feed", desc := "(C)I" } : Jvm.MethodName) prog_1_method_10_code (2 : Nat) (Option.some Jvm.ClassFile.FieldType.int)) ∈ jwd := jw_3 (i := 172) rfl rfl
theorem wd_3_173 : (Jvm.Cond.methodLink "MergeWorkbench" (143 : Nat) ({ cls := "MergeWorkbench$Input", name := "isFull", desc := "()Z" } : Jvm.MethodName)) ∈ jwd := jw_3 (i := 173) rfl rfl
theorem wd_3_174 : (Jvm.Cond.instanceMethod ({ cls := "MergeWorkbench$Input", name := "isFull", desc := "()Z" } : Jvm.MethodName)) ∈ jwd := jw_3 (i := 174) rfl rfl
theorem wd_3_175 : (Jvm.Cond.selects "MergeWorkbench$Input" ({ cls := "MergeWorkbench$Input", name := "isFull", desc := "()Z" } : Jvm.MethodName) ({ cls := "MergeWorkbench$Input", name := "isFull", desc := "()Z" } : Jvm.MethodName)) ∈ jwd := jw_3 (i := 175) rfl rfl
theorem wd_3_176 : (Jvm.Cond.code ({ cls := "MergeWorkbench$Input", name := "isFull", desc := "()Z" } : Jvm.MethodName) prog_5_method_2_code (1 : Nat) (Option.some Jvm.ClassFile.FieldType.boolean)) ∈ jwd := jw_3 (i := 176) rfl rfl
theorem wd_3_177 : (Jvm.Cond.methodLink "MergeWorkbench$Input" (23 : Nat) ({ cls := "MergeWorkbench$Lines", name := "isFull", desc := "()Z" } : Jvm.MethodName)) ∈ jwd := jw_3 (i := 177) rfl rfl
theorem wd_3_178 : (Jvm.Cond.instanceMethod ({ cls := "MergeWorkbench$Lines", name := "isFull", desc := "()Z" } : Jvm.MethodName)) ∈ jwd := jw_3 (i := 178) rfl rfl
theorem wd_3_179 : (Jvm.Cond.selects "MergeWorkbench$Lines" ({ cls := "MergeWorkbench$Lines", name := "isFull", desc := "()Z" } : Jvm.MethodName) ({ cls := "MergeWorkbench$Lines", name := "isFull", desc := "()Z" } : Jvm.MethodName)) ∈ jwd := jw_3 (i := 179) rfl rfl
theorem wd_3_180 : (Jvm.Cond.code ({ cls := "MergeWorkbench$Lines", name := "isFull", desc := "()Z" } : Jvm.MethodName) prog_6_method_3_code (1 : Nat) (Option.some Jvm.ClassFile.FieldType.boolean)) ∈ jwd := jw_3 (i := 180) rfl rfl
theorem wd_3_182 : (Jvm.Cond.methodLink "MergeWorkbench" (152 : Nat) ({ cls := "MergeWorkbench$Input", name := "take", desc := "(C)I" } : Jvm.MethodName)) ∈ jwd := jw_3 (i := 182) rfl rfl
theorem wd_3_183 : (Jvm.Cond.instanceMethod ({ cls := "MergeWorkbench$Input", name := "take", desc := "(C)I" } : Jvm.MethodName)) ∈ jwd := jw_3 (i := 183) rfl rfl
theorem wd_3_184 : (Jvm.Cond.selects "MergeWorkbench$Input" ({ cls := "MergeWorkbench$Input", name := "take", desc := "(C)I" } : Jvm.MethodName) ({ cls := "MergeWorkbench$Input", name := "take", desc := "(C)I" } : Jvm.MethodName)) ∈ jwd := jw_3 (i := 184) rfl rfl
theorem wd_3_185 : (Jvm.Cond.code ({ cls := "MergeWorkbench$Input", name := "take", desc := "(C)I" } : Jvm.MethodName) prog_5_method_3_code (2 : Nat) (Option.some Jvm.ClassFile.FieldType.int)) ∈ jwd := jw_3 (i := 185) rfl rfl
theorem wd_3_186 : (Jvm.Cond.methodLink "MergeWorkbench$Input" (27 : Nat) ({ cls := "MergeWorkbench$Lines", name := "push", desc := "(I)V" } : Jvm.MethodName)) ∈ jwd := jw_3 (i := 186) rfl rfl
theorem wd_3_187 : (Jvm.Cond.methodLink "MergeWorkbench$Input" (30 : Nat) ({ cls := "MergeWorkbench$Lines", name := "size", desc := "()I" } : Jvm.MethodName)) ∈ jwd := jw_3 (i := 187) rfl rfl
theorem wd_3_188 : (Jvm.Cond.methodLink "MergeWorkbenchLaw" (171 : Nat) ({ cls := "MergeWorkbenchLaw", name := "readDocument", desc := "(LMergeWorkbench;I[J)I" } : Jvm.MethodName)) ∈ jwd := jw_3 (i := 188) rfl rfl
theorem wd_3_189 : (Jvm.Cond.static ({ cls := "MergeWorkbenchLaw", name := "readDocument", desc := "(LMergeWorkbench;I[J)I" } : Jvm.MethodName)) ∈ jwd := jw_3 (i := 189) rfl rfl
theorem wd_3_190 : (Jvm.Cond.codeWith ({ cls := "MergeWorkbenchLaw", name := "readDocument", desc := "(LMergeWorkbench;I[J)I" } : Jvm.MethodName) method_12_code (4 : Nat) (Option.some Jvm.ClassFile.FieldType.int) [((0 : Nat), (9 : Nat), (12 : Nat), (13 : Nat)), ((0 : Nat), (9 : Nat), (15 : Nat), (15 : Nat))]) ∈ jwd := jw_3 (i := 190) rfl rfl
theorem wd_3_191 : (Jvm.Cond.methodLink "MergeWorkbenchLaw" (47 : Nat) ({ cls := "MergeWorkbench", name := "readDocument", desc := "(I)I" } : Jvm.MethodName)) ∈ jwd := jw_3 (i := 191) rfl rfl
theorem wd_3_192 : (Jvm.Cond.instanceMethod ({ cls := "MergeWorkbench", name := "readDocument", desc := "(I)I" } : Jvm.MethodName)) ∈ jwd := jw_3 (i := 192) rfl rfl
theorem wd_3_193 : (Jvm.Cond.selects "MergeWorkbench" ({ cls := "MergeWorkbench", name := "readDocument", desc := "(I)I" } : Jvm.MethodName) ({ cls := "MergeWorkbench", name := "readDocument", desc := "(I)I" } : Jvm.MethodName)) ∈ jwd := jw_3 (i := 193) rfl rfl
theorem wd_3_194 : (Jvm.Cond.code ({ cls := "MergeWorkbench", name := "readDocument", desc := "(I)I" } : Jvm.MethodName) prog_1_method_11_code (5 : Nat) (Option.some Jvm.ClassFile.FieldType.int)) ∈ jwd := jw_3 (i := 194) rfl rfl
theorem wd_3_195 : (Jvm.Cond.methodLink "MergeWorkbench" (156 : Nat) ({ cls := "MergeWorkbench$Input", name := "errorPosition", desc := "()I" } : Jvm.MethodName)) ∈ jwd := jw_3 (i := 195) rfl rfl
theorem wd_3_196 : (Jvm.Cond.instanceMethod ({ cls := "MergeWorkbench$Input", name := "errorPosition", desc := "()I" } : Jvm.MethodName)) ∈ jwd := jw_3 (i := 196) rfl rfl
theorem wd_3_197 : (Jvm.Cond.selects "MergeWorkbench$Input" ({ cls := "MergeWorkbench$Input", name := "errorPosition", desc := "()I" } : Jvm.MethodName) ({ cls := "MergeWorkbench$Input", name := "errorPosition", desc := "()I" } : Jvm.MethodName)) ∈ jwd := jw_3 (i := 197) rfl rfl
theorem wd_3_198 : (Jvm.Cond.code ({ cls := "MergeWorkbench$Input", name := "errorPosition", desc := "()I" } : Jvm.MethodName) prog_5_method_5_code (5 : Nat) (Option.some Jvm.ClassFile.FieldType.int)) ∈ jwd := jw_3 (i := 198) rfl rfl
theorem wd_3_199 : (Jvm.Cond.methodLink "MergeWorkbench$Input" (37 : Nat) ({ cls := "MergeWorkbench$Lines", name := "at", desc := "(I)I" } : Jvm.MethodName)) ∈ jwd := jw_3 (i := 199) rfl rfl
theorem wd_3_200 : (Jvm.Cond.methodLink "MergeWorkbench$Input" (41 : Nat) ({ cls := "MergeWorkbench$Input", name := "mayFollow", desc := "(III)Z" } : Jvm.MethodName)) ∈ jwd := jw_3 (i := 200) rfl rfl
theorem wd_3_201 : (Jvm.Cond.static ({ cls := "MergeWorkbench$Input", name := "mayFollow", desc := "(III)Z" } : Jvm.MethodName)) ∈ jwd := jw_3 (i := 201) rfl rfl
theorem wd_3_202 : (Jvm.Cond.code ({ cls := "MergeWorkbench$Input", name := "mayFollow", desc := "(III)Z" } : Jvm.MethodName) prog_5_method_6_code (3 : Nat) (Option.some Jvm.ClassFile.FieldType.boolean)) ∈ jwd := jw_3 (i := 202) rfl rfl
theorem wd_3_203 : (Jvm.Cond.methodLink "MergeWorkbench$Input" (45 : Nat) ({ cls := "MergeWorkbench$Input", name := "isDigit", desc := "(I)Z" } : Jvm.MethodName)) ∈ jwd := jw_3 (i := 203) rfl rfl
theorem wd_3_204 : (Jvm.Cond.static ({ cls := "MergeWorkbench$Input", name := "isDigit", desc := "(I)Z" } : Jvm.MethodName)) ∈ jwd := jw_3 (i := 204) rfl rfl
theorem wd_3_205 : (Jvm.Cond.code ({ cls := "MergeWorkbench$Input", name := "isDigit", desc := "(I)Z" } : Jvm.MethodName) prog_5_method_8_code (1 : Nat) (Option.some Jvm.ClassFile.FieldType.boolean)) ∈ jwd := jw_3 (i := 205) rfl rfl
theorem wd_3_206 : (Jvm.Cond.methodLink "MergeWorkbench$Input" (49 : Nat) ({ cls := "MergeWorkbench$Input", name := "isLetter", desc := "(I)Z" } : Jvm.MethodName)) ∈ jwd := jw_3 (i := 206) rfl rfl
theorem wd_3_207 : (Jvm.Cond.static ({ cls := "MergeWorkbench$Input", name := "isLetter", desc := "(I)Z" } : Jvm.MethodName)) ∈ jwd := jw_3 (i := 207) rfl rfl
theorem wd_3_208 : (Jvm.Cond.code ({ cls := "MergeWorkbench$Input", name := "isLetter", desc := "(I)Z" } : Jvm.MethodName) prog_5_method_7_code (1 : Nat) (Option.some Jvm.ClassFile.FieldType.boolean)) ∈ jwd := jw_3 (i := 208) rfl rfl
theorem wd_3_209 : (Jvm.Cond.methodLink "MergeWorkbench" (159 : Nat) ({ cls := "MergeWorkbench$Input", name := "expandInto", desc := "(LMergeWorkbench$Lines;)Z" } : Jvm.MethodName)) ∈ jwd := jw_3 (i := 209) rfl rfl
theorem wd_3_210 : (Jvm.Cond.instanceMethod ({ cls := "MergeWorkbench$Input", name := "expandInto", desc := "(LMergeWorkbench$Lines;)Z" } : Jvm.MethodName)) ∈ jwd := jw_3 (i := 210) rfl rfl
theorem wd_3_211 : (Jvm.Cond.selects "MergeWorkbench$Input" ({ cls := "MergeWorkbench$Input", name := "expandInto", desc := "(LMergeWorkbench$Lines;)Z" } : Jvm.MethodName) ({ cls := "MergeWorkbench$Input", name := "expandInto", desc := "(LMergeWorkbench$Lines;)Z" } : Jvm.MethodName)) ∈ jwd := jw_3 (i := 211) rfl rfl
theorem wd_3_212 : (Jvm.Cond.code ({ cls := "MergeWorkbench$Input", name := "expandInto", desc := "(LMergeWorkbench$Lines;)Z" } : Jvm.MethodName) prog_5_method_9_code (6 : Nat) (Option.some Jvm.ClassFile.FieldType.boolean)) ∈ jwd := jw_3 (i := 212) rfl rfl
theorem wd_3_213 : (Jvm.Cond.methodLink "MergeWorkbench$Input" (34 : Nat) ({ cls := "MergeWorkbench$Lines", name := "clear", desc := "()V" } : Jvm.MethodName)) ∈ jwd := jw_3 (i := 213) rfl rfl
theorem wd_3_214 : (Jvm.Cond.methodLink "MergeWorkbench$Input" (52 : Nat) ({ cls := "MergeWorkbench$Lines", name := "removeAt", desc := "(I)I" } : Jvm.MethodName)) ∈ jwd := jw_3 (i := 214) rfl rfl
theorem wd_3_215 : (Jvm.Cond.methodLink "MergeWorkbench$Input" (55 : Nat) ({ cls := "MergeWorkbench$Input", name := "repeatEnd", desc := "(LMergeWorkbench$Lines;II)Z" } : Jvm.MethodName)) ∈ jwd := jw_3 (i := 215) rfl rfl
theorem wd_3_216 : (Jvm.Cond.static ({ cls := "MergeWorkbench$Input", name := "repeatEnd", desc := "(LMergeWorkbench$Lines;II)Z" } : Jvm.MethodName)) ∈ jwd := jw_3 (i := 216) rfl rfl
theorem wd_3_217 : (Jvm.Cond.code ({ cls := "MergeWorkbench$Input", name := "repeatEnd", desc := "(LMergeWorkbench$Lines;II)Z" } : Jvm.MethodName) prog_5_method_10_code (5 : Nat) (Option.some Jvm.ClassFile.FieldType.boolean)) ∈ jwd := jw_3 (i := 217) rfl rfl
theorem wd_3_218 : (Jvm.Cond.methodLink "MergeWorkbench$Input" (59 : Nat) ({ cls := "MergeWorkbench$Lines", name := "pushPart", desc := "(LMergeWorkbench$Lines;II)V" } : Jvm.MethodName)) ∈ jwd := jw_3 (i := 218) rfl rfl
theorem wd_3_219 : (Jvm.Cond.methodLink "MergeWorkbench" (163 : Nat) ({ cls := "MergeWorkbench$Input", name := "discard", desc := "()V" } : Jvm.MethodName)) ∈ jwd := jw_3 (i := 219) rfl rfl
theorem wd_3_220 : (Jvm.Cond.instanceMethod ({ cls := "MergeWorkbench$Input", name := "discard", desc := "()V" } : Jvm.MethodName)) ∈ jwd := jw_3 (i := 220) rfl rfl
theorem wd_3_221 : (Jvm.Cond.selects "MergeWorkbench$Input" ({ cls := "MergeWorkbench$Input", name := "discard", desc := "()V" } : Jvm.MethodName) ({ cls := "MergeWorkbench$Input", name := "discard", desc := "()V" } : Jvm.MethodName)) ∈ jwd := jw_3 (i := 221) rfl rfl
theorem wd_3_222 : (Jvm.Cond.code ({ cls := "MergeWorkbench$Input", name := "discard", desc := "()V" } : Jvm.MethodName) prog_5_method_4_code (1 : Nat) (Option.none : Option Jvm.ClassFile.FieldType)) ∈ jwd := jw_3 (i := 222) rfl rfl
theorem wd_3_224 : (Jvm.Cond.methodLink "MergeWorkbenchLaw" (174 : Nat) ({ cls := "MergeWorkbenchLaw", name := "setMode", desc := "(LMergeWorkbench;I[J)I" } : Jvm.MethodName)) ∈ jwd := jw_3 (i := 224) rfl rfl
theorem wd_3_225 : (Jvm.Cond.static ({ cls := "MergeWorkbenchLaw", name := "setMode", desc := "(LMergeWorkbench;I[J)I" } : Jvm.MethodName)) ∈ jwd := jw_3 (i := 225) rfl rfl
theorem wd_3_226 : (Jvm.Cond.codeWith ({ cls := "MergeWorkbenchLaw", name := "setMode", desc := "(LMergeWorkbench;I[J)I" } : Jvm.MethodName) method_13_code (4 : Nat) (Option.some Jvm.ClassFile.FieldType.int) [((0 : Nat), (9 : Nat), (12 : Nat), (13 : Nat))]) ∈ jwd := jw_3 (i := 226) rfl rfl
theorem wd_3_227 : (Jvm.Cond.methodLink "MergeWorkbenchLaw" (50 : Nat) ({ cls := "MergeWorkbench", name := "setMode", desc := "(I)I" } : Jvm.MethodName)) ∈ jwd := jw_3 (i := 227) rfl rfl
theorem wd_3_228 : (Jvm.Cond.instanceMethod ({ cls := "MergeWorkbench", name := "setMode", desc := "(I)I" } : Jvm.MethodName)) ∈ jwd := jw_3 (i := 228) rfl rfl
theorem wd_3_229 : (Jvm.Cond.selects "MergeWorkbench" ({ cls := "MergeWorkbench", name := "setMode", desc := "(I)I" } : Jvm.MethodName) ({ cls := "MergeWorkbench", name := "setMode", desc := "(I)I" } : Jvm.MethodName)) ∈ jwd := jw_3 (i := 229) rfl rfl
theorem wd_3_230 : (Jvm.Cond.code ({ cls := "MergeWorkbench", name := "setMode", desc := "(I)I" } : Jvm.MethodName) prog_1_method_12_code (3 : Nat) (Option.some Jvm.ClassFile.FieldType.int)) ∈ jwd := jw_3 (i := 230) rfl rfl
theorem wd_3_232 : (Jvm.Cond.methodLink "MergeWorkbenchLaw" (177 : Nat) ({ cls := "MergeWorkbenchLaw", name := "compare", desc := "(LMergeWorkbench;II[J)I" } : Jvm.MethodName)) ∈ jwd := jw_3 (i := 232) rfl rfl
theorem wd_3_233 : (Jvm.Cond.static ({ cls := "MergeWorkbenchLaw", name := "compare", desc := "(LMergeWorkbench;II[J)I" } : Jvm.MethodName)) ∈ jwd := jw_3 (i := 233) rfl rfl
theorem wd_3_234 : (Jvm.Cond.codeWith ({ cls := "MergeWorkbenchLaw", name := "compare", desc := "(LMergeWorkbench;II[J)I" } : Jvm.MethodName) method_14_code (5 : Nat) (Option.some Jvm.ClassFile.FieldType.int) [((0 : Nat), (10 : Nat), (13 : Nat), (13 : Nat))]) ∈ jwd := jw_3 (i := 234) rfl rfl
theorem wd_3_235 : (Jvm.Cond.methodLink "MergeWorkbenchLaw" (53 : Nat) ({ cls := "MergeWorkbench", name := "compare", desc := "(II)I" } : Jvm.MethodName)) ∈ jwd := jw_3 (i := 235) rfl rfl
theorem wd_3_236 : (Jvm.Cond.instanceMethod ({ cls := "MergeWorkbench", name := "compare", desc := "(II)I" } : Jvm.MethodName)) ∈ jwd := jw_3 (i := 236) rfl rfl
theorem wd_3_237 : (Jvm.Cond.selects "MergeWorkbench" ({ cls := "MergeWorkbench", name := "compare", desc := "(II)I" } : Jvm.MethodName) ({ cls := "MergeWorkbench", name := "compare", desc := "(II)I" } : Jvm.MethodName)) ∈ jwd := jw_3 (i := 237) rfl rfl
theorem wd_3_238 : (Jvm.Cond.code ({ cls := "MergeWorkbench", name := "compare", desc := "(II)I" } : Jvm.MethodName) prog_1_method_13_code (5 : Nat) (Option.some Jvm.ClassFile.FieldType.int)) ∈ jwd := jw_3 (i := 238) rfl rfl
theorem wd_3_239 : (Jvm.Cond.methodLink "MergeWorkbench" (173 : Nat) ({ cls := "MergeWorkbench$Comparison", name := "make", desc := "(LMergeWorkbench$Lines;LMergeWorkbench$Lines;I)I" } : Jvm.MethodName)) ∈ jwd := jw_3 (i := 239) rfl rfl
theorem wd_4_0 : (Jvm.Cond.instanceMethod ({ cls := "MergeWorkbench$Comparison", name := "make", desc := "(LMergeWorkbench$Lines;LMergeWorkbench$Lines;I)I" } : Jvm.MethodName)) ∈ jwd := jw_4 (i := 0) rfl rfl
theorem wd_4_1 : (Jvm.Cond.selects "MergeWorkbench$Comparison" ({ cls := "MergeWorkbench$Comparison", name := "make", desc := "(LMergeWorkbench$Lines;LMergeWorkbench$Lines;I)I" } : Jvm.MethodName) ({ cls := "MergeWorkbench$Comparison", name := "make", desc := "(LMergeWorkbench$Lines;LMergeWorkbench$Lines;I)I" } : Jvm.MethodName)) ∈ jwd := jw_4 (i := 1) rfl rfl
theorem wd_4_2 : (Jvm.Cond.code ({ cls := "MergeWorkbench$Comparison", name := "make", desc := "(LMergeWorkbench$Lines;LMergeWorkbench$Lines;I)I" } : Jvm.MethodName) prog_3_method_9_code (4 : Nat) (Option.some Jvm.ClassFile.FieldType.int)) ∈ jwd := jw_4 (i := 2) rfl rfl
theorem wd_4_3 : (Jvm.Cond.methodLink "MergeWorkbench$Comparison" (55 : Nat) ({ cls := "MergeWorkbench$Lines", name := "become", desc := "(LMergeWorkbench$Lines;)V" } : Jvm.MethodName)) ∈ jwd := jw_4 (i := 3) rfl rfl
theorem wd_4_4 : (Jvm.Cond.methodLink "MergeWorkbench$Comparison" (59 : Nat) ({ cls := "MergeWorkbench$Alignment", name := "build", desc := "(LMergeWorkbench$Lines;LMergeWorkbench$Lines;I)V" } : Jvm.MethodName)) ∈ jwd := jw_4 (i := 4) rfl rfl
theorem wd_4_5 : (Jvm.Cond.methodLink "MergeWorkbench$Comparison" (63 : Nat) ({ cls := "MergeWorkbench$Table", name := "clear", desc := "()V" } : Jvm.MethodName)) ∈ jwd := jw_4 (i := 5) rfl rfl
theorem wd_4_6 : (Jvm.Cond.instanceMethod ({ cls := "MergeWorkbench$Table", name := "clear", desc := "()V" } : Jvm.MethodName)) ∈ jwd := jw_4 (i := 6) rfl rfl
theorem wd_4_7 : (Jvm.Cond.selects "MergeWorkbench$Table" ({ cls := "MergeWorkbench$Table", name := "clear", desc := "()V" } : Jvm.MethodName) ({ cls := "MergeWorkbench$Table", name := "clear", desc := "()V" } : Jvm.MethodName)) ∈ jwd := jw_4 (i := 7) rfl rfl
theorem wd_4_8 : (Jvm.Cond.code ({ cls := "MergeWorkbench$Table", name := "clear", desc := "()V" } : Jvm.MethodName) prog_10_method_6_code (1 : Nat) (Option.none : Option Jvm.ClassFile.FieldType)) ∈ jwd := jw_4 (i := 8) rfl rfl
theorem wd_4_9 : (Jvm.Cond.methodLink "MergeWorkbench$Comparison" (66 : Nat) ({ cls := "MergeWorkbench$Lines", name := "clear", desc := "()V" } : Jvm.MethodName)) ∈ jwd := jw_4 (i := 9) rfl rfl
theorem wd_4_10 : (Jvm.Cond.methodLink "MergeWorkbench$Comparison" (67 : Nat) ({ cls := "MergeWorkbench$Comparison", name := "collectDifferences", desc := "()V" } : Jvm.MethodName)) ∈ jwd := jw_4 (i := 10) rfl rfl
theorem wd_4_12 : (Jvm.Cond.instanceMethod ({ cls := "MergeWorkbench$Comparison", name := "collectDifferences", desc := "()V" } : Jvm.MethodName)) ∈ jwd := jw_4 (i := 12) rfl rfl
theorem wd_4_13 : (Jvm.Cond.code ({ cls := "MergeWorkbench$Comparison", name := "collectDifferences", desc := "()V" } : Jvm.MethodName) prog_3_method_10_code (5 : Nat) (Option.none : Option Jvm.ClassFile.FieldType)) ∈ jwd := jw_4 (i := 13) rfl rfl
theorem wd_4_14 : (Jvm.Cond.methodLink "MergeWorkbench$Comparison" (74 : Nat) ({ cls := "MergeWorkbench$Lines", name := "size", desc := "()I" } : Jvm.MethodName)) ∈ jwd := jw_4 (i := 14) rfl rfl
theorem wd_4_15 : (Jvm.Cond.methodLink "MergeWorkbench$Comparison" (77 : Nat) ({ cls := "MergeWorkbench$Alignment", name := "isFirstKept", desc := "(I)Z" } : Jvm.MethodName)) ∈ jwd := jw_4 (i := 15) rfl rfl
theorem wd_4_16 : (Jvm.Cond.instanceMethod ({ cls := "MergeWorkbench$Alignment", name := "isFirstKept", desc := "(I)Z" } : Jvm.MethodName)) ∈ jwd := jw_4 (i := 16) rfl rfl
theorem wd_4_17 : (Jvm.Cond.selects "MergeWorkbench$Alignment" ({ cls := "MergeWorkbench$Alignment", name := "isFirstKept", desc := "(I)Z" } : Jvm.MethodName) ({ cls := "MergeWorkbench$Alignment", name := "isFirstKept", desc := "(I)Z" } : Jvm.MethodName)) ∈ jwd := jw_4 (i := 17) rfl rfl
theorem wd_4_18 : (Jvm.Cond.code ({ cls := "MergeWorkbench$Alignment", name := "isFirstKept", desc := "(I)Z" } : Jvm.MethodName) prog_2_method_5_code (2 : Nat) (Option.some Jvm.ClassFile.FieldType.boolean)) ∈ jwd := jw_4 (i := 18) rfl rfl
theorem wd_4_19 : (Jvm.Cond.methodLink "MergeWorkbench$Comparison" (81 : Nat) ({ cls := "MergeWorkbench$Alignment", name := "partnerOf", desc := "(I)I" } : Jvm.MethodName)) ∈ jwd := jw_4 (i := 19) rfl rfl
theorem wd_4_20 : (Jvm.Cond.instanceMethod ({ cls := "MergeWorkbench$Alignment", name := "partnerOf", desc := "(I)I" } : Jvm.MethodName)) ∈ jwd := jw_4 (i := 20) rfl rfl
theorem wd_4_21 : (Jvm.Cond.selects "MergeWorkbench$Alignment" ({ cls := "MergeWorkbench$Alignment", name := "partnerOf", desc := "(I)I" } : Jvm.MethodName) ({ cls := "MergeWorkbench$Alignment", name := "partnerOf", desc := "(I)I" } : Jvm.MethodName)) ∈ jwd := jw_4 (i := 21) rfl rfl
theorem wd_4_22 : (Jvm.Cond.code ({ cls := "MergeWorkbench$Alignment", name := "partnerOf", desc := "(I)I" } : Jvm.MethodName) prog_2_method_4_code (2 : Nat) (Option.some Jvm.ClassFile.FieldType.int)) ∈ jwd := jw_4 (i := 22) rfl rfl
theorem wd_4_23 : (Jvm.Cond.methodLink "MergeWorkbench$Comparison" (85 : Nat) ({ cls := "MergeWorkbench$Comparison", name := "addDifference", desc := "(IIII)V" } : Jvm.MethodName)) ∈ jwd := jw_4 (i := 23) rfl rfl
theorem wd_4_25 : (Jvm.Cond.instanceMethod ({ cls := "MergeWorkbench$Comparison", name := "addDifference", desc := "(IIII)V" } : Jvm.MethodName)) ∈ jwd := jw_4 (i := 25) rfl rfl
theorem wd_4_26 : (Jvm.Cond.code ({ cls := "MergeWorkbench$Comparison", name := "addDifference", desc := "(IIII)V" } : Jvm.MethodName) prog_3_method_11_code (7 : Nat) (Option.none : Option Jvm.ClassFile.FieldType)) ∈ jwd := jw_4 (i := 26) rfl rfl
theorem wd_4_27 : (Jvm.Cond.methodLink "MergeWorkbench$Comparison" (95 : Nat) ({ cls := "MergeWorkbench$Table", name := "addRow", desc := "()I" } : Jvm.MethodName)) ∈ jwd := jw_4 (i := 27) rfl rfl
theorem wd_4_28 : (Jvm.Cond.methodLink "MergeWorkbench$Comparison" (98 : Nat) ({ cls := "MergeWorkbench$Table", name := "put", desc := "(III)V" } : Jvm.MethodName)) ∈ jwd := jw_4 (i := 28) rfl rfl
theorem wd_4_29 : (Jvm.Cond.methodLink "MergeWorkbench$Comparison" (89 : Nat) ({ cls := "MergeWorkbench$Lines", name := "at", desc := "(I)I" } : Jvm.MethodName)) ∈ jwd := jw_4 (i := 29) rfl rfl
theorem wd_4_30 : (Jvm.Cond.methodLink "MergeWorkbench$Comparison" (92 : Nat) ({ cls := "MergeWorkbench$Lines", name := "push", desc := "(I)V" } : Jvm.MethodName)) ∈ jwd := jw_4 (i := 30) rfl rfl
theorem wd_4_31 : (Jvm.Cond.methodLink "MergeWorkbench$Comparison" (70 : Nat) ({ cls := "MergeWorkbench$Alignment", name := "pairs", desc := "()I" } : Jvm.MethodName)) ∈ jwd := jw_4 (i := 31) rfl rfl
theorem wd_4_32 : (Jvm.Cond.methodLink "MergeWorkbenchLaw" (180 : Nat) ({ cls := "MergeWorkbenchLaw", name := "partner", desc := "(LMergeWorkbench;I[J)I" } : Jvm.MethodName)) ∈ jwd := jw_4 (i := 32) rfl rfl
theorem wd_4_33 : (Jvm.Cond.static ({ cls := "MergeWorkbenchLaw", name := "partner", desc := "(LMergeWorkbench;I[J)I" } : Jvm.MethodName)) ∈ jwd := jw_4 (i := 33) rfl rfl
theorem wd_4_34 : (Jvm.Cond.codeWith ({ cls := "MergeWorkbenchLaw", name := "partner", desc := "(LMergeWorkbench;I[J)I" } : Jvm.MethodName) method_15_code (4 : Nat) (Option.some Jvm.ClassFile.FieldType.int) [((0 : Nat), (9 : Nat), (12 : Nat), (15 : Nat)), ((0 : Nat), (9 : Nat), (15 : Nat), (21 : Nat))]) ∈ jwd := jw_4 (i := 34) rfl rfl
theorem wd_4_35 : (Jvm.Cond.methodLink "MergeWorkbenchLaw" (56 : Nat) ({ cls := "MergeWorkbench", name := "partner", desc := "(I)I" } : Jvm.MethodName)) ∈ jwd := jw_4 (i := 35) rfl rfl
theorem wd_4_36 : (Jvm.Cond.instanceMethod ({ cls := "MergeWorkbench", name := "partner", desc := "(I)I" } : Jvm.MethodName)) ∈ jwd := jw_4 (i := 36) rfl rfl
theorem wd_4_37 : (Jvm.Cond.selects "MergeWorkbench" ({ cls := "MergeWorkbench", name := "partner", desc := "(I)I" } : Jvm.MethodName) ({ cls := "MergeWorkbench", name := "partner", desc := "(I)I" } : Jvm.MethodName)) ∈ jwd := jw_4 (i := 37) rfl rfl
theorem wd_4_38 : (Jvm.Cond.code ({ cls := "MergeWorkbench", name := "partner", desc := "(I)I" } : Jvm.MethodName) prog_1_method_14_code (2 : Nat) (Option.some Jvm.ClassFile.FieldType.int)) ∈ jwd := jw_4 (i := 38) rfl rfl
theorem wd_4_39 : (Jvm.Cond.methodLink "MergeWorkbench" (177 : Nat) ({ cls := "MergeWorkbench", name := "requireComparison", desc := "()V" } : Jvm.MethodName)) ∈ jwd := jw_4 (i := 39) rfl rfl
theorem wd_4_41 : (Jvm.Cond.instanceMethod ({ cls := "MergeWorkbench", name := "requireComparison", desc := "()V" } : Jvm.MethodName)) ∈ jwd := jw_4 (i := 41) rfl rfl
theorem wd_4_42 : (Jvm.Cond.code ({ cls := "MergeWorkbench", name := "requireComparison", desc := "()V" } : Jvm.MethodName) prog_1_method_41_code (1 : Nat) (Option.none : Option Jvm.ClassFile.FieldType)) ∈ jwd := jw_4 (i := 42) rfl rfl
theorem wd_4_43 : (Jvm.Cond.methodLink "MergeWorkbench" (328 : Nat) ({ cls := "MergeWorkbench$Comparison", name := "exists", desc := "()Z" } : Jvm.MethodName)) ∈ jwd := jw_4 (i := 43) rfl rfl
theorem wd_4_44 : (Jvm.Cond.instanceMethod ({ cls := "MergeWorkbench$Comparison", name := "exists", desc := "()Z" } : Jvm.MethodName)) ∈ jwd := jw_4 (i := 44) rfl rfl
theorem wd_4_45 : (Jvm.Cond.selects "MergeWorkbench$Comparison" ({ cls := "MergeWorkbench$Comparison", name := "exists", desc := "()Z" } : Jvm.MethodName) ({ cls := "MergeWorkbench$Comparison", name := "exists", desc := "()Z" } : Jvm.MethodName)) ∈ jwd := jw_4 (i := 45) rfl rfl
theorem wd_4_46 : (Jvm.Cond.code ({ cls := "MergeWorkbench$Comparison", name := "exists", desc := "()Z" } : Jvm.MethodName) prog_3_method_2_code (1 : Nat) (Option.some Jvm.ClassFile.FieldType.boolean)) ∈ jwd := jw_4 (i := 46) rfl rfl
theorem wd_4_48 : (Jvm.Cond.methodLink "MergeWorkbench" (180 : Nat) ({ cls := "MergeWorkbench$Comparison", name := "first", desc := "()LMergeWorkbench$Lines;" } : Jvm.MethodName)) ∈ jwd := jw_4 (i := 48) rfl rfl
theorem wd_4_49 : (Jvm.Cond.instanceMethod ({ cls := "MergeWorkbench$Comparison", name := "first", desc := "()LMergeWorkbench$Lines;" } : Jvm.MethodName)) ∈ jwd := jw_4 (i := 49) rfl rfl
theorem wd_4_50 : (Jvm.Cond.selects "MergeWorkbench$Comparison" ({ cls := "MergeWorkbench$Comparison", name := "first", desc := "()LMergeWorkbench$Lines;" } : Jvm.MethodName) ({ cls := "MergeWorkbench$Comparison", name := "first", desc := "()LMergeWorkbench$Lines;" } : Jvm.MethodName)) ∈ jwd := jw_4 (i := 50) rfl rfl
theorem wd_4_51 : (Jvm.Cond.code ({ cls := "MergeWorkbench$Comparison", name := "first", desc := "()LMergeWorkbench$Lines;" } : Jvm.MethodName) prog_3_method_3_code (1 : Nat) (Option.some (Jvm.ClassFile.FieldType.object "MergeWorkbench$Lines"))) ∈ jwd := jw_4 (i := 51) rfl rfl
theorem wd_4_52 : (Jvm.Cond.methodLink "MergeWorkbench" (184 : Nat) ({ cls := "MergeWorkbench$Comparison", name := "alignment", desc := "()LMergeWorkbench$Alignment;" } : Jvm.MethodName)) ∈ jwd := jw_4 (i := 52) rfl rfl
theorem wd_4_53 : (Jvm.Cond.instanceMethod ({ cls := "MergeWorkbench$Comparison", name := "alignment", desc := "()LMergeWorkbench$Alignment;" } : Jvm.MethodName)) ∈ jwd := jw_4 (i := 53) rfl rfl
theorem wd_4_54 : (Jvm.Cond.selects "MergeWorkbench$Comparison" ({ cls := "MergeWorkbench$Comparison", name := "alignment", desc := "()LMergeWorkbench$Alignment;" } : Jvm.MethodName) ({ cls := "MergeWorkbench$Comparison", name := "alignment", desc := "()LMergeWorkbench$Alignment;" } : Jvm.MethodName)) ∈ jwd := jw_4 (i := 54) rfl rfl
theorem wd_4_55 : (Jvm.Cond.code ({ cls := "MergeWorkbench$Comparison", name := "alignment", desc := "()LMergeWorkbench$Alignment;" } : Jvm.MethodName) prog_3_method_5_code (1 : Nat) (Option.some (Jvm.ClassFile.FieldType.object "MergeWorkbench$Alignment"))) ∈ jwd := jw_4 (i := 55) rfl rfl
theorem wd_4_56 : (Jvm.Cond.methodLink "MergeWorkbench" (188 : Nat) ({ cls := "MergeWorkbench$Alignment", name := "partnerOf", desc := "(I)I" } : Jvm.MethodName)) ∈ jwd := jw_4 (i := 56) rfl rfl
theorem wd_4_57 : (Jvm.Cond.methodLink "MergeWorkbenchLaw" (183 : Nat) ({ cls := "MergeWorkbenchLaw", name := "anchors", desc := "(LMergeWorkbench;[J)I" } : Jvm.MethodName)) ∈ jwd := jw_4 (i := 57) rfl rfl
theorem wd_4_58 : (Jvm.Cond.static ({ cls := "MergeWorkbenchLaw", name := "anchors", desc := "(LMergeWorkbench;[J)I" } : Jvm.MethodName)) ∈ jwd := jw_4 (i := 58) rfl rfl
theorem wd_4_59 : (Jvm.Cond.codeWith ({ cls := "MergeWorkbenchLaw", name := "anchors", desc := "(LMergeWorkbench;[J)I" } : Jvm.MethodName) method_16_code (3 : Nat) (Option.some Jvm.ClassFile.FieldType.int) [((0 : Nat), (8 : Nat), (11 : Nat), (15 : Nat))]) ∈ jwd := jw_4 (i := 59) rfl rfl
theorem wd_4_60 : (Jvm.Cond.methodLink "MergeWorkbenchLaw" (59 : Nat) ({ cls := "MergeWorkbench", name := "anchors", desc := "()I" } : Jvm.MethodName)) ∈ jwd := jw_4 (i := 60) rfl rfl
theorem wd_4_61 : (Jvm.Cond.instanceMethod ({ cls := "MergeWorkbench", name := "anchors", desc := "()I" } : Jvm.MethodName)) ∈ jwd := jw_4 (i := 61) rfl rfl
theorem wd_4_62 : (Jvm.Cond.selects "MergeWorkbench" ({ cls := "MergeWorkbench", name := "anchors", desc := "()I" } : Jvm.MethodName) ({ cls := "MergeWorkbench", name := "anchors", desc := "()I" } : Jvm.MethodName)) ∈ jwd := jw_4 (i := 62) rfl rfl
theorem wd_4_63 : (Jvm.Cond.code ({ cls := "MergeWorkbench", name := "anchors", desc := "()I" } : Jvm.MethodName) prog_1_method_15_code (1 : Nat) (Option.some Jvm.ClassFile.FieldType.int)) ∈ jwd := jw_4 (i := 63) rfl rfl
theorem wd_4_64 : (Jvm.Cond.methodLink "MergeWorkbench" (191 : Nat) ({ cls := "MergeWorkbench$Alignment", name := "anchorCount", desc := "()I" } : Jvm.MethodName)) ∈ jwd := jw_4 (i := 64) rfl rfl
theorem wd_4_65 : (Jvm.Cond.instanceMethod ({ cls := "MergeWorkbench$Alignment", name := "anchorCount", desc := "()I" } : Jvm.MethodName)) ∈ jwd := jw_4 (i := 65) rfl rfl
theorem wd_4_66 : (Jvm.Cond.selects "MergeWorkbench$Alignment" ({ cls := "MergeWorkbench$Alignment", name := "anchorCount", desc := "()I" } : Jvm.MethodName) ({ cls := "MergeWorkbench$Alignment", name := "anchorCount", desc := "()I" } : Jvm.MethodName)) ∈ jwd := jw_4 (i := 66) rfl rfl
theorem wd_4_67 : (Jvm.Cond.code ({ cls := "MergeWorkbench$Alignment", name := "anchorCount", desc := "()I" } : Jvm.MethodName) prog_2_method_3_code (1 : Nat) (Option.some Jvm.ClassFile.FieldType.int)) ∈ jwd := jw_4 (i := 67) rfl rfl
theorem wd_4_68 : (Jvm.Cond.methodLink "MergeWorkbenchLaw" (187 : Nat) ({ cls := "MergeWorkbenchLaw", name := "differences", desc := "(LMergeWorkbench;[J)I" } : Jvm.MethodName)) ∈ jwd := jw_4 (i := 68) rfl rfl
theorem wd_4_69 : (Jvm.Cond.static ({ cls := "MergeWorkbenchLaw", name := "differences", desc := "(LMergeWorkbench;[J)I" } : Jvm.MethodName)) ∈ jwd := jw_4 (i := 69) rfl rfl
theorem wd_4_70 : (Jvm.Cond.codeWith ({ cls := "MergeWorkbenchLaw", name := "differences", desc := "(LMergeWorkbench;[J)I" } : Jvm.MethodName) method_17_code (3 : Nat) (Option.some Jvm.ClassFile.FieldType.int) [((0 : Nat), (8 : Nat), (11 : Nat), (15 : Nat))]) ∈ jwd := jw_4 (i := 70) rfl rfl
theorem wd_4_71 : (Jvm.Cond.methodLink "MergeWorkbenchLaw" (63 : Nat) ({ cls := "MergeWorkbench", name := "differences", desc := "()I" } : Jvm.MethodName)) ∈ jwd := jw_4 (i := 71) rfl rfl
theorem wd_4_72 : (Jvm.Cond.instanceMethod ({ cls := "MergeWorkbench", name := "differences", desc := "()I" } : Jvm.MethodName)) ∈ jwd := jw_4 (i := 72) rfl rfl
theorem wd_4_73 : (Jvm.Cond.selects "MergeWorkbench" ({ cls := "MergeWorkbench", name := "differences", desc := "()I" } : Jvm.MethodName) ({ cls := "MergeWorkbench", name := "differences", desc := "()I" } : Jvm.MethodName)) ∈ jwd := jw_4 (i := 73) rfl rfl
theorem wd_4_74 : (Jvm.Cond.code ({ cls := "MergeWorkbench", name := "differences", desc := "()I" } : Jvm.MethodName) prog_1_method_16_code (1 : Nat) (Option.some Jvm.ClassFile.FieldType.int)) ∈ jwd := jw_4 (i := 74) rfl rfl
theorem wd_4_75 : (Jvm.Cond.methodLink "MergeWorkbench" (194 : Nat) ({ cls := "MergeWorkbench$Comparison", name := "parts", desc := "()LMergeWorkbench$Table;" } : Jvm.MethodName)) ∈ jwd := jw_4 (i := 75) rfl rfl
theorem wd_4_76 : (Jvm.Cond.instanceMethod ({ cls := "MergeWorkbench$Comparison", name := "parts", desc := "()LMergeWorkbench$Table;" } : Jvm.MethodName)) ∈ jwd := jw_4 (i := 76) rfl rfl
theorem wd_4_77 : (Jvm.Cond.selects "MergeWorkbench$Comparison" ({ cls := "MergeWorkbench$Comparison", name := "parts", desc := "()LMergeWorkbench$Table;" } : Jvm.MethodName) ({ cls := "MergeWorkbench$Comparison", name := "parts", desc := "()LMergeWorkbench$Table;" } : Jvm.MethodName)) ∈ jwd := jw_4 (i := 77) rfl rfl
theorem wd_4_78 : (Jvm.Cond.code ({ cls := "MergeWorkbench$Comparison", name := "parts", desc := "()LMergeWorkbench$Table;" } : Jvm.MethodName) prog_3_method_6_code (1 : Nat) (Option.some (Jvm.ClassFile.FieldType.object "MergeWorkbench$Table"))) ∈ jwd := jw_4 (i := 78) rfl rfl
theorem wd_4_79 : (Jvm.Cond.methodLink "MergeWorkbench" (198 : Nat) ({ cls := "MergeWorkbench$Table", name := "rows", desc := "()I" } : Jvm.MethodName)) ∈ jwd := jw_4 (i := 79) rfl rfl
theorem wd_4_80 : (Jvm.Cond.instanceMethod ({ cls := "MergeWorkbench$Table", name := "rows", desc := "()I" } : Jvm.MethodName)) ∈ jwd := jw_4 (i := 80) rfl rfl
theorem wd_4_81 : (Jvm.Cond.selects "MergeWorkbench$Table" ({ cls := "MergeWorkbench$Table", name := "rows", desc := "()I" } : Jvm.MethodName) ({ cls := "MergeWorkbench$Table", name := "rows", desc := "()I" } : Jvm.MethodName)) ∈ jwd := jw_4 (i := 81) rfl rfl
theorem wd_4_82 : (Jvm.Cond.code ({ cls := "MergeWorkbench$Table", name := "rows", desc := "()I" } : Jvm.MethodName) prog_10_method_2_code (1 : Nat) (Option.some Jvm.ClassFile.FieldType.int)) ∈ jwd := jw_4 (i := 82) rfl rfl
theorem wd_4_83 : (Jvm.Cond.methodLink "MergeWorkbenchLaw" (190 : Nat) ({ cls := "MergeWorkbenchLaw", name := "difference", desc := "(LMergeWorkbench;II[J)I" } : Jvm.MethodName)) ∈ jwd := jw_4 (i := 83) rfl rfl
theorem wd_4_84 : (Jvm.Cond.static ({ cls := "MergeWorkbenchLaw", name := "difference", desc := "(LMergeWorkbench;II[J)I" } : Jvm.MethodName)) ∈ jwd := jw_4 (i := 84) rfl rfl
theorem wd_4_85 : (Jvm.Cond.codeWith ({ cls := "MergeWorkbenchLaw", name := "difference", desc := "(LMergeWorkbench;II[J)I" } : Jvm.MethodName) method_18_code (5 : Nat) (Option.some Jvm.ClassFile.FieldType.int) [((0 : Nat), (10 : Nat), (13 : Nat), (15 : Nat)), ((0 : Nat), (10 : Nat), (17 : Nat), (21 : Nat)), ((0 : Nat), (10 : Nat), (21 : Nat), (13 : Nat))]) ∈ jwd := jw_4 (i := 85) rfl rfl
theorem wd_4_86 : (Jvm.Cond.methodLink "MergeWorkbenchLaw" (66 : Nat) ({ cls := "MergeWorkbench", name := "difference", desc := "(II)I" } : Jvm.MethodName)) ∈ jwd := jw_4 (i := 86) rfl rfl
theorem wd_4_87 : (Jvm.Cond.instanceMethod ({ cls := "MergeWorkbench", name := "difference", desc := "(II)I" } : Jvm.MethodName)) ∈ jwd := jw_4 (i := 87) rfl rfl
theorem wd_4_88 : (Jvm.Cond.selects "MergeWorkbench" ({ cls := "MergeWorkbench", name := "difference", desc := "(II)I" } : Jvm.MethodName) ({ cls := "MergeWorkbench", name := "difference", desc := "(II)I" } : Jvm.MethodName)) ∈ jwd := jw_4 (i := 88) rfl rfl
theorem wd_4_89 : (Jvm.Cond.code ({ cls := "MergeWorkbench", name := "difference", desc := "(II)I" } : Jvm.MethodName) prog_1_method_17_code (3 : Nat) (Option.some Jvm.ClassFile.FieldType.int)) ∈ jwd := jw_4 (i := 89) rfl rfl
theorem wd_4_90 : (Jvm.Cond.methodLink "MergeWorkbench" (203 : Nat) ({ cls := "MergeWorkbench", name := "property", desc := "(LMergeWorkbench$Table;III)I" } : Jvm.MethodName)) ∈ jwd := jw_4 (i := 90) rfl rfl
theorem wd_4_91 : (Jvm.Cond.static ({ cls := "MergeWorkbench", name := "property", desc := "(LMergeWorkbench$Table;III)I" } : Jvm.MethodName)) ∈ jwd := jw_4 (i := 91) rfl rfl
theorem wd_4_92 : (Jvm.Cond.code ({ cls := "MergeWorkbench", name := "property", desc := "(LMergeWorkbench$Table;III)I" } : Jvm.MethodName) prog_1_method_44_code (4 : Nat) (Option.some Jvm.ClassFile.FieldType.int)) ∈ jwd := jw_4 (i := 92) rfl rfl
theorem wd_4_93 : (Jvm.Cond.methodLink "MergeWorkbench" (289 : Nat) ({ cls := "MergeWorkbench$Table", name := "hasRow", desc := "(I)Z" } : Jvm.MethodName)) ∈ jwd := jw_4 (i := 93) rfl rfl
theorem wd_4_94 : (Jvm.Cond.instanceMethod ({ cls := "MergeWorkbench$Table", name := "hasRow", desc := "(I)Z" } : Jvm.MethodName)) ∈ jwd := jw_4 (i := 94) rfl rfl
theorem wd_4_95 : (Jvm.Cond.selects "MergeWorkbench$Table" ({ cls := "MergeWorkbench$Table", name := "hasRow", desc := "(I)Z" } : Jvm.MethodName) ({ cls := "MergeWorkbench$Table", name := "hasRow", desc := "(I)Z" } : Jvm.MethodName)) ∈ jwd := jw_4 (i := 95) rfl rfl
theorem wd_4_96 : (Jvm.Cond.code ({ cls := "MergeWorkbench$Table", name := "hasRow", desc := "(I)Z" } : Jvm.MethodName) prog_10_method_3_code (2 : Nat) (Option.some Jvm.ClassFile.FieldType.boolean)) ∈ jwd := jw_4 (i := 96) rfl rfl
theorem wd_4_99 : (Jvm.Cond.methodLink "MergeWorkbench" (296 : Nat) ({ cls := "MergeWorkbench$Table", name := "at", desc := "(II)I" } : Jvm.MethodName)) ∈ jwd := jw_4 (i := 99) rfl rfl
theorem wd_4_100 : (Jvm.Cond.methodLink "MergeWorkbenchLaw" (193 : Nat) ({ cls := "MergeWorkbenchLaw", name := "step", desc := "(LMergeWorkbench;I[J)I" } : Jvm.MethodName)) ∈ jwd := jw_4 (i := 100) rfl rfl
theorem wd_4_101 : (Jvm.Cond.static ({ cls := "MergeWorkbenchLaw", name := "step", desc := "(LMergeWorkbench;I[J)I" } : Jvm.MethodName)) ∈ jwd := jw_4 (i := 101) rfl rfl
theorem wd_4_102 : (Jvm.Cond.codeWith ({ cls := "MergeWorkbenchLaw", name := "step", desc := "(LMergeWorkbench;I[J)I" } : Jvm.MethodName) method_19_code (4 : Nat) (Option.some Jvm.ClassFile.FieldType.int) [((0 : Nat), (9 : Nat), (12 : Nat), (15 : Nat)), ((0 : Nat), (9 : Nat), (15 : Nat), (72 : Nat))]) ∈ jwd := jw_4 (i := 102) rfl rfl
theorem wd_4_103 : (Jvm.Cond.classLink "MergeWorkbenchLaw" (72 : Nat) "java/util/NoSuchElementException") ∈ jwd := jw_4 (i := 103) rfl rfl
theorem wd_4_104 : (Jvm.Cond.methodLink "MergeWorkbenchLaw" (69 : Nat) ({ cls := "MergeWorkbench", name := "step", desc := "(I)I" } : Jvm.MethodName)) ∈ jwd := jw_4 (i := 104) rfl rfl
theorem wd_4_105 : (Jvm.Cond.instanceMethod ({ cls := "MergeWorkbench", name := "step", desc := "(I)I" } : Jvm.MethodName)) ∈ jwd := jw_4 (i := 105) rfl rfl
theorem wd_4_106 : (Jvm.Cond.selects "MergeWorkbench" ({ cls := "MergeWorkbench", name := "step", desc := "(I)I" } : Jvm.MethodName) ({ cls := "MergeWorkbench", name := "step", desc := "(I)I" } : Jvm.MethodName)) ∈ jwd := jw_4 (i := 106) rfl rfl
theorem wd_4_107 : (Jvm.Cond.code ({ cls := "MergeWorkbench", name := "step", desc := "(I)I" } : Jvm.MethodName) prog_1_method_18_code (2 : Nat) (Option.some Jvm.ClassFile.FieldType.int)) ∈ jwd := jw_4 (i := 107) rfl rfl
theorem wd_4_108 : (Jvm.Cond.methodLink "MergeWorkbench" (207 : Nat) ({ cls := "MergeWorkbench$Comparison", name := "script", desc := "()LMergeWorkbench$Lines;" } : Jvm.MethodName)) ∈ jwd := jw_4 (i := 108) rfl rfl
theorem wd_4_109 : (Jvm.Cond.instanceMethod ({ cls := "MergeWorkbench$Comparison", name := "script", desc := "()LMergeWorkbench$Lines;" } : Jvm.MethodName)) ∈ jwd := jw_4 (i := 109) rfl rfl
theorem wd_4_110 : (Jvm.Cond.selects "MergeWorkbench$Comparison" ({ cls := "MergeWorkbench$Comparison", name := "script", desc := "()LMergeWorkbench$Lines;" } : Jvm.MethodName) ({ cls := "MergeWorkbench$Comparison", name := "script", desc := "()LMergeWorkbench$Lines;" } : Jvm.MethodName)) ∈ jwd := jw_4 (i := 110) rfl rfl
theorem wd_4_111 : (Jvm.Cond.code ({ cls := "MergeWorkbench$Comparison", name := "script", desc := "()LMergeWorkbench$Lines;" } : Jvm.MethodName) prog_3_method_7_code (1 : Nat) (Option.some (Jvm.ClassFile.FieldType.object "MergeWorkbench$Lines"))) ∈ jwd := jw_4 (i := 111) rfl rfl
theorem wd_4_112 : (Jvm.Cond.classLink "MergeWorkbench" (210 : Nat) "java/util/NoSuchElementException") ∈ jwd := jw_4 (i := 112) rfl rfl
theorem wd_4_113 : (Jvm.Cond.instantiable "java/util/NoSuchElementException" (6 : Nat)) ∈ jwd := jw_4 (i := 113) rfl rfl
theorem wd_4_115 : (Jvm.Cond.selects "java/util/NoSuchElementException" ({ cls := "java/lang/Throwable", name := "fillInStackTrace", desc := "(I)Ljava/lang/Throwable;" } : Jvm.MethodName) ({ cls := "java/lang/Throwable", name := "fillInStackTrace", desc := "(I)Ljava/lang/Throwable;" } : Jvm.MethodName)) ∈ jwd := jw_4 (i := 115) rfl rfl
theorem wd_4_116 : (Jvm.Cond.lays "java/util/NoSuchElementException" "java/lang/Throwable" "cause" "Ljava/lang/Throwable;") ∈ jwd := jw_4 (i := 116) rfl rfl
theorem wd_4_117 : (Jvm.Cond.lays "java/util/NoSuchElementException" "java/lang/Throwable" "stackTrace" "[Ljava/lang/StackTraceElement;") ∈ jwd := jw_4 (i := 117) rfl rfl
theorem wd_4_118 : (Jvm.Cond.lays "java/util/NoSuchElementException" "java/lang/Throwable" "suppressedExceptions" "Ljava/util/List;") ∈ jwd := jw_4 (i := 118) rfl rfl
theorem wd_4_119 : (Jvm.Cond.lays "java/util/NoSuchElementException" "java/lang/Throwable" "detailMessage" "Ljava/lang/String;") ∈ jwd := jw_4 (i := 119) rfl rfl
theorem wd_4_120 : (Jvm.Cond.lays "java/util/NoSuchElementException" "java/lang/Throwable" "backtrace" "Ljava/lang/Object;") ∈ jwd := jw_4 (i := 120) rfl rfl
theorem wd_4_122 : (Jvm.Cond.methodLink "MergeWorkbench" (214 : Nat) ({ cls := "java/util/NoSuchElementException", name := "<init>", desc := "(Ljava/lang/String;)V" } : Jvm.MethodName)) ∈ jwd := jw_4 (i := 122) rfl rfl
theorem wd_4_123 : (Jvm.Cond.instanceMethod ({ cls := "java/util/NoSuchElementException", name := "<init>", desc := "(Ljava/lang/String;)V" } : Jvm.MethodName)) ∈ jwd := jw_4 (i := 123) rfl rfl
theorem wd_4_124 : (Jvm.Cond.code ({ cls := "java/util/NoSuchElementException", name := "<init>", desc := "(Ljava/lang/String;)V" } : Jvm.MethodName) prog_25_method_4_code (2 : Nat) (Option.none : Option Jvm.ClassFile.FieldType)) ∈ jwd := jw_4 (i := 124) rfl rfl
theorem wd_4_125 : (Jvm.Cond.methodLink "java/util/NoSuchElementException" (13 : Nat) ({ cls := "java/lang/RuntimeException", name := "<init>", desc := "(Ljava/lang/String;)V" } : Jvm.MethodName)) ∈ jwd := jw_4 (i := 125) rfl rfl
theorem wd_4_126 : (Jvm.Cond.lays "java/util/NoSuchElementException" "java/lang/Throwable" "depth" "I") ∈ jwd := jw_4 (i := 126) rfl rfl
theorem wd_4_128 : (Jvm.Cond.methodLink "MergeWorkbenchLaw" (196 : Nat) ({ cls := "MergeWorkbenchLaw", name := "similarity", desc := "(LMergeWorkbench;[D)I" } : Jvm.MethodName)) ∈ jwd := jw_4 (i := 128) rfl rfl
theorem wd_4_129 : (Jvm.Cond.static ({ cls := "MergeWorkbenchLaw", name := "similarity", desc := "(LMergeWorkbench;[D)I" } : Jvm.MethodName)) ∈ jwd := jw_4 (i := 129) rfl rfl
theorem wd_4_130 : (Jvm.Cond.codeWith ({ cls := "MergeWorkbenchLaw", name := "similarity", desc := "(LMergeWorkbench;[D)I" } : Jvm.MethodName) method_20_code (3 : Nat) (Option.some Jvm.ClassFile.FieldType.int) [((0 : Nat), (7 : Nat), (10 : Nat), (15 : Nat)), ((0 : Nat), (7 : Nat), (13 : Nat), (78 : Nat))]) ∈ jwd := jw_4 (i := 130) rfl rfl
theorem wd_4_131 : (Jvm.Cond.classLink "MergeWorkbenchLaw" (78 : Nat) "java/lang/ArithmeticException") ∈ jwd := jw_4 (i := 131) rfl rfl
theorem wd_4_132 : (Jvm.Cond.instantiable "java/lang/ArithmeticException" (6 : Nat)) ∈ jwd := jw_4 (i := 132) rfl rfl
theorem wd_4_133 : (Jvm.Cond.instanceMethod ({ cls := "java/lang/ArithmeticException", name := "<init>", desc := "(Ljava/lang/String;)V" } : Jvm.MethodName)) ∈ jwd := jw_4 (i := 133) rfl rfl
theorem wd_4_134 : (Jvm.Cond.code ({ cls := "java/lang/ArithmeticException", name := "<init>", desc := "(Ljava/lang/String;)V" } : Jvm.MethodName) prog_14_method_2_code (2 : Nat) (Option.none : Option Jvm.ClassFile.FieldType)) ∈ jwd := jw_4 (i := 134) rfl rfl
theorem wd_4_135 : (Jvm.Cond.methodLink "java/lang/ArithmeticException" (7 : Nat) ({ cls := "java/lang/RuntimeException", name := "<init>", desc := "(Ljava/lang/String;)V" } : Jvm.MethodName)) ∈ jwd := jw_4 (i := 135) rfl rfl
theorem wd_4_136 : (Jvm.Cond.lays "java/lang/ArithmeticException" "java/lang/Throwable" "backtrace" "Ljava/lang/Object;") ∈ jwd := jw_4 (i := 136) rfl rfl
theorem wd_4_137 : (Jvm.Cond.lays "java/lang/ArithmeticException" "java/lang/Throwable" "detailMessage" "Ljava/lang/String;") ∈ jwd := jw_4 (i := 137) rfl rfl
theorem wd_4_138 : (Jvm.Cond.lays "java/lang/ArithmeticException" "java/lang/Throwable" "cause" "Ljava/lang/Throwable;") ∈ jwd := jw_4 (i := 138) rfl rfl
theorem wd_4_139 : (Jvm.Cond.lays "java/lang/ArithmeticException" "java/lang/Throwable" "stackTrace" "[Ljava/lang/StackTraceElement;") ∈ jwd := jw_4 (i := 139) rfl rfl
theorem wd_4_140 : (Jvm.Cond.lays "java/lang/ArithmeticException" "java/lang/Throwable" "depth" "I") ∈ jwd := jw_4 (i := 140) rfl rfl
theorem wd_4_141 : (Jvm.Cond.lays "java/lang/ArithmeticException" "java/lang/Throwable" "suppressedExceptions" "Ljava/util/List;") ∈ jwd := jw_4 (i := 141) rfl rfl
theorem wd_4_144 : (Jvm.Cond.selects "java/lang/ArithmeticException" ({ cls := "java/lang/Throwable", name := "fillInStackTrace", desc := "(I)Ljava/lang/Throwable;" } : Jvm.MethodName) ({ cls := "java/lang/Throwable", name := "fillInStackTrace", desc := "(I)Ljava/lang/Throwable;" } : Jvm.MethodName)) ∈ jwd := jw_4 (i := 144) rfl rfl
theorem wd_4_145 : (Jvm.Cond.methodLink "MergeWorkbenchLaw" (74 : Nat) ({ cls := "MergeWorkbench", name := "similarity", desc := "()D" } : Jvm.MethodName)) ∈ jwd := jw_4 (i := 145) rfl rfl
theorem wd_4_146 : (Jvm.Cond.instanceMethod ({ cls := "MergeWorkbench", name := "similarity", desc := "()D" } : Jvm.MethodName)) ∈ jwd := jw_4 (i := 146) rfl rfl
theorem wd_4_147 : (Jvm.Cond.selects "MergeWorkbench" ({ cls := "MergeWorkbench", name := "similarity", desc := "()D" } : Jvm.MethodName) ({ cls := "MergeWorkbench", name := "similarity", desc := "()D" } : Jvm.MethodName)) ∈ jwd := jw_4 (i := 147) rfl rfl
theorem wd_4_148 : (Jvm.Cond.code ({ cls := "MergeWorkbench", name := "similarity", desc := "()D" } : Jvm.MethodName) prog_1_method_19_code (2 : Nat) (Option.some Jvm.ClassFile.FieldType.double)) ∈ jwd := jw_4 (i := 148) rfl rfl
theorem wd_4_149 : (Jvm.Cond.methodLink "MergeWorkbench" (215 : Nat) ({ cls := "MergeWorkbench$Comparison", name := "second", desc := "()LMergeWorkbench$Lines;" } : Jvm.MethodName)) ∈ jwd := jw_4 (i := 149) rfl rfl
theorem wd_4_150 : (Jvm.Cond.instanceMethod ({ cls := "MergeWorkbench$Comparison", name := "second", desc := "()LMergeWorkbench$Lines;" } : Jvm.MethodName)) ∈ jwd := jw_4 (i := 150) rfl rfl
theorem wd_4_151 : (Jvm.Cond.selects "MergeWorkbench$Comparison" ({ cls := "MergeWorkbench$Comparison", name := "second", desc := "()LMergeWorkbench$Lines;" } : Jvm.MethodName) ({ cls := "MergeWorkbench$Comparison", name := "second", desc := "()LMergeWorkbench$Lines;" } : Jvm.MethodName)) ∈ jwd := jw_4 (i := 151) rfl rfl
theorem wd_4_152 : (Jvm.Cond.code ({ cls := "MergeWorkbench$Comparison", name := "second", desc := "()LMergeWorkbench$Lines;" } : Jvm.MethodName) prog_3_method_4_code (1 : Nat) (Option.some (Jvm.ClassFile.FieldType.object "MergeWorkbench$Lines"))) ∈ jwd := jw_4 (i := 152) rfl rfl
theorem wd_4_153 : (Jvm.Cond.classLink "MergeWorkbench" (218 : Nat) "java/lang/ArithmeticException") ∈ jwd := jw_4 (i := 153) rfl rfl
theorem wd_4_155 : (Jvm.Cond.methodLink "MergeWorkbench" (222 : Nat) ({ cls := "java/lang/ArithmeticException", name := "<init>", desc := "(Ljava/lang/String;)V" } : Jvm.MethodName)) ∈ jwd := jw_4 (i := 155) rfl rfl
theorem wd_4_156 : (Jvm.Cond.methodLink "MergeWorkbenchLaw" (200 : Nat) ({ cls := "MergeWorkbenchLaw", name := "findMoves", desc := "(LMergeWorkbench;I[J)I" } : Jvm.MethodName)) ∈ jwd := jw_4 (i := 156) rfl rfl
theorem wd_4_157 : (Jvm.Cond.static ({ cls := "MergeWorkbenchLaw", name := "findMoves", desc := "(LMergeWorkbench;I[J)I" } : Jvm.MethodName)) ∈ jwd := jw_4 (i := 157) rfl rfl
theorem wd_4_158 : (Jvm.Cond.codeWith ({ cls := "MergeWorkbenchLaw", name := "findMoves", desc := "(LMergeWorkbench;I[J)I" } : Jvm.MethodName) method_21_code (4 : Nat) (Option.some Jvm.ClassFile.FieldType.int) [((0 : Nat), (9 : Nat), (12 : Nat), (13 : Nat)), ((0 : Nat), (9 : Nat), (15 : Nat), (15 : Nat))]) ∈ jwd := jw_4 (i := 158) rfl rfl
theorem wd_4_159 : (Jvm.Cond.methodLink "MergeWorkbenchLaw" (80 : Nat) ({ cls := "MergeWorkbench", name := "findMoves", desc := "(I)I" } : Jvm.MethodName)) ∈ jwd := jw_4 (i := 159) rfl rfl
theorem wd_4_160 : (Jvm.Cond.instanceMethod ({ cls := "MergeWorkbench", name := "findMoves", desc := "(I)I" } : Jvm.MethodName)) ∈ jwd := jw_4 (i := 160) rfl rfl
theorem wd_4_161 : (Jvm.Cond.selects "MergeWorkbench" ({ cls := "MergeWorkbench", name := "findMoves", desc := "(I)I" } : Jvm.MethodName) ({ cls := "MergeWorkbench", name := "findMoves", desc := "(I)I" } : Jvm.MethodName)) ∈ jwd := jw_4 (i := 161) rfl rfl
theorem wd_4_162 : (Jvm.Cond.code ({ cls := "MergeWorkbench", name := "findMoves", desc := "(I)I" } : Jvm.MethodName) prog_1_method_20_code (2 : Nat) (Option.some Jvm.ClassFile.FieldType.int)) ∈ jwd := jw_4 (i := 162) rfl rfl
theorem wd_4_164 : (Jvm.Cond.methodLink "MergeWorkbench" (225 : Nat) ({ cls := "MergeWorkbench$Comparison", name := "searchMoves", desc := "(I)I" } : Jvm.MethodName)) ∈ jwd := jw_4 (i := 164) rfl rfl
theorem wd_4_165 : (Jvm.Cond.instanceMethod ({ cls := "MergeWorkbench$Comparison", name := "searchMoves", desc := "(I)I" } : Jvm.MethodName)) ∈ jwd := jw_4 (i := 165) rfl rfl
theorem wd_4_166 : (Jvm.Cond.selects "MergeWorkbench$Comparison" ({ cls := "MergeWorkbench$Comparison", name := "searchMoves", desc := "(I)I" } : Jvm.MethodName) ({ cls := "MergeWorkbench$Comparison", name := "searchMoves", desc := "(I)I" } : Jvm.MethodName)) ∈ jwd := jw_4 (i := 166) rfl rfl
theorem wd_4_167 : (Jvm.Cond.code ({ cls := "MergeWorkbench$Comparison", name := "searchMoves", desc := "(I)I" } : Jvm.MethodName) prog_3_method_12_code (4 : Nat) (Option.some Jvm.ClassFile.FieldType.int)) ∈ jwd := jw_4 (i := 167) rfl rfl
theorem wd_4_168 : (Jvm.Cond.methodLink "MergeWorkbench$Comparison" (102 : Nat) ({ cls := "MergeWorkbench$Comparison", name := "freeAllButKept", desc := "()V" } : Jvm.MethodName)) ∈ jwd := jw_4 (i := 168) rfl rfl
theorem wd_4_170 : (Jvm.Cond.instanceMethod ({ cls := "MergeWorkbench$Comparison", name := "freeAllButKept", desc := "()V" } : Jvm.MethodName)) ∈ jwd := jw_4 (i := 170) rfl rfl
theorem wd_4_171 : (Jvm.Cond.code ({ cls := "MergeWorkbench$Comparison", name := "freeAllButKept", desc := "()V" } : Jvm.MethodName) prog_3_method_13_code (2 : Nat) (Option.none : Option Jvm.ClassFile.FieldType)) ∈ jwd := jw_4 (i := 171) rfl rfl
theorem wd_4_172 : (Jvm.Cond.methodLink "MergeWorkbench$Comparison" (111 : Nat) ({ cls := "MergeWorkbench$Alignment", name := "isSecondKept", desc := "(I)Z" } : Jvm.MethodName)) ∈ jwd := jw_4 (i := 172) rfl rfl
theorem wd_4_173 : (Jvm.Cond.instanceMethod ({ cls := "MergeWorkbench$Alignment", name := "isSecondKept", desc := "(I)Z" } : Jvm.MethodName)) ∈ jwd := jw_4 (i := 173) rfl rfl
theorem wd_4_174 : (Jvm.Cond.selects "MergeWorkbench$Alignment" ({ cls := "MergeWorkbench$Alignment", name := "isSecondKept", desc := "(I)Z" } : Jvm.MethodName) ({ cls := "MergeWorkbench$Alignment", name := "isSecondKept", desc := "(I)Z" } : Jvm.MethodName)) ∈ jwd := jw_4 (i := 174) rfl rfl
theorem wd_4_175 : (Jvm.Cond.code ({ cls := "MergeWorkbench$Alignment", name := "isSecondKept", desc := "(I)Z" } : Jvm.MethodName) prog_2_method_6_code (2 : Nat) (Option.some Jvm.ClassFile.FieldType.boolean)) ∈ jwd := jw_4 (i := 175) rfl rfl
theorem wd_4_176 : (Jvm.Cond.methodLink "MergeWorkbench$Comparison" (105 : Nat) ({ cls := "MergeWorkbench$Comparison", name := "addLongestMove", desc := "(I)Z" } : Jvm.MethodName)) ∈ jwd := jw_4 (i := 176) rfl rfl
theorem wd_4_178 : (Jvm.Cond.instanceMethod ({ cls := "MergeWorkbench$Comparison", name := "addLongestMove", desc := "(I)Z" } : Jvm.MethodName)) ∈ jwd := jw_4 (i := 178) rfl rfl
theorem wd_4_179 : (Jvm.Cond.code ({ cls := "MergeWorkbench$Comparison", name := "addLongestMove", desc := "(I)Z" } : Jvm.MethodName) prog_3_method_14_code (8 : Nat) (Option.some Jvm.ClassFile.FieldType.boolean)) ∈ jwd := jw_4 (i := 179) rfl rfl
theorem wd_4_180 : (Jvm.Cond.methodLink "MergeWorkbench$Comparison" (114 : Nat) ({ cls := "MergeWorkbench$Comparison", name := "runLength", desc := "(II)I" } : Jvm.MethodName)) ∈ jwd := jw_4 (i := 180) rfl rfl
theorem wd_4_182 : (Jvm.Cond.instanceMethod ({ cls := "MergeWorkbench$Comparison", name := "runLength", desc := "(II)I" } : Jvm.MethodName)) ∈ jwd := jw_4 (i := 182) rfl rfl
theorem wd_4_183 : (Jvm.Cond.code ({ cls := "MergeWorkbench$Comparison", name := "runLength", desc := "(II)I" } : Jvm.MethodName) prog_3_method_15_code (4 : Nat) (Option.some Jvm.ClassFile.FieldType.int)) ∈ jwd := jw_4 (i := 183) rfl rfl
theorem wd_4_184 : (Jvm.Cond.methodLink "MergeWorkbench$Comparison" (121 : Nat) ({ cls := "MergeWorkbench$Comparison", name := "isMovable", desc := "(II)Z" } : Jvm.MethodName)) ∈ jwd := jw_4 (i := 184) rfl rfl
theorem wd_4_186 : (Jvm.Cond.instanceMethod ({ cls := "MergeWorkbench$Comparison", name := "isMovable", desc := "(II)Z" } : Jvm.MethodName)) ∈ jwd := jw_4 (i := 186) rfl rfl
theorem wd_4_187 : (Jvm.Cond.code ({ cls := "MergeWorkbench$Comparison", name := "isMovable", desc := "(II)Z" } : Jvm.MethodName) prog_3_method_16_code (3 : Nat) (Option.some Jvm.ClassFile.FieldType.boolean)) ∈ jwd := jw_4 (i := 187) rfl rfl
theorem wd_4_188 : (Jvm.Cond.methodLink "MergeWorkbench$Comparison" (118 : Nat) ({ cls := "MergeWorkbench$Comparison", name := "addMove", desc := "(III)V" } : Jvm.MethodName)) ∈ jwd := jw_4 (i := 188) rfl rfl
theorem wd_4_190 : (Jvm.Cond.instanceMethod ({ cls := "MergeWorkbench$Comparison", name := "addMove", desc := "(III)V" } : Jvm.MethodName)) ∈ jwd := jw_4 (i := 190) rfl rfl
theorem wd_4_191 : (Jvm.Cond.code ({ cls := "MergeWorkbench$Comparison", name := "addMove", desc := "(III)V" } : Jvm.MethodName) prog_3_method_17_code (6 : Nat) (Option.none : Option Jvm.ClassFile.FieldType)) ∈ jwd := jw_4 (i := 191) rfl rfl
theorem wd_4_192 : (Jvm.Cond.methodLink "MergeWorkbench$Comparison" (125 : Nat) ({ cls := "MergeWorkbench$Lines", name := "put", desc := "(II)V" } : Jvm.MethodName)) ∈ jwd := jw_4 (i := 192) rfl rfl
theorem wd_4_193 : (Jvm.Cond.methodLink "MergeWorkbench$Comparison" (108 : Nat) ({ cls := "MergeWorkbench$Table", name := "rows", desc := "()I" } : Jvm.MethodName)) ∈ jwd := jw_4 (i := 193) rfl rfl
theorem wd_4_194 : (Jvm.Cond.methodLink "MergeWorkbenchLaw" (203 : Nat) ({ cls := "MergeWorkbenchLaw", name := "move", desc := "(LMergeWorkbench;II[J)I" } : Jvm.MethodName)) ∈ jwd := jw_4 (i := 194) rfl rfl
theorem wd_4_195 : (Jvm.Cond.static ({ cls := "MergeWorkbenchLaw", name := "move", desc := "(LMergeWorkbench;II[J)I" } : Jvm.MethodName)) ∈ jwd := jw_4 (i := 195) rfl rfl
theorem wd_4_196 : (Jvm.Cond.codeWith ({ cls := "MergeWorkbenchLaw", name := "move", desc := "(LMergeWorkbench;II[J)I" } : Jvm.MethodName) method_22_code (5 : Nat) (Option.some Jvm.ClassFile.FieldType.int) [((0 : Nat), (10 : Nat), (13 : Nat), (21 : Nat)), ((0 : Nat), (10 : Nat), (17 : Nat), (13 : Nat))]) ∈ jwd := jw_4 (i := 196) rfl rfl
theorem wd_4_197 : (Jvm.Cond.methodLink "MergeWorkbenchLaw" (83 : Nat) ({ cls := "MergeWorkbench", name := "move", desc := "(II)I" } : Jvm.MethodName)) ∈ jwd := jw_4 (i := 197) rfl rfl
theorem wd_4_198 : (Jvm.Cond.instanceMethod ({ cls := "MergeWorkbench", name := "move", desc := "(II)I" } : Jvm.MethodName)) ∈ jwd := jw_4 (i := 198) rfl rfl
theorem wd_4_199 : (Jvm.Cond.selects "MergeWorkbench" ({ cls := "MergeWorkbench", name := "move", desc := "(II)I" } : Jvm.MethodName) ({ cls := "MergeWorkbench", name := "move", desc := "(II)I" } : Jvm.MethodName)) ∈ jwd := jw_4 (i := 199) rfl rfl
theorem wd_4_200 : (Jvm.Cond.code ({ cls := "MergeWorkbench", name := "move", desc := "(II)I" } : Jvm.MethodName) prog_1_method_21_code (3 : Nat) (Option.some Jvm.ClassFile.FieldType.int)) ∈ jwd := jw_4 (i := 200) rfl rfl
theorem wd_4_201 : (Jvm.Cond.methodLink "MergeWorkbench" (228 : Nat) ({ cls := "MergeWorkbench$Comparison", name := "moved", desc := "()LMergeWorkbench$Table;" } : Jvm.MethodName)) ∈ jwd := jw_4 (i := 201) rfl rfl
theorem wd_4_202 : (Jvm.Cond.instanceMethod ({ cls := "MergeWorkbench$Comparison", name := "moved", desc := "()LMergeWorkbench$Table;" } : Jvm.MethodName)) ∈ jwd := jw_4 (i := 202) rfl rfl
theorem wd_4_203 : (Jvm.Cond.selects "MergeWorkbench$Comparison" ({ cls := "MergeWorkbench$Comparison", name := "moved", desc := "()LMergeWorkbench$Table;" } : Jvm.MethodName) ({ cls := "MergeWorkbench$Comparison", name := "moved", desc := "()LMergeWorkbench$Table;" } : Jvm.MethodName)) ∈ jwd := jw_4 (i := 203) rfl rfl
theorem wd_4_204 : (Jvm.Cond.code ({ cls := "MergeWorkbench$Comparison", name := "moved", desc := "()LMergeWorkbench$Table;" } : Jvm.MethodName) prog_3_method_8_code (1 : Nat) (Option.some (Jvm.ClassFile.FieldType.object "MergeWorkbench$Table"))) ∈ jwd := jw_4 (i := 204) rfl rfl
theorem wd_4_205 : (Jvm.Cond.methodLink "MergeWorkbenchLaw" (211 : Nat) ({ cls := "MergeWorkbenchLaw", name := "merge", desc := "(LMergeWorkbench;III[J)I" } : Jvm.MethodName)) ∈ jwd := jw_4 (i := 205) rfl rfl
theorem wd_4_206 : (Jvm.Cond.static ({ cls := "MergeWorkbenchLaw", name := "merge", desc := "(LMergeWorkbench;III[J)I" } : Jvm.MethodName)) ∈ jwd := jw_4 (i := 206) rfl rfl
theorem wd_4_207 : (Jvm.Cond.codeWith ({ cls := "MergeWorkbenchLaw", name := "merge", desc := "(LMergeWorkbench;III[J)I" } : Jvm.MethodName) method_23_code (6 : Nat) (Option.some Jvm.ClassFile.FieldType.int) [((0 : Nat), (12 : Nat), (15 : Nat), (13 : Nat))]) ∈ jwd := jw_4 (i := 207) rfl rfl
theorem wd_4_208 : (Jvm.Cond.methodLink "MergeWorkbenchLaw" (86 : Nat) ({ cls := "MergeWorkbench", name := "merge", desc := "(III)I" } : Jvm.MethodName)) ∈ jwd := jw_4 (i := 208) rfl rfl
theorem wd_4_209 : (Jvm.Cond.instanceMethod ({ cls := "MergeWorkbench", name := "merge", desc := "(III)I" } : Jvm.MethodName)) ∈ jwd := jw_4 (i := 209) rfl rfl
theorem wd_4_210 : (Jvm.Cond.selects "MergeWorkbench" ({ cls := "MergeWorkbench", name := "merge", desc := "(III)I" } : Jvm.MethodName) ({ cls := "MergeWorkbench", name := "merge", desc := "(III)I" } : Jvm.MethodName)) ∈ jwd := jw_4 (i := 210) rfl rfl
theorem wd_4_211 : (Jvm.Cond.code ({ cls := "MergeWorkbench", name := "merge", desc := "(III)I" } : Jvm.MethodName) prog_1_method_23_code (7 : Nat) (Option.some Jvm.ClassFile.FieldType.int)) ∈ jwd := jw_4 (i := 211) rfl rfl
theorem wd_4_212 : (Jvm.Cond.methodLink "MergeWorkbench" (231 : Nat) ({ cls := "MergeWorkbench$Merge", name := "hold", desc := "(LMergeWorkbench$Lines;LMergeWorkbench$Lines;LMergeWorkbench$Lines;)V" } : Jvm.MethodName)) ∈ jwd := jw_4 (i := 212) rfl rfl
theorem wd_4_213 : (Jvm.Cond.instanceMethod ({ cls := "MergeWorkbench$Merge", name := "hold", desc := "(LMergeWorkbench$Lines;LMergeWorkbench$Lines;LMergeWorkbench$Lines;)V" } : Jvm.MethodName)) ∈ jwd := jw_4 (i := 213) rfl rfl
theorem wd_4_214 : (Jvm.Cond.selects "MergeWorkbench$Merge" ({ cls := "MergeWorkbench$Merge", name := "hold", desc := "(LMergeWorkbench$Lines;LMergeWorkbench$Lines;LMergeWorkbench$Lines;)V" } : Jvm.MethodName) ({ cls := "MergeWorkbench$Merge", name := "hold", desc := "(LMergeWorkbench$Lines;LMergeWorkbench$Lines;LMergeWorkbench$Lines;)V" } : Jvm.MethodName)) ∈ jwd := jw_4 (i := 214) rfl rfl
theorem wd_4_215 : (Jvm.Cond.code ({ cls := "MergeWorkbench$Merge", name := "hold", desc := "(LMergeWorkbench$Lines;LMergeWorkbench$Lines;LMergeWorkbench$Lines;)V" } : Jvm.MethodName) prog_7_method_6_code (4 : Nat) (Option.none : Option Jvm.ClassFile.FieldType)) ∈ jwd := jw_4 (i := 215) rfl rfl
theorem wd_4_216 : (Jvm.Cond.methodLink "MergeWorkbench$Merge" (59 : Nat) ({ cls := "MergeWorkbench$Lines", name := "become", desc := "(LMergeWorkbench$Lines;)V" } : Jvm.MethodName)) ∈ jwd := jw_4 (i := 216) rfl rfl
theorem wd_4_217 : (Jvm.Cond.methodLink "MergeWorkbench" (235 : Nat) ({ cls := "MergeWorkbench$Merge", name := "make", desc := "(IZ)I" } : Jvm.MethodName)) ∈ jwd := jw_4 (i := 217) rfl rfl
theorem wd_4_218 : (Jvm.Cond.instanceMethod ({ cls := "MergeWorkbench$Merge", name := "make", desc := "(IZ)I" } : Jvm.MethodName)) ∈ jwd := jw_4 (i := 218) rfl rfl
theorem wd_4_219 : (Jvm.Cond.selects "MergeWorkbench$Merge" ({ cls := "MergeWorkbench$Merge", name := "make", desc := "(IZ)I" } : Jvm.MethodName) ({ cls := "MergeWorkbench$Merge", name := "make", desc := "(IZ)I" } : Jvm.MethodName)) ∈ jwd := jw_4 (i := 219) rfl rfl
theorem wd_4_220 : (Jvm.Cond.code ({ cls := "MergeWorkbench$Merge", name := "make", desc := "(IZ)I" } : Jvm.MethodName) prog_7_method_7_code (9 : Nat) (Option.some Jvm.ClassFile.FieldType.int)) ∈ jwd := jw_4 (i := 220) rfl rfl
theorem wd_4_221 : (Jvm.Cond.methodLink "MergeWorkbench$Merge" (63 : Nat) ({ cls := "MergeWorkbench$Alignment", name := "build", desc := "(LMergeWorkbench$Lines;LMergeWorkbench$Lines;I)V" } : Jvm.MethodName)) ∈ jwd := jw_4 (i := 221) rfl rfl
theorem wd_4_222 : (Jvm.Cond.methodLink "MergeWorkbench$Merge" (67 : Nat) ({ cls := "MergeWorkbench$Table", name := "clear", desc := "()V" } : Jvm.MethodName)) ∈ jwd := jw_4 (i := 222) rfl rfl
theorem wd_4_223 : (Jvm.Cond.methodLink "MergeWorkbench$Merge" (70 : Nat) ({ cls := "MergeWorkbench$Lines", name := "clear", desc := "()V" } : Jvm.MethodName)) ∈ jwd := jw_4 (i := 223) rfl rfl
theorem wd_4_224 : (Jvm.Cond.methodLink "MergeWorkbench$Merge" (71 : Nat) ({ cls := "MergeWorkbench$Lines", name := "size", desc := "()I" } : Jvm.MethodName)) ∈ jwd := jw_4 (i := 224) rfl rfl
theorem wd_4_225 : (Jvm.Cond.methodLink "MergeWorkbench$Merge" (75 : Nat) ({ cls := "MergeWorkbench$Alignment", name := "isFirstKept", desc := "(I)Z" } : Jvm.MethodName)) ∈ jwd := jw_4 (i := 225) rfl rfl
theorem wd_4_226 : (Jvm.Cond.methodLink "MergeWorkbench$Merge" (78 : Nat) ({ cls := "MergeWorkbench$Alignment", name := "partnerOf", desc := "(I)I" } : Jvm.MethodName)) ∈ jwd := jw_4 (i := 226) rfl rfl
theorem wd_4_227 : (Jvm.Cond.methodLink "MergeWorkbench$Merge" (82 : Nat) ({ cls := "MergeWorkbench$Merge", name := "addPart", desc := "(IIIIII)I" } : Jvm.MethodName)) ∈ jwd := jw_4 (i := 227) rfl rfl
theorem wd_4_229 : (Jvm.Cond.instanceMethod ({ cls := "MergeWorkbench$Merge", name := "addPart", desc := "(IIIIII)I" } : Jvm.MethodName)) ∈ jwd := jw_4 (i := 229) rfl rfl
theorem wd_4_230 : (Jvm.Cond.code ({ cls := "MergeWorkbench$Merge", name := "addPart", desc := "(IIIIII)I" } : Jvm.MethodName) prog_7_method_8_code (8 : Nat) (Option.some Jvm.ClassFile.FieldType.int)) ∈ jwd := jw_4 (i := 230) rfl rfl
theorem wd_4_231 : (Jvm.Cond.methodLink "MergeWorkbench$Merge" (97 : Nat) ({ cls := "MergeWorkbench$Table", name := "addRow", desc := "()I" } : Jvm.MethodName)) ∈ jwd := jw_4 (i := 231) rfl rfl
theorem wd_4_232 : (Jvm.Cond.methodLink "MergeWorkbench$Merge" (100 : Nat) ({ cls := "MergeWorkbench$Table", name := "put", desc := "(III)V" } : Jvm.MethodName)) ∈ jwd := jw_4 (i := 232) rfl rfl
theorem wd_4_233 : (Jvm.Cond.methodLink "MergeWorkbench$Merge" (86 : Nat) ({ cls := "MergeWorkbench$Merge", name := "addRegion", desc := "(IZ)V" } : Jvm.MethodName)) ∈ jwd := jw_4 (i := 233) rfl rfl
theorem wd_4_235 : (Jvm.Cond.instanceMethod ({ cls := "MergeWorkbench$Merge", name := "addRegion", desc := "(IZ)V" } : Jvm.MethodName)) ∈ jwd := jw_4 (i := 235) rfl rfl
theorem wd_4_236 : (Jvm.Cond.code ({ cls := "MergeWorkbench$Merge", name := "addRegion", desc := "(IZ)V" } : Jvm.MethodName) prog_7_method_11_code (4 : Nat) (Option.none : Option Jvm.ClassFile.FieldType)) ∈ jwd := jw_4 (i := 236) rfl rfl
theorem wd_4_237 : (Jvm.Cond.methodLink "MergeWorkbench$Merge" (113 : Nat) ({ cls := "MergeWorkbench$Merge", name := "kindOf", desc := "(I)I" } : Jvm.MethodName)) ∈ jwd := jw_4 (i := 237) rfl rfl
theorem wd_4_239 : (Jvm.Cond.instanceMethod ({ cls := "MergeWorkbench$Merge", name := "kindOf", desc := "(I)I" } : Jvm.MethodName)) ∈ jwd := jw_4 (i := 239) rfl rfl
theorem wd_5_0 : (Jvm.Cond.code ({ cls := "MergeWorkbench$Merge", name := "kindOf", desc := "(I)I" } : Jvm.MethodName) prog_7_method_12_code (2 : Nat) (Option.some Jvm.ClassFile.FieldType.int)) ∈ jwd := jw_5 (i := 0) rfl rfl
theorem wd_5_1 : (Jvm.Cond.methodLink "MergeWorkbench$Merge" (122 : Nat) ({ cls := "MergeWorkbench$Merge", name := "samePart", desc := "(LMergeWorkbench$Lines;IILMergeWorkbench$Lines;I)Z" } : Jvm.MethodName)) ∈ jwd := jw_5 (i := 1) rfl rfl
theorem wd_5_3 : (Jvm.Cond.instanceMethod ({ cls := "MergeWorkbench$Merge", name := "samePart", desc := "(LMergeWorkbench$Lines;IILMergeWorkbench$Lines;I)Z" } : Jvm.MethodName)) ∈ jwd := jw_5 (i := 3) rfl rfl
theorem wd_5_4 : (Jvm.Cond.code ({ cls := "MergeWorkbench$Merge", name := "samePart", desc := "(LMergeWorkbench$Lines;IILMergeWorkbench$Lines;I)Z" } : Jvm.MethodName) prog_7_method_13_code (6 : Nat) (Option.some Jvm.ClassFile.FieldType.boolean)) ∈ jwd := jw_5 (i := 4) rfl rfl
theorem wd_5_5 : (Jvm.Cond.methodLink "MergeWorkbench$Merge" (106 : Nat) ({ cls := "MergeWorkbench$Table", name := "at", desc := "(II)I" } : Jvm.MethodName)) ∈ jwd := jw_5 (i := 5) rfl rfl
theorem wd_5_6 : (Jvm.Cond.methodLink "MergeWorkbench$Merge" (126 : Nat) ({ cls := "MergeWorkbench$Lines", name := "samePart", desc := "(IILMergeWorkbench$Lines;II)Z" } : Jvm.MethodName)) ∈ jwd := jw_5 (i := 6) rfl rfl
theorem wd_5_7 : (Jvm.Cond.methodLink "MergeWorkbench$Merge" (110 : Nat) ({ cls := "MergeWorkbench$Merge", name := "setKind", desc := "(II)V" } : Jvm.MethodName)) ∈ jwd := jw_5 (i := 7) rfl rfl
theorem wd_5_9 : (Jvm.Cond.instanceMethod ({ cls := "MergeWorkbench$Merge", name := "setKind", desc := "(II)V" } : Jvm.MethodName)) ∈ jwd := jw_5 (i := 9) rfl rfl
theorem wd_5_10 : (Jvm.Cond.code ({ cls := "MergeWorkbench$Merge", name := "setKind", desc := "(II)V" } : Jvm.MethodName) prog_7_method_9_code (3 : Nat) (Option.none : Option Jvm.ClassFile.FieldType)) ∈ jwd := jw_5 (i := 10) rfl rfl
theorem wd_5_11 : (Jvm.Cond.methodLink "MergeWorkbench$Merge" (116 : Nat) ({ cls := "MergeWorkbench$Merge", name := "shrink", desc := "(I)V" } : Jvm.MethodName)) ∈ jwd := jw_5 (i := 11) rfl rfl
theorem wd_5_13 : (Jvm.Cond.instanceMethod ({ cls := "MergeWorkbench$Merge", name := "shrink", desc := "(I)V" } : Jvm.MethodName)) ∈ jwd := jw_5 (i := 13) rfl rfl
theorem wd_5_14 : (Jvm.Cond.code ({ cls := "MergeWorkbench$Merge", name := "shrink", desc := "(I)V" } : Jvm.MethodName) prog_7_method_14_code (11 : Nat) (Option.none : Option Jvm.ClassFile.FieldType)) ∈ jwd := jw_5 (i := 14) rfl rfl
theorem wd_5_15 : (Jvm.Cond.methodLink "MergeWorkbench$Merge" (129 : Nat) ({ cls := "MergeWorkbench$Merge", name := "commonBegin", desc := "(IIII)I" } : Jvm.MethodName)) ∈ jwd := jw_5 (i := 15) rfl rfl
theorem wd_5_17 : (Jvm.Cond.instanceMethod ({ cls := "MergeWorkbench$Merge", name := "commonBegin", desc := "(IIII)I" } : Jvm.MethodName)) ∈ jwd := jw_5 (i := 17) rfl rfl
theorem wd_5_18 : (Jvm.Cond.code ({ cls := "MergeWorkbench$Merge", name := "commonBegin", desc := "(IIII)I" } : Jvm.MethodName) prog_7_method_15_code (7 : Nat) (Option.some Jvm.ClassFile.FieldType.int)) ∈ jwd := jw_5 (i := 18) rfl rfl
theorem wd_5_19 : (Jvm.Cond.methodLink "MergeWorkbench$Merge" (136 : Nat) ({ cls := "java/lang/Math", name := "min", desc := "(II)I" } : Jvm.MethodName)) ∈ jwd := jw_5 (i := 19) rfl rfl
theorem wd_5_20 : (Jvm.Cond.static ({ cls := "java/lang/Math", name := "min", desc := "(II)I" } : Jvm.MethodName)) ∈ jwd := jw_5 (i := 20) rfl rfl
theorem wd_5_21 : (Jvm.Cond.code ({ cls := "java/lang/Math", name := "min", desc := "(II)I" } : Jvm.MethodName) prog_20_method_69_code (2 : Nat) (Option.some Jvm.ClassFile.FieldType.int)) ∈ jwd := jw_5 (i := 21) rfl rfl
theorem wd_5_22 : (Jvm.Cond.methodLink "MergeWorkbench$Merge" (141 : Nat) ({ cls := "MergeWorkbench$Lines", name := "at", desc := "(I)I" } : Jvm.MethodName)) ∈ jwd := jw_5 (i := 22) rfl rfl
theorem wd_5_23 : (Jvm.Cond.methodLink "MergeWorkbench$Merge" (133 : Nat) ({ cls := "MergeWorkbench$Merge", name := "commonEnd", desc := "(IIII)I" } : Jvm.MethodName)) ∈ jwd := jw_5 (i := 23) rfl rfl
theorem wd_5_25 : (Jvm.Cond.instanceMethod ({ cls := "MergeWorkbench$Merge", name := "commonEnd", desc := "(IIII)I" } : Jvm.MethodName)) ∈ jwd := jw_5 (i := 25) rfl rfl
theorem wd_5_26 : (Jvm.Cond.code ({ cls := "MergeWorkbench$Merge", name := "commonEnd", desc := "(IIII)I" } : Jvm.MethodName) prog_7_method_16_code (7 : Nat) (Option.some Jvm.ClassFile.FieldType.int)) ∈ jwd := jw_5 (i := 26) rfl rfl
theorem wd_5_27 : (Jvm.Cond.methodLink "MergeWorkbench$Merge" (119 : Nat) ({ cls := "MergeWorkbench$Lines", name := "push", desc := "(I)V" } : Jvm.MethodName)) ∈ jwd := jw_5 (i := 27) rfl rfl
theorem wd_5_28 : (Jvm.Cond.methodLink "MergeWorkbench$Merge" (90 : Nat) ({ cls := "MergeWorkbench$Merge", name := "addStable", desc := "(III)V" } : Jvm.MethodName)) ∈ jwd := jw_5 (i := 28) rfl rfl
theorem wd_5_30 : (Jvm.Cond.instanceMethod ({ cls := "MergeWorkbench$Merge", name := "addStable", desc := "(III)V" } : Jvm.MethodName)) ∈ jwd := jw_5 (i := 30) rfl rfl
theorem wd_5_31 : (Jvm.Cond.code ({ cls := "MergeWorkbench$Merge", name := "addStable", desc := "(III)V" } : Jvm.MethodName) prog_7_method_10_code (5 : Nat) (Option.none : Option Jvm.ClassFile.FieldType)) ∈ jwd := jw_5 (i := 31) rfl rfl
theorem wd_5_32 : (Jvm.Cond.methodLink "MergeWorkbench$Merge" (103 : Nat) ({ cls := "MergeWorkbench$Table", name := "rows", desc := "()I" } : Jvm.MethodName)) ∈ jwd := jw_5 (i := 32) rfl rfl
theorem wd_5_33 : (Jvm.Cond.methodLink "MergeWorkbench$Merge" (94 : Nat) ({ cls := "MergeWorkbench$Merge", name := "writeResult", desc := "()V" } : Jvm.MethodName)) ∈ jwd := jw_5 (i := 33) rfl rfl
theorem wd_5_35 : (Jvm.Cond.instanceMethod ({ cls := "MergeWorkbench$Merge", name := "writeResult", desc := "()V" } : Jvm.MethodName)) ∈ jwd := jw_5 (i := 35) rfl rfl
theorem wd_5_36 : (Jvm.Cond.code ({ cls := "MergeWorkbench$Merge", name := "writeResult", desc := "()V" } : Jvm.MethodName) prog_7_method_20_code (3 : Nat) (Option.none : Option Jvm.ClassFile.FieldType)) ∈ jwd := jw_5 (i := 36) rfl rfl
theorem wd_5_37 : (Jvm.Cond.methodLink "MergeWorkbench$Merge" (146 : Nat) ({ cls := "MergeWorkbench$Merge", name := "writeConflict", desc := "(II)V" } : Jvm.MethodName)) ∈ jwd := jw_5 (i := 37) rfl rfl
theorem wd_5_39 : (Jvm.Cond.instanceMethod ({ cls := "MergeWorkbench$Merge", name := "writeConflict", desc := "(II)V" } : Jvm.MethodName)) ∈ jwd := jw_5 (i := 39) rfl rfl
theorem wd_5_40 : (Jvm.Cond.code ({ cls := "MergeWorkbench$Merge", name := "writeConflict", desc := "(II)V" } : Jvm.MethodName) prog_7_method_21_code (3 : Nat) (Option.none : Option Jvm.ClassFile.FieldType)) ∈ jwd := jw_5 (i := 40) rfl rfl
theorem wd_5_41 : (Jvm.Cond.methodLink "MergeWorkbench$Merge" (152 : Nat) ({ cls := "MergeWorkbench$Merge", name := "writeLeft", desc := "(I)V" } : Jvm.MethodName)) ∈ jwd := jw_5 (i := 41) rfl rfl
theorem wd_5_43 : (Jvm.Cond.instanceMethod ({ cls := "MergeWorkbench$Merge", name := "writeLeft", desc := "(I)V" } : Jvm.MethodName)) ∈ jwd := jw_5 (i := 43) rfl rfl
theorem wd_5_44 : (Jvm.Cond.code ({ cls := "MergeWorkbench$Merge", name := "writeLeft", desc := "(I)V" } : Jvm.MethodName) prog_7_method_22_code (2 : Nat) (Option.none : Option Jvm.ClassFile.FieldType)) ∈ jwd := jw_5 (i := 44) rfl rfl
theorem wd_5_45 : (Jvm.Cond.methodLink "MergeWorkbench$Merge" (155 : Nat) ({ cls := "MergeWorkbench$Lines", name := "pushPart", desc := "(LMergeWorkbench$Lines;II)V" } : Jvm.MethodName)) ∈ jwd := jw_5 (i := 45) rfl rfl
theorem wd_5_46 : (Jvm.Cond.methodLink "MergeWorkbench$Merge" (149 : Nat) ({ cls := "MergeWorkbench$Merge", name := "writeRight", desc := "(I)V" } : Jvm.MethodName)) ∈ jwd := jw_5 (i := 46) rfl rfl
theorem wd_5_48 : (Jvm.Cond.instanceMethod ({ cls := "MergeWorkbench$Merge", name := "writeRight", desc := "(I)V" } : Jvm.MethodName)) ∈ jwd := jw_5 (i := 48) rfl rfl
theorem wd_5_49 : (Jvm.Cond.code ({ cls := "MergeWorkbench$Merge", name := "writeRight", desc := "(I)V" } : Jvm.MethodName) prog_7_method_23_code (2 : Nat) (Option.none : Option Jvm.ClassFile.FieldType)) ∈ jwd := jw_5 (i := 49) rfl rfl
theorem wd_5_50 : (Jvm.Cond.methodLink "MergeWorkbenchLaw" (214 : Nat) ({ cls := "MergeWorkbenchLaw", name := "chunks", desc := "(LMergeWorkbench;[J)I" } : Jvm.MethodName)) ∈ jwd := jw_5 (i := 50) rfl rfl
theorem wd_5_51 : (Jvm.Cond.static ({ cls := "MergeWorkbenchLaw", name := "chunks", desc := "(LMergeWorkbench;[J)I" } : Jvm.MethodName)) ∈ jwd := jw_5 (i := 51) rfl rfl
theorem wd_5_52 : (Jvm.Cond.codeWith ({ cls := "MergeWorkbenchLaw", name := "chunks", desc := "(LMergeWorkbench;[J)I" } : Jvm.MethodName) method_24_code (3 : Nat) (Option.some Jvm.ClassFile.FieldType.int) [((0 : Nat), (8 : Nat), (11 : Nat), (15 : Nat))]) ∈ jwd := jw_5 (i := 52) rfl rfl
theorem wd_5_53 : (Jvm.Cond.methodLink "MergeWorkbenchLaw" (89 : Nat) ({ cls := "MergeWorkbench", name := "chunks", desc := "()I" } : Jvm.MethodName)) ∈ jwd := jw_5 (i := 53) rfl rfl
theorem wd_5_54 : (Jvm.Cond.instanceMethod ({ cls := "MergeWorkbench", name := "chunks", desc := "()I" } : Jvm.MethodName)) ∈ jwd := jw_5 (i := 54) rfl rfl
theorem wd_5_55 : (Jvm.Cond.selects "MergeWorkbench" ({ cls := "MergeWorkbench", name := "chunks", desc := "()I" } : Jvm.MethodName) ({ cls := "MergeWorkbench", name := "chunks", desc := "()I" } : Jvm.MethodName)) ∈ jwd := jw_5 (i := 55) rfl rfl
theorem wd_5_56 : (Jvm.Cond.code ({ cls := "MergeWorkbench", name := "chunks", desc := "()I" } : Jvm.MethodName) prog_1_method_24_code (1 : Nat) (Option.some Jvm.ClassFile.FieldType.int)) ∈ jwd := jw_5 (i := 56) rfl rfl
theorem wd_5_57 : (Jvm.Cond.methodLink "MergeWorkbench" (238 : Nat) ({ cls := "MergeWorkbench", name := "requireMerge", desc := "()V" } : Jvm.MethodName)) ∈ jwd := jw_5 (i := 57) rfl rfl
theorem wd_5_59 : (Jvm.Cond.instanceMethod ({ cls := "MergeWorkbench", name := "requireMerge", desc := "()V" } : Jvm.MethodName)) ∈ jwd := jw_5 (i := 59) rfl rfl
theorem wd_5_60 : (Jvm.Cond.code ({ cls := "MergeWorkbench", name := "requireMerge", desc := "()V" } : Jvm.MethodName) prog_1_method_42_code (1 : Nat) (Option.none : Option Jvm.ClassFile.FieldType)) ∈ jwd := jw_5 (i := 60) rfl rfl
theorem wd_5_61 : (Jvm.Cond.methodLink "MergeWorkbench" (333 : Nat) ({ cls := "MergeWorkbench$Merge", name := "exists", desc := "()Z" } : Jvm.MethodName)) ∈ jwd := jw_5 (i := 61) rfl rfl
theorem wd_5_62 : (Jvm.Cond.instanceMethod ({ cls := "MergeWorkbench$Merge", name := "exists", desc := "()Z" } : Jvm.MethodName)) ∈ jwd := jw_5 (i := 62) rfl rfl
theorem wd_5_63 : (Jvm.Cond.selects "MergeWorkbench$Merge" ({ cls := "MergeWorkbench$Merge", name := "exists", desc := "()Z" } : Jvm.MethodName) ({ cls := "MergeWorkbench$Merge", name := "exists", desc := "()Z" } : Jvm.MethodName)) ∈ jwd := jw_5 (i := 63) rfl rfl
theorem wd_5_64 : (Jvm.Cond.code ({ cls := "MergeWorkbench$Merge", name := "exists", desc := "()Z" } : Jvm.MethodName) prog_7_method_2_code (1 : Nat) (Option.some Jvm.ClassFile.FieldType.boolean)) ∈ jwd := jw_5 (i := 64) rfl rfl
theorem wd_5_66 : (Jvm.Cond.methodLink "MergeWorkbench" (241 : Nat) ({ cls := "MergeWorkbench$Merge", name := "parts", desc := "()LMergeWorkbench$Table;" } : Jvm.MethodName)) ∈ jwd := jw_5 (i := 66) rfl rfl
theorem wd_5_67 : (Jvm.Cond.instanceMethod ({ cls := "MergeWorkbench$Merge", name := "parts", desc := "()LMergeWorkbench$Table;" } : Jvm.MethodName)) ∈ jwd := jw_5 (i := 67) rfl rfl
theorem wd_5_68 : (Jvm.Cond.selects "MergeWorkbench$Merge" ({ cls := "MergeWorkbench$Merge", name := "parts", desc := "()LMergeWorkbench$Table;" } : Jvm.MethodName) ({ cls := "MergeWorkbench$Merge", name := "parts", desc := "()LMergeWorkbench$Table;" } : Jvm.MethodName)) ∈ jwd := jw_5 (i := 68) rfl rfl
theorem wd_5_69 : (Jvm.Cond.code ({ cls := "MergeWorkbench$Merge", name := "parts", desc := "()LMergeWorkbench$Table;" } : Jvm.MethodName) prog_7_method_3_code (1 : Nat) (Option.some (Jvm.ClassFile.FieldType.object "MergeWorkbench$Table"))) ∈ jwd := jw_5 (i := 69) rfl rfl
theorem wd_5_70 : (Jvm.Cond.methodLink "MergeWorkbenchLaw" (217 : Nat) ({ cls := "MergeWorkbenchLaw", name := "chunk", desc := "(LMergeWorkbench;II[J)I" } : Jvm.MethodName)) ∈ jwd := jw_5 (i := 70) rfl rfl
theorem wd_5_71 : (Jvm.Cond.static ({ cls := "MergeWorkbenchLaw", name := "chunk", desc := "(LMergeWorkbench;II[J)I" } : Jvm.MethodName)) ∈ jwd := jw_5 (i := 71) rfl rfl
theorem wd_5_72 : (Jvm.Cond.codeWith ({ cls := "MergeWorkbenchLaw", name := "chunk", desc := "(LMergeWorkbench;II[J)I" } : Jvm.MethodName) method_25_code (5 : Nat) (Option.some Jvm.ClassFile.FieldType.int) [((0 : Nat), (10 : Nat), (13 : Nat), (15 : Nat)), ((0 : Nat), (10 : Nat), (17 : Nat), (21 : Nat)), ((0 : Nat), (10 : Nat), (21 : Nat), (13 : Nat))]) ∈ jwd := jw_5 (i := 72) rfl rfl
theorem wd_5_73 : (Jvm.Cond.methodLink "MergeWorkbenchLaw" (92 : Nat) ({ cls := "MergeWorkbench", name := "chunk", desc := "(II)I" } : Jvm.MethodName)) ∈ jwd := jw_5 (i := 73) rfl rfl
theorem wd_5_74 : (Jvm.Cond.instanceMethod ({ cls := "MergeWorkbench", name := "chunk", desc := "(II)I" } : Jvm.MethodName)) ∈ jwd := jw_5 (i := 74) rfl rfl
theorem wd_5_75 : (Jvm.Cond.selects "MergeWorkbench" ({ cls := "MergeWorkbench", name := "chunk", desc := "(II)I" } : Jvm.MethodName) ({ cls := "MergeWorkbench", name := "chunk", desc := "(II)I" } : Jvm.MethodName)) ∈ jwd := jw_5 (i := 75) rfl rfl
theorem wd_5_76 : (Jvm.Cond.code ({ cls := "MergeWorkbench", name := "chunk", desc := "(II)I" } : Jvm.MethodName) prog_1_method_25_code (3 : Nat) (Option.some Jvm.ClassFile.FieldType.int)) ∈ jwd := jw_5 (i := 76) rfl rfl
theorem wd_5_77 : (Jvm.Cond.methodLink "MergeWorkbenchLaw" (220 : Nat) ({ cls := "MergeWorkbenchLaw", name := "resolve", desc := "(LMergeWorkbench;II[J)I" } : Jvm.MethodName)) ∈ jwd := jw_5 (i := 77) rfl rfl
theorem wd_5_78 : (Jvm.Cond.static ({ cls := "MergeWorkbenchLaw", name := "resolve", desc := "(LMergeWorkbench;II[J)I" } : Jvm.MethodName)) ∈ jwd := jw_5 (i := 78) rfl rfl
theorem wd_5_79 : (Jvm.Cond.codeWith ({ cls := "MergeWorkbenchLaw", name := "resolve", desc := "(LMergeWorkbench;II[J)I" } : Jvm.MethodName) method_26_code (5 : Nat) (Option.some Jvm.ClassFile.FieldType.int) [((0 : Nat), (10 : Nat), (13 : Nat), (15 : Nat)), ((0 : Nat), (10 : Nat), (17 : Nat), (72 : Nat)), ((0 : Nat), (10 : Nat), (21 : Nat), (13 : Nat))]) ∈ jwd := jw_5 (i := 79) rfl rfl
theorem wd_5_80 : (Jvm.Cond.methodLink "MergeWorkbenchLaw" (95 : Nat) ({ cls := "MergeWorkbench", name := "resolve", desc := "(II)I" } : Jvm.MethodName)) ∈ jwd := jw_5 (i := 80) rfl rfl
theorem wd_5_81 : (Jvm.Cond.instanceMethod ({ cls := "MergeWorkbench", name := "resolve", desc := "(II)I" } : Jvm.MethodName)) ∈ jwd := jw_5 (i := 81) rfl rfl
theorem wd_5_82 : (Jvm.Cond.selects "MergeWorkbench" ({ cls := "MergeWorkbench", name := "resolve", desc := "(II)I" } : Jvm.MethodName) ({ cls := "MergeWorkbench", name := "resolve", desc := "(II)I" } : Jvm.MethodName)) ∈ jwd := jw_5 (i := 82) rfl rfl
theorem wd_5_83 : (Jvm.Cond.code ({ cls := "MergeWorkbench", name := "resolve", desc := "(II)I" } : Jvm.MethodName) prog_1_method_26_code (3 : Nat) (Option.some Jvm.ClassFile.FieldType.int)) ∈ jwd := jw_5 (i := 83) rfl rfl
theorem wd_5_84 : (Jvm.Cond.methodLink "MergeWorkbench" (242 : Nat) ({ cls := "MergeWorkbench$Merge", name := "hasConflict", desc := "(I)Z" } : Jvm.MethodName)) ∈ jwd := jw_5 (i := 84) rfl rfl
theorem wd_5_85 : (Jvm.Cond.instanceMethod ({ cls := "MergeWorkbench$Merge", name := "hasConflict", desc := "(I)Z" } : Jvm.MethodName)) ∈ jwd := jw_5 (i := 85) rfl rfl
theorem wd_5_86 : (Jvm.Cond.selects "MergeWorkbench$Merge" ({ cls := "MergeWorkbench$Merge", name := "hasConflict", desc := "(I)Z" } : Jvm.MethodName) ({ cls := "MergeWorkbench$Merge", name := "hasConflict", desc := "(I)Z" } : Jvm.MethodName)) ∈ jwd := jw_5 (i := 86) rfl rfl
theorem wd_5_87 : (Jvm.Cond.code ({ cls := "MergeWorkbench$Merge", name := "hasConflict", desc := "(I)Z" } : Jvm.MethodName) prog_7_method_5_code (2 : Nat) (Option.some Jvm.ClassFile.FieldType.boolean)) ∈ jwd := jw_5 (i := 87) rfl rfl
theorem wd_5_88 : (Jvm.Cond.methodLink "MergeWorkbench$Merge" (55 : Nat) ({ cls := "MergeWorkbench$Lines", name := "has", desc := "(I)Z" } : Jvm.MethodName)) ∈ jwd := jw_5 (i := 88) rfl rfl
theorem wd_5_91 : (Jvm.Cond.methodLink "MergeWorkbench" (249 : Nat) ({ cls := "MergeWorkbench$Merge", name := "choose", desc := "(II)I" } : Jvm.MethodName)) ∈ jwd := jw_5 (i := 91) rfl rfl
theorem wd_5_92 : (Jvm.Cond.instanceMethod ({ cls := "MergeWorkbench$Merge", name := "choose", desc := "(II)I" } : Jvm.MethodName)) ∈ jwd := jw_5 (i := 92) rfl rfl
theorem wd_5_93 : (Jvm.Cond.selects "MergeWorkbench$Merge" ({ cls := "MergeWorkbench$Merge", name := "choose", desc := "(II)I" } : Jvm.MethodName) ({ cls := "MergeWorkbench$Merge", name := "choose", desc := "(II)I" } : Jvm.MethodName)) ∈ jwd := jw_5 (i := 93) rfl rfl
theorem wd_5_94 : (Jvm.Cond.code ({ cls := "MergeWorkbench$Merge", name := "choose", desc := "(II)I" } : Jvm.MethodName) prog_7_method_18_code (4 : Nat) (Option.some Jvm.ClassFile.FieldType.int)) ∈ jwd := jw_5 (i := 94) rfl rfl
theorem wd_5_95 : (Jvm.Cond.methodLink "MergeWorkbench$Merge" (143 : Nat) ({ cls := "MergeWorkbench$Merge", name := "chosenLength", desc := "(II)I" } : Jvm.MethodName)) ∈ jwd := jw_5 (i := 95) rfl rfl
theorem wd_5_97 : (Jvm.Cond.instanceMethod ({ cls := "MergeWorkbench$Merge", name := "chosenLength", desc := "(II)I" } : Jvm.MethodName)) ∈ jwd := jw_5 (i := 97) rfl rfl
theorem wd_5_98 : (Jvm.Cond.code ({ cls := "MergeWorkbench$Merge", name := "chosenLength", desc := "(II)I" } : Jvm.MethodName) prog_7_method_19_code (5 : Nat) (Option.some Jvm.ClassFile.FieldType.int)) ∈ jwd := jw_5 (i := 98) rfl rfl
theorem wd_5_99 : (Jvm.Cond.methodLink "MergeWorkbenchLaw" (223 : Nat) ({ cls := "MergeWorkbenchLaw", name := "unresolved", desc := "(LMergeWorkbench;[J)I" } : Jvm.MethodName)) ∈ jwd := jw_5 (i := 99) rfl rfl
theorem wd_5_100 : (Jvm.Cond.static ({ cls := "MergeWorkbenchLaw", name := "unresolved", desc := "(LMergeWorkbench;[J)I" } : Jvm.MethodName)) ∈ jwd := jw_5 (i := 100) rfl rfl
theorem wd_5_101 : (Jvm.Cond.codeWith ({ cls := "MergeWorkbenchLaw", name := "unresolved", desc := "(LMergeWorkbench;[J)I" } : Jvm.MethodName) method_27_code (3 : Nat) (Option.some Jvm.ClassFile.FieldType.int) [((0 : Nat), (8 : Nat), (11 : Nat), (15 : Nat))]) ∈ jwd := jw_5 (i := 101) rfl rfl
theorem wd_5_102 : (Jvm.Cond.methodLink "MergeWorkbenchLaw" (98 : Nat) ({ cls := "MergeWorkbench", name := "unresolved", desc := "()I" } : Jvm.MethodName)) ∈ jwd := jw_5 (i := 102) rfl rfl
theorem wd_5_103 : (Jvm.Cond.instanceMethod ({ cls := "MergeWorkbench", name := "unresolved", desc := "()I" } : Jvm.MethodName)) ∈ jwd := jw_5 (i := 103) rfl rfl
theorem wd_5_104 : (Jvm.Cond.selects "MergeWorkbench" ({ cls := "MergeWorkbench", name := "unresolved", desc := "()I" } : Jvm.MethodName) ({ cls := "MergeWorkbench", name := "unresolved", desc := "()I" } : Jvm.MethodName)) ∈ jwd := jw_5 (i := 104) rfl rfl
theorem wd_5_105 : (Jvm.Cond.code ({ cls := "MergeWorkbench", name := "unresolved", desc := "()I" } : Jvm.MethodName) prog_1_method_27_code (1 : Nat) (Option.some Jvm.ClassFile.FieldType.int)) ∈ jwd := jw_5 (i := 105) rfl rfl
theorem wd_5_106 : (Jvm.Cond.methodLink "MergeWorkbench" (253 : Nat) ({ cls := "MergeWorkbench$Merge", name := "openConflicts", desc := "()I" } : Jvm.MethodName)) ∈ jwd := jw_5 (i := 106) rfl rfl
theorem wd_5_107 : (Jvm.Cond.instanceMethod ({ cls := "MergeWorkbench$Merge", name := "openConflicts", desc := "()I" } : Jvm.MethodName)) ∈ jwd := jw_5 (i := 107) rfl rfl
theorem wd_5_108 : (Jvm.Cond.selects "MergeWorkbench$Merge" ({ cls := "MergeWorkbench$Merge", name := "openConflicts", desc := "()I" } : Jvm.MethodName) ({ cls := "MergeWorkbench$Merge", name := "openConflicts", desc := "()I" } : Jvm.MethodName)) ∈ jwd := jw_5 (i := 108) rfl rfl
theorem wd_5_109 : (Jvm.Cond.code ({ cls := "MergeWorkbench$Merge", name := "openConflicts", desc := "()I" } : Jvm.MethodName) prog_7_method_17_code (3 : Nat) (Option.some Jvm.ClassFile.FieldType.int)) ∈ jwd := jw_5 (i := 109) rfl rfl
theorem wd_5_110 : (Jvm.Cond.methodLink "MergeWorkbenchLaw" (226 : Nat) ({ cls := "MergeWorkbenchLaw", name := "mergedLength", desc := "(LMergeWorkbench;[J)I" } : Jvm.MethodName)) ∈ jwd := jw_5 (i := 110) rfl rfl
theorem wd_5_111 : (Jvm.Cond.static ({ cls := "MergeWorkbenchLaw", name := "mergedLength", desc := "(LMergeWorkbench;[J)I" } : Jvm.MethodName)) ∈ jwd := jw_5 (i := 111) rfl rfl
theorem wd_5_112 : (Jvm.Cond.codeWith ({ cls := "MergeWorkbenchLaw", name := "mergedLength", desc := "(LMergeWorkbench;[J)I" } : Jvm.MethodName) method_28_code (3 : Nat) (Option.some Jvm.ClassFile.FieldType.int) [((0 : Nat), (8 : Nat), (11 : Nat), (15 : Nat))]) ∈ jwd := jw_5 (i := 112) rfl rfl
theorem wd_5_113 : (Jvm.Cond.methodLink "MergeWorkbenchLaw" (101 : Nat) ({ cls := "MergeWorkbench", name := "mergedLength", desc := "()I" } : Jvm.MethodName)) ∈ jwd := jw_5 (i := 113) rfl rfl
theorem wd_5_114 : (Jvm.Cond.instanceMethod ({ cls := "MergeWorkbench", name := "mergedLength", desc := "()I" } : Jvm.MethodName)) ∈ jwd := jw_5 (i := 114) rfl rfl
theorem wd_5_115 : (Jvm.Cond.selects "MergeWorkbench" ({ cls := "MergeWorkbench", name := "mergedLength", desc := "()I" } : Jvm.MethodName) ({ cls := "MergeWorkbench", name := "mergedLength", desc := "()I" } : Jvm.MethodName)) ∈ jwd := jw_5 (i := 115) rfl rfl
theorem wd_5_116 : (Jvm.Cond.code ({ cls := "MergeWorkbench", name := "mergedLength", desc := "()I" } : Jvm.MethodName) prog_1_method_28_code (1 : Nat) (Option.some Jvm.ClassFile.FieldType.int)) ∈ jwd := jw_5 (i := 116) rfl rfl
theorem wd_5_117 : (Jvm.Cond.methodLink "MergeWorkbench" (256 : Nat) ({ cls := "MergeWorkbench$Merge", name := "outcomeLines", desc := "()LMergeWorkbench$Lines;" } : Jvm.MethodName)) ∈ jwd := jw_5 (i := 117) rfl rfl
theorem wd_5_118 : (Jvm.Cond.instanceMethod ({ cls := "MergeWorkbench$Merge", name := "outcomeLines", desc := "()LMergeWorkbench$Lines;" } : Jvm.MethodName)) ∈ jwd := jw_5 (i := 118) rfl rfl
theorem wd_5_119 : (Jvm.Cond.selects "MergeWorkbench$Merge" ({ cls := "MergeWorkbench$Merge", name := "outcomeLines", desc := "()LMergeWorkbench$Lines;" } : Jvm.MethodName) ({ cls := "MergeWorkbench$Merge", name := "outcomeLines", desc := "()LMergeWorkbench$Lines;" } : Jvm.MethodName)) ∈ jwd := jw_5 (i := 119) rfl rfl
theorem wd_5_120 : (Jvm.Cond.code ({ cls := "MergeWorkbench$Merge", name := "outcomeLines", desc := "()LMergeWorkbench$Lines;" } : Jvm.MethodName) prog_7_method_4_code (1 : Nat) (Option.some (Jvm.ClassFile.FieldType.object "MergeWorkbench$Lines"))) ∈ jwd := jw_5 (i := 120) rfl rfl
theorem wd_5_121 : (Jvm.Cond.methodLink "MergeWorkbenchLaw" (229 : Nat) ({ cls := "MergeWorkbenchLaw", name := "merged", desc := "(LMergeWorkbench;I[J)I" } : Jvm.MethodName)) ∈ jwd := jw_5 (i := 121) rfl rfl
theorem wd_5_122 : (Jvm.Cond.static ({ cls := "MergeWorkbenchLaw", name := "merged", desc := "(LMergeWorkbench;I[J)I" } : Jvm.MethodName)) ∈ jwd := jw_5 (i := 122) rfl rfl
theorem wd_5_123 : (Jvm.Cond.codeWith ({ cls := "MergeWorkbenchLaw", name := "merged", desc := "(LMergeWorkbench;I[J)I" } : Jvm.MethodName) method_29_code (4 : Nat) (Option.some Jvm.ClassFile.FieldType.int) [((0 : Nat), (9 : Nat), (12 : Nat), (15 : Nat)), ((0 : Nat), (9 : Nat), (15 : Nat), (21 : Nat))]) ∈ jwd := jw_5 (i := 123) rfl rfl
theorem wd_5_124 : (Jvm.Cond.methodLink "MergeWorkbenchLaw" (104 : Nat) ({ cls := "MergeWorkbench", name := "merged", desc := "(I)I" } : Jvm.MethodName)) ∈ jwd := jw_5 (i := 124) rfl rfl
theorem wd_5_125 : (Jvm.Cond.instanceMethod ({ cls := "MergeWorkbench", name := "merged", desc := "(I)I" } : Jvm.MethodName)) ∈ jwd := jw_5 (i := 125) rfl rfl
theorem wd_5_126 : (Jvm.Cond.selects "MergeWorkbench" ({ cls := "MergeWorkbench", name := "merged", desc := "(I)I" } : Jvm.MethodName) ({ cls := "MergeWorkbench", name := "merged", desc := "(I)I" } : Jvm.MethodName)) ∈ jwd := jw_5 (i := 126) rfl rfl
theorem wd_5_127 : (Jvm.Cond.code ({ cls := "MergeWorkbench", name := "merged", desc := "(I)I" } : Jvm.MethodName) prog_1_method_29_code (2 : Nat) (Option.some Jvm.ClassFile.FieldType.int)) ∈ jwd := jw_5 (i := 127) rfl rfl
theorem wd_5_128 : (Jvm.Cond.methodLink "MergeWorkbenchLaw" (232 : Nat) ({ cls := "MergeWorkbenchLaw", name := "accept", desc := "(LMergeWorkbench;I[J)I" } : Jvm.MethodName)) ∈ jwd := jw_5 (i := 128) rfl rfl
theorem wd_5_129 : (Jvm.Cond.static ({ cls := "MergeWorkbenchLaw", name := "accept", desc := "(LMergeWorkbench;I[J)I" } : Jvm.MethodName)) ∈ jwd := jw_5 (i := 129) rfl rfl
theorem wd_5_130 : (Jvm.Cond.codeWith ({ cls := "MergeWorkbenchLaw", name := "accept", desc := "(LMergeWorkbench;I[J)I" } : Jvm.MethodName) method_30_code (4 : Nat) (Option.some Jvm.ClassFile.FieldType.int) [((0 : Nat), (9 : Nat), (12 : Nat), (13 : Nat)), ((0 : Nat), (9 : Nat), (15 : Nat), (15 : Nat)), ((0 : Nat), (9 : Nat), (18 : Nat), (110 : Nat))]) ∈ jwd := jw_5 (i := 130) rfl rfl
theorem wd_5_131 : (Jvm.Cond.classLink "MergeWorkbenchLaw" (110 : Nat) "java/lang/UnsupportedOperationException") ∈ jwd := jw_5 (i := 131) rfl rfl
theorem wd_5_132 : (Jvm.Cond.methodLink "MergeWorkbenchLaw" (107 : Nat) ({ cls := "MergeWorkbench", name := "accept", desc := "(I)I" } : Jvm.MethodName)) ∈ jwd := jw_5 (i := 132) rfl rfl
theorem wd_5_133 : (Jvm.Cond.instanceMethod ({ cls := "MergeWorkbench", name := "accept", desc := "(I)I" } : Jvm.MethodName)) ∈ jwd := jw_5 (i := 133) rfl rfl
theorem wd_5_134 : (Jvm.Cond.selects "MergeWorkbench" ({ cls := "MergeWorkbench", name := "accept", desc := "(I)I" } : Jvm.MethodName) ({ cls := "MergeWorkbench", name := "accept", desc := "(I)I" } : Jvm.MethodName)) ∈ jwd := jw_5 (i := 134) rfl rfl
theorem wd_5_135 : (Jvm.Cond.code ({ cls := "MergeWorkbench", name := "accept", desc := "(I)I" } : Jvm.MethodName) prog_1_method_30_code (3 : Nat) (Option.some Jvm.ClassFile.FieldType.int)) ∈ jwd := jw_5 (i := 135) rfl rfl
theorem wd_5_137 : (Jvm.Cond.classLink "MergeWorkbench" (263 : Nat) "java/lang/UnsupportedOperationException") ∈ jwd := jw_5 (i := 137) rfl rfl
theorem wd_5_138 : (Jvm.Cond.instantiable "java/lang/UnsupportedOperationException" (6 : Nat)) ∈ jwd := jw_5 (i := 138) rfl rfl
theorem wd_5_140 : (Jvm.Cond.selects "java/lang/UnsupportedOperationException" ({ cls := "java/lang/Throwable", name := "fillInStackTrace", desc := "(I)Ljava/lang/Throwable;" } : Jvm.MethodName) ({ cls := "java/lang/Throwable", name := "fillInStackTrace", desc := "(I)Ljava/lang/Throwable;" } : Jvm.MethodName)) ∈ jwd := jw_5 (i := 140) rfl rfl
theorem wd_5_141 : (Jvm.Cond.lays "java/lang/UnsupportedOperationException" "java/lang/Throwable" "cause" "Ljava/lang/Throwable;") ∈ jwd := jw_5 (i := 141) rfl rfl
theorem wd_5_142 : (Jvm.Cond.lays "java/lang/UnsupportedOperationException" "java/lang/Throwable" "stackTrace" "[Ljava/lang/StackTraceElement;") ∈ jwd := jw_5 (i := 142) rfl rfl
theorem wd_5_143 : (Jvm.Cond.lays "java/lang/UnsupportedOperationException" "java/lang/Throwable" "suppressedExceptions" "Ljava/util/List;") ∈ jwd := jw_5 (i := 143) rfl rfl
theorem wd_5_144 : (Jvm.Cond.lays "java/lang/UnsupportedOperationException" "java/lang/Throwable" "detailMessage" "Ljava/lang/String;") ∈ jwd := jw_5 (i := 144) rfl rfl
theorem wd_5_145 : (Jvm.Cond.lays "java/lang/UnsupportedOperationException" "java/lang/Throwable" "backtrace" "Ljava/lang/Object;") ∈ jwd := jw_5 (i := 145) rfl rfl
theorem wd_5_147 : (Jvm.Cond.methodLink "MergeWorkbench" (267 : Nat) ({ cls := "java/lang/UnsupportedOperationException", name := "<init>", desc := "(Ljava/lang/String;)V" } : Jvm.MethodName)) ∈ jwd := jw_5 (i := 147) rfl rfl
theorem wd_5_148 : (Jvm.Cond.instanceMethod ({ cls := "java/lang/UnsupportedOperationException", name := "<init>", desc := "(Ljava/lang/String;)V" } : Jvm.MethodName)) ∈ jwd := jw_5 (i := 148) rfl rfl
theorem wd_5_149 : (Jvm.Cond.code ({ cls := "java/lang/UnsupportedOperationException", name := "<init>", desc := "(Ljava/lang/String;)V" } : Jvm.MethodName) prog_24_method_2_code (2 : Nat) (Option.none : Option Jvm.ClassFile.FieldType)) ∈ jwd := jw_5 (i := 149) rfl rfl
theorem wd_5_150 : (Jvm.Cond.methodLink "java/lang/UnsupportedOperationException" (7 : Nat) ({ cls := "java/lang/RuntimeException", name := "<init>", desc := "(Ljava/lang/String;)V" } : Jvm.MethodName)) ∈ jwd := jw_5 (i := 150) rfl rfl
theorem wd_5_151 : (Jvm.Cond.lays "java/lang/UnsupportedOperationException" "java/lang/Throwable" "depth" "I") ∈ jwd := jw_5 (i := 151) rfl rfl
theorem wd_5_153 : (Jvm.Cond.methodLink "MergeWorkbenchLaw" (235 : Nat) ({ cls := "MergeWorkbenchLaw", name := "makePatch", desc := "(LMergeWorkbench;I[J)I" } : Jvm.MethodName)) ∈ jwd := jw_5 (i := 153) rfl rfl
theorem wd_5_154 : (Jvm.Cond.static ({ cls := "MergeWorkbenchLaw", name := "makePatch", desc := "(LMergeWorkbench;I[J)I" } : Jvm.MethodName)) ∈ jwd := jw_5 (i := 154) rfl rfl
theorem wd_5_155 : (Jvm.Cond.codeWith ({ cls := "MergeWorkbenchLaw", name := "makePatch", desc := "(LMergeWorkbench;I[J)I" } : Jvm.MethodName) method_31_code (4 : Nat) (Option.some Jvm.ClassFile.FieldType.int) [((0 : Nat), (9 : Nat), (12 : Nat), (13 : Nat)), ((0 : Nat), (9 : Nat), (15 : Nat), (15 : Nat))]) ∈ jwd := jw_5 (i := 155) rfl rfl
theorem wd_5_156 : (Jvm.Cond.methodLink "MergeWorkbenchLaw" (112 : Nat) ({ cls := "MergeWorkbench", name := "makePatch", desc := "(I)I" } : Jvm.MethodName)) ∈ jwd := jw_5 (i := 156) rfl rfl
theorem wd_5_157 : (Jvm.Cond.instanceMethod ({ cls := "MergeWorkbench", name := "makePatch", desc := "(I)I" } : Jvm.MethodName)) ∈ jwd := jw_5 (i := 157) rfl rfl
theorem wd_5_158 : (Jvm.Cond.selects "MergeWorkbench" ({ cls := "MergeWorkbench", name := "makePatch", desc := "(I)I" } : Jvm.MethodName) ({ cls := "MergeWorkbench", name := "makePatch", desc := "(I)I" } : Jvm.MethodName)) ∈ jwd := jw_5 (i := 158) rfl rfl
theorem wd_5_159 : (Jvm.Cond.code ({ cls := "MergeWorkbench", name := "makePatch", desc := "(I)I" } : Jvm.MethodName) prog_1_method_31_code (2 : Nat) (Option.some Jvm.ClassFile.FieldType.int)) ∈ jwd := jw_5 (i := 159) rfl rfl
theorem wd_5_161 : (Jvm.Cond.methodLink "MergeWorkbench" (270 : Nat) ({ cls := "MergeWorkbench$Patch", name := "make", desc := "(LMergeWorkbench$Comparison;I)I" } : Jvm.MethodName)) ∈ jwd := jw_5 (i := 161) rfl rfl
theorem wd_5_162 : (Jvm.Cond.instanceMethod ({ cls := "MergeWorkbench$Patch", name := "make", desc := "(LMergeWorkbench$Comparison;I)I" } : Jvm.MethodName)) ∈ jwd := jw_5 (i := 162) rfl rfl
theorem wd_5_163 : (Jvm.Cond.selects "MergeWorkbench$Patch" ({ cls := "MergeWorkbench$Patch", name := "make", desc := "(LMergeWorkbench$Comparison;I)I" } : Jvm.MethodName) ({ cls := "MergeWorkbench$Patch", name := "make", desc := "(LMergeWorkbench$Comparison;I)I" } : Jvm.MethodName)) ∈ jwd := jw_5 (i := 163) rfl rfl
theorem wd_5_164 : (Jvm.Cond.code ({ cls := "MergeWorkbench$Patch", name := "make", desc := "(LMergeWorkbench$Comparison;I)I" } : Jvm.MethodName) prog_8_method_5_code (6 : Nat) (Option.some Jvm.ClassFile.FieldType.int)) ∈ jwd := jw_5 (i := 164) rfl rfl
theorem wd_5_165 : (Jvm.Cond.methodLink "MergeWorkbench$Patch" (45 : Nat) ({ cls := "MergeWorkbench$Comparison", name := "first", desc := "()LMergeWorkbench$Lines;" } : Jvm.MethodName)) ∈ jwd := jw_5 (i := 165) rfl rfl
theorem wd_5_166 : (Jvm.Cond.methodLink "MergeWorkbench$Patch" (50 : Nat) ({ cls := "MergeWorkbench$Lines", name := "become", desc := "(LMergeWorkbench$Lines;)V" } : Jvm.MethodName)) ∈ jwd := jw_5 (i := 166) rfl rfl
theorem wd_5_167 : (Jvm.Cond.methodLink "MergeWorkbench$Patch" (54 : Nat) ({ cls := "MergeWorkbench$Comparison", name := "second", desc := "()LMergeWorkbench$Lines;" } : Jvm.MethodName)) ∈ jwd := jw_5 (i := 167) rfl rfl
theorem wd_5_168 : (Jvm.Cond.methodLink "MergeWorkbench$Patch" (56 : Nat) ({ cls := "MergeWorkbench$Table", name := "clear", desc := "()V" } : Jvm.MethodName)) ∈ jwd := jw_5 (i := 168) rfl rfl
theorem wd_5_169 : (Jvm.Cond.methodLink "MergeWorkbench$Patch" (59 : Nat) ({ cls := "MergeWorkbench$Comparison", name := "parts", desc := "()LMergeWorkbench$Table;" } : Jvm.MethodName)) ∈ jwd := jw_5 (i := 169) rfl rfl
theorem wd_5_170 : (Jvm.Cond.methodLink "MergeWorkbench$Patch" (63 : Nat) ({ cls := "MergeWorkbench$Table", name := "rows", desc := "()I" } : Jvm.MethodName)) ∈ jwd := jw_5 (i := 170) rfl rfl
theorem wd_5_171 : (Jvm.Cond.methodLink "MergeWorkbench$Patch" (67 : Nat) ({ cls := "MergeWorkbench$Patch", name := "isLastOfHunk", desc := "(LMergeWorkbench$Table;II)Z" } : Jvm.MethodName)) ∈ jwd := jw_5 (i := 171) rfl rfl
theorem wd_5_172 : (Jvm.Cond.static ({ cls := "MergeWorkbench$Patch", name := "isLastOfHunk", desc := "(LMergeWorkbench$Table;II)Z" } : Jvm.MethodName)) ∈ jwd := jw_5 (i := 172) rfl rfl
theorem wd_5_173 : (Jvm.Cond.code ({ cls := "MergeWorkbench$Patch", name := "isLastOfHunk", desc := "(LMergeWorkbench$Table;II)Z" } : Jvm.MethodName) prog_8_method_6_code (3 : Nat) (Option.some Jvm.ClassFile.FieldType.boolean)) ∈ jwd := jw_5 (i := 173) rfl rfl
theorem wd_5_174 : (Jvm.Cond.methodLink "MergeWorkbench$Patch" (75 : Nat) ({ cls := "MergeWorkbench$Table", name := "hasRow", desc := "(I)Z" } : Jvm.MethodName)) ∈ jwd := jw_5 (i := 174) rfl rfl
theorem wd_5_175 : (Jvm.Cond.methodLink "MergeWorkbench$Patch" (79 : Nat) ({ cls := "MergeWorkbench$Table", name := "at", desc := "(II)I" } : Jvm.MethodName)) ∈ jwd := jw_5 (i := 175) rfl rfl
theorem wd_5_176 : (Jvm.Cond.methodLink "MergeWorkbench$Patch" (71 : Nat) ({ cls := "MergeWorkbench$Patch", name := "addHunk", desc := "(LMergeWorkbench$Table;III)V" } : Jvm.MethodName)) ∈ jwd := jw_5 (i := 176) rfl rfl
theorem wd_5_178 : (Jvm.Cond.instanceMethod ({ cls := "MergeWorkbench$Patch", name := "addHunk", desc := "(LMergeWorkbench$Table;III)V" } : Jvm.MethodName)) ∈ jwd := jw_5 (i := 178) rfl rfl
theorem wd_5_179 : (Jvm.Cond.code ({ cls := "MergeWorkbench$Patch", name := "addHunk", desc := "(LMergeWorkbench$Table;III)V" } : Jvm.MethodName) prog_8_method_7_code (12 : Nat) (Option.none : Option Jvm.ClassFile.FieldType)) ∈ jwd := jw_5 (i := 179) rfl rfl
theorem wd_5_180 : (Jvm.Cond.methodLink "MergeWorkbench$Patch" (83 : Nat) ({ cls := "java/lang/Math", name := "min", desc := "(II)I" } : Jvm.MethodName)) ∈ jwd := jw_5 (i := 180) rfl rfl
theorem wd_5_181 : (Jvm.Cond.methodLink "MergeWorkbench$Patch" (88 : Nat) ({ cls := "MergeWorkbench$Lines", name := "size", desc := "()I" } : Jvm.MethodName)) ∈ jwd := jw_5 (i := 181) rfl rfl
theorem wd_5_182 : (Jvm.Cond.methodLink "MergeWorkbench$Patch" (91 : Nat) ({ cls := "MergeWorkbench$Table", name := "addRow", desc := "()I" } : Jvm.MethodName)) ∈ jwd := jw_5 (i := 182) rfl rfl
theorem wd_5_183 : (Jvm.Cond.methodLink "MergeWorkbench$Patch" (94 : Nat) ({ cls := "MergeWorkbench$Table", name := "put", desc := "(III)V" } : Jvm.MethodName)) ∈ jwd := jw_5 (i := 183) rfl rfl
theorem wd_5_184 : (Jvm.Cond.methodLink "MergeWorkbenchLaw" (238 : Nat) ({ cls := "MergeWorkbenchLaw", name := "hunk", desc := "(LMergeWorkbench;II[J)I" } : Jvm.MethodName)) ∈ jwd := jw_5 (i := 184) rfl rfl
theorem wd_5_185 : (Jvm.Cond.static ({ cls := "MergeWorkbenchLaw", name := "hunk", desc := "(LMergeWorkbench;II[J)I" } : Jvm.MethodName)) ∈ jwd := jw_5 (i := 185) rfl rfl
theorem wd_5_186 : (Jvm.Cond.codeWith ({ cls := "MergeWorkbenchLaw", name := "hunk", desc := "(LMergeWorkbench;II[J)I" } : Jvm.MethodName) method_32_code (5 : Nat) (Option.some Jvm.ClassFile.FieldType.int) [((0 : Nat), (10 : Nat), (13 : Nat), (15 : Nat)), ((0 : Nat), (10 : Nat), (17 : Nat), (21 : Nat)), ((0 : Nat), (10 : Nat), (21 : Nat), (13 : Nat))]) ∈ jwd := jw_5 (i := 186) rfl rfl
theorem wd_5_187 : (Jvm.Cond.methodLink "MergeWorkbenchLaw" (115 : Nat) ({ cls := "MergeWorkbench", name := "hunk", desc := "(II)I" } : Jvm.MethodName)) ∈ jwd := jw_5 (i := 187) rfl rfl
theorem wd_5_188 : (Jvm.Cond.instanceMethod ({ cls := "MergeWorkbench", name := "hunk", desc := "(II)I" } : Jvm.MethodName)) ∈ jwd := jw_5 (i := 188) rfl rfl
theorem wd_5_189 : (Jvm.Cond.selects "MergeWorkbench" ({ cls := "MergeWorkbench", name := "hunk", desc := "(II)I" } : Jvm.MethodName) ({ cls := "MergeWorkbench", name := "hunk", desc := "(II)I" } : Jvm.MethodName)) ∈ jwd := jw_5 (i := 189) rfl rfl
theorem wd_5_190 : (Jvm.Cond.code ({ cls := "MergeWorkbench", name := "hunk", desc := "(II)I" } : Jvm.MethodName) prog_1_method_32_code (3 : Nat) (Option.some Jvm.ClassFile.FieldType.int)) ∈ jwd := jw_5 (i := 190) rfl rfl
theorem wd_5_191 : (Jvm.Cond.methodLink "MergeWorkbench" (273 : Nat) ({ cls := "MergeWorkbench", name := "requirePatch", desc := "()V" } : Jvm.MethodName)) ∈ jwd := jw_5 (i := 191) rfl rfl
theorem wd_5_193 : (Jvm.Cond.instanceMethod ({ cls := "MergeWorkbench", name := "requirePatch", desc := "()V" } : Jvm.MethodName)) ∈ jwd := jw_5 (i := 193) rfl rfl
theorem wd_5_194 : (Jvm.Cond.code ({ cls := "MergeWorkbench", name := "requirePatch", desc := "()V" } : Jvm.MethodName) prog_1_method_43_code (1 : Nat) (Option.none : Option Jvm.ClassFile.FieldType)) ∈ jwd := jw_5 (i := 194) rfl rfl
theorem wd_5_195 : (Jvm.Cond.methodLink "MergeWorkbench" (336 : Nat) ({ cls := "MergeWorkbench$Patch", name := "exists", desc := "()Z" } : Jvm.MethodName)) ∈ jwd := jw_5 (i := 195) rfl rfl
theorem wd_5_196 : (Jvm.Cond.instanceMethod ({ cls := "MergeWorkbench$Patch", name := "exists", desc := "()Z" } : Jvm.MethodName)) ∈ jwd := jw_5 (i := 196) rfl rfl
theorem wd_5_197 : (Jvm.Cond.selects "MergeWorkbench$Patch" ({ cls := "MergeWorkbench$Patch", name := "exists", desc := "()Z" } : Jvm.MethodName) ({ cls := "MergeWorkbench$Patch", name := "exists", desc := "()Z" } : Jvm.MethodName)) ∈ jwd := jw_5 (i := 197) rfl rfl
theorem wd_5_198 : (Jvm.Cond.code ({ cls := "MergeWorkbench$Patch", name := "exists", desc := "()Z" } : Jvm.MethodName) prog_8_method_2_code (1 : Nat) (Option.some Jvm.ClassFile.FieldType.boolean)) ∈ jwd := jw_5 (i := 198) rfl rfl
theorem wd_5_200 : (Jvm.Cond.methodLink "MergeWorkbench" (276 : Nat) ({ cls := "MergeWorkbench$Patch", name := "parts", desc := "()LMergeWorkbench$Table;" } : Jvm.MethodName)) ∈ jwd := jw_5 (i := 200) rfl rfl
theorem wd_5_201 : (Jvm.Cond.instanceMethod ({ cls := "MergeWorkbench$Patch", name := "parts", desc := "()LMergeWorkbench$Table;" } : Jvm.MethodName)) ∈ jwd := jw_5 (i := 201) rfl rfl
theorem wd_5_202 : (Jvm.Cond.selects "MergeWorkbench$Patch" ({ cls := "MergeWorkbench$Patch", name := "parts", desc := "()LMergeWorkbench$Table;" } : Jvm.MethodName) ({ cls := "MergeWorkbench$Patch", name := "parts", desc := "()LMergeWorkbench$Table;" } : Jvm.MethodName)) ∈ jwd := jw_5 (i := 202) rfl rfl
theorem wd_5_203 : (Jvm.Cond.code ({ cls := "MergeWorkbench$Patch", name := "parts", desc := "()LMergeWorkbench$Table;" } : Jvm.MethodName) prog_8_method_3_code (1 : Nat) (Option.some (Jvm.ClassFile.FieldType.object "MergeWorkbench$Table"))) ∈ jwd := jw_5 (i := 203) rfl rfl
theorem wd_5_204 : (Jvm.Cond.methodLink "MergeWorkbenchLaw" (241 : Nat) ({ cls := "MergeWorkbenchLaw", name := "apply", desc := "(LMergeWorkbench;IIZ[J)I" } : Jvm.MethodName)) ∈ jwd := jw_5 (i := 204) rfl rfl
theorem wd_5_205 : (Jvm.Cond.static ({ cls := "MergeWorkbenchLaw", name := "apply", desc := "(LMergeWorkbench;IIZ[J)I" } : Jvm.MethodName)) ∈ jwd := jw_5 (i := 205) rfl rfl
theorem wd_5_206 : (Jvm.Cond.codeWith ({ cls := "MergeWorkbenchLaw", name := "apply", desc := "(LMergeWorkbench;IIZ[J)I" } : Jvm.MethodName) method_33_code (6 : Nat) (Option.some Jvm.ClassFile.FieldType.int) [((0 : Nat), (12 : Nat), (15 : Nat), (13 : Nat)), ((0 : Nat), (12 : Nat), (19 : Nat), (15 : Nat)), ((0 : Nat), (12 : Nat), (23 : Nat), (110 : Nat))]) ∈ jwd := jw_5 (i := 206) rfl rfl
theorem wd_5_207 : (Jvm.Cond.methodLink "MergeWorkbenchLaw" (118 : Nat) ({ cls := "MergeWorkbench", name := "apply", desc := "(IIZ)I" } : Jvm.MethodName)) ∈ jwd := jw_5 (i := 207) rfl rfl
theorem wd_5_208 : (Jvm.Cond.instanceMethod ({ cls := "MergeWorkbench", name := "apply", desc := "(IIZ)I" } : Jvm.MethodName)) ∈ jwd := jw_5 (i := 208) rfl rfl
theorem wd_5_209 : (Jvm.Cond.selects "MergeWorkbench" ({ cls := "MergeWorkbench", name := "apply", desc := "(IIZ)I" } : Jvm.MethodName) ({ cls := "MergeWorkbench", name := "apply", desc := "(IIZ)I" } : Jvm.MethodName)) ∈ jwd := jw_5 (i := 209) rfl rfl
theorem wd_5_210 : (Jvm.Cond.code ({ cls := "MergeWorkbench", name := "apply", desc := "(IIZ)I" } : Jvm.MethodName) prog_1_method_33_code (6 : Nat) (Option.some Jvm.ClassFile.FieldType.int)) ∈ jwd := jw_5 (i := 210) rfl rfl
theorem wd_5_212 : (Jvm.Cond.methodLink "MergeWorkbench" (279 : Nat) ({ cls := "MergeWorkbench$Patch", name := "attempt", desc := "(LMergeWorkbench$Lines;IZ)LMergeWorkbench$Lines;" } : Jvm.MethodName)) ∈ jwd := jw_5 (i := 212) rfl rfl
theorem wd_5_213 : (Jvm.Cond.instanceMethod ({ cls := "MergeWorkbench$Patch", name := "attempt", desc := "(LMergeWorkbench$Lines;IZ)LMergeWorkbench$Lines;" } : Jvm.MethodName)) ∈ jwd := jw_5 (i := 213) rfl rfl
theorem wd_5_214 : (Jvm.Cond.selects "MergeWorkbench$Patch" ({ cls := "MergeWorkbench$Patch", name := "attempt", desc := "(LMergeWorkbench$Lines;IZ)LMergeWorkbench$Lines;" } : Jvm.MethodName) ({ cls := "MergeWorkbench$Patch", name := "attempt", desc := "(LMergeWorkbench$Lines;IZ)LMergeWorkbench$Lines;" } : Jvm.MethodName)) ∈ jwd := jw_5 (i := 214) rfl rfl
theorem wd_5_215 : (Jvm.Cond.code ({ cls := "MergeWorkbench$Patch", name := "attempt", desc := "(LMergeWorkbench$Lines;IZ)LMergeWorkbench$Lines;" } : Jvm.MethodName) prog_8_method_8_code (5 : Nat) (Option.some (Jvm.ClassFile.FieldType.object "MergeWorkbench$Lines"))) ∈ jwd := jw_5 (i := 215) rfl rfl
theorem wd_5_216 : (Jvm.Cond.methodLink "MergeWorkbench$Patch" (105 : Nat) ({ cls := "MergeWorkbench$Lines", name := "clear", desc := "()V" } : Jvm.MethodName)) ∈ jwd := jw_5 (i := 216) rfl rfl
theorem wd_5_217 : (Jvm.Cond.methodLink "MergeWorkbench$Patch" (106 : Nat) ({ cls := "MergeWorkbench$Patch", name := "attemptHunk", desc := "(LMergeWorkbench$Lines;IIZ)V" } : Jvm.MethodName)) ∈ jwd := jw_5 (i := 217) rfl rfl
theorem wd_5_219 : (Jvm.Cond.instanceMethod ({ cls := "MergeWorkbench$Patch", name := "attemptHunk", desc := "(LMergeWorkbench$Lines;IIZ)V" } : Jvm.MethodName)) ∈ jwd := jw_5 (i := 219) rfl rfl
theorem wd_5_220 : (Jvm.Cond.code ({ cls := "MergeWorkbench$Patch", name := "attemptHunk", desc := "(LMergeWorkbench$Lines;IIZ)V" } : Jvm.MethodName) prog_8_method_9_code (11 : Nat) (Option.none : Option Jvm.ClassFile.FieldType)) ∈ jwd := jw_5 (i := 220) rfl rfl
theorem wd_5_221 : (Jvm.Cond.methodLink "MergeWorkbench$Patch" (114 : Nat) ({ cls := "MergeWorkbench$Patch", name := "partBegin", desc := "(III)I" } : Jvm.MethodName)) ∈ jwd := jw_5 (i := 221) rfl rfl
theorem wd_5_223 : (Jvm.Cond.instanceMethod ({ cls := "MergeWorkbench$Patch", name := "partBegin", desc := "(III)I" } : Jvm.MethodName)) ∈ jwd := jw_5 (i := 223) rfl rfl
theorem wd_5_224 : (Jvm.Cond.code ({ cls := "MergeWorkbench$Patch", name := "partBegin", desc := "(III)I" } : Jvm.MethodName) prog_8_method_11_code (4 : Nat) (Option.some Jvm.ClassFile.FieldType.int)) ∈ jwd := jw_5 (i := 224) rfl rfl
theorem wd_5_225 : (Jvm.Cond.methodLink "MergeWorkbench$Patch" (118 : Nat) ({ cls := "MergeWorkbench$Patch", name := "partEnd", desc := "(III)I" } : Jvm.MethodName)) ∈ jwd := jw_5 (i := 225) rfl rfl
theorem wd_5_227 : (Jvm.Cond.instanceMethod ({ cls := "MergeWorkbench$Patch", name := "partEnd", desc := "(III)I" } : Jvm.MethodName)) ∈ jwd := jw_5 (i := 227) rfl rfl
theorem wd_5_228 : (Jvm.Cond.code ({ cls := "MergeWorkbench$Patch", name := "partEnd", desc := "(III)I" } : Jvm.MethodName) prog_8_method_12_code (5 : Nat) (Option.some Jvm.ClassFile.FieldType.int)) ∈ jwd := jw_5 (i := 228) rfl rfl
theorem wd_5_229 : (Jvm.Cond.methodLink "MergeWorkbench$Patch" (121 : Nat) ({ cls := "MergeWorkbench$Patch", name := "findFit", desc := "(LMergeWorkbench$Lines;LMergeWorkbench$Lines;II)I" } : Jvm.MethodName)) ∈ jwd := jw_5 (i := 229) rfl rfl
theorem wd_5_231 : (Jvm.Cond.instanceMethod ({ cls := "MergeWorkbench$Patch", name := "findFit", desc := "(LMergeWorkbench$Lines;LMergeWorkbench$Lines;II)I" } : Jvm.MethodName)) ∈ jwd := jw_5 (i := 231) rfl rfl
theorem wd_5_232 : (Jvm.Cond.code ({ cls := "MergeWorkbench$Patch", name := "findFit", desc := "(LMergeWorkbench$Lines;LMergeWorkbench$Lines;II)I" } : Jvm.MethodName) prog_8_method_13_code (7 : Nat) (Option.some Jvm.ClassFile.FieldType.int)) ∈ jwd := jw_5 (i := 232) rfl rfl
theorem wd_5_233 : (Jvm.Cond.methodLink "MergeWorkbench$Patch" (132 : Nat) ({ cls := "MergeWorkbench$Patch", name := "fits", desc := "(LMergeWorkbench$Lines;ILMergeWorkbench$Lines;II)Z" } : Jvm.MethodName)) ∈ jwd := jw_5 (i := 233) rfl rfl
theorem wd_5_235 : (Jvm.Cond.instanceMethod ({ cls := "MergeWorkbench$Patch", name := "fits", desc := "(LMergeWorkbench$Lines;ILMergeWorkbench$Lines;II)Z" } : Jvm.MethodName)) ∈ jwd := jw_5 (i := 235) rfl rfl
theorem wd_5_236 : (Jvm.Cond.code ({ cls := "MergeWorkbench$Patch", name := "fits", desc := "(LMergeWorkbench$Lines;ILMergeWorkbench$Lines;II)Z" } : Jvm.MethodName) prog_8_method_14_code (7 : Nat) (Option.some Jvm.ClassFile.FieldType.boolean)) ∈ jwd := jw_5 (i := 236) rfl rfl
theorem wd_5_237 : (Jvm.Cond.methodLink "MergeWorkbench$Patch" (136 : Nat) ({ cls := "MergeWorkbench$Lines", name := "samePart", desc := "(IILMergeWorkbench$Lines;II)Z" } : Jvm.MethodName)) ∈ jwd := jw_5 (i := 237) rfl rfl
theorem wd_5_238 : (Jvm.Cond.methodLink "MergeWorkbench$Patch" (110 : Nat) ({ cls := "MergeWorkbench$Lines", name := "pushPart", desc := "(LMergeWorkbench$Lines;II)V" } : Jvm.MethodName)) ∈ jwd := jw_5 (i := 238) rfl rfl
theorem wd_5_239 : (Jvm.Cond.methodLink "MergeWorkbench$Patch" (125 : Nat) ({ cls := "MergeWorkbench$Patch", name := "pushNewPart", desc := "(IIZ)V" } : Jvm.MethodName)) ∈ jwd := jw_5 (i := 239) rfl rfl
theorem wd_6_1 : (Jvm.Cond.instanceMethod ({ cls := "MergeWorkbench$Patch", name := "pushNewPart", desc := "(IIZ)V" } : Jvm.MethodName)) ∈ jwd := jw_6 (i := 1) rfl rfl
theorem wd_6_2 : (Jvm.Cond.code ({ cls := "MergeWorkbench$Patch", name := "pushNewPart", desc := "(IIZ)V" } : Jvm.MethodName) prog_8_method_10_code (6 : Nat) (Option.none : Option Jvm.ClassFile.FieldType)) ∈ jwd := jw_6 (i := 2) rfl rfl
theorem wd_6_3 : (Jvm.Cond.methodLink "MergeWorkbench$Patch" (129 : Nat) ({ cls := "MergeWorkbench$Table", name := "addPair", desc := "(II)V" } : Jvm.MethodName)) ∈ jwd := jw_6 (i := 3) rfl rfl
theorem wd_6_4 : (Jvm.Cond.instanceMethod ({ cls := "MergeWorkbench$Table", name := "addPair", desc := "(II)V" } : Jvm.MethodName)) ∈ jwd := jw_6 (i := 4) rfl rfl
theorem wd_6_5 : (Jvm.Cond.selects "MergeWorkbench$Table" ({ cls := "MergeWorkbench$Table", name := "addPair", desc := "(II)V" } : Jvm.MethodName) ({ cls := "MergeWorkbench$Table", name := "addPair", desc := "(II)V" } : Jvm.MethodName)) ∈ jwd := jw_6 (i := 5) rfl rfl
theorem wd_6_6 : (Jvm.Cond.code ({ cls := "MergeWorkbench$Table", name := "addPair", desc := "(II)V" } : Jvm.MethodName) prog_10_method_8_code (4 : Nat) (Option.none : Option Jvm.ClassFile.FieldType)) ∈ jwd := jw_6 (i := 6) rfl rfl
theorem wd_6_7 : (Jvm.Cond.methodLink "MergeWorkbench$Table" (26 : Nat) ({ cls := "MergeWorkbench$Table", name := "addRow", desc := "()I" } : Jvm.MethodName)) ∈ jwd := jw_6 (i := 7) rfl rfl
theorem wd_6_8 : (Jvm.Cond.methodLink "MergeWorkbench" (283 : Nat) ({ cls := "MergeWorkbench$Patch", name := "keepOutcomes", desc := "()I" } : Jvm.MethodName)) ∈ jwd := jw_6 (i := 8) rfl rfl
theorem wd_6_9 : (Jvm.Cond.instanceMethod ({ cls := "MergeWorkbench$Patch", name := "keepOutcomes", desc := "()I" } : Jvm.MethodName)) ∈ jwd := jw_6 (i := 9) rfl rfl
theorem wd_6_10 : (Jvm.Cond.selects "MergeWorkbench$Patch" ({ cls := "MergeWorkbench$Patch", name := "keepOutcomes", desc := "()I" } : Jvm.MethodName) ({ cls := "MergeWorkbench$Patch", name := "keepOutcomes", desc := "()I" } : Jvm.MethodName)) ∈ jwd := jw_6 (i := 10) rfl rfl
theorem wd_6_11 : (Jvm.Cond.code ({ cls := "MergeWorkbench$Patch", name := "keepOutcomes", desc := "()I" } : Jvm.MethodName) prog_8_method_15_code (3 : Nat) (Option.some Jvm.ClassFile.FieldType.int)) ∈ jwd := jw_6 (i := 11) rfl rfl
theorem wd_6_12 : (Jvm.Cond.methodLink "MergeWorkbenchLaw" (245 : Nat) ({ cls := "MergeWorkbenchLaw", name := "outcome", desc := "(LMergeWorkbench;II[J)I" } : Jvm.MethodName)) ∈ jwd := jw_6 (i := 12) rfl rfl
theorem wd_6_13 : (Jvm.Cond.static ({ cls := "MergeWorkbenchLaw", name := "outcome", desc := "(LMergeWorkbench;II[J)I" } : Jvm.MethodName)) ∈ jwd := jw_6 (i := 13) rfl rfl
theorem wd_6_14 : (Jvm.Cond.codeWith ({ cls := "MergeWorkbenchLaw", name := "outcome", desc := "(LMergeWorkbench;II[J)I" } : Jvm.MethodName) method_34_code (5 : Nat) (Option.some Jvm.ClassFile.FieldType.int) [((0 : Nat), (10 : Nat), (13 : Nat), (72 : Nat)), ((0 : Nat), (10 : Nat), (17 : Nat), (13 : Nat))]) ∈ jwd := jw_6 (i := 14) rfl rfl
theorem wd_6_15 : (Jvm.Cond.methodLink "MergeWorkbenchLaw" (122 : Nat) ({ cls := "MergeWorkbench", name := "outcome", desc := "(II)I" } : Jvm.MethodName)) ∈ jwd := jw_6 (i := 15) rfl rfl
theorem wd_6_16 : (Jvm.Cond.instanceMethod ({ cls := "MergeWorkbench", name := "outcome", desc := "(II)I" } : Jvm.MethodName)) ∈ jwd := jw_6 (i := 16) rfl rfl
theorem wd_6_17 : (Jvm.Cond.selects "MergeWorkbench" ({ cls := "MergeWorkbench", name := "outcome", desc := "(II)I" } : Jvm.MethodName) ({ cls := "MergeWorkbench", name := "outcome", desc := "(II)I" } : Jvm.MethodName)) ∈ jwd := jw_6 (i := 17) rfl rfl
theorem wd_6_18 : (Jvm.Cond.code ({ cls := "MergeWorkbench", name := "outcome", desc := "(II)I" } : Jvm.MethodName) prog_1_method_34_code (3 : Nat) (Option.some Jvm.ClassFile.FieldType.int)) ∈ jwd := jw_6 (i := 18) rfl rfl
theorem wd_6_19 : (Jvm.Cond.methodLink "MergeWorkbench" (286 : Nat) ({ cls := "MergeWorkbench$Patch", name := "outcomes", desc := "()LMergeWorkbench$Table;" } : Jvm.MethodName)) ∈ jwd := jw_6 (i := 19) rfl rfl
theorem wd_6_20 : (Jvm.Cond.instanceMethod ({ cls := "MergeWorkbench$Patch", name := "outcomes", desc := "()LMergeWorkbench$Table;" } : Jvm.MethodName)) ∈ jwd := jw_6 (i := 20) rfl rfl
theorem wd_6_21 : (Jvm.Cond.selects "MergeWorkbench$Patch" ({ cls := "MergeWorkbench$Patch", name := "outcomes", desc := "()LMergeWorkbench$Table;" } : Jvm.MethodName) ({ cls := "MergeWorkbench$Patch", name := "outcomes", desc := "()LMergeWorkbench$Table;" } : Jvm.MethodName)) ∈ jwd := jw_6 (i := 21) rfl rfl
theorem wd_6_22 : (Jvm.Cond.code ({ cls := "MergeWorkbench$Patch", name := "outcomes", desc := "()LMergeWorkbench$Table;" } : Jvm.MethodName) prog_8_method_4_code (1 : Nat) (Option.some (Jvm.ClassFile.FieldType.object "MergeWorkbench$Table"))) ∈ jwd := jw_6 (i := 22) rfl rfl
theorem wd_6_24 : (Jvm.Cond.methodLink "MergeWorkbenchLaw" (248 : Nat) ({ cls := "MergeWorkbenchLaw", name := "undo", desc := "(LMergeWorkbench;[J)I" } : Jvm.MethodName)) ∈ jwd := jw_6 (i := 24) rfl rfl
theorem wd_6_25 : (Jvm.Cond.static ({ cls := "MergeWorkbenchLaw", name := "undo", desc := "(LMergeWorkbench;[J)I" } : Jvm.MethodName)) ∈ jwd := jw_6 (i := 25) rfl rfl
theorem wd_6_26 : (Jvm.Cond.codeWith ({ cls := "MergeWorkbenchLaw", name := "undo", desc := "(LMergeWorkbench;[J)I" } : Jvm.MethodName) method_35_code (3 : Nat) (Option.some Jvm.ClassFile.FieldType.int) [((0 : Nat), (8 : Nat), (11 : Nat), (15 : Nat))]) ∈ jwd := jw_6 (i := 26) rfl rfl
theorem wd_6_27 : (Jvm.Cond.methodLink "MergeWorkbenchLaw" (125 : Nat) ({ cls := "MergeWorkbench", name := "undo", desc := "()I" } : Jvm.MethodName)) ∈ jwd := jw_6 (i := 27) rfl rfl
theorem wd_6_28 : (Jvm.Cond.instanceMethod ({ cls := "MergeWorkbench", name := "undo", desc := "()I" } : Jvm.MethodName)) ∈ jwd := jw_6 (i := 28) rfl rfl
theorem wd_6_29 : (Jvm.Cond.selects "MergeWorkbench" ({ cls := "MergeWorkbench", name := "undo", desc := "()I" } : Jvm.MethodName) ({ cls := "MergeWorkbench", name := "undo", desc := "()I" } : Jvm.MethodName)) ∈ jwd := jw_6 (i := 29) rfl rfl
theorem wd_6_30 : (Jvm.Cond.code ({ cls := "MergeWorkbench", name := "undo", desc := "()I" } : Jvm.MethodName) prog_1_method_35_code (1 : Nat) (Option.some Jvm.ClassFile.FieldType.int)) ∈ jwd := jw_6 (i := 30) rfl rfl
theorem wd_6_31 : (Jvm.Cond.methodLink "MergeWorkbench" (298 : Nat) ({ cls := "MergeWorkbench$History", name := "isEmpty", desc := "()Z" } : Jvm.MethodName)) ∈ jwd := jw_6 (i := 31) rfl rfl
theorem wd_6_32 : (Jvm.Cond.instanceMethod ({ cls := "MergeWorkbench$History", name := "isEmpty", desc := "()Z" } : Jvm.MethodName)) ∈ jwd := jw_6 (i := 32) rfl rfl
theorem wd_6_33 : (Jvm.Cond.selects "MergeWorkbench$History" ({ cls := "MergeWorkbench$History", name := "isEmpty", desc := "()Z" } : Jvm.MethodName) ({ cls := "MergeWorkbench$History", name := "isEmpty", desc := "()Z" } : Jvm.MethodName)) ∈ jwd := jw_6 (i := 33) rfl rfl
theorem wd_6_34 : (Jvm.Cond.code ({ cls := "MergeWorkbench$History", name := "isEmpty", desc := "()Z" } : Jvm.MethodName) prog_4_method_2_code (1 : Nat) (Option.some Jvm.ClassFile.FieldType.boolean)) ∈ jwd := jw_6 (i := 34) rfl rfl
theorem wd_6_36 : (Jvm.Cond.methodLink "MergeWorkbench" (303 : Nat) ({ cls := "MergeWorkbench$History", name := "takeBack", desc := "(LMergeWorkbench$Shelf;)I" } : Jvm.MethodName)) ∈ jwd := jw_6 (i := 36) rfl rfl
theorem wd_6_37 : (Jvm.Cond.instanceMethod ({ cls := "MergeWorkbench$History", name := "takeBack", desc := "(LMergeWorkbench$Shelf;)I" } : Jvm.MethodName)) ∈ jwd := jw_6 (i := 37) rfl rfl
theorem wd_6_38 : (Jvm.Cond.selects "MergeWorkbench$History" ({ cls := "MergeWorkbench$History", name := "takeBack", desc := "(LMergeWorkbench$Shelf;)I" } : Jvm.MethodName) ({ cls := "MergeWorkbench$History", name := "takeBack", desc := "(LMergeWorkbench$Shelf;)I" } : Jvm.MethodName)) ∈ jwd := jw_6 (i := 38) rfl rfl
theorem wd_6_39 : (Jvm.Cond.code ({ cls := "MergeWorkbench$History", name := "takeBack", desc := "(LMergeWorkbench$Shelf;)I" } : Jvm.MethodName) prog_4_method_5_code (3 : Nat) (Option.some Jvm.ClassFile.FieldType.int)) ∈ jwd := jw_6 (i := 39) rfl rfl
theorem wd_6_40 : (Jvm.Cond.methodLink "MergeWorkbench$History" (49 : Nat) ({ cls := "MergeWorkbench$Lines", name := "at", desc := "(I)I" } : Jvm.MethodName)) ∈ jwd := jw_6 (i := 40) rfl rfl
theorem wd_6_41 : (Jvm.Cond.methodLink "MergeWorkbenchLaw" (255 : Nat) ({ cls := "MergeWorkbenchLaw", name := "restore", desc := "(LMergeWorkbench;[J)I" } : Jvm.MethodName)) ∈ jwd := jw_6 (i := 41) rfl rfl
theorem wd_6_42 : (Jvm.Cond.static ({ cls := "MergeWorkbenchLaw", name := "restore", desc := "(LMergeWorkbench;[J)I" } : Jvm.MethodName)) ∈ jwd := jw_6 (i := 42) rfl rfl
theorem wd_6_43 : (Jvm.Cond.codeWith ({ cls := "MergeWorkbenchLaw", name := "restore", desc := "(LMergeWorkbench;[J)I" } : Jvm.MethodName) method_36_code (3 : Nat) (Option.some Jvm.ClassFile.FieldType.int) [((0 : Nat), (8 : Nat), (11 : Nat), (15 : Nat))]) ∈ jwd := jw_6 (i := 43) rfl rfl
theorem wd_6_44 : (Jvm.Cond.methodLink "MergeWorkbenchLaw" (128 : Nat) ({ cls := "MergeWorkbench", name := "restore", desc := "()I" } : Jvm.MethodName)) ∈ jwd := jw_6 (i := 44) rfl rfl
theorem wd_6_45 : (Jvm.Cond.instanceMethod ({ cls := "MergeWorkbench", name := "restore", desc := "()I" } : Jvm.MethodName)) ∈ jwd := jw_6 (i := 45) rfl rfl
theorem wd_6_46 : (Jvm.Cond.selects "MergeWorkbench" ({ cls := "MergeWorkbench", name := "restore", desc := "()I" } : Jvm.MethodName) ({ cls := "MergeWorkbench", name := "restore", desc := "()I" } : Jvm.MethodName)) ∈ jwd := jw_6 (i := 46) rfl rfl
theorem wd_6_47 : (Jvm.Cond.code ({ cls := "MergeWorkbench", name := "restore", desc := "()I" } : Jvm.MethodName) prog_1_method_37_code (1 : Nat) (Option.some Jvm.ClassFile.FieldType.int)) ∈ jwd := jw_6 (i := 47) rfl rfl
theorem wd_6_49 : (Jvm.Cond.methodLink "MergeWorkbench" (316 : Nat) ({ cls := "MergeWorkbench$History", name := "forget", desc := "()V" } : Jvm.MethodName)) ∈ jwd := jw_6 (i := 49) rfl rfl
theorem wd_6_50 : (Jvm.Cond.instanceMethod ({ cls := "MergeWorkbench$History", name := "forget", desc := "()V" } : Jvm.MethodName)) ∈ jwd := jw_6 (i := 50) rfl rfl
theorem wd_6_51 : (Jvm.Cond.selects "MergeWorkbench$History" ({ cls := "MergeWorkbench$History", name := "forget", desc := "()V" } : Jvm.MethodName) ({ cls := "MergeWorkbench$History", name := "forget", desc := "()V" } : Jvm.MethodName)) ∈ jwd := jw_6 (i := 51) rfl rfl
theorem wd_6_52 : (Jvm.Cond.code ({ cls := "MergeWorkbench$History", name := "forget", desc := "()V" } : Jvm.MethodName) prog_4_method_3_code (1 : Nat) (Option.none : Option Jvm.ClassFile.FieldType)) ∈ jwd := jw_6 (i := 52) rfl rfl
theorem wd_6_53 : (Jvm.Cond.classLink "MergeWorkbenchLaw" (132 : Nat) "MergeWorkbenchModel") ∈ jwd := jw_6 (i := 53) rfl rfl
theorem wd_6_54 : (Jvm.Cond.instantiable "MergeWorkbenchModel" (61 : Nat)) ∈ jwd := jw_6 (i := 54) rfl rfl
theorem wd_6_55 : (Jvm.Cond.methodLink "MergeWorkbenchLaw" (134 : Nat) ({ cls := "MergeWorkbenchModel", name := "<init>", desc := "()V" } : Jvm.MethodName)) ∈ jwd := jw_6 (i := 55) rfl rfl
theorem wd_6_56 : (Jvm.Cond.instanceMethod ({ cls := "MergeWorkbenchModel", name := "<init>", desc := "()V" } : Jvm.MethodName)) ∈ jwd := jw_6 (i := 56) rfl rfl
theorem wd_6_57 : (Jvm.Cond.code ({ cls := "MergeWorkbenchModel", name := "<init>", desc := "()V" } : Jvm.MethodName) prog_12_method_1_code (1 : Nat) (Option.none : Option Jvm.ClassFile.FieldType)) ∈ jwd := jw_6 (i := 57) rfl rfl
theorem wd_6_58 : (Jvm.Cond.methodLink "MergeWorkbenchModel" (1 : Nat) ({ cls := "java/lang/Object", name := "<init>", desc := "()V" } : Jvm.MethodName)) ∈ jwd := jw_6 (i := 58) rfl rfl
theorem wd_6_59 : (Jvm.Cond.fieldLink "MergeWorkbenchModel" (115 : Nat) "MergeWorkbenchModel" "thrown" "I") ∈ jwd := jw_6 (i := 59) rfl rfl
theorem wd_6_60 : (Jvm.Cond.fieldLink "MergeWorkbenchModel" (7 : Nat) "MergeWorkbenchModel" "docs" "[I") ∈ jwd := jw_6 (i := 60) rfl rfl
theorem wd_6_61 : (Jvm.Cond.fieldLink "MergeWorkbenchModel" (13 : Nat) "MergeWorkbenchModel" "sizes" "[I") ∈ jwd := jw_6 (i := 61) rfl rfl
theorem wd_6_62 : (Jvm.Cond.fieldLink "MergeWorkbenchModel" (196 : Nat) "MergeWorkbenchModel" "mode" "I") ∈ jwd := jw_6 (i := 62) rfl rfl
theorem wd_6_63 : (Jvm.Cond.fieldLink "MergeWorkbenchModel" (16 : Nat) "MergeWorkbenchModel" "shrinks" "Z") ∈ jwd := jw_6 (i := 63) rfl rfl
theorem wd_6_64 : (Jvm.Cond.fieldLink "MergeWorkbenchModel" (20 : Nat) "MergeWorkbenchModel" "tape" "[C") ∈ jwd := jw_6 (i := 64) rfl rfl
theorem wd_6_65 : (Jvm.Cond.fieldLink "MergeWorkbenchModel" (155 : Nat) "MergeWorkbenchModel" "taped" "I") ∈ jwd := jw_6 (i := 65) rfl rfl
theorem wd_6_66 : (Jvm.Cond.fieldLink "MergeWorkbenchModel" (24 : Nat) "MergeWorkbenchModel" "keptRegister" "[I") ∈ jwd := jw_6 (i := 66) rfl rfl
theorem wd_6_67 : (Jvm.Cond.fieldLink "MergeWorkbenchModel" (27 : Nat) "MergeWorkbenchModel" "keptSize" "[I") ∈ jwd := jw_6 (i := 67) rfl rfl
theorem wd_6_68 : (Jvm.Cond.fieldLink "MergeWorkbenchModel" (30 : Nat) "MergeWorkbenchModel" "keptLines" "[I") ∈ jwd := jw_6 (i := 68) rfl rfl
theorem wd_6_69 : (Jvm.Cond.fieldLink "MergeWorkbenchModel" (123 : Nat) "MergeWorkbenchModel" "keptMany" "I") ∈ jwd := jw_6 (i := 69) rfl rfl
theorem wd_6_70 : (Jvm.Cond.fieldLink "MergeWorkbenchModel" (325 : Nat) "MergeWorkbenchModel" "hasSaved" "Z") ∈ jwd := jw_6 (i := 70) rfl rfl
theorem wd_6_71 : (Jvm.Cond.fieldLink "MergeWorkbenchModel" (33 : Nat) "MergeWorkbenchModel" "savedDocs" "[I") ∈ jwd := jw_6 (i := 71) rfl rfl
theorem wd_6_72 : (Jvm.Cond.fieldLink "MergeWorkbenchModel" (36 : Nat) "MergeWorkbenchModel" "savedSizes" "[I") ∈ jwd := jw_6 (i := 72) rfl rfl
theorem wd_6_73 : (Jvm.Cond.fieldLink "MergeWorkbenchModel" (328 : Nat) "MergeWorkbenchModel" "savedMode" "I") ∈ jwd := jw_6 (i := 73) rfl rfl
theorem wd_6_74 : (Jvm.Cond.fieldLink "MergeWorkbenchModel" (39 : Nat) "MergeWorkbenchModel" "work" "[I") ∈ jwd := jw_6 (i := 74) rfl rfl
theorem wd_6_75 : (Jvm.Cond.fieldLink "MergeWorkbenchModel" (152 : Nat) "MergeWorkbenchModel" "at" "I") ∈ jwd := jw_6 (i := 75) rfl rfl
theorem wd_6_76 : (Jvm.Cond.fieldLink "MergeWorkbenchModel" (168 : Nat) "MergeWorkbenchModel" "opened" "I") ∈ jwd := jw_6 (i := 76) rfl rfl
theorem wd_6_77 : (Jvm.Cond.fieldLink "MergeWorkbenchModel" (158 : Nat) "MergeWorkbenchModel" "out" "I") ∈ jwd := jw_6 (i := 77) rfl rfl
theorem wd_6_78 : (Jvm.Cond.fieldLink "MergeWorkbenchModel" (42 : Nat) "MergeWorkbenchModel" "longest" "[I") ∈ jwd := jw_6 (i := 78) rfl rfl
theorem wd_6_79 : (Jvm.Cond.fieldLink "MergeWorkbenchModel" (45 : Nat) "MergeWorkbenchModel" "mates" "[I") ∈ jwd := jw_6 (i := 79) rfl rfl
theorem wd_6_80 : (Jvm.Cond.fieldLink "MergeWorkbenchModel" (48 : Nat) "MergeWorkbenchModel" "chains" "[I") ∈ jwd := jw_6 (i := 80) rfl rfl
theorem wd_6_81 : (Jvm.Cond.fieldLink "MergeWorkbenchModel" (193 : Nat) "MergeWorkbenchModel" "anchorMany" "I") ∈ jwd := jw_6 (i := 81) rfl rfl
theorem wd_6_82 : (Jvm.Cond.fieldLink "MergeWorkbenchModel" (51 : Nat) "MergeWorkbenchModel" "rowA" "[I") ∈ jwd := jw_6 (i := 82) rfl rfl
theorem wd_6_83 : (Jvm.Cond.fieldLink "MergeWorkbenchModel" (54 : Nat) "MergeWorkbenchModel" "rowB" "[I") ∈ jwd := jw_6 (i := 83) rfl rfl
theorem wd_6_84 : (Jvm.Cond.fieldLink "MergeWorkbenchModel" (220 : Nat) "MergeWorkbenchModel" "hasCompared" "Z") ∈ jwd := jw_6 (i := 84) rfl rfl
theorem wd_6_85 : (Jvm.Cond.fieldLink "MergeWorkbenchModel" (57 : Nat) "MergeWorkbenchModel" "a0" "[I") ∈ jwd := jw_6 (i := 85) rfl rfl
theorem wd_6_86 : (Jvm.Cond.fieldLink "MergeWorkbenchModel" (214 : Nat) "MergeWorkbenchModel" "aSize" "I") ∈ jwd := jw_6 (i := 86) rfl rfl
theorem wd_6_87 : (Jvm.Cond.fieldLink "MergeWorkbenchModel" (60 : Nat) "MergeWorkbenchModel" "b0" "[I") ∈ jwd := jw_6 (i := 87) rfl rfl
theorem wd_6_88 : (Jvm.Cond.fieldLink "MergeWorkbenchModel" (217 : Nat) "MergeWorkbenchModel" "bSize" "I") ∈ jwd := jw_6 (i := 88) rfl rfl
theorem wd_6_89 : (Jvm.Cond.fieldLink "MergeWorkbenchModel" (63 : Nat) "MergeWorkbenchModel" "partner" "[I") ∈ jwd := jw_6 (i := 89) rfl rfl
theorem wd_6_90 : (Jvm.Cond.fieldLink "MergeWorkbenchModel" (227 : Nat) "MergeWorkbenchModel" "comparedAnchors" "I") ∈ jwd := jw_6 (i := 90) rfl rfl
theorem wd_6_91 : (Jvm.Cond.fieldLink "MergeWorkbenchModel" (66 : Nat) "MergeWorkbenchModel" "moves" "[I") ∈ jwd := jw_6 (i := 91) rfl rfl
theorem wd_6_92 : (Jvm.Cond.fieldLink "MergeWorkbenchModel" (230 : Nat) "MergeWorkbenchModel" "moveMany" "I") ∈ jwd := jw_6 (i := 92) rfl rfl
theorem wd_6_93 : (Jvm.Cond.fieldLink "MergeWorkbenchModel" (69 : Nat) "MergeWorkbenchModel" "parts" "[I") ∈ jwd := jw_6 (i := 93) rfl rfl
theorem wd_6_94 : (Jvm.Cond.fieldLink "MergeWorkbenchModel" (211 : Nat) "MergeWorkbenchModel" "partMany" "I") ∈ jwd := jw_6 (i := 94) rfl rfl
theorem wd_6_95 : (Jvm.Cond.fieldLink "MergeWorkbenchModel" (72 : Nat) "MergeWorkbenchModel" "usedA" "[Z") ∈ jwd := jw_6 (i := 95) rfl rfl
theorem wd_6_96 : (Jvm.Cond.fieldLink "MergeWorkbenchModel" (76 : Nat) "MergeWorkbenchModel" "usedB" "[Z") ∈ jwd := jw_6 (i := 96) rfl rfl
theorem wd_6_97 : (Jvm.Cond.fieldLink "MergeWorkbenchModel" (264 : Nat) "MergeWorkbenchModel" "hasMerged" "Z") ∈ jwd := jw_6 (i := 97) rfl rfl
theorem wd_6_98 : (Jvm.Cond.fieldLink "MergeWorkbenchModel" (79 : Nat) "MergeWorkbenchModel" "base" "[I") ∈ jwd := jw_6 (i := 98) rfl rfl
theorem wd_6_99 : (Jvm.Cond.fieldLink "MergeWorkbenchModel" (267 : Nat) "MergeWorkbenchModel" "baseSize" "I") ∈ jwd := jw_6 (i := 99) rfl rfl
theorem wd_6_100 : (Jvm.Cond.fieldLink "MergeWorkbenchModel" (82 : Nat) "MergeWorkbenchModel" "left" "[I") ∈ jwd := jw_6 (i := 100) rfl rfl
theorem wd_6_101 : (Jvm.Cond.fieldLink "MergeWorkbenchModel" (270 : Nat) "MergeWorkbenchModel" "leftSize" "I") ∈ jwd := jw_6 (i := 101) rfl rfl
theorem wd_6_102 : (Jvm.Cond.fieldLink "MergeWorkbenchModel" (85 : Nat) "MergeWorkbenchModel" "right" "[I") ∈ jwd := jw_6 (i := 102) rfl rfl
theorem wd_6_103 : (Jvm.Cond.fieldLink "MergeWorkbenchModel" (273 : Nat) "MergeWorkbenchModel" "rightSize" "I") ∈ jwd := jw_6 (i := 103) rfl rfl
theorem wd_6_104 : (Jvm.Cond.fieldLink "MergeWorkbenchModel" (88 : Nat) "MergeWorkbenchModel" "toLeft" "[I") ∈ jwd := jw_6 (i := 104) rfl rfl
theorem wd_6_105 : (Jvm.Cond.fieldLink "MergeWorkbenchModel" (91 : Nat) "MergeWorkbenchModel" "toRight" "[I") ∈ jwd := jw_6 (i := 105) rfl rfl
theorem wd_6_106 : (Jvm.Cond.fieldLink "MergeWorkbenchModel" (94 : Nat) "MergeWorkbenchModel" "chunks" "[I") ∈ jwd := jw_6 (i := 106) rfl rfl
theorem wd_6_107 : (Jvm.Cond.fieldLink "MergeWorkbenchModel" (246 : Nat) "MergeWorkbenchModel" "chunkMany" "I") ∈ jwd := jw_6 (i := 107) rfl rfl
theorem wd_6_108 : (Jvm.Cond.fieldLink "MergeWorkbenchModel" (97 : Nat) "MergeWorkbenchModel" "choices" "[I") ∈ jwd := jw_6 (i := 108) rfl rfl
theorem wd_6_109 : (Jvm.Cond.fieldLink "MergeWorkbenchModel" (249 : Nat) "MergeWorkbenchModel" "conflictMany" "I") ∈ jwd := jw_6 (i := 109) rfl rfl
theorem wd_6_110 : (Jvm.Cond.fieldLink "MergeWorkbenchModel" (296 : Nat) "MergeWorkbenchModel" "hasPatch" "Z") ∈ jwd := jw_6 (i := 110) rfl rfl
theorem wd_6_111 : (Jvm.Cond.fieldLink "MergeWorkbenchModel" (100 : Nat) "MergeWorkbenchModel" "hunks" "[I") ∈ jwd := jw_6 (i := 111) rfl rfl
theorem wd_6_112 : (Jvm.Cond.fieldLink "MergeWorkbenchModel" (302 : Nat) "MergeWorkbenchModel" "hunkMany" "I") ∈ jwd := jw_6 (i := 112) rfl rfl
theorem wd_6_113 : (Jvm.Cond.fieldLink "MergeWorkbenchModel" (103 : Nat) "MergeWorkbenchModel" "oldLines" "[I") ∈ jwd := jw_6 (i := 113) rfl rfl
theorem wd_6_114 : (Jvm.Cond.fieldLink "MergeWorkbenchModel" (106 : Nat) "MergeWorkbenchModel" "newLines" "[I") ∈ jwd := jw_6 (i := 114) rfl rfl
theorem wd_6_115 : (Jvm.Cond.fieldLink "MergeWorkbenchModel" (299 : Nat) "MergeWorkbenchModel" "hasOutcome" "Z") ∈ jwd := jw_6 (i := 115) rfl rfl
theorem wd_6_116 : (Jvm.Cond.fieldLink "MergeWorkbenchModel" (109 : Nat) "MergeWorkbenchModel" "outcomes" "[I") ∈ jwd := jw_6 (i := 116) rfl rfl
theorem wd_6_117 : (Jvm.Cond.fieldLink "MergeWorkbenchModel" (308 : Nat) "MergeWorkbenchModel" "free" "I") ∈ jwd := jw_6 (i := 117) rfl rfl
theorem wd_6_118 : (Jvm.Cond.fieldLink "MergeWorkbenchModel" (311 : Nat) "MergeWorkbenchModel" "shift" "I") ∈ jwd := jw_6 (i := 118) rfl rfl
theorem wd_6_119 : (Jvm.Cond.fieldLink "MergeWorkbenchModel" (112 : Nat) "MergeWorkbenchModel" "came" "[I") ∈ jwd := jw_6 (i := 119) rfl rfl
theorem wd_6_120 : (Jvm.Cond.lays "MergeWorkbenchModel" "MergeWorkbenchModel" "thrown" "I") ∈ jwd := jw_6 (i := 120) rfl rfl
theorem wd_6_122 : (Jvm.Cond.laysFinal "MergeWorkbenchModel" "MergeWorkbenchModel" "docs" "[I") ∈ jwd := jw_6 (i := 122) rfl rfl
theorem wd_6_124 : (Jvm.Cond.laysFinal "MergeWorkbenchModel" "MergeWorkbenchModel" "sizes" "[I") ∈ jwd := jw_6 (i := 124) rfl rfl
theorem wd_6_126 : (Jvm.Cond.lays "MergeWorkbenchModel" "MergeWorkbenchModel" "mode" "I") ∈ jwd := jw_6 (i := 126) rfl rfl
theorem wd_6_128 : (Jvm.Cond.lays "MergeWorkbenchModel" "MergeWorkbenchModel" "shrinks" "Z") ∈ jwd := jw_6 (i := 128) rfl rfl
theorem wd_6_130 : (Jvm.Cond.laysFinal "MergeWorkbenchModel" "MergeWorkbenchModel" "tape" "[C") ∈ jwd := jw_6 (i := 130) rfl rfl
theorem wd_6_132 : (Jvm.Cond.lays "MergeWorkbenchModel" "MergeWorkbenchModel" "taped" "I") ∈ jwd := jw_6 (i := 132) rfl rfl
theorem wd_6_134 : (Jvm.Cond.laysFinal "MergeWorkbenchModel" "MergeWorkbenchModel" "keptRegister" "[I") ∈ jwd := jw_6 (i := 134) rfl rfl
theorem wd_6_136 : (Jvm.Cond.laysFinal "MergeWorkbenchModel" "MergeWorkbenchModel" "keptSize" "[I") ∈ jwd := jw_6 (i := 136) rfl rfl
theorem wd_6_138 : (Jvm.Cond.laysFinal "MergeWorkbenchModel" "MergeWorkbenchModel" "keptLines" "[I") ∈ jwd := jw_6 (i := 138) rfl rfl
theorem wd_6_140 : (Jvm.Cond.lays "MergeWorkbenchModel" "MergeWorkbenchModel" "keptMany" "I") ∈ jwd := jw_6 (i := 140) rfl rfl
theorem wd_6_142 : (Jvm.Cond.lays "MergeWorkbenchModel" "MergeWorkbenchModel" "hasSaved" "Z") ∈ jwd := jw_6 (i := 142) rfl rfl
theorem wd_6_144 : (Jvm.Cond.laysFinal "MergeWorkbenchModel" "MergeWorkbenchModel" "savedDocs" "[I") ∈ jwd := jw_6 (i := 144) rfl rfl
theorem wd_6_146 : (Jvm.Cond.laysFinal "MergeWorkbenchModel" "MergeWorkbenchModel" "savedSizes" "[I") ∈ jwd := jw_6 (i := 146) rfl rfl
theorem wd_6_148 : (Jvm.Cond.lays "MergeWorkbenchModel" "MergeWorkbenchModel" "savedMode" "I") ∈ jwd := jw_6 (i := 148) rfl rfl
theorem wd_6_150 : (Jvm.Cond.laysFinal "MergeWorkbenchModel" "MergeWorkbenchModel" "work" "[I") ∈ jwd := jw_6 (i := 150) rfl rfl
theorem wd_6_152 : (Jvm.Cond.lays "MergeWorkbenchModel" "MergeWorkbenchModel" "at" "I") ∈ jwd := jw_6 (i := 152) rfl rfl
theorem wd_6_154 : (Jvm.Cond.lays "MergeWorkbenchModel" "MergeWorkbenchModel" "opened" "I") ∈ jwd := jw_6 (i := 154) rfl rfl
theorem wd_6_156 : (Jvm.Cond.lays "MergeWorkbenchModel" "MergeWorkbenchModel" "out" "I") ∈ jwd := jw_6 (i := 156) rfl rfl
theorem wd_6_158 : (Jvm.Cond.laysFinal "MergeWorkbenchModel" "MergeWorkbenchModel" "longest" "[I") ∈ jwd := jw_6 (i := 158) rfl rfl
theorem wd_6_160 : (Jvm.Cond.laysFinal "MergeWorkbenchModel" "MergeWorkbenchModel" "mates" "[I") ∈ jwd := jw_6 (i := 160) rfl rfl
theorem wd_6_162 : (Jvm.Cond.laysFinal "MergeWorkbenchModel" "MergeWorkbenchModel" "chains" "[I") ∈ jwd := jw_6 (i := 162) rfl rfl
theorem wd_6_164 : (Jvm.Cond.lays "MergeWorkbenchModel" "MergeWorkbenchModel" "anchorMany" "I") ∈ jwd := jw_6 (i := 164) rfl rfl
theorem wd_6_166 : (Jvm.Cond.laysFinal "MergeWorkbenchModel" "MergeWorkbenchModel" "rowA" "[I") ∈ jwd := jw_6 (i := 166) rfl rfl
theorem wd_6_168 : (Jvm.Cond.laysFinal "MergeWorkbenchModel" "MergeWorkbenchModel" "rowB" "[I") ∈ jwd := jw_6 (i := 168) rfl rfl
theorem wd_6_170 : (Jvm.Cond.lays "MergeWorkbenchModel" "MergeWorkbenchModel" "hasCompared" "Z") ∈ jwd := jw_6 (i := 170) rfl rfl
theorem wd_6_172 : (Jvm.Cond.laysFinal "MergeWorkbenchModel" "MergeWorkbenchModel" "a0" "[I") ∈ jwd := jw_6 (i := 172) rfl rfl
theorem wd_6_174 : (Jvm.Cond.lays "MergeWorkbenchModel" "MergeWorkbenchModel" "aSize" "I") ∈ jwd := jw_6 (i := 174) rfl rfl
theorem wd_6_176 : (Jvm.Cond.laysFinal "MergeWorkbenchModel" "MergeWorkbenchModel" "b0" "[I") ∈ jwd := jw_6 (i := 176) rfl rfl
theorem wd_6_178 : (Jvm.Cond.lays "MergeWorkbenchModel" "MergeWorkbenchModel" "bSize" "I") ∈ jwd := jw_6 (i := 178) rfl rfl
theorem wd_6_180 : (Jvm.Cond.laysFinal "MergeWorkbenchModel" "MergeWorkbenchModel" "partner" "[I") ∈ jwd := jw_6 (i := 180) rfl rfl
theorem wd_6_182 : (Jvm.Cond.lays "MergeWorkbenchModel" "MergeWorkbenchModel" "comparedAnchors" "I") ∈ jwd := jw_6 (i := 182) rfl rfl
theorem wd_6_184 : (Jvm.Cond.laysFinal "MergeWorkbenchModel" "MergeWorkbenchModel" "moves" "[I") ∈ jwd := jw_6 (i := 184) rfl rfl
theorem wd_6_186 : (Jvm.Cond.lays "MergeWorkbenchModel" "MergeWorkbenchModel" "moveMany" "I") ∈ jwd := jw_6 (i := 186) rfl rfl
theorem wd_6_188 : (Jvm.Cond.laysFinal "MergeWorkbenchModel" "MergeWorkbenchModel" "parts" "[I") ∈ jwd := jw_6 (i := 188) rfl rfl
theorem wd_6_190 : (Jvm.Cond.lays "MergeWorkbenchModel" "MergeWorkbenchModel" "partMany" "I") ∈ jwd := jw_6 (i := 190) rfl rfl
theorem wd_6_192 : (Jvm.Cond.laysFinal "MergeWorkbenchModel" "MergeWorkbenchModel" "usedA" "[Z") ∈ jwd := jw_6 (i := 192) rfl rfl
theorem wd_6_194 : (Jvm.Cond.laysFinal "MergeWorkbenchModel" "MergeWorkbenchModel" "usedB" "[Z") ∈ jwd := jw_6 (i := 194) rfl rfl
theorem wd_6_196 : (Jvm.Cond.lays "MergeWorkbenchModel" "MergeWorkbenchModel" "hasMerged" "Z") ∈ jwd := jw_6 (i := 196) rfl rfl
theorem wd_6_198 : (Jvm.Cond.laysFinal "MergeWorkbenchModel" "MergeWorkbenchModel" "base" "[I") ∈ jwd := jw_6 (i := 198) rfl rfl
theorem wd_6_200 : (Jvm.Cond.lays "MergeWorkbenchModel" "MergeWorkbenchModel" "baseSize" "I") ∈ jwd := jw_6 (i := 200) rfl rfl
theorem wd_6_202 : (Jvm.Cond.laysFinal "MergeWorkbenchModel" "MergeWorkbenchModel" "left" "[I") ∈ jwd := jw_6 (i := 202) rfl rfl
theorem wd_6_204 : (Jvm.Cond.lays "MergeWorkbenchModel" "MergeWorkbenchModel" "leftSize" "I") ∈ jwd := jw_6 (i := 204) rfl rfl
theorem wd_6_206 : (Jvm.Cond.laysFinal "MergeWorkbenchModel" "MergeWorkbenchModel" "right" "[I") ∈ jwd := jw_6 (i := 206) rfl rfl
theorem wd_6_208 : (Jvm.Cond.lays "MergeWorkbenchModel" "MergeWorkbenchModel" "rightSize" "I") ∈ jwd := jw_6 (i := 208) rfl rfl
theorem wd_6_210 : (Jvm.Cond.laysFinal "MergeWorkbenchModel" "MergeWorkbenchModel" "toLeft" "[I") ∈ jwd := jw_6 (i := 210) rfl rfl
theorem wd_6_212 : (Jvm.Cond.laysFinal "MergeWorkbenchModel" "MergeWorkbenchModel" "toRight" "[I") ∈ jwd := jw_6 (i := 212) rfl rfl
theorem wd_6_214 : (Jvm.Cond.laysFinal "MergeWorkbenchModel" "MergeWorkbenchModel" "chunks" "[I") ∈ jwd := jw_6 (i := 214) rfl rfl
theorem wd_6_216 : (Jvm.Cond.lays "MergeWorkbenchModel" "MergeWorkbenchModel" "chunkMany" "I") ∈ jwd := jw_6 (i := 216) rfl rfl
theorem wd_6_218 : (Jvm.Cond.laysFinal "MergeWorkbenchModel" "MergeWorkbenchModel" "choices" "[I") ∈ jwd := jw_6 (i := 218) rfl rfl
theorem wd_6_220 : (Jvm.Cond.lays "MergeWorkbenchModel" "MergeWorkbenchModel" "conflictMany" "I") ∈ jwd := jw_6 (i := 220) rfl rfl
theorem wd_6_222 : (Jvm.Cond.lays "MergeWorkbenchModel" "MergeWorkbenchModel" "hasPatch" "Z") ∈ jwd := jw_6 (i := 222) rfl rfl
theorem wd_6_224 : (Jvm.Cond.laysFinal "MergeWorkbenchModel" "MergeWorkbenchModel" "hunks" "[I") ∈ jwd := jw_6 (i := 224) rfl rfl
theorem wd_6_226 : (Jvm.Cond.lays "MergeWorkbenchModel" "MergeWorkbenchModel" "hunkMany" "I") ∈ jwd := jw_6 (i := 226) rfl rfl
theorem wd_6_228 : (Jvm.Cond.laysFinal "MergeWorkbenchModel" "MergeWorkbenchModel" "oldLines" "[I") ∈ jwd := jw_6 (i := 228) rfl rfl
theorem wd_6_230 : (Jvm.Cond.laysFinal "MergeWorkbenchModel" "MergeWorkbenchModel" "newLines" "[I") ∈ jwd := jw_6 (i := 230) rfl rfl
theorem wd_6_232 : (Jvm.Cond.lays "MergeWorkbenchModel" "MergeWorkbenchModel" "hasOutcome" "Z") ∈ jwd := jw_6 (i := 232) rfl rfl
theorem wd_6_234 : (Jvm.Cond.laysFinal "MergeWorkbenchModel" "MergeWorkbenchModel" "outcomes" "[I") ∈ jwd := jw_6 (i := 234) rfl rfl
theorem wd_6_236 : (Jvm.Cond.lays "MergeWorkbenchModel" "MergeWorkbenchModel" "free" "I") ∈ jwd := jw_6 (i := 236) rfl rfl
theorem wd_6_238 : (Jvm.Cond.lays "MergeWorkbenchModel" "MergeWorkbenchModel" "shift" "I") ∈ jwd := jw_6 (i := 238) rfl rfl
theorem wd_7_0 : (Jvm.Cond.laysFinal "MergeWorkbenchModel" "MergeWorkbenchModel" "came" "[I") ∈ jwd := jw_7 (i := 0) rfl rfl
theorem wd_7_3 : (Jvm.Cond.arrayClass Jvm.ClassFile.FieldType.char) ∈ jwd := jw_7 (i := 3) rfl rfl
theorem wd_7_4 : (Jvm.Cond.arrayClass Jvm.ClassFile.FieldType.boolean) ∈ jwd := jw_7 (i := 4) rfl rfl
theorem wd_7_5 : (Jvm.Cond.methodLink "MergeWorkbenchLaw" (141 : Nat) ({ cls := "MergeWorkbenchModel", name := "thrown", desc := "()I" } : Jvm.MethodName)) ∈ jwd := jw_7 (i := 5) rfl rfl
theorem wd_7_6 : (Jvm.Cond.instanceMethod ({ cls := "MergeWorkbenchModel", name := "thrown", desc := "()I" } : Jvm.MethodName)) ∈ jwd := jw_7 (i := 6) rfl rfl
theorem wd_7_7 : (Jvm.Cond.selects "MergeWorkbenchModel" ({ cls := "MergeWorkbenchModel", name := "thrown", desc := "()I" } : Jvm.MethodName) ({ cls := "MergeWorkbenchModel", name := "thrown", desc := "()I" } : Jvm.MethodName)) ∈ jwd := jw_7 (i := 7) rfl rfl
theorem wd_7_8 : (Jvm.Cond.code ({ cls := "MergeWorkbenchModel", name := "thrown", desc := "()I" } : Jvm.MethodName) prog_12_method_2_code (1 : Nat) (Option.some Jvm.ClassFile.FieldType.int)) ∈ jwd := jw_7 (i := 8) rfl rfl
theorem wd_7_9 : (Jvm.Cond.methodLink "MergeWorkbenchLaw" (140 : Nat) ({ cls := "MergeWorkbenchModel", name := "append", desc := "(II)I" } : Jvm.MethodName)) ∈ jwd := jw_7 (i := 9) rfl rfl
theorem wd_7_10 : (Jvm.Cond.instanceMethod ({ cls := "MergeWorkbenchModel", name := "append", desc := "(II)I" } : Jvm.MethodName)) ∈ jwd := jw_7 (i := 10) rfl rfl
theorem wd_7_11 : (Jvm.Cond.selects "MergeWorkbenchModel" ({ cls := "MergeWorkbenchModel", name := "append", desc := "(II)I" } : Jvm.MethodName) ({ cls := "MergeWorkbenchModel", name := "append", desc := "(II)I" } : Jvm.MethodName)) ∈ jwd := jw_7 (i := 11) rfl rfl
theorem wd_7_12 : (Jvm.Cond.code ({ cls := "MergeWorkbenchModel", name := "append", desc := "(II)I" } : Jvm.MethodName) prog_12_method_11_code (3 : Nat) (Option.some Jvm.ClassFile.FieldType.int)) ∈ jwd := jw_7 (i := 12) rfl rfl
theorem wd_7_13 : (Jvm.Cond.methodLink "MergeWorkbenchModel" (126 : Nat) ({ cls := "MergeWorkbenchModel", name := "isRegister", desc := "(I)Z" } : Jvm.MethodName)) ∈ jwd := jw_7 (i := 13) rfl rfl
theorem wd_7_14 : (Jvm.Cond.static ({ cls := "MergeWorkbenchModel", name := "isRegister", desc := "(I)Z" } : Jvm.MethodName)) ∈ jwd := jw_7 (i := 14) rfl rfl
theorem wd_7_15 : (Jvm.Cond.code ({ cls := "MergeWorkbenchModel", name := "isRegister", desc := "(I)Z" } : Jvm.MethodName) prog_12_method_8_code (1 : Nat) (Option.some Jvm.ClassFile.FieldType.boolean)) ∈ jwd := jw_7 (i := 15) rfl rfl
theorem wd_7_16 : (Jvm.Cond.methodLink "MergeWorkbenchModel" (119 : Nat) ({ cls := "MergeWorkbenchModel", name := "in", desc := "(III)Z" } : Jvm.MethodName)) ∈ jwd := jw_7 (i := 16) rfl rfl
theorem wd_7_17 : (Jvm.Cond.static ({ cls := "MergeWorkbenchModel", name := "in", desc := "(III)Z" } : Jvm.MethodName)) ∈ jwd := jw_7 (i := 17) rfl rfl
theorem wd_7_18 : (Jvm.Cond.code ({ cls := "MergeWorkbenchModel", name := "in", desc := "(III)Z" } : Jvm.MethodName) prog_12_method_3_code (3 : Nat) (Option.some Jvm.ClassFile.FieldType.boolean)) ∈ jwd := jw_7 (i := 18) rfl rfl
theorem wd_7_19 : (Jvm.Cond.methodLink "MergeWorkbenchModel" (130 : Nat) ({ cls := "MergeWorkbenchModel", name := "fails", desc := "(I)I" } : Jvm.MethodName)) ∈ jwd := jw_7 (i := 19) rfl rfl
theorem wd_7_21 : (Jvm.Cond.instanceMethod ({ cls := "MergeWorkbenchModel", name := "fails", desc := "(I)I" } : Jvm.MethodName)) ∈ jwd := jw_7 (i := 21) rfl rfl
theorem wd_7_22 : (Jvm.Cond.code ({ cls := "MergeWorkbenchModel", name := "fails", desc := "(I)I" } : Jvm.MethodName) prog_12_method_4_code (2 : Nat) (Option.some Jvm.ClassFile.FieldType.int)) ∈ jwd := jw_7 (i := 22) rfl rfl
theorem wd_7_23 : (Jvm.Cond.methodLink "MergeWorkbenchModel" (134 : Nat) ({ cls := "MergeWorkbenchModel", name := "remembers", desc := "(I)V" } : Jvm.MethodName)) ∈ jwd := jw_7 (i := 23) rfl rfl
theorem wd_7_25 : (Jvm.Cond.instanceMethod ({ cls := "MergeWorkbenchModel", name := "remembers", desc := "(I)V" } : Jvm.MethodName)) ∈ jwd := jw_7 (i := 25) rfl rfl
theorem wd_7_26 : (Jvm.Cond.code ({ cls := "MergeWorkbenchModel", name := "remembers", desc := "(I)V" } : Jvm.MethodName) prog_12_method_9_code (3 : Nat) (Option.none : Option Jvm.ClassFile.FieldType)) ∈ jwd := jw_7 (i := 26) rfl rfl
theorem wd_7_27 : (Jvm.Cond.methodLink "MergeWorkbenchModel" (138 : Nat) ({ cls := "MergeWorkbenchModel", name := "done", desc := "(I)I" } : Jvm.MethodName)) ∈ jwd := jw_7 (i := 27) rfl rfl
theorem wd_7_29 : (Jvm.Cond.instanceMethod ({ cls := "MergeWorkbenchModel", name := "done", desc := "(I)I" } : Jvm.MethodName)) ∈ jwd := jw_7 (i := 29) rfl rfl
theorem wd_7_30 : (Jvm.Cond.code ({ cls := "MergeWorkbenchModel", name := "done", desc := "(I)I" } : Jvm.MethodName) prog_12_method_5_code (2 : Nat) (Option.some Jvm.ClassFile.FieldType.int)) ∈ jwd := jw_7 (i := 30) rfl rfl
theorem wd_7_31 : (Jvm.Cond.methodLink "MergeWorkbenchLaw" (147 : Nat) ({ cls := "MergeWorkbenchModel", name := "insert", desc := "(III)I" } : Jvm.MethodName)) ∈ jwd := jw_7 (i := 31) rfl rfl
theorem wd_7_32 : (Jvm.Cond.instanceMethod ({ cls := "MergeWorkbenchModel", name := "insert", desc := "(III)I" } : Jvm.MethodName)) ∈ jwd := jw_7 (i := 32) rfl rfl
theorem wd_7_33 : (Jvm.Cond.selects "MergeWorkbenchModel" ({ cls := "MergeWorkbenchModel", name := "insert", desc := "(III)I" } : Jvm.MethodName) ({ cls := "MergeWorkbenchModel", name := "insert", desc := "(III)I" } : Jvm.MethodName)) ∈ jwd := jw_7 (i := 33) rfl rfl
theorem wd_7_34 : (Jvm.Cond.code ({ cls := "MergeWorkbenchModel", name := "insert", desc := "(III)I" } : Jvm.MethodName) prog_12_method_12_code (5 : Nat) (Option.some Jvm.ClassFile.FieldType.int)) ∈ jwd := jw_7 (i := 34) rfl rfl
theorem wd_7_35 : (Jvm.Cond.methodLink "MergeWorkbenchLaw" (150 : Nat) ({ cls := "MergeWorkbenchModel", name := "delete", desc := "(II)I" } : Jvm.MethodName)) ∈ jwd := jw_7 (i := 35) rfl rfl
theorem wd_7_36 : (Jvm.Cond.instanceMethod ({ cls := "MergeWorkbenchModel", name := "delete", desc := "(II)I" } : Jvm.MethodName)) ∈ jwd := jw_7 (i := 36) rfl rfl
theorem wd_7_37 : (Jvm.Cond.selects "MergeWorkbenchModel" ({ cls := "MergeWorkbenchModel", name := "delete", desc := "(II)I" } : Jvm.MethodName) ({ cls := "MergeWorkbenchModel", name := "delete", desc := "(II)I" } : Jvm.MethodName)) ∈ jwd := jw_7 (i := 37) rfl rfl
theorem wd_7_38 : (Jvm.Cond.code ({ cls := "MergeWorkbenchModel", name := "delete", desc := "(II)I" } : Jvm.MethodName) prog_12_method_13_code (5 : Nat) (Option.some Jvm.ClassFile.FieldType.int)) ∈ jwd := jw_7 (i := 38) rfl rfl
theorem wd_7_39 : (Jvm.Cond.methodLink "MergeWorkbenchLaw" (154 : Nat) ({ cls := "MergeWorkbenchModel", name := "length", desc := "(I)I" } : Jvm.MethodName)) ∈ jwd := jw_7 (i := 39) rfl rfl
theorem wd_7_40 : (Jvm.Cond.instanceMethod ({ cls := "MergeWorkbenchModel", name := "length", desc := "(I)I" } : Jvm.MethodName)) ∈ jwd := jw_7 (i := 40) rfl rfl
theorem wd_7_41 : (Jvm.Cond.selects "MergeWorkbenchModel" ({ cls := "MergeWorkbenchModel", name := "length", desc := "(I)I" } : Jvm.MethodName) ({ cls := "MergeWorkbenchModel", name := "length", desc := "(I)I" } : Jvm.MethodName)) ∈ jwd := jw_7 (i := 41) rfl rfl
theorem wd_7_42 : (Jvm.Cond.code ({ cls := "MergeWorkbenchModel", name := "length", desc := "(I)I" } : Jvm.MethodName) prog_12_method_14_code (2 : Nat) (Option.some Jvm.ClassFile.FieldType.int)) ∈ jwd := jw_7 (i := 42) rfl rfl
theorem wd_7_43 : (Jvm.Cond.methodLink "MergeWorkbenchLaw" (157 : Nat) ({ cls := "MergeWorkbenchModel", name := "line", desc := "(II)I" } : Jvm.MethodName)) ∈ jwd := jw_7 (i := 43) rfl rfl
theorem wd_7_44 : (Jvm.Cond.instanceMethod ({ cls := "MergeWorkbenchModel", name := "line", desc := "(II)I" } : Jvm.MethodName)) ∈ jwd := jw_7 (i := 44) rfl rfl
theorem wd_7_45 : (Jvm.Cond.selects "MergeWorkbenchModel" ({ cls := "MergeWorkbenchModel", name := "line", desc := "(II)I" } : Jvm.MethodName) ({ cls := "MergeWorkbenchModel", name := "line", desc := "(II)I" } : Jvm.MethodName)) ∈ jwd := jw_7 (i := 45) rfl rfl
theorem wd_7_46 : (Jvm.Cond.code ({ cls := "MergeWorkbenchModel", name := "line", desc := "(II)I" } : Jvm.MethodName) prog_12_method_15_code (3 : Nat) (Option.some Jvm.ClassFile.FieldType.int)) ∈ jwd := jw_7 (i := 46) rfl rfl
theorem wd_7_47 : (Jvm.Cond.methodLink "MergeWorkbenchLaw" (160 : Nat) ({ cls := "MergeWorkbenchModel", name := "copy", desc := "(II)I" } : Jvm.MethodName)) ∈ jwd := jw_7 (i := 47) rfl rfl
theorem wd_7_48 : (Jvm.Cond.instanceMethod ({ cls := "MergeWorkbenchModel", name := "copy", desc := "(II)I" } : Jvm.MethodName)) ∈ jwd := jw_7 (i := 48) rfl rfl
theorem wd_7_49 : (Jvm.Cond.selects "MergeWorkbenchModel" ({ cls := "MergeWorkbenchModel", name := "copy", desc := "(II)I" } : Jvm.MethodName) ({ cls := "MergeWorkbenchModel", name := "copy", desc := "(II)I" } : Jvm.MethodName)) ∈ jwd := jw_7 (i := 49) rfl rfl
theorem wd_7_50 : (Jvm.Cond.code ({ cls := "MergeWorkbenchModel", name := "copy", desc := "(II)I" } : Jvm.MethodName) prog_12_method_16_code (4 : Nat) (Option.some Jvm.ClassFile.FieldType.int)) ∈ jwd := jw_7 (i := 50) rfl rfl
theorem wd_7_51 : (Jvm.Cond.methodLink "MergeWorkbenchModel" (141 : Nat) ({ cls := "MergeWorkbenchModel", name := "holds", desc := "(I[II)V" } : Jvm.MethodName)) ∈ jwd := jw_7 (i := 51) rfl rfl
theorem wd_7_53 : (Jvm.Cond.instanceMethod ({ cls := "MergeWorkbenchModel", name := "holds", desc := "(I[II)V" } : Jvm.MethodName)) ∈ jwd := jw_7 (i := 53) rfl rfl
theorem wd_7_54 : (Jvm.Cond.code ({ cls := "MergeWorkbenchModel", name := "holds", desc := "(I[II)V" } : Jvm.MethodName) prog_12_method_10_code (5 : Nat) (Option.none : Option Jvm.ClassFile.FieldType)) ∈ jwd := jw_7 (i := 54) rfl rfl
theorem wd_7_55 : (Jvm.Cond.methodLink "MergeWorkbenchLaw" (163 : Nat) ({ cls := "MergeWorkbenchModel", name := "isSame", desc := "(II)Z" } : Jvm.MethodName)) ∈ jwd := jw_7 (i := 55) rfl rfl
theorem wd_7_56 : (Jvm.Cond.instanceMethod ({ cls := "MergeWorkbenchModel", name := "isSame", desc := "(II)Z" } : Jvm.MethodName)) ∈ jwd := jw_7 (i := 56) rfl rfl
theorem wd_7_57 : (Jvm.Cond.selects "MergeWorkbenchModel" ({ cls := "MergeWorkbenchModel", name := "isSame", desc := "(II)Z" } : Jvm.MethodName) ({ cls := "MergeWorkbenchModel", name := "isSame", desc := "(II)Z" } : Jvm.MethodName)) ∈ jwd := jw_7 (i := 57) rfl rfl
theorem wd_7_58 : (Jvm.Cond.code ({ cls := "MergeWorkbenchModel", name := "isSame", desc := "(II)Z" } : Jvm.MethodName) prog_12_method_17_code (5 : Nat) (Option.some Jvm.ClassFile.FieldType.boolean)) ∈ jwd := jw_7 (i := 58) rfl rfl
theorem wd_7_59 : (Jvm.Cond.methodLink "MergeWorkbenchModel" (145 : Nat) ({ cls := "MergeWorkbenchModel", name := "not", desc := "(I)Z" } : Jvm.MethodName)) ∈ jwd := jw_7 (i := 59) rfl rfl
theorem wd_7_61 : (Jvm.Cond.instanceMethod ({ cls := "MergeWorkbenchModel", name := "not", desc := "(I)Z" } : Jvm.MethodName)) ∈ jwd := jw_7 (i := 61) rfl rfl
theorem wd_7_62 : (Jvm.Cond.code ({ cls := "MergeWorkbenchModel", name := "not", desc := "(I)Z" } : Jvm.MethodName) prog_12_method_6_code (2 : Nat) (Option.some Jvm.ClassFile.FieldType.boolean)) ∈ jwd := jw_7 (i := 62) rfl rfl
theorem wd_7_63 : (Jvm.Cond.methodLink "MergeWorkbenchModel" (148 : Nat) ({ cls := "MergeWorkbenchModel", name := "so", desc := "(Z)Z" } : Jvm.MethodName)) ∈ jwd := jw_7 (i := 63) rfl rfl
theorem wd_7_65 : (Jvm.Cond.instanceMethod ({ cls := "MergeWorkbenchModel", name := "so", desc := "(Z)Z" } : Jvm.MethodName)) ∈ jwd := jw_7 (i := 65) rfl rfl
theorem wd_7_66 : (Jvm.Cond.code ({ cls := "MergeWorkbenchModel", name := "so", desc := "(Z)Z" } : Jvm.MethodName) prog_12_method_7_code (2 : Nat) (Option.some Jvm.ClassFile.FieldType.boolean)) ∈ jwd := jw_7 (i := 66) rfl rfl
theorem wd_7_67 : (Jvm.Cond.methodLink "MergeWorkbenchLaw" (170 : Nat) ({ cls := "MergeWorkbenchModel", name := "feed", desc := "(C)I" } : Jvm.MethodName)) ∈ jwd := jw_7 (i := 67) rfl rfl
theorem wd_7_68 : (Jvm.Cond.instanceMethod ({ cls := "MergeWorkbenchModel", name := "feed", desc := "(C)I" } : Jvm.MethodName)) ∈ jwd := jw_7 (i := 68) rfl rfl
theorem wd_7_69 : (Jvm.Cond.selects "MergeWorkbenchModel" ({ cls := "MergeWorkbenchModel", name := "feed", desc := "(C)I" } : Jvm.MethodName) ({ cls := "MergeWorkbenchModel", name := "feed", desc := "(C)I" } : Jvm.MethodName)) ∈ jwd := jw_7 (i := 69) rfl rfl
theorem wd_7_70 : (Jvm.Cond.code ({ cls := "MergeWorkbenchModel", name := "feed", desc := "(C)I" } : Jvm.MethodName) prog_12_method_22_code (2 : Nat) (Option.some Jvm.ClassFile.FieldType.int)) ∈ jwd := jw_7 (i := 70) rfl rfl
theorem wd_7_71 : (Jvm.Cond.methodLink "MergeWorkbenchLaw" (173 : Nat) ({ cls := "MergeWorkbenchModel", name := "readDocument", desc := "(I)I" } : Jvm.MethodName)) ∈ jwd := jw_7 (i := 71) rfl rfl
theorem wd_7_72 : (Jvm.Cond.instanceMethod ({ cls := "MergeWorkbenchModel", name := "readDocument", desc := "(I)I" } : Jvm.MethodName)) ∈ jwd := jw_7 (i := 72) rfl rfl
theorem wd_7_73 : (Jvm.Cond.selects "MergeWorkbenchModel" ({ cls := "MergeWorkbenchModel", name := "readDocument", desc := "(I)I" } : Jvm.MethodName) ({ cls := "MergeWorkbenchModel", name := "readDocument", desc := "(I)I" } : Jvm.MethodName)) ∈ jwd := jw_7 (i := 73) rfl rfl
theorem wd_7_74 : (Jvm.Cond.code ({ cls := "MergeWorkbenchModel", name := "readDocument", desc := "(I)I" } : Jvm.MethodName) prog_12_method_23_code (3 : Nat) (Option.some Jvm.ClassFile.FieldType.int)) ∈ jwd := jw_7 (i := 74) rfl rfl
theorem wd_7_75 : (Jvm.Cond.methodLink "MergeWorkbenchModel" (171 : Nat) ({ cls := "MergeWorkbenchModel", name := "readsItem", desc := "(LMergeWorkbenchModel;)Z" } : Jvm.MethodName)) ∈ jwd := jw_7 (i := 75) rfl rfl
theorem wd_7_76 : (Jvm.Cond.static ({ cls := "MergeWorkbenchModel", name := "readsItem", desc := "(LMergeWorkbenchModel;)Z" } : Jvm.MethodName)) ∈ jwd := jw_7 (i := 76) rfl rfl
theorem wd_7_77 : (Jvm.Cond.code ({ cls := "MergeWorkbenchModel", name := "readsItem", desc := "(LMergeWorkbenchModel;)Z" } : Jvm.MethodName) prog_12_method_21_code (3 : Nat) (Option.some Jvm.ClassFile.FieldType.boolean)) ∈ jwd := jw_7 (i := 77) rfl rfl
theorem wd_7_78 : (Jvm.Cond.methodLink "MergeWorkbenchModel" (161 : Nat) ({ cls := "MergeWorkbenchModel", name := "here", desc := "()I" } : Jvm.MethodName)) ∈ jwd := jw_7 (i := 78) rfl rfl
theorem wd_7_80 : (Jvm.Cond.instanceMethod ({ cls := "MergeWorkbenchModel", name := "here", desc := "()I" } : Jvm.MethodName)) ∈ jwd := jw_7 (i := 80) rfl rfl
theorem wd_7_81 : (Jvm.Cond.code ({ cls := "MergeWorkbenchModel", name := "here", desc := "()I" } : Jvm.MethodName) prog_12_method_18_code (1 : Nat) (Option.some Jvm.ClassFile.FieldType.int)) ∈ jwd := jw_7 (i := 81) rfl rfl
theorem wd_7_82 : (Jvm.Cond.methodLink "MergeWorkbenchModel" (165 : Nat) ({ cls := "MergeWorkbenchModel", name := "comes", desc := "(I)V" } : Jvm.MethodName)) ∈ jwd := jw_7 (i := 82) rfl rfl
theorem wd_7_84 : (Jvm.Cond.instanceMethod ({ cls := "MergeWorkbenchModel", name := "comes", desc := "(I)V" } : Jvm.MethodName)) ∈ jwd := jw_7 (i := 84) rfl rfl
theorem wd_7_85 : (Jvm.Cond.code ({ cls := "MergeWorkbenchModel", name := "comes", desc := "(I)V" } : Jvm.MethodName) prog_12_method_19_code (2 : Nat) (Option.none : Option Jvm.ClassFile.FieldType)) ∈ jwd := jw_7 (i := 85) rfl rfl
theorem wd_7_86 : (Jvm.Cond.methodLink "MergeWorkbenchModel" (175 : Nat) ({ cls := "MergeWorkbenchModel", name := "repeats", desc := "(I)V" } : Jvm.MethodName)) ∈ jwd := jw_7 (i := 86) rfl rfl
theorem wd_7_88 : (Jvm.Cond.instanceMethod ({ cls := "MergeWorkbenchModel", name := "repeats", desc := "(I)V" } : Jvm.MethodName)) ∈ jwd := jw_7 (i := 88) rfl rfl
theorem wd_7_89 : (Jvm.Cond.code ({ cls := "MergeWorkbenchModel", name := "repeats", desc := "(I)V" } : Jvm.MethodName) prog_12_method_20_code (5 : Nat) (Option.none : Option Jvm.ClassFile.FieldType)) ∈ jwd := jw_7 (i := 89) rfl rfl
theorem wd_7_90 : (Jvm.Cond.methodLink "MergeWorkbenchLaw" (166 : Nat) ({ cls := "MergeWorkbenchModel", name := "distance", desc := "(II)I" } : Jvm.MethodName)) ∈ jwd := jw_7 (i := 90) rfl rfl
theorem wd_7_91 : (Jvm.Cond.instanceMethod ({ cls := "MergeWorkbenchModel", name := "distance", desc := "(II)I" } : Jvm.MethodName)) ∈ jwd := jw_7 (i := 91) rfl rfl
theorem wd_7_92 : (Jvm.Cond.selects "MergeWorkbenchModel" ({ cls := "MergeWorkbenchModel", name := "distance", desc := "(II)I" } : Jvm.MethodName) ({ cls := "MergeWorkbenchModel", name := "distance", desc := "(II)I" } : Jvm.MethodName)) ∈ jwd := jw_7 (i := 92) rfl rfl
theorem wd_7_93 : (Jvm.Cond.code ({ cls := "MergeWorkbenchModel", name := "distance", desc := "(II)I" } : Jvm.MethodName) prog_12_method_32_code (5 : Nat) (Option.some Jvm.ClassFile.FieldType.int)) ∈ jwd := jw_7 (i := 93) rfl rfl
theorem wd_7_94 : (Jvm.Cond.methodLink "MergeWorkbenchModel" (207 : Nat) ({ cls := "MergeWorkbenchModel", name := "takes", desc := "(I[I)I" } : Jvm.MethodName)) ∈ jwd := jw_7 (i := 94) rfl rfl
theorem wd_7_96 : (Jvm.Cond.instanceMethod ({ cls := "MergeWorkbenchModel", name := "takes", desc := "(I[I)I" } : Jvm.MethodName)) ∈ jwd := jw_7 (i := 96) rfl rfl
theorem wd_7_97 : (Jvm.Cond.code ({ cls := "MergeWorkbenchModel", name := "takes", desc := "(I[I)I" } : Jvm.MethodName) prog_12_method_31_code (4 : Nat) (Option.some Jvm.ClassFile.FieldType.int)) ∈ jwd := jw_7 (i := 97) rfl rfl
theorem wd_7_98 : (Jvm.Cond.methodLink "MergeWorkbenchModel" (185 : Nat) ({ cls := "MergeWorkbenchModel", name := "measures", desc := "([I[IIIII)V" } : Jvm.MethodName)) ∈ jwd := jw_7 (i := 98) rfl rfl
theorem wd_7_100 : (Jvm.Cond.instanceMethod ({ cls := "MergeWorkbenchModel", name := "measures", desc := "([I[IIIII)V" } : Jvm.MethodName)) ∈ jwd := jw_7 (i := 100) rfl rfl
theorem wd_7_101 : (Jvm.Cond.code ({ cls := "MergeWorkbenchModel", name := "measures", desc := "([I[IIIII)V" } : Jvm.MethodName) prog_12_method_26_code (10 : Nat) (Option.none : Option Jvm.ClassFile.FieldType)) ∈ jwd := jw_7 (i := 101) rfl rfl
theorem wd_7_102 : (Jvm.Cond.methodLink "MergeWorkbenchModel" (178 : Nat) ({ cls := "MergeWorkbenchModel", name := "longestOf", desc := "(II)I" } : Jvm.MethodName)) ∈ jwd := jw_7 (i := 102) rfl rfl
theorem wd_7_104 : (Jvm.Cond.instanceMethod ({ cls := "MergeWorkbenchModel", name := "longestOf", desc := "(II)I" } : Jvm.MethodName)) ∈ jwd := jw_7 (i := 104) rfl rfl
theorem wd_7_105 : (Jvm.Cond.code ({ cls := "MergeWorkbenchModel", name := "longestOf", desc := "(II)I" } : Jvm.MethodName) prog_12_method_25_code (3 : Nat) (Option.some Jvm.ClassFile.FieldType.int)) ∈ jwd := jw_7 (i := 105) rfl rfl
theorem wd_7_106 : (Jvm.Cond.methodLink "MergeWorkbenchModel" (182 : Nat) ({ cls := "MergeWorkbenchModel", name := "most", desc := "(II)I" } : Jvm.MethodName)) ∈ jwd := jw_7 (i := 106) rfl rfl
theorem wd_7_107 : (Jvm.Cond.static ({ cls := "MergeWorkbenchModel", name := "most", desc := "(II)I" } : Jvm.MethodName)) ∈ jwd := jw_7 (i := 107) rfl rfl
theorem wd_7_108 : (Jvm.Cond.code ({ cls := "MergeWorkbenchModel", name := "most", desc := "(II)I" } : Jvm.MethodName) prog_12_method_24_code (2 : Nat) (Option.some Jvm.ClassFile.FieldType.int)) ∈ jwd := jw_7 (i := 108) rfl rfl
theorem wd_7_109 : (Jvm.Cond.methodLink "MergeWorkbenchLaw" (176 : Nat) ({ cls := "MergeWorkbenchModel", name := "setMode", desc := "(I)I" } : Jvm.MethodName)) ∈ jwd := jw_7 (i := 109) rfl rfl
theorem wd_7_110 : (Jvm.Cond.instanceMethod ({ cls := "MergeWorkbenchModel", name := "setMode", desc := "(I)I" } : Jvm.MethodName)) ∈ jwd := jw_7 (i := 110) rfl rfl
theorem wd_7_111 : (Jvm.Cond.selects "MergeWorkbenchModel" ({ cls := "MergeWorkbenchModel", name := "setMode", desc := "(I)I" } : Jvm.MethodName) ({ cls := "MergeWorkbenchModel", name := "setMode", desc := "(I)I" } : Jvm.MethodName)) ∈ jwd := jw_7 (i := 111) rfl rfl
theorem wd_7_112 : (Jvm.Cond.code ({ cls := "MergeWorkbenchModel", name := "setMode", desc := "(I)I" } : Jvm.MethodName) prog_12_method_33_code (3 : Nat) (Option.some Jvm.ClassFile.FieldType.int)) ∈ jwd := jw_7 (i := 112) rfl rfl
theorem wd_7_113 : (Jvm.Cond.methodLink "MergeWorkbenchLaw" (179 : Nat) ({ cls := "MergeWorkbenchModel", name := "compare", desc := "(II)I" } : Jvm.MethodName)) ∈ jwd := jw_7 (i := 113) rfl rfl
theorem wd_7_114 : (Jvm.Cond.instanceMethod ({ cls := "MergeWorkbenchModel", name := "compare", desc := "(II)I" } : Jvm.MethodName)) ∈ jwd := jw_7 (i := 114) rfl rfl
theorem wd_7_115 : (Jvm.Cond.selects "MergeWorkbenchModel" ({ cls := "MergeWorkbenchModel", name := "compare", desc := "(II)I" } : Jvm.MethodName) ({ cls := "MergeWorkbenchModel", name := "compare", desc := "(II)I" } : Jvm.MethodName)) ∈ jwd := jw_7 (i := 115) rfl rfl
theorem wd_7_116 : (Jvm.Cond.code ({ cls := "MergeWorkbenchModel", name := "compare", desc := "(II)I" } : Jvm.MethodName) prog_12_method_36_code (3 : Nat) (Option.some Jvm.ClassFile.FieldType.int)) ∈ jwd := jw_7 (i := 116) rfl rfl
theorem wd_7_117 : (Jvm.Cond.methodLink "MergeWorkbenchModel" (223 : Nat) ({ cls := "MergeWorkbenchModel", name := "aligns", desc := "([II[II[I)V" } : Jvm.MethodName)) ∈ jwd := jw_7 (i := 117) rfl rfl
theorem wd_7_119 : (Jvm.Cond.instanceMethod ({ cls := "MergeWorkbenchModel", name := "aligns", desc := "([II[II[I)V" } : Jvm.MethodName)) ∈ jwd := jw_7 (i := 119) rfl rfl
theorem wd_7_120 : (Jvm.Cond.code ({ cls := "MergeWorkbenchModel", name := "aligns", desc := "([II[II[I)V" } : Jvm.MethodName) prog_12_method_30_code (10 : Nat) (Option.none : Option Jvm.ClassFile.FieldType)) ∈ jwd := jw_7 (i := 120) rfl rfl
theorem wd_7_121 : (Jvm.Cond.methodLink "MergeWorkbenchModel" (199 : Nat) ({ cls := "MergeWorkbenchModel", name := "tellCandidates", desc := "([II[II)V" } : Jvm.MethodName)) ∈ jwd := jw_7 (i := 121) rfl rfl
theorem wd_7_123 : (Jvm.Cond.instanceMethod ({ cls := "MergeWorkbenchModel", name := "tellCandidates", desc := "([II[II)V" } : Jvm.MethodName)) ∈ jwd := jw_7 (i := 123) rfl rfl
theorem wd_7_124 : (Jvm.Cond.code ({ cls := "MergeWorkbenchModel", name := "tellCandidates", desc := "([II[II)V" } : Jvm.MethodName) prog_12_method_29_code (7 : Nat) (Option.none : Option Jvm.ClassFile.FieldType)) ∈ jwd := jw_7 (i := 124) rfl rfl
theorem wd_7_125 : (Jvm.Cond.methodLink "MergeWorkbenchModel" (189 : Nat) ({ cls := "MergeWorkbenchModel", name := "occurs", desc := "([III)I" } : Jvm.MethodName)) ∈ jwd := jw_7 (i := 125) rfl rfl
theorem wd_7_126 : (Jvm.Cond.static ({ cls := "MergeWorkbenchModel", name := "occurs", desc := "([III)I" } : Jvm.MethodName)) ∈ jwd := jw_7 (i := 126) rfl rfl
theorem wd_7_127 : (Jvm.Cond.code ({ cls := "MergeWorkbenchModel", name := "occurs", desc := "([III)I" } : Jvm.MethodName) prog_12_method_28_code (5 : Nat) (Option.some Jvm.ClassFile.FieldType.int)) ∈ jwd := jw_7 (i := 127) rfl rfl
theorem wd_7_128 : (Jvm.Cond.methodLink "MergeWorkbenchModel" (203 : Nat) ({ cls := "MergeWorkbenchModel", name := "pairs", desc := "([I[IIIII[I)V" } : Jvm.MethodName)) ∈ jwd := jw_7 (i := 128) rfl rfl
theorem wd_7_130 : (Jvm.Cond.instanceMethod ({ cls := "MergeWorkbenchModel", name := "pairs", desc := "([I[IIIII[I)V" } : Jvm.MethodName)) ∈ jwd := jw_7 (i := 130) rfl rfl
theorem wd_7_131 : (Jvm.Cond.code ({ cls := "MergeWorkbenchModel", name := "pairs", desc := "([I[IIIII[I)V" } : Jvm.MethodName) prog_12_method_27_code (12 : Nat) (Option.none : Option Jvm.ClassFile.FieldType)) ∈ jwd := jw_7 (i := 131) rfl rfl
theorem wd_7_132 : (Jvm.Cond.methodLink "MergeWorkbenchModel" (233 : Nat) ({ cls := "MergeWorkbenchModel", name := "tellParts", desc := "()V" } : Jvm.MethodName)) ∈ jwd := jw_7 (i := 132) rfl rfl
theorem wd_7_134 : (Jvm.Cond.instanceMethod ({ cls := "MergeWorkbenchModel", name := "tellParts", desc := "()V" } : Jvm.MethodName)) ∈ jwd := jw_7 (i := 134) rfl rfl
theorem wd_7_135 : (Jvm.Cond.code ({ cls := "MergeWorkbenchModel", name := "tellParts", desc := "()V" } : Jvm.MethodName) prog_12_method_34_code (6 : Nat) (Option.none : Option Jvm.ClassFile.FieldType)) ∈ jwd := jw_7 (i := 135) rfl rfl
theorem wd_7_136 : (Jvm.Cond.methodLink "MergeWorkbenchModel" (236 : Nat) ({ cls := "MergeWorkbenchModel", name := "pairMany", desc := "()I" } : Jvm.MethodName)) ∈ jwd := jw_7 (i := 136) rfl rfl
theorem wd_7_138 : (Jvm.Cond.instanceMethod ({ cls := "MergeWorkbenchModel", name := "pairMany", desc := "()I" } : Jvm.MethodName)) ∈ jwd := jw_7 (i := 138) rfl rfl
theorem wd_7_139 : (Jvm.Cond.code ({ cls := "MergeWorkbenchModel", name := "pairMany", desc := "()I" } : Jvm.MethodName) prog_12_method_35_code (3 : Nat) (Option.some Jvm.ClassFile.FieldType.int)) ∈ jwd := jw_7 (i := 139) rfl rfl
theorem wd_7_140 : (Jvm.Cond.methodLink "MergeWorkbenchLaw" (182 : Nat) ({ cls := "MergeWorkbenchModel", name := "partner", desc := "(I)I" } : Jvm.MethodName)) ∈ jwd := jw_7 (i := 140) rfl rfl
theorem wd_7_141 : (Jvm.Cond.instanceMethod ({ cls := "MergeWorkbenchModel", name := "partner", desc := "(I)I" } : Jvm.MethodName)) ∈ jwd := jw_7 (i := 141) rfl rfl
theorem wd_7_142 : (Jvm.Cond.selects "MergeWorkbenchModel" ({ cls := "MergeWorkbenchModel", name := "partner", desc := "(I)I" } : Jvm.MethodName) ({ cls := "MergeWorkbenchModel", name := "partner", desc := "(I)I" } : Jvm.MethodName)) ∈ jwd := jw_7 (i := 142) rfl rfl
theorem wd_7_143 : (Jvm.Cond.code ({ cls := "MergeWorkbenchModel", name := "partner", desc := "(I)I" } : Jvm.MethodName) prog_12_method_37_code (2 : Nat) (Option.some Jvm.ClassFile.FieldType.int)) ∈ jwd := jw_7 (i := 143) rfl rfl
theorem wd_7_144 : (Jvm.Cond.methodLink "MergeWorkbenchLaw" (186 : Nat) ({ cls := "MergeWorkbenchModel", name := "anchors", desc := "()I" } : Jvm.MethodName)) ∈ jwd := jw_7 (i := 144) rfl rfl
theorem wd_7_145 : (Jvm.Cond.instanceMethod ({ cls := "MergeWorkbenchModel", name := "anchors", desc := "()I" } : Jvm.MethodName)) ∈ jwd := jw_7 (i := 145) rfl rfl
theorem wd_7_146 : (Jvm.Cond.selects "MergeWorkbenchModel" ({ cls := "MergeWorkbenchModel", name := "anchors", desc := "()I" } : Jvm.MethodName) ({ cls := "MergeWorkbenchModel", name := "anchors", desc := "()I" } : Jvm.MethodName)) ∈ jwd := jw_7 (i := 146) rfl rfl
theorem wd_7_147 : (Jvm.Cond.code ({ cls := "MergeWorkbenchModel", name := "anchors", desc := "()I" } : Jvm.MethodName) prog_12_method_38_code (1 : Nat) (Option.some Jvm.ClassFile.FieldType.int)) ∈ jwd := jw_7 (i := 147) rfl rfl
theorem wd_7_148 : (Jvm.Cond.methodLink "MergeWorkbenchLaw" (189 : Nat) ({ cls := "MergeWorkbenchModel", name := "differences", desc := "()I" } : Jvm.MethodName)) ∈ jwd := jw_7 (i := 148) rfl rfl
theorem wd_7_149 : (Jvm.Cond.instanceMethod ({ cls := "MergeWorkbenchModel", name := "differences", desc := "()I" } : Jvm.MethodName)) ∈ jwd := jw_7 (i := 149) rfl rfl
theorem wd_7_150 : (Jvm.Cond.selects "MergeWorkbenchModel" ({ cls := "MergeWorkbenchModel", name := "differences", desc := "()I" } : Jvm.MethodName) ({ cls := "MergeWorkbenchModel", name := "differences", desc := "()I" } : Jvm.MethodName)) ∈ jwd := jw_7 (i := 150) rfl rfl
theorem wd_7_151 : (Jvm.Cond.code ({ cls := "MergeWorkbenchModel", name := "differences", desc := "()I" } : Jvm.MethodName) prog_12_method_39_code (1 : Nat) (Option.some Jvm.ClassFile.FieldType.int)) ∈ jwd := jw_7 (i := 151) rfl rfl
theorem wd_7_152 : (Jvm.Cond.methodLink "MergeWorkbenchLaw" (192 : Nat) ({ cls := "MergeWorkbenchModel", name := "difference", desc := "(II)I" } : Jvm.MethodName)) ∈ jwd := jw_7 (i := 152) rfl rfl
theorem wd_7_153 : (Jvm.Cond.instanceMethod ({ cls := "MergeWorkbenchModel", name := "difference", desc := "(II)I" } : Jvm.MethodName)) ∈ jwd := jw_7 (i := 153) rfl rfl
theorem wd_7_154 : (Jvm.Cond.selects "MergeWorkbenchModel" ({ cls := "MergeWorkbenchModel", name := "difference", desc := "(II)I" } : Jvm.MethodName) ({ cls := "MergeWorkbenchModel", name := "difference", desc := "(II)I" } : Jvm.MethodName)) ∈ jwd := jw_7 (i := 154) rfl rfl
theorem wd_7_155 : (Jvm.Cond.code ({ cls := "MergeWorkbenchModel", name := "difference", desc := "(II)I" } : Jvm.MethodName) prog_12_method_40_code (3 : Nat) (Option.some Jvm.ClassFile.FieldType.int)) ∈ jwd := jw_7 (i := 155) rfl rfl
theorem wd_7_156 : (Jvm.Cond.methodLink "MergeWorkbenchLaw" (195 : Nat) ({ cls := "MergeWorkbenchModel", name := "step", desc := "(I)I" } : Jvm.MethodName)) ∈ jwd := jw_7 (i := 156) rfl rfl
theorem wd_7_157 : (Jvm.Cond.instanceMethod ({ cls := "MergeWorkbenchModel", name := "step", desc := "(I)I" } : Jvm.MethodName)) ∈ jwd := jw_7 (i := 157) rfl rfl
theorem wd_7_158 : (Jvm.Cond.selects "MergeWorkbenchModel" ({ cls := "MergeWorkbenchModel", name := "step", desc := "(I)I" } : Jvm.MethodName) ({ cls := "MergeWorkbenchModel", name := "step", desc := "(I)I" } : Jvm.MethodName)) ∈ jwd := jw_7 (i := 158) rfl rfl
theorem wd_7_159 : (Jvm.Cond.code ({ cls := "MergeWorkbenchModel", name := "step", desc := "(I)I" } : Jvm.MethodName) prog_12_method_41_code (8 : Nat) (Option.some Jvm.ClassFile.FieldType.int)) ∈ jwd := jw_7 (i := 159) rfl rfl
theorem wd_7_160 : (Jvm.Cond.methodLink "MergeWorkbenchLaw" (199 : Nat) ({ cls := "MergeWorkbenchModel", name := "similarity", desc := "()D" } : Jvm.MethodName)) ∈ jwd := jw_7 (i := 160) rfl rfl
theorem wd_7_161 : (Jvm.Cond.instanceMethod ({ cls := "MergeWorkbenchModel", name := "similarity", desc := "()D" } : Jvm.MethodName)) ∈ jwd := jw_7 (i := 161) rfl rfl
theorem wd_7_162 : (Jvm.Cond.selects "MergeWorkbenchModel" ({ cls := "MergeWorkbenchModel", name := "similarity", desc := "()D" } : Jvm.MethodName) ({ cls := "MergeWorkbenchModel", name := "similarity", desc := "()D" } : Jvm.MethodName)) ∈ jwd := jw_7 (i := 162) rfl rfl
theorem wd_7_163 : (Jvm.Cond.code ({ cls := "MergeWorkbenchModel", name := "similarity", desc := "()D" } : Jvm.MethodName) prog_12_method_42_code (1 : Nat) (Option.some Jvm.ClassFile.FieldType.double)) ∈ jwd := jw_7 (i := 163) rfl rfl
theorem wd_7_164 : (Jvm.Cond.methodLink "MergeWorkbenchLaw" (202 : Nat) ({ cls := "MergeWorkbenchModel", name := "findMoves", desc := "(I)I" } : Jvm.MethodName)) ∈ jwd := jw_7 (i := 164) rfl rfl
theorem wd_7_165 : (Jvm.Cond.instanceMethod ({ cls := "MergeWorkbenchModel", name := "findMoves", desc := "(I)I" } : Jvm.MethodName)) ∈ jwd := jw_7 (i := 165) rfl rfl
theorem wd_7_166 : (Jvm.Cond.selects "MergeWorkbenchModel" ({ cls := "MergeWorkbenchModel", name := "findMoves", desc := "(I)I" } : Jvm.MethodName) ({ cls := "MergeWorkbenchModel", name := "findMoves", desc := "(I)I" } : Jvm.MethodName)) ∈ jwd := jw_7 (i := 166) rfl rfl
theorem wd_7_167 : (Jvm.Cond.code ({ cls := "MergeWorkbenchModel", name := "findMoves", desc := "(I)I" } : Jvm.MethodName) prog_12_method_45_code (8 : Nat) (Option.some Jvm.ClassFile.FieldType.int)) ∈ jwd := jw_7 (i := 167) rfl rfl
theorem wd_7_168 : (Jvm.Cond.methodLink "MergeWorkbenchModel" (239 : Nat) ({ cls := "MergeWorkbenchModel", name := "marks", desc := "(III)V" } : Jvm.MethodName)) ∈ jwd := jw_7 (i := 168) rfl rfl
theorem wd_7_170 : (Jvm.Cond.instanceMethod ({ cls := "MergeWorkbenchModel", name := "marks", desc := "(III)V" } : Jvm.MethodName)) ∈ jwd := jw_7 (i := 170) rfl rfl
theorem wd_7_171 : (Jvm.Cond.code ({ cls := "MergeWorkbenchModel", name := "marks", desc := "(III)V" } : Jvm.MethodName) prog_12_method_44_code (5 : Nat) (Option.none : Option Jvm.ClassFile.FieldType)) ∈ jwd := jw_7 (i := 171) rfl rfl
theorem wd_7_172 : (Jvm.Cond.methodLink "MergeWorkbenchModel" (243 : Nat) ({ cls := "MergeWorkbenchModel", name := "lengthFrom", desc := "(II)I" } : Jvm.MethodName)) ∈ jwd := jw_7 (i := 172) rfl rfl
theorem wd_7_174 : (Jvm.Cond.instanceMethod ({ cls := "MergeWorkbenchModel", name := "lengthFrom", desc := "(II)I" } : Jvm.MethodName)) ∈ jwd := jw_7 (i := 174) rfl rfl
theorem wd_7_175 : (Jvm.Cond.code ({ cls := "MergeWorkbenchModel", name := "lengthFrom", desc := "(II)I" } : Jvm.MethodName) prog_12_method_43_code (4 : Nat) (Option.some Jvm.ClassFile.FieldType.int)) ∈ jwd := jw_7 (i := 175) rfl rfl
theorem wd_7_176 : (Jvm.Cond.methodLink "MergeWorkbenchLaw" (205 : Nat) ({ cls := "MergeWorkbenchModel", name := "move", desc := "(II)I" } : Jvm.MethodName)) ∈ jwd := jw_7 (i := 176) rfl rfl
theorem wd_7_177 : (Jvm.Cond.instanceMethod ({ cls := "MergeWorkbenchModel", name := "move", desc := "(II)I" } : Jvm.MethodName)) ∈ jwd := jw_7 (i := 177) rfl rfl
theorem wd_7_178 : (Jvm.Cond.selects "MergeWorkbenchModel" ({ cls := "MergeWorkbenchModel", name := "move", desc := "(II)I" } : Jvm.MethodName) ({ cls := "MergeWorkbenchModel", name := "move", desc := "(II)I" } : Jvm.MethodName)) ∈ jwd := jw_7 (i := 178) rfl rfl
theorem wd_7_179 : (Jvm.Cond.code ({ cls := "MergeWorkbenchModel", name := "move", desc := "(II)I" } : Jvm.MethodName) prog_12_method_46_code (3 : Nat) (Option.some Jvm.ClassFile.FieldType.int)) ∈ jwd := jw_7 (i := 179) rfl rfl
theorem wd_7_180 : (Jvm.Cond.methodLink "MergeWorkbenchLaw" (210 : Nat) ({ cls := "MergeWorkbenchModel", name := "setShrinking", desc := "(Z)Z" } : Jvm.MethodName)) ∈ jwd := jw_7 (i := 180) rfl rfl
theorem wd_7_181 : (Jvm.Cond.instanceMethod ({ cls := "MergeWorkbenchModel", name := "setShrinking", desc := "(Z)Z" } : Jvm.MethodName)) ∈ jwd := jw_7 (i := 181) rfl rfl
theorem wd_7_182 : (Jvm.Cond.selects "MergeWorkbenchModel" ({ cls := "MergeWorkbenchModel", name := "setShrinking", desc := "(Z)Z" } : Jvm.MethodName) ({ cls := "MergeWorkbenchModel", name := "setShrinking", desc := "(Z)Z" } : Jvm.MethodName)) ∈ jwd := jw_7 (i := 182) rfl rfl
theorem wd_7_183 : (Jvm.Cond.code ({ cls := "MergeWorkbenchModel", name := "setShrinking", desc := "(Z)Z" } : Jvm.MethodName) prog_12_method_47_code (3 : Nat) (Option.some Jvm.ClassFile.FieldType.boolean)) ∈ jwd := jw_7 (i := 183) rfl rfl
theorem wd_7_184 : (Jvm.Cond.methodLink "MergeWorkbenchLaw" (213 : Nat) ({ cls := "MergeWorkbenchModel", name := "merge", desc := "(III)I" } : Jvm.MethodName)) ∈ jwd := jw_7 (i := 184) rfl rfl
theorem wd_7_185 : (Jvm.Cond.instanceMethod ({ cls := "MergeWorkbenchModel", name := "merge", desc := "(III)I" } : Jvm.MethodName)) ∈ jwd := jw_7 (i := 185) rfl rfl
theorem wd_7_186 : (Jvm.Cond.selects "MergeWorkbenchModel" ({ cls := "MergeWorkbenchModel", name := "merge", desc := "(III)I" } : Jvm.MethodName) ({ cls := "MergeWorkbenchModel", name := "merge", desc := "(III)I" } : Jvm.MethodName)) ∈ jwd := jw_7 (i := 186) rfl rfl
theorem wd_7_187 : (Jvm.Cond.code ({ cls := "MergeWorkbenchModel", name := "merge", desc := "(III)I" } : Jvm.MethodName) prog_12_method_52_code (13 : Nat) (Option.some Jvm.ClassFile.FieldType.int)) ∈ jwd := jw_7 (i := 187) rfl rfl
theorem wd_7_188 : (Jvm.Cond.methodLink "MergeWorkbenchModel" (276 : Nat) ({ cls := "MergeWorkbenchModel", name := "regionComes", desc := "(IIIIII)V" } : Jvm.MethodName)) ∈ jwd := jw_7 (i := 188) rfl rfl
theorem wd_7_190 : (Jvm.Cond.instanceMethod ({ cls := "MergeWorkbenchModel", name := "regionComes", desc := "(IIIIII)V" } : Jvm.MethodName)) ∈ jwd := jw_7 (i := 190) rfl rfl
theorem wd_7_191 : (Jvm.Cond.code ({ cls := "MergeWorkbenchModel", name := "regionComes", desc := "(IIIIII)V" } : Jvm.MethodName) prog_12_method_51_code (7 : Nat) (Option.none : Option Jvm.ClassFile.FieldType)) ∈ jwd := jw_7 (i := 191) rfl rfl
theorem wd_7_192 : (Jvm.Cond.methodLink "MergeWorkbenchModel" (256 : Nat) ({ cls := "MergeWorkbenchModel", name := "alike", desc := "([III[III)Z" } : Jvm.MethodName)) ∈ jwd := jw_7 (i := 192) rfl rfl
theorem wd_7_193 : (Jvm.Cond.static ({ cls := "MergeWorkbenchModel", name := "alike", desc := "([III[III)Z" } : Jvm.MethodName)) ∈ jwd := jw_7 (i := 193) rfl rfl
theorem wd_7_194 : (Jvm.Cond.code ({ cls := "MergeWorkbenchModel", name := "alike", desc := "([III[III)Z" } : Jvm.MethodName) prog_12_method_48_code (8 : Nat) (Option.some Jvm.ClassFile.FieldType.boolean)) ∈ jwd := jw_7 (i := 194) rfl rfl
theorem wd_7_195 : (Jvm.Cond.methodLink "MergeWorkbenchModel" (252 : Nat) ({ cls := "MergeWorkbenchModel", name := "chunkComes", desc := "(IIIIIII)V" } : Jvm.MethodName)) ∈ jwd := jw_7 (i := 195) rfl rfl
theorem wd_7_197 : (Jvm.Cond.instanceMethod ({ cls := "MergeWorkbenchModel", name := "chunkComes", desc := "(IIIIIII)V" } : Jvm.MethodName)) ∈ jwd := jw_7 (i := 197) rfl rfl
theorem wd_7_198 : (Jvm.Cond.code ({ cls := "MergeWorkbenchModel", name := "chunkComes", desc := "(IIIIIII)V" } : Jvm.MethodName) prog_12_method_49_code (9 : Nat) (Option.none : Option Jvm.ClassFile.FieldType)) ∈ jwd := jw_7 (i := 198) rfl rfl
theorem wd_7_199 : (Jvm.Cond.methodLink "MergeWorkbenchModel" (260 : Nat) ({ cls := "MergeWorkbenchModel", name := "conflictComes", desc := "(IIIIII)V" } : Jvm.MethodName)) ∈ jwd := jw_7 (i := 199) rfl rfl
theorem wd_7_201 : (Jvm.Cond.instanceMethod ({ cls := "MergeWorkbenchModel", name := "conflictComes", desc := "(IIIIII)V" } : Jvm.MethodName)) ∈ jwd := jw_7 (i := 201) rfl rfl
theorem wd_7_202 : (Jvm.Cond.code ({ cls := "MergeWorkbenchModel", name := "conflictComes", desc := "(IIIIII)V" } : Jvm.MethodName) prog_12_method_50_code (9 : Nat) (Option.none : Option Jvm.ClassFile.FieldType)) ∈ jwd := jw_7 (i := 202) rfl rfl
theorem wd_7_203 : (Jvm.Cond.methodLink "MergeWorkbenchLaw" (216 : Nat) ({ cls := "MergeWorkbenchModel", name := "chunks", desc := "()I" } : Jvm.MethodName)) ∈ jwd := jw_7 (i := 203) rfl rfl
theorem wd_7_204 : (Jvm.Cond.instanceMethod ({ cls := "MergeWorkbenchModel", name := "chunks", desc := "()I" } : Jvm.MethodName)) ∈ jwd := jw_7 (i := 204) rfl rfl
theorem wd_7_205 : (Jvm.Cond.selects "MergeWorkbenchModel" ({ cls := "MergeWorkbenchModel", name := "chunks", desc := "()I" } : Jvm.MethodName) ({ cls := "MergeWorkbenchModel", name := "chunks", desc := "()I" } : Jvm.MethodName)) ∈ jwd := jw_7 (i := 205) rfl rfl
theorem wd_7_206 : (Jvm.Cond.code ({ cls := "MergeWorkbenchModel", name := "chunks", desc := "()I" } : Jvm.MethodName) prog_12_method_53_code (1 : Nat) (Option.some Jvm.ClassFile.FieldType.int)) ∈ jwd := jw_7 (i := 206) rfl rfl
theorem wd_7_207 : (Jvm.Cond.methodLink "MergeWorkbenchLaw" (219 : Nat) ({ cls := "MergeWorkbenchModel", name := "chunk", desc := "(II)I" } : Jvm.MethodName)) ∈ jwd := jw_7 (i := 207) rfl rfl
theorem wd_7_208 : (Jvm.Cond.instanceMethod ({ cls := "MergeWorkbenchModel", name := "chunk", desc := "(II)I" } : Jvm.MethodName)) ∈ jwd := jw_7 (i := 208) rfl rfl
theorem wd_7_209 : (Jvm.Cond.selects "MergeWorkbenchModel" ({ cls := "MergeWorkbenchModel", name := "chunk", desc := "(II)I" } : Jvm.MethodName) ({ cls := "MergeWorkbenchModel", name := "chunk", desc := "(II)I" } : Jvm.MethodName)) ∈ jwd := jw_7 (i := 209) rfl rfl
theorem wd_7_210 : (Jvm.Cond.code ({ cls := "MergeWorkbenchModel", name := "chunk", desc := "(II)I" } : Jvm.MethodName) prog_12_method_54_code (3 : Nat) (Option.some Jvm.ClassFile.FieldType.int)) ∈ jwd := jw_7 (i := 210) rfl rfl
theorem wd_7_211 : (Jvm.Cond.methodLink "MergeWorkbenchLaw" (222 : Nat) ({ cls := "MergeWorkbenchModel", name := "resolve", desc := "(II)I" } : Jvm.MethodName)) ∈ jwd := jw_7 (i := 211) rfl rfl
theorem wd_7_212 : (Jvm.Cond.instanceMethod ({ cls := "MergeWorkbenchModel", name := "resolve", desc := "(II)I" } : Jvm.MethodName)) ∈ jwd := jw_7 (i := 212) rfl rfl
theorem wd_7_213 : (Jvm.Cond.selects "MergeWorkbenchModel" ({ cls := "MergeWorkbenchModel", name := "resolve", desc := "(II)I" } : Jvm.MethodName) ({ cls := "MergeWorkbenchModel", name := "resolve", desc := "(II)I" } : Jvm.MethodName)) ∈ jwd := jw_7 (i := 213) rfl rfl
theorem wd_7_214 : (Jvm.Cond.code ({ cls := "MergeWorkbenchModel", name := "resolve", desc := "(II)I" } : Jvm.MethodName) prog_12_method_59_code (5 : Nat) (Option.some Jvm.ClassFile.FieldType.int)) ∈ jwd := jw_7 (i := 214) rfl rfl
theorem wd_7_215 : (Jvm.Cond.methodLink "MergeWorkbenchModel" (286 : Nat) ({ cls := "MergeWorkbenchModel", name := "resolvedOut", desc := "(II)V" } : Jvm.MethodName)) ∈ jwd := jw_7 (i := 215) rfl rfl
theorem wd_7_217 : (Jvm.Cond.instanceMethod ({ cls := "MergeWorkbenchModel", name := "resolvedOut", desc := "(II)V" } : Jvm.MethodName)) ∈ jwd := jw_7 (i := 217) rfl rfl
theorem wd_7_218 : (Jvm.Cond.code ({ cls := "MergeWorkbenchModel", name := "resolvedOut", desc := "(II)V" } : Jvm.MethodName) prog_12_method_57_code (3 : Nat) (Option.none : Option Jvm.ClassFile.FieldType)) ∈ jwd := jw_7 (i := 218) rfl rfl
theorem wd_7_219 : (Jvm.Cond.methodLink "MergeWorkbenchModel" (279 : Nat) ({ cls := "MergeWorkbenchModel", name := "mark", desc := "(I)V" } : Jvm.MethodName)) ∈ jwd := jw_7 (i := 219) rfl rfl
theorem wd_7_221 : (Jvm.Cond.instanceMethod ({ cls := "MergeWorkbenchModel", name := "mark", desc := "(I)V" } : Jvm.MethodName)) ∈ jwd := jw_7 (i := 221) rfl rfl
theorem wd_7_222 : (Jvm.Cond.code ({ cls := "MergeWorkbenchModel", name := "mark", desc := "(I)V" } : Jvm.MethodName) prog_12_method_56_code (2 : Nat) (Option.none : Option Jvm.ClassFile.FieldType)) ∈ jwd := jw_7 (i := 222) rfl rfl
theorem wd_7_223 : (Jvm.Cond.methodLink "MergeWorkbenchModel" (282 : Nat) ({ cls := "MergeWorkbenchModel", name := "goesOut", desc := "([III)V" } : Jvm.MethodName)) ∈ jwd := jw_7 (i := 223) rfl rfl
theorem wd_7_225 : (Jvm.Cond.instanceMethod ({ cls := "MergeWorkbenchModel", name := "goesOut", desc := "([III)V" } : Jvm.MethodName)) ∈ jwd := jw_7 (i := 225) rfl rfl
theorem wd_7_226 : (Jvm.Cond.code ({ cls := "MergeWorkbenchModel", name := "goesOut", desc := "([III)V" } : Jvm.MethodName) prog_12_method_55_code (5 : Nat) (Option.none : Option Jvm.ClassFile.FieldType)) ∈ jwd := jw_7 (i := 226) rfl rfl
theorem wd_7_227 : (Jvm.Cond.methodLink "MergeWorkbenchLaw" (225 : Nat) ({ cls := "MergeWorkbenchModel", name := "unresolved", desc := "()I" } : Jvm.MethodName)) ∈ jwd := jw_7 (i := 227) rfl rfl
theorem wd_7_228 : (Jvm.Cond.instanceMethod ({ cls := "MergeWorkbenchModel", name := "unresolved", desc := "()I" } : Jvm.MethodName)) ∈ jwd := jw_7 (i := 228) rfl rfl
theorem wd_7_229 : (Jvm.Cond.selects "MergeWorkbenchModel" ({ cls := "MergeWorkbenchModel", name := "unresolved", desc := "()I" } : Jvm.MethodName) ({ cls := "MergeWorkbenchModel", name := "unresolved", desc := "()I" } : Jvm.MethodName)) ∈ jwd := jw_7 (i := 229) rfl rfl
theorem wd_7_230 : (Jvm.Cond.code ({ cls := "MergeWorkbenchModel", name := "unresolved", desc := "()I" } : Jvm.MethodName) prog_12_method_61_code (1 : Nat) (Option.some Jvm.ClassFile.FieldType.int)) ∈ jwd := jw_7 (i := 230) rfl rfl
theorem wd_7_231 : (Jvm.Cond.methodLink "MergeWorkbenchModel" (290 : Nat) ({ cls := "MergeWorkbenchModel", name := "openConflicts", desc := "()I" } : Jvm.MethodName)) ∈ jwd := jw_7 (i := 231) rfl rfl
theorem wd_7_233 : (Jvm.Cond.instanceMethod ({ cls := "MergeWorkbenchModel", name := "openConflicts", desc := "()I" } : Jvm.MethodName)) ∈ jwd := jw_7 (i := 233) rfl rfl
theorem wd_7_234 : (Jvm.Cond.code ({ cls := "MergeWorkbenchModel", name := "openConflicts", desc := "()I" } : Jvm.MethodName) prog_12_method_60_code (3 : Nat) (Option.some Jvm.ClassFile.FieldType.int)) ∈ jwd := jw_7 (i := 234) rfl rfl
theorem wd_7_235 : (Jvm.Cond.methodLink "MergeWorkbenchLaw" (228 : Nat) ({ cls := "MergeWorkbenchModel", name := "mergedLength", desc := "()I" } : Jvm.MethodName)) ∈ jwd := jw_7 (i := 235) rfl rfl
theorem wd_7_236 : (Jvm.Cond.instanceMethod ({ cls := "MergeWorkbenchModel", name := "mergedLength", desc := "()I" } : Jvm.MethodName)) ∈ jwd := jw_7 (i := 236) rfl rfl
theorem wd_7_237 : (Jvm.Cond.selects "MergeWorkbenchModel" ({ cls := "MergeWorkbenchModel", name := "mergedLength", desc := "()I" } : Jvm.MethodName) ({ cls := "MergeWorkbenchModel", name := "mergedLength", desc := "()I" } : Jvm.MethodName)) ∈ jwd := jw_7 (i := 237) rfl rfl
theorem wd_7_238 : (Jvm.Cond.code ({ cls := "MergeWorkbenchModel", name := "mergedLength", desc := "()I" } : Jvm.MethodName) prog_12_method_62_code (1 : Nat) (Option.some Jvm.ClassFile.FieldType.int)) ∈ jwd := jw_7 (i := 238) rfl rfl
theorem wd_7_239 : (Jvm.Cond.methodLink "MergeWorkbenchModel" (293 : Nat) ({ cls := "MergeWorkbenchModel", name := "tellMerged", desc := "()V" } : Jvm.MethodName)) ∈ jwd := jw_7 (i := 239) rfl rfl
theorem wd_8_1 : (Jvm.Cond.instanceMethod ({ cls := "MergeWorkbenchModel", name := "tellMerged", desc := "()V" } : Jvm.MethodName)) ∈ jwd := jw_8 (i := 1) rfl rfl
theorem wd_8_2 : (Jvm.Cond.code ({ cls := "MergeWorkbenchModel", name := "tellMerged", desc := "()V" } : Jvm.MethodName) prog_12_method_58_code (4 : Nat) (Option.none : Option Jvm.ClassFile.FieldType)) ∈ jwd := jw_8 (i := 2) rfl rfl
theorem wd_8_3 : (Jvm.Cond.methodLink "MergeWorkbenchLaw" (231 : Nat) ({ cls := "MergeWorkbenchModel", name := "merged", desc := "(I)I" } : Jvm.MethodName)) ∈ jwd := jw_8 (i := 3) rfl rfl
theorem wd_8_4 : (Jvm.Cond.instanceMethod ({ cls := "MergeWorkbenchModel", name := "merged", desc := "(I)I" } : Jvm.MethodName)) ∈ jwd := jw_8 (i := 4) rfl rfl
theorem wd_8_5 : (Jvm.Cond.selects "MergeWorkbenchModel" ({ cls := "MergeWorkbenchModel", name := "merged", desc := "(I)I" } : Jvm.MethodName) ({ cls := "MergeWorkbenchModel", name := "merged", desc := "(I)I" } : Jvm.MethodName)) ∈ jwd := jw_8 (i := 5) rfl rfl
theorem wd_8_6 : (Jvm.Cond.code ({ cls := "MergeWorkbenchModel", name := "merged", desc := "(I)I" } : Jvm.MethodName) prog_12_method_63_code (2 : Nat) (Option.some Jvm.ClassFile.FieldType.int)) ∈ jwd := jw_8 (i := 6) rfl rfl
theorem wd_8_7 : (Jvm.Cond.methodLink "MergeWorkbenchLaw" (234 : Nat) ({ cls := "MergeWorkbenchModel", name := "accept", desc := "(I)I" } : Jvm.MethodName)) ∈ jwd := jw_8 (i := 7) rfl rfl
theorem wd_8_8 : (Jvm.Cond.instanceMethod ({ cls := "MergeWorkbenchModel", name := "accept", desc := "(I)I" } : Jvm.MethodName)) ∈ jwd := jw_8 (i := 8) rfl rfl
theorem wd_8_9 : (Jvm.Cond.selects "MergeWorkbenchModel" ({ cls := "MergeWorkbenchModel", name := "accept", desc := "(I)I" } : Jvm.MethodName) ({ cls := "MergeWorkbenchModel", name := "accept", desc := "(I)I" } : Jvm.MethodName)) ∈ jwd := jw_8 (i := 9) rfl rfl
theorem wd_8_10 : (Jvm.Cond.code ({ cls := "MergeWorkbenchModel", name := "accept", desc := "(I)I" } : Jvm.MethodName) prog_12_method_64_code (2 : Nat) (Option.some Jvm.ClassFile.FieldType.int)) ∈ jwd := jw_8 (i := 10) rfl rfl
theorem wd_8_11 : (Jvm.Cond.methodLink "MergeWorkbenchLaw" (237 : Nat) ({ cls := "MergeWorkbenchModel", name := "makePatch", desc := "(I)I" } : Jvm.MethodName)) ∈ jwd := jw_8 (i := 11) rfl rfl
theorem wd_8_12 : (Jvm.Cond.instanceMethod ({ cls := "MergeWorkbenchModel", name := "makePatch", desc := "(I)I" } : Jvm.MethodName)) ∈ jwd := jw_8 (i := 12) rfl rfl
theorem wd_8_13 : (Jvm.Cond.selects "MergeWorkbenchModel" ({ cls := "MergeWorkbenchModel", name := "makePatch", desc := "(I)I" } : Jvm.MethodName) ({ cls := "MergeWorkbenchModel", name := "makePatch", desc := "(I)I" } : Jvm.MethodName)) ∈ jwd := jw_8 (i := 13) rfl rfl
theorem wd_8_14 : (Jvm.Cond.code ({ cls := "MergeWorkbenchModel", name := "makePatch", desc := "(I)I" } : Jvm.MethodName) prog_12_method_66_code (7 : Nat) (Option.some Jvm.ClassFile.FieldType.int)) ∈ jwd := jw_8 (i := 14) rfl rfl
theorem wd_8_15 : (Jvm.Cond.methodLink "MergeWorkbenchModel" (305 : Nat) ({ cls := "MergeWorkbenchModel", name := "least", desc := "(II)I" } : Jvm.MethodName)) ∈ jwd := jw_8 (i := 15) rfl rfl
theorem wd_8_16 : (Jvm.Cond.static ({ cls := "MergeWorkbenchModel", name := "least", desc := "(II)I" } : Jvm.MethodName)) ∈ jwd := jw_8 (i := 16) rfl rfl
theorem wd_8_17 : (Jvm.Cond.code ({ cls := "MergeWorkbenchModel", name := "least", desc := "(II)I" } : Jvm.MethodName) prog_12_method_65_code (2 : Nat) (Option.some Jvm.ClassFile.FieldType.int)) ∈ jwd := jw_8 (i := 17) rfl rfl
theorem wd_8_18 : (Jvm.Cond.methodLink "MergeWorkbenchLaw" (240 : Nat) ({ cls := "MergeWorkbenchModel", name := "hunk", desc := "(II)I" } : Jvm.MethodName)) ∈ jwd := jw_8 (i := 18) rfl rfl
theorem wd_8_19 : (Jvm.Cond.instanceMethod ({ cls := "MergeWorkbenchModel", name := "hunk", desc := "(II)I" } : Jvm.MethodName)) ∈ jwd := jw_8 (i := 19) rfl rfl
theorem wd_8_20 : (Jvm.Cond.selects "MergeWorkbenchModel" ({ cls := "MergeWorkbenchModel", name := "hunk", desc := "(II)I" } : Jvm.MethodName) ({ cls := "MergeWorkbenchModel", name := "hunk", desc := "(II)I" } : Jvm.MethodName)) ∈ jwd := jw_8 (i := 20) rfl rfl
theorem wd_8_21 : (Jvm.Cond.code ({ cls := "MergeWorkbenchModel", name := "hunk", desc := "(II)I" } : Jvm.MethodName) prog_12_method_67_code (3 : Nat) (Option.some Jvm.ClassFile.FieldType.int)) ∈ jwd := jw_8 (i := 21) rfl rfl
theorem wd_8_22 : (Jvm.Cond.methodLink "MergeWorkbenchLaw" (244 : Nat) ({ cls := "MergeWorkbenchModel", name := "apply", desc := "(IIZ)I" } : Jvm.MethodName)) ∈ jwd := jw_8 (i := 22) rfl rfl
theorem wd_8_23 : (Jvm.Cond.instanceMethod ({ cls := "MergeWorkbenchModel", name := "apply", desc := "(IIZ)I" } : Jvm.MethodName)) ∈ jwd := jw_8 (i := 23) rfl rfl
theorem wd_8_24 : (Jvm.Cond.selects "MergeWorkbenchModel" ({ cls := "MergeWorkbenchModel", name := "apply", desc := "(IIZ)I" } : Jvm.MethodName) ({ cls := "MergeWorkbenchModel", name := "apply", desc := "(IIZ)I" } : Jvm.MethodName)) ∈ jwd := jw_8 (i := 24) rfl rfl
theorem wd_8_25 : (Jvm.Cond.code ({ cls := "MergeWorkbenchModel", name := "apply", desc := "(IIZ)I" } : Jvm.MethodName) prog_12_method_71_code (8 : Nat) (Option.some Jvm.ClassFile.FieldType.int)) ∈ jwd := jw_8 (i := 25) rfl rfl
theorem wd_8_26 : (Jvm.Cond.methodLink "MergeWorkbenchModel" (321 : Nat) ({ cls := "MergeWorkbenchModel", name := "applies", desc := "(IIIZ)Z" } : Jvm.MethodName)) ∈ jwd := jw_8 (i := 26) rfl rfl
theorem wd_8_28 : (Jvm.Cond.instanceMethod ({ cls := "MergeWorkbenchModel", name := "applies", desc := "(IIIZ)Z" } : Jvm.MethodName)) ∈ jwd := jw_8 (i := 28) rfl rfl
theorem wd_8_29 : (Jvm.Cond.code ({ cls := "MergeWorkbenchModel", name := "applies", desc := "(IIIZ)Z" } : Jvm.MethodName) prog_12_method_70_code (16 : Nat) (Option.some Jvm.ClassFile.FieldType.boolean)) ∈ jwd := jw_8 (i := 29) rfl rfl
theorem wd_8_30 : (Jvm.Cond.methodLink "MergeWorkbenchModel" (314 : Nat) ({ cls := "MergeWorkbenchModel", name := "fits", desc := "(II[III)Z" } : Jvm.MethodName)) ∈ jwd := jw_8 (i := 30) rfl rfl
theorem wd_8_32 : (Jvm.Cond.instanceMethod ({ cls := "MergeWorkbenchModel", name := "fits", desc := "(II[III)Z" } : Jvm.MethodName)) ∈ jwd := jw_8 (i := 32) rfl rfl
theorem wd_8_33 : (Jvm.Cond.code ({ cls := "MergeWorkbenchModel", name := "fits", desc := "(II[III)Z" } : Jvm.MethodName) prog_12_method_68_code (8 : Nat) (Option.some Jvm.ClassFile.FieldType.boolean)) ∈ jwd := jw_8 (i := 33) rfl rfl
theorem wd_8_34 : (Jvm.Cond.methodLink "MergeWorkbenchModel" (318 : Nat) ({ cls := "MergeWorkbenchModel", name := "goesOutDocument", desc := "(III)V" } : Jvm.MethodName)) ∈ jwd := jw_8 (i := 34) rfl rfl
theorem wd_8_36 : (Jvm.Cond.instanceMethod ({ cls := "MergeWorkbenchModel", name := "goesOutDocument", desc := "(III)V" } : Jvm.MethodName)) ∈ jwd := jw_8 (i := 36) rfl rfl
theorem wd_8_37 : (Jvm.Cond.code ({ cls := "MergeWorkbenchModel", name := "goesOutDocument", desc := "(III)V" } : Jvm.MethodName) prog_12_method_69_code (5 : Nat) (Option.none : Option Jvm.ClassFile.FieldType)) ∈ jwd := jw_8 (i := 37) rfl rfl
theorem wd_8_38 : (Jvm.Cond.methodLink "MergeWorkbenchLaw" (247 : Nat) ({ cls := "MergeWorkbenchModel", name := "outcome", desc := "(II)I" } : Jvm.MethodName)) ∈ jwd := jw_8 (i := 38) rfl rfl
theorem wd_8_39 : (Jvm.Cond.instanceMethod ({ cls := "MergeWorkbenchModel", name := "outcome", desc := "(II)I" } : Jvm.MethodName)) ∈ jwd := jw_8 (i := 39) rfl rfl
theorem wd_8_40 : (Jvm.Cond.selects "MergeWorkbenchModel" ({ cls := "MergeWorkbenchModel", name := "outcome", desc := "(II)I" } : Jvm.MethodName) ({ cls := "MergeWorkbenchModel", name := "outcome", desc := "(II)I" } : Jvm.MethodName)) ∈ jwd := jw_8 (i := 40) rfl rfl
theorem wd_8_41 : (Jvm.Cond.code ({ cls := "MergeWorkbenchModel", name := "outcome", desc := "(II)I" } : Jvm.MethodName) prog_12_method_72_code (3 : Nat) (Option.some Jvm.ClassFile.FieldType.int)) ∈ jwd := jw_8 (i := 41) rfl rfl
theorem wd_8_42 : (Jvm.Cond.methodLink "MergeWorkbenchLaw" (250 : Nat) ({ cls := "MergeWorkbenchModel", name := "undo", desc := "()I" } : Jvm.MethodName)) ∈ jwd := jw_8 (i := 42) rfl rfl
theorem wd_8_43 : (Jvm.Cond.instanceMethod ({ cls := "MergeWorkbenchModel", name := "undo", desc := "()I" } : Jvm.MethodName)) ∈ jwd := jw_8 (i := 43) rfl rfl
theorem wd_8_44 : (Jvm.Cond.selects "MergeWorkbenchModel" ({ cls := "MergeWorkbenchModel", name := "undo", desc := "()I" } : Jvm.MethodName) ({ cls := "MergeWorkbenchModel", name := "undo", desc := "()I" } : Jvm.MethodName)) ∈ jwd := jw_8 (i := 44) rfl rfl
theorem wd_8_45 : (Jvm.Cond.code ({ cls := "MergeWorkbenchModel", name := "undo", desc := "()I" } : Jvm.MethodName) prog_12_method_73_code (3 : Nat) (Option.some Jvm.ClassFile.FieldType.int)) ∈ jwd := jw_8 (i := 45) rfl rfl
theorem wd_8_46 : (Jvm.Cond.methodLink "MergeWorkbenchLaw" (254 : Nat) ({ cls := "MergeWorkbenchModel", name := "save", desc := "()I" } : Jvm.MethodName)) ∈ jwd := jw_8 (i := 46) rfl rfl
theorem wd_8_47 : (Jvm.Cond.instanceMethod ({ cls := "MergeWorkbenchModel", name := "save", desc := "()I" } : Jvm.MethodName)) ∈ jwd := jw_8 (i := 47) rfl rfl
theorem wd_8_48 : (Jvm.Cond.selects "MergeWorkbenchModel" ({ cls := "MergeWorkbenchModel", name := "save", desc := "()I" } : Jvm.MethodName) ({ cls := "MergeWorkbenchModel", name := "save", desc := "()I" } : Jvm.MethodName)) ∈ jwd := jw_8 (i := 48) rfl rfl
theorem wd_8_49 : (Jvm.Cond.code ({ cls := "MergeWorkbenchModel", name := "save", desc := "()I" } : Jvm.MethodName) prog_12_method_75_code (2 : Nat) (Option.some Jvm.ClassFile.FieldType.int)) ∈ jwd := jw_8 (i := 49) rfl rfl
theorem wd_8_50 : (Jvm.Cond.methodLink "MergeWorkbenchModel" (331 : Nat) ({ cls := "MergeWorkbenchModel", name := "all", desc := "()I" } : Jvm.MethodName)) ∈ jwd := jw_8 (i := 50) rfl rfl
theorem wd_8_52 : (Jvm.Cond.instanceMethod ({ cls := "MergeWorkbenchModel", name := "all", desc := "()I" } : Jvm.MethodName)) ∈ jwd := jw_8 (i := 52) rfl rfl
theorem wd_8_53 : (Jvm.Cond.code ({ cls := "MergeWorkbenchModel", name := "all", desc := "()I" } : Jvm.MethodName) prog_12_method_74_code (3 : Nat) (Option.some Jvm.ClassFile.FieldType.int)) ∈ jwd := jw_8 (i := 53) rfl rfl
theorem wd_8_54 : (Jvm.Cond.methodLink "MergeWorkbenchLaw" (257 : Nat) ({ cls := "MergeWorkbenchModel", name := "restore", desc := "()I" } : Jvm.MethodName)) ∈ jwd := jw_8 (i := 54) rfl rfl
theorem wd_8_55 : (Jvm.Cond.instanceMethod ({ cls := "MergeWorkbenchModel", name := "restore", desc := "()I" } : Jvm.MethodName)) ∈ jwd := jw_8 (i := 55) rfl rfl
theorem wd_8_56 : (Jvm.Cond.selects "MergeWorkbenchModel" ({ cls := "MergeWorkbenchModel", name := "restore", desc := "()I" } : Jvm.MethodName) ({ cls := "MergeWorkbenchModel", name := "restore", desc := "()I" } : Jvm.MethodName)) ∈ jwd := jw_8 (i := 56) rfl rfl
theorem wd_8_57 : (Jvm.Cond.code ({ cls := "MergeWorkbenchModel", name := "restore", desc := "()I" } : Jvm.MethodName) prog_12_method_76_code (2 : Nat) (Option.some Jvm.ClassFile.FieldType.int)) ∈ jwd := jw_8 (i := 57) rfl rfl
theorem wd_8_58 : (Jvm.Cond.arrayClass Jvm.ClassFile.FieldType.long) ∈ jwd := jw_8 (i := 58) rfl rfl
theorem wd_8_59 : (Jvm.Cond.arrayClass Jvm.ClassFile.FieldType.double) ∈ jwd := jw_8 (i := 59) rfl rfl
theorem wp_1_0 : Cond.selects "MergeWorkbench" (⟨"MergeWorkbench", "document", "(I)LMergeWorkbench$Lines;"⟩ : MethodName) (⟨"MergeWorkbench", "document", "(I)LMergeWorkbench$Lines;"⟩ : MethodName) ∈ jwd := jp_1 (i := 0) rfl
theorem wp_1_1 : Cond.selects "java/lang/Throwable" (⟨"java/lang/Throwable", "fillInStackTrace", "(I)Ljava/lang/Throwable;"⟩ : MethodName) (⟨"java/lang/Throwable", "fillInStackTrace", "(I)Ljava/lang/Throwable;"⟩ : MethodName) ∈ jwd := jp_1 (i := 1) rfl
theorem wp_1_2 : Cond.selects "MergeWorkbench" (⟨"MergeWorkbench", "changeTo", "(ILMergeWorkbench$Lines;LMergeWorkbench$Lines;)I"⟩ : MethodName) (⟨"MergeWorkbench", "changeTo", "(ILMergeWorkbench$Lines;LMergeWorkbench$Lines;)I"⟩ : MethodName) ∈ jwd := jp_1 (i := 2) rfl
theorem wp_1_3 : Cond.selects "MergeWorkbench$Alignment" (⟨"MergeWorkbench$Alignment", "alignByAnchors", "(LMergeWorkbench$Lines;LMergeWorkbench$Lines;)V"⟩ : MethodName) (⟨"MergeWorkbench$Alignment", "alignByAnchors", "(LMergeWorkbench$Lines;LMergeWorkbench$Lines;)V"⟩ : MethodName) ∈ jwd := jp_1 (i := 3) rfl
theorem wp_1_4 : Cond.selects "MergeWorkbench$Alignment" (⟨"MergeWorkbench$Alignment", "findCandidates", "(LMergeWorkbench$Lines;LMergeWorkbench$Lines;)V"⟩ : MethodName) (⟨"MergeWorkbench$Alignment", "findCandidates", "(LMergeWorkbench$Lines;LMergeWorkbench$Lines;)V"⟩ : MethodName) ∈ jwd := jp_1 (i := 4) rfl
theorem wp_1_5 : Cond.selects "MergeWorkbench$Alignment" (⟨"MergeWorkbench$Alignment", "measureChains", "()I"⟩ : MethodName) (⟨"MergeWorkbench$Alignment", "measureChains", "()I"⟩ : MethodName) ∈ jwd := jp_1 (i := 5) rfl
theorem wp_1_6 : Cond.selects "MergeWorkbench$Alignment" (⟨"MergeWorkbench$Alignment", "alignPart", "(LMergeWorkbench$Lines;IILMergeWorkbench$Lines;II)V"⟩ : MethodName) (⟨"MergeWorkbench$Alignment", "alignPart", "(LMergeWorkbench$Lines;IILMergeWorkbench$Lines;II)V"⟩ : MethodName) ∈ jwd := jp_1 (i := 6) rfl
theorem wp_1_7 : Cond.selects "MergeWorkbench$Alignment" (⟨"MergeWorkbench$Alignment", "measureEnds", "(LMergeWorkbench$Lines;IILMergeWorkbench$Lines;II)V"⟩ : MethodName) (⟨"MergeWorkbench$Alignment", "measureEnds", "(LMergeWorkbench$Lines;IILMergeWorkbench$Lines;II)V"⟩ : MethodName) ∈ jwd := jp_1 (i := 7) rfl
theorem wp_1_8 : Cond.selects "MergeWorkbench$Alignment" (⟨"MergeWorkbench$Alignment", "addPair", "(II)V"⟩ : MethodName) (⟨"MergeWorkbench$Alignment", "addPair", "(II)V"⟩ : MethodName) ∈ jwd := jp_1 (i := 8) rfl
theorem wp_1_9 : Cond.selects "MergeWorkbench$Comparison" (⟨"MergeWorkbench$Comparison", "collectDifferences", "()V"⟩ : MethodName) (⟨"MergeWorkbench$Comparison", "collectDifferences", "()V"⟩ : MethodName) ∈ jwd := jp_1 (i := 9) rfl
theorem wp_1_10 : Cond.selects "MergeWorkbench$Comparison" (⟨"MergeWorkbench$Comparison", "addDifference", "(IIII)V"⟩ : MethodName) (⟨"MergeWorkbench$Comparison", "addDifference", "(IIII)V"⟩ : MethodName) ∈ jwd := jp_1 (i := 10) rfl
theorem wp_1_11 : Cond.selects "MergeWorkbench" (⟨"MergeWorkbench", "requireComparison", "()V"⟩ : MethodName) (⟨"MergeWorkbench", "requireComparison", "()V"⟩ : MethodName) ∈ jwd := jp_1 (i := 11) rfl
theorem wp_1_12 : Cond.selects "MergeWorkbench$Comparison" (⟨"MergeWorkbench$Comparison", "freeAllButKept", "()V"⟩ : MethodName) (⟨"MergeWorkbench$Comparison", "freeAllButKept", "()V"⟩ : MethodName) ∈ jwd := jp_1 (i := 12) rfl
theorem wp_1_13 : Cond.selects "MergeWorkbench$Comparison" (⟨"MergeWorkbench$Comparison", "addLongestMove", "(I)Z"⟩ : MethodName) (⟨"MergeWorkbench$Comparison", "addLongestMove", "(I)Z"⟩ : MethodName) ∈ jwd := jp_1 (i := 13) rfl
theorem wp_1_14 : Cond.selects "MergeWorkbench$Comparison" (⟨"MergeWorkbench$Comparison", "runLength", "(II)I"⟩ : MethodName) (⟨"MergeWorkbench$Comparison", "runLength", "(II)I"⟩ : MethodName) ∈ jwd := jp_1 (i := 14) rfl
theorem wp_1_15 : Cond.selects "MergeWorkbench$Comparison" (⟨"MergeWorkbench$Comparison", "isMovable", "(II)Z"⟩ : MethodName) (⟨"MergeWorkbench$Comparison", "isMovable", "(II)Z"⟩ : MethodName) ∈ jwd := jp_1 (i := 15) rfl
theorem wp_2_0 : Cond.selects "MergeWorkbench$Comparison" (⟨"MergeWorkbench$Comparison", "addMove", "(III)V"⟩ : MethodName) (⟨"MergeWorkbench$Comparison", "addMove", "(III)V"⟩ : MethodName) ∈ jwd := jp_2 (i := 0) rfl
theorem wp_2_1 : Cond.selects "MergeWorkbench$Merge" (⟨"MergeWorkbench$Merge", "addPart", "(IIIIII)I"⟩ : MethodName) (⟨"MergeWorkbench$Merge", "addPart", "(IIIIII)I"⟩ : MethodName) ∈ jwd := jp_2 (i := 1) rfl
theorem wp_2_2 : Cond.selects "MergeWorkbench$Merge" (⟨"MergeWorkbench$Merge", "addRegion", "(IZ)V"⟩ : MethodName) (⟨"MergeWorkbench$Merge", "addRegion", "(IZ)V"⟩ : MethodName) ∈ jwd := jp_2 (i := 2) rfl
theorem wp_2_3 : Cond.selects "MergeWorkbench$Merge" (⟨"MergeWorkbench$Merge", "kindOf", "(I)I"⟩ : MethodName) (⟨"MergeWorkbench$Merge", "kindOf", "(I)I"⟩ : MethodName) ∈ jwd := jp_2 (i := 3) rfl
theorem wp_2_4 : Cond.selects "MergeWorkbench$Merge" (⟨"MergeWorkbench$Merge", "samePart", "(LMergeWorkbench$Lines;IILMergeWorkbench$Lines;I)Z"⟩ : MethodName) (⟨"MergeWorkbench$Merge", "samePart", "(LMergeWorkbench$Lines;IILMergeWorkbench$Lines;I)Z"⟩ : MethodName) ∈ jwd := jp_2 (i := 4) rfl
theorem wp_2_5 : Cond.selects "MergeWorkbench$Merge" (⟨"MergeWorkbench$Merge", "setKind", "(II)V"⟩ : MethodName) (⟨"MergeWorkbench$Merge", "setKind", "(II)V"⟩ : MethodName) ∈ jwd := jp_2 (i := 5) rfl
theorem wp_2_6 : Cond.selects "MergeWorkbench$Merge" (⟨"MergeWorkbench$Merge", "shrink", "(I)V"⟩ : MethodName) (⟨"MergeWorkbench$Merge", "shrink", "(I)V"⟩ : MethodName) ∈ jwd := jp_2 (i := 6) rfl
theorem wp_2_7 : Cond.selects "MergeWorkbench$Merge" (⟨"MergeWorkbench$Merge", "commonBegin", "(IIII)I"⟩ : MethodName) (⟨"MergeWorkbench$Merge", "commonBegin", "(IIII)I"⟩ : MethodName) ∈ jwd := jp_2 (i := 7) rfl
theorem wp_2_8 : Cond.selects "MergeWorkbench$Merge" (⟨"MergeWorkbench$Merge", "commonEnd", "(IIII)I"⟩ : MethodName) (⟨"MergeWorkbench$Merge", "commonEnd", "(IIII)I"⟩ : MethodName) ∈ jwd := jp_2 (i := 8) rfl
theorem wp_2_9 : Cond.selects "MergeWorkbench$Merge" (⟨"MergeWorkbench$Merge", "addStable", "(III)V"⟩ : MethodName) (⟨"MergeWorkbench$Merge", "addStable", "(III)V"⟩ : MethodName) ∈ jwd := jp_2 (i := 9) rfl
theorem wp_2_10 : Cond.selects "MergeWorkbench$Merge" (⟨"MergeWorkbench$Merge", "writeResult", "()V"⟩ : MethodName) (⟨"MergeWorkbench$Merge", "writeResult", "()V"⟩ : MethodName) ∈ jwd := jp_2 (i := 10) rfl
theorem wp_2_11 : Cond.selects "MergeWorkbench$Merge" (⟨"MergeWorkbench$Merge", "writeConflict", "(II)V"⟩ : MethodName) (⟨"MergeWorkbench$Merge", "writeConflict", "(II)V"⟩ : MethodName) ∈ jwd := jp_2 (i := 11) rfl
theorem wp_2_12 : Cond.selects "MergeWorkbench$Merge" (⟨"MergeWorkbench$Merge", "writeLeft", "(I)V"⟩ : MethodName) (⟨"MergeWorkbench$Merge", "writeLeft", "(I)V"⟩ : MethodName) ∈ jwd := jp_2 (i := 12) rfl
theorem wp_2_13 : Cond.selects "MergeWorkbench$Merge" (⟨"MergeWorkbench$Merge", "writeRight", "(I)V"⟩ : MethodName) (⟨"MergeWorkbench$Merge", "writeRight", "(I)V"⟩ : MethodName) ∈ jwd := jp_2 (i := 13) rfl
theorem wp_2_14 : Cond.selects "MergeWorkbench" (⟨"MergeWorkbench", "requireMerge", "()V"⟩ : MethodName) (⟨"MergeWorkbench", "requireMerge", "()V"⟩ : MethodName) ∈ jwd := jp_2 (i := 14) rfl
theorem wp_2_15 : Cond.selects "MergeWorkbench$Merge" (⟨"MergeWorkbench$Merge", "chosenLength", "(II)I"⟩ : MethodName) (⟨"MergeWorkbench$Merge", "chosenLength", "(II)I"⟩ : MethodName) ∈ jwd := jp_2 (i := 15) rfl
theorem wp_3_0 : Cond.selects "MergeWorkbench$Patch" (⟨"MergeWorkbench$Patch", "addHunk", "(LMergeWorkbench$Table;III)V"⟩ : MethodName) (⟨"MergeWorkbench$Patch", "addHunk", "(LMergeWorkbench$Table;III)V"⟩ : MethodName) ∈ jwd := jp_3 (i := 0) rfl
theorem wp_3_1 : Cond.selects "MergeWorkbench" (⟨"MergeWorkbench", "requirePatch", "()V"⟩ : MethodName) (⟨"MergeWorkbench", "requirePatch", "()V"⟩ : MethodName) ∈ jwd := jp_3 (i := 1) rfl
theorem wp_3_2 : Cond.selects "MergeWorkbench$Patch" (⟨"MergeWorkbench$Patch", "attemptHunk", "(LMergeWorkbench$Lines;IIZ)V"⟩ : MethodName) (⟨"MergeWorkbench$Patch", "attemptHunk", "(LMergeWorkbench$Lines;IIZ)V"⟩ : MethodName) ∈ jwd := jp_3 (i := 2) rfl
theorem wp_3_3 : Cond.selects "MergeWorkbench$Patch" (⟨"MergeWorkbench$Patch", "partBegin", "(III)I"⟩ : MethodName) (⟨"MergeWorkbench$Patch", "partBegin", "(III)I"⟩ : MethodName) ∈ jwd := jp_3 (i := 3) rfl
theorem wp_3_4 : Cond.selects "MergeWorkbench$Patch" (⟨"MergeWorkbench$Patch", "partEnd", "(III)I"⟩ : MethodName) (⟨"MergeWorkbench$Patch", "partEnd", "(III)I"⟩ : MethodName) ∈ jwd := jp_3 (i := 4) rfl
theorem wp_3_5 : Cond.selects "MergeWorkbench$Patch" (⟨"MergeWorkbench$Patch", "findFit", "(LMergeWorkbench$Lines;LMergeWorkbench$Lines;II)I"⟩ : MethodName) (⟨"MergeWorkbench$Patch", "findFit", "(LMergeWorkbench$Lines;LMergeWorkbench$Lines;II)I"⟩ : MethodName) ∈ jwd := jp_3 (i := 5) rfl
theorem wp_3_6 : Cond.selects "MergeWorkbench$Patch" (⟨"MergeWorkbench$Patch", "fits", "(LMergeWorkbench$Lines;ILMergeWorkbench$Lines;II)Z"⟩ : MethodName) (⟨"MergeWorkbench$Patch", "fits", "(LMergeWorkbench$Lines;ILMergeWorkbench$Lines;II)Z"⟩ : MethodName) ∈ jwd := jp_3 (i := 6) rfl
theorem wp_3_7 : Cond.selects "MergeWorkbench$Patch" (⟨"MergeWorkbench$Patch", "pushNewPart", "(IIZ)V"⟩ : MethodName) (⟨"MergeWorkbench$Patch", "pushNewPart", "(IIZ)V"⟩ : MethodName) ∈ jwd := jp_3 (i := 7) rfl
theorem wp_3_8 : Cond.selects "MergeWorkbenchModel" (⟨"MergeWorkbenchModel", "fails", "(I)I"⟩ : MethodName) (⟨"MergeWorkbenchModel", "fails", "(I)I"⟩ : MethodName) ∈ jwd := jp_3 (i := 8) rfl
theorem wp_3_9 : Cond.selects "MergeWorkbenchModel" (⟨"MergeWorkbenchModel", "remembers", "(I)V"⟩ : MethodName) (⟨"MergeWorkbenchModel", "remembers", "(I)V"⟩ : MethodName) ∈ jwd := jp_3 (i := 9) rfl
theorem wp_3_10 : Cond.selects "MergeWorkbenchModel" (⟨"MergeWorkbenchModel", "done", "(I)I"⟩ : MethodName) (⟨"MergeWorkbenchModel", "done", "(I)I"⟩ : MethodName) ∈ jwd := jp_3 (i := 10) rfl
theorem wp_3_11 : Cond.selects "MergeWorkbenchModel" (⟨"MergeWorkbenchModel", "holds", "(I[II)V"⟩ : MethodName) (⟨"MergeWorkbenchModel", "holds", "(I[II)V"⟩ : MethodName) ∈ jwd := jp_3 (i := 11) rfl
theorem wp_3_12 : Cond.selects "MergeWorkbenchModel" (⟨"MergeWorkbenchModel", "not", "(I)Z"⟩ : MethodName) (⟨"MergeWorkbenchModel", "not", "(I)Z"⟩ : MethodName) ∈ jwd := jp_3 (i := 12) rfl
theorem wp_3_13 : Cond.selects "MergeWorkbenchModel" (⟨"MergeWorkbenchModel", "so", "(Z)Z"⟩ : MethodName) (⟨"MergeWorkbenchModel", "so", "(Z)Z"⟩ : MethodName) ∈ jwd := jp_3 (i := 13) rfl
theorem wp_3_14 : Cond.selects "MergeWorkbenchModel" (⟨"MergeWorkbenchModel", "here", "()I"⟩ : MethodName) (⟨"MergeWorkbenchModel", "here", "()I"⟩ : MethodName) ∈ jwd := jp_3 (i := 14) rfl
theorem wp_3_15 : Cond.selects "MergeWorkbenchModel" (⟨"MergeWorkbenchModel", "comes", "(I)V"⟩ : MethodName) (⟨"MergeWorkbenchModel", "comes", "(I)V"⟩ : MethodName) ∈ jwd := jp_3 (i := 15) rfl
theorem wp_4_0 : Cond.selects "MergeWorkbenchModel" (⟨"MergeWorkbenchModel", "repeats", "(I)V"⟩ : MethodName) (⟨"MergeWorkbenchModel", "repeats", "(I)V"⟩ : MethodName) ∈ jwd := jp_4 (i := 0) rfl
theorem wp_4_1 : Cond.selects "MergeWorkbenchModel" (⟨"MergeWorkbenchModel", "takes", "(I[I)I"⟩ : MethodName) (⟨"MergeWorkbenchModel", "takes", "(I[I)I"⟩ : MethodName) ∈ jwd := jp_4 (i := 1) rfl
theorem wp_4_2 : Cond.selects "MergeWorkbenchModel" (⟨"MergeWorkbenchModel", "measures", "([I[IIIII)V"⟩ : MethodName) (⟨"MergeWorkbenchModel", "measures", "([I[IIIII)V"⟩ : MethodName) ∈ jwd := jp_4 (i := 2) rfl
theorem wp_4_3 : Cond.selects "MergeWorkbenchModel" (⟨"MergeWorkbenchModel", "longestOf", "(II)I"⟩ : MethodName) (⟨"MergeWorkbenchModel", "longestOf", "(II)I"⟩ : MethodName) ∈ jwd := jp_4 (i := 3) rfl
theorem wp_4_4 : Cond.selects "MergeWorkbenchModel" (⟨"MergeWorkbenchModel", "aligns", "([II[II[I)V"⟩ : MethodName) (⟨"MergeWorkbenchModel", "aligns", "([II[II[I)V"⟩ : MethodName) ∈ jwd := jp_4 (i := 4) rfl
theorem wp_4_5 : Cond.selects "MergeWorkbenchModel" (⟨"MergeWorkbenchModel", "tellCandidates", "([II[II)V"⟩ : MethodName) (⟨"MergeWorkbenchModel", "tellCandidates", "([II[II)V"⟩ : MethodName) ∈ jwd := jp_4 (i := 5) rfl
theorem wp_4_6 : Cond.selects "MergeWorkbenchModel" (⟨"MergeWorkbenchModel", "pairs", "([I[IIIII[I)V"⟩ : MethodName) (⟨"MergeWorkbenchModel", "pairs", "([I[IIIII[I)V"⟩ : MethodName) ∈ jwd := jp_4 (i := 6) rfl
theorem wp_4_7 : Cond.selects "MergeWorkbenchModel" (⟨"MergeWorkbenchModel", "tellParts", "()V"⟩ : MethodName) (⟨"MergeWorkbenchModel", "tellParts", "()V"⟩ : MethodName) ∈ jwd := jp_4 (i := 7) rfl
theorem wp_4_8 : Cond.selects "MergeWorkbenchModel" (⟨"MergeWorkbenchModel", "pairMany", "()I"⟩ : MethodName) (⟨"MergeWorkbenchModel", "pairMany", "()I"⟩ : MethodName) ∈ jwd := jp_4 (i := 8) rfl
theorem wp_4_9 : Cond.selects "MergeWorkbenchModel" (⟨"MergeWorkbenchModel", "marks", "(III)V"⟩ : MethodName) (⟨"MergeWorkbenchModel", "marks", "(III)V"⟩ : MethodName) ∈ jwd := jp_4 (i := 9) rfl
theorem wp_4_10 : Cond.selects "MergeWorkbenchModel" (⟨"MergeWorkbenchModel", "lengthFrom", "(II)I"⟩ : MethodName) (⟨"MergeWorkbenchModel", "lengthFrom", "(II)I"⟩ : MethodName) ∈ jwd := jp_4 (i := 10) rfl
theorem wp_4_11 : Cond.selects "MergeWorkbenchModel" (⟨"MergeWorkbenchModel", "regionComes", "(IIIIII)V"⟩ : MethodName) (⟨"MergeWorkbenchModel", "regionComes", "(IIIIII)V"⟩ : MethodName) ∈ jwd := jp_4 (i := 11) rfl
theorem wp_4_12 : Cond.selects "MergeWorkbenchModel" (⟨"MergeWorkbenchModel", "chunkComes", "(IIIIIII)V"⟩ : MethodName) (⟨"MergeWorkbenchModel", "chunkComes", "(IIIIIII)V"⟩ : MethodName) ∈ jwd := jp_4 (i := 12) rfl
theorem wp_4_13 : Cond.selects "MergeWorkbenchModel" (⟨"MergeWorkbenchModel", "conflictComes", "(IIIIII)V"⟩ : MethodName) (⟨"MergeWorkbenchModel", "conflictComes", "(IIIIII)V"⟩ : MethodName) ∈ jwd := jp_4 (i := 13) rfl
theorem wp_4_14 : Cond.selects "MergeWorkbenchModel" (⟨"MergeWorkbenchModel", "resolvedOut", "(II)V"⟩ : MethodName) (⟨"MergeWorkbenchModel", "resolvedOut", "(II)V"⟩ : MethodName) ∈ jwd := jp_4 (i := 14) rfl
theorem wp_4_15 : Cond.selects "MergeWorkbenchModel" (⟨"MergeWorkbenchModel", "mark", "(I)V"⟩ : MethodName) (⟨"MergeWorkbenchModel", "mark", "(I)V"⟩ : MethodName) ∈ jwd := jp_4 (i := 15) rfl
theorem wp_5_0 : Cond.selects "MergeWorkbenchModel" (⟨"MergeWorkbenchModel", "goesOut", "([III)V"⟩ : MethodName) (⟨"MergeWorkbenchModel", "goesOut", "([III)V"⟩ : MethodName) ∈ jwd := jp_5 (i := 0) rfl
theorem wp_5_1 : Cond.selects "MergeWorkbenchModel" (⟨"MergeWorkbenchModel", "openConflicts", "()I"⟩ : MethodName) (⟨"MergeWorkbenchModel", "openConflicts", "()I"⟩ : MethodName) ∈ jwd := jp_5 (i := 1) rfl
theorem wp_5_2 : Cond.selects "MergeWorkbenchModel" (⟨"MergeWorkbenchModel", "tellMerged", "()V"⟩ : MethodName) (⟨"MergeWorkbenchModel", "tellMerged", "()V"⟩ : MethodName) ∈ jwd := jp_5 (i := 2) rfl
theorem wp_5_3 : Cond.selects "MergeWorkbenchModel" (⟨"MergeWorkbenchModel", "applies", "(IIIZ)Z"⟩ : MethodName) (⟨"MergeWorkbenchModel", "applies", "(IIIZ)Z"⟩ : MethodName) ∈ jwd := jp_5 (i := 3) rfl
theorem wp_5_4 : Cond.selects "MergeWorkbenchModel" (⟨"MergeWorkbenchModel", "fits", "(II[III)Z"⟩ : MethodName) (⟨"MergeWorkbenchModel", "fits", "(II[III)Z"⟩ : MethodName) ∈ jwd := jp_5 (i := 4) rfl
theorem wp_5_5 : Cond.selects "MergeWorkbenchModel" (⟨"MergeWorkbenchModel", "goesOutDocument", "(III)V"⟩ : MethodName) (⟨"MergeWorkbenchModel", "goesOutDocument", "(III)V"⟩ : MethodName) ∈ jwd := jp_5 (i := 5) rfl
theorem wp_5_6 : Cond.selects "MergeWorkbenchModel" (⟨"MergeWorkbenchModel", "all", "()I"⟩ : MethodName) (⟨"MergeWorkbenchModel", "all", "()I"⟩ : MethodName) ∈ jwd := jp_5 (i := 6) rfl
set_option maxRecDepth 20000 in
theorem jin_0 : ∀ x ∈ u_ws RX0 TX0 7, x ∈ jwd := List.forall_mem_cons.mpr ⟨wd_1_151, List.forall_mem_cons.mpr ⟨wd_1_153, List.forall_mem_cons.mpr ⟨wd_1_155, List.forall_mem_cons.mpr ⟨wd_1_157, List.forall_mem_cons.mpr ⟨wd_1_159, List.forall_mem_cons.mpr ⟨wd_1_161, List.forall_mem_cons.mpr ⟨wd_1_163, fun _ h => absurd h List.not_mem_nil⟩⟩⟩⟩⟩⟩⟩
set_option maxRecDepth 20000 in
theorem jin_1 : ∀ x ∈ u_ws RX1 TX1 9, x ∈ jwd := List.forall_mem_cons.mpr ⟨wd_1_187, List.forall_mem_cons.mpr ⟨wd_1_189, List.forall_mem_cons.mpr ⟨wd_1_191, List.forall_mem_cons.mpr ⟨wd_1_193, List.forall_mem_cons.mpr ⟨wd_1_195, List.forall_mem_cons.mpr ⟨wd_1_197, List.forall_mem_cons.mpr ⟨wd_1_199, List.forall_mem_cons.mpr ⟨wd_1_201, List.forall_mem_cons.mpr ⟨wd_1_203, fun _ h => absurd h List.not_mem_nil⟩⟩⟩⟩⟩⟩⟩⟩⟩
set_option maxRecDepth 20000 in
theorem jin_2 : ∀ x ∈ u_ws RX2 TX2 4, x ∈ jwd := List.forall_mem_cons.mpr ⟨wd_1_86, List.forall_mem_cons.mpr ⟨wd_1_88, List.forall_mem_cons.mpr ⟨wd_1_90, List.forall_mem_cons.mpr ⟨wd_1_92, fun _ h => absurd h List.not_mem_nil⟩⟩⟩⟩
set_option maxRecDepth 20000 in
theorem jin_3 : ∀ x ∈ u_ws RX3 TX3 2, x ∈ jwd := List.forall_mem_cons.mpr ⟨wd_1_105, List.forall_mem_cons.mpr ⟨wd_1_107, fun _ h => absurd h List.not_mem_nil⟩⟩
set_option maxRecDepth 20000 in
theorem jin_4 : ∀ x ∈ u_ws RX4 TX4 2, x ∈ jwd := List.forall_mem_cons.mpr ⟨wd_1_46, List.forall_mem_cons.mpr ⟨wd_1_48, fun _ h => absurd h List.not_mem_nil⟩⟩
set_option maxRecDepth 20000 in
theorem jin_5 : ∀ x ∈ u_ws RX5 TX5 9, x ∈ jwd := List.forall_mem_cons.mpr ⟨wd_1_227, List.forall_mem_cons.mpr ⟨wd_1_229, List.forall_mem_cons.mpr ⟨wd_1_231, List.forall_mem_cons.mpr ⟨wd_1_233, List.forall_mem_cons.mpr ⟨wd_1_235, List.forall_mem_cons.mpr ⟨wd_1_237, List.forall_mem_cons.mpr ⟨wd_1_239, List.forall_mem_cons.mpr ⟨wd_2_1, List.forall_mem_cons.mpr ⟨wd_2_3, fun _ h => absurd h List.not_mem_nil⟩⟩⟩⟩⟩⟩⟩⟩⟩
set_option maxRecDepth 20000 in
theorem jin_6 : ∀ x ∈ u_ws RX6 TX6 9, x ∈ jwd := List.forall_mem_cons.mpr ⟨wd_2_25, List.forall_mem_cons.mpr ⟨wd_2_27, List.forall_mem_cons.mpr ⟨wd_2_29, List.forall_mem_cons.mpr ⟨wd_2_31, List.forall_mem_cons.mpr ⟨wd_2_33, List.forall_mem_cons.mpr ⟨wd_2_35, List.forall_mem_cons.mpr ⟨wd_2_37, List.forall_mem_cons.mpr ⟨wd_2_39, List.forall_mem_cons.mpr ⟨wd_2_41, fun _ h => absurd h List.not_mem_nil⟩⟩⟩⟩⟩⟩⟩⟩⟩
set_option maxRecDepth 20000 in
theorem jin_7 : ∀ x ∈ u_ws RX7 TX7 2, x ∈ jwd := List.forall_mem_cons.mpr ⟨wd_1_55, List.forall_mem_cons.mpr ⟨wd_1_57, fun _ h => absurd h List.not_mem_nil⟩⟩
set_option maxRecDepth 20000 in
theorem jin_8 : ∀ x ∈ u_ws RX8 TX8 3, x ∈ jwd := List.forall_mem_cons.mpr ⟨wd_1_129, List.forall_mem_cons.mpr ⟨wd_1_131, List.forall_mem_cons.mpr ⟨wd_1_133, fun _ h => absurd h List.not_mem_nil⟩⟩⟩
set_option maxRecDepth 20000 in
theorem jin_9 : ∀ x ∈ u_ws RX9 TX9 13, x ∈ jwd := List.forall_mem_cons.mpr ⟨wd_2_57, List.forall_mem_cons.mpr ⟨wd_2_59, List.forall_mem_cons.mpr ⟨wd_2_61, List.forall_mem_cons.mpr ⟨wd_2_63, List.forall_mem_cons.mpr ⟨wd_2_65, List.forall_mem_cons.mpr ⟨wd_2_67, List.forall_mem_cons.mpr ⟨wd_2_69, List.forall_mem_cons.mpr ⟨wd_2_71, List.forall_mem_cons.mpr ⟨wd_2_73, List.forall_mem_cons.mpr ⟨wd_2_75, List.forall_mem_cons.mpr ⟨wd_2_77, List.forall_mem_cons.mpr ⟨wd_2_79, List.forall_mem_cons.mpr ⟨wd_2_81, fun _ h => absurd h List.not_mem_nil⟩⟩⟩⟩⟩⟩⟩⟩⟩⟩⟩⟩⟩
set_option maxRecDepth 20000 in
theorem jin_10 : ∀ x ∈ u_ws RX10 TX10 61, x ∈ jwd := List.forall_mem_cons.mpr ⟨wd_6_120, List.forall_mem_cons.mpr ⟨wd_6_122, List.forall_mem_cons.mpr ⟨wd_6_124, List.forall_mem_cons.mpr ⟨wd_6_126, List.forall_mem_cons.mpr ⟨wd_6_128, List.forall_mem_cons.mpr ⟨wd_6_130, List.forall_mem_cons.mpr ⟨wd_6_132, List.forall_mem_cons.mpr ⟨wd_6_134, List.forall_mem_cons.mpr ⟨wd_6_136, List.forall_mem_cons.mpr ⟨wd_6_138, List.forall_mem_cons.mpr ⟨wd_6_140, List.forall_mem_cons.mpr ⟨wd_6_142, List.forall_mem_cons.mpr ⟨wd_6_144, List.forall_mem_cons.mpr ⟨wd_6_146, List.forall_mem_cons.mpr ⟨wd_6_148, List.forall_mem_cons.mpr ⟨wd_6_150, List.forall_mem_cons.mpr ⟨wd_6_152, List.forall_mem_cons.mpr ⟨wd_6_154, List.forall_mem_cons.mpr ⟨wd_6_156, List.forall_mem_cons.mpr ⟨wd_6_158, List.forall_mem_cons.mpr ⟨wd_6_160, List.forall_mem_cons.mpr ⟨wd_6_162, List.forall_mem_cons.mpr ⟨wd_6_164, List.forall_mem_cons.mpr ⟨wd_6_166, List.forall_mem_cons.mpr ⟨wd_6_168, List.forall_mem_cons.mpr ⟨wd_6_170, List.forall_mem_cons.mpr ⟨wd_6_172, List.forall_mem_cons.mpr ⟨wd_6_174, List.forall_mem_cons.mpr ⟨wd_6_176, List.forall_mem_cons.mpr ⟨wd_6_178, List.forall_mem_cons.mpr ⟨wd_6_180, List.forall_mem_cons.mpr ⟨wd_6_182, List.forall_mem_cons.mpr ⟨wd_6_184, List.forall_mem_cons.mpr ⟨wd_6_186, List.forall_mem_cons.mpr ⟨wd_6_188, List.forall_mem_cons.mpr ⟨wd_6_190, List.forall_mem_cons.mpr ⟨wd_6_192, List.forall_mem_cons.mpr ⟨wd_6_194, List.forall_mem_cons.mpr ⟨wd_6_196, List.forall_mem_cons.mpr ⟨wd_6_198, List.forall_mem_cons.mpr ⟨wd_6_200, List.forall_mem_cons.mpr ⟨wd_6_202, List.forall_mem_cons.mpr ⟨wd_6_204, List.forall_mem_cons.mpr ⟨wd_6_206, List.forall_mem_cons.mpr ⟨wd_6_208, List.forall_mem_cons.mpr ⟨wd_6_210, List.forall_mem_cons.mpr ⟨wd_6_212, List.forall_mem_cons.mpr ⟨wd_6_214, List.forall_mem_cons.mpr ⟨wd_6_216, List.forall_mem_cons.mpr ⟨wd_6_218, List.forall_mem_cons.mpr ⟨wd_6_220, List.forall_mem_cons.mpr ⟨wd_6_222, List.forall_mem_cons.mpr ⟨wd_6_224, List.forall_mem_cons.mpr ⟨wd_6_226, List.forall_mem_cons.mpr ⟨wd_6_228, List.forall_mem_cons.mpr ⟨wd_6_230, List.forall_mem_cons.mpr ⟨wd_6_232, List.forall_mem_cons.mpr ⟨wd_6_234, List.forall_mem_cons.mpr ⟨wd_6_236, List.forall_mem_cons.mpr ⟨wd_6_238, List.forall_mem_cons.mpr ⟨wd_7_0, fun _ h => absurd h List.not_mem_nil⟩⟩⟩⟩⟩⟩⟩⟩⟩⟩⟩⟩⟩⟩⟩⟩⟩⟩⟩⟩⟩⟩⟩⟩⟩⟩⟩⟩⟩⟩⟩⟩⟩⟩⟩⟩⟩⟩⟩⟩⟩⟩⟩⟩⟩⟩⟩⟩⟩⟩⟩⟩⟩⟩⟩⟩⟩⟩⟩⟩⟩
