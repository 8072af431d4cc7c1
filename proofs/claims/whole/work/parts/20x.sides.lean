theorem jdl_7 : yX9_append.cls ≠ "java/lang/invoke/MethodHandle" ∧ yX9_append.cls ≠ "java/lang/invoke/VarHandle" ∧ (parseMethodDescriptor yX9_append.desc).map (fun d => d.parameters.length) = some 2 := by decide +kernel
theorem sd_L_7 : j_sideV jlw 7 RX9 yX9_append cX9_append 4 (some .int) 2 := ⟨⟨wd_2_129, wd_1_1, wd_2_126, jdl_7⟩, wd_2_127, wd_2_128⟩
theorem jdl_17 : yX9_insert.cls ≠ "java/lang/invoke/MethodHandle" ∧ yX9_insert.cls ≠ "java/lang/invoke/VarHandle" ∧ (parseMethodDescriptor yX9_insert.desc).map (fun d => d.parameters.length) = some 3 := by decide +kernel
theorem sd_L_17 : j_sideV jlw 17 RX9 yX9_insert cX9_insert 5 (some .int) 3 := ⟨⟨wd_3_32, wd_1_1, wd_3_29, jdl_17⟩, wd_3_30, wd_3_31⟩
theorem jdl_23 : yX9_delete.cls ≠ "java/lang/invoke/MethodHandle" ∧ yX9_delete.cls ≠ "java/lang/invoke/VarHandle" ∧ (parseMethodDescriptor yX9_delete.desc).map (fun d => d.parameters.length) = some 2 := by decide +kernel
theorem sd_L_23 : j_sideV jlw 23 RX9 yX9_delete cX9_delete 4 (some .int) 2 := ⟨⟨wd_3_57, wd_1_1, wd_3_54, jdl_23⟩, wd_3_55, wd_3_56⟩
theorem jdl_26 : yX9_length.cls ≠ "java/lang/invoke/MethodHandle" ∧ yX9_length.cls ≠ "java/lang/invoke/VarHandle" ∧ (parseMethodDescriptor yX9_length.desc).map (fun d => d.parameters.length) = some 1 := by decide +kernel
theorem sd_L_26 : j_sideV jlw 26 RX9 yX9_length cX9_length 2 (some .int) 1 := ⟨⟨wd_3_73, wd_1_1, wd_3_70, jdl_26⟩, wd_3_71, wd_3_72⟩
theorem jdl_30 : yX9_line.cls ≠ "java/lang/invoke/MethodHandle" ∧ yX9_line.cls ≠ "java/lang/invoke/VarHandle" ∧ (parseMethodDescriptor yX9_line.desc).map (fun d => d.parameters.length) = some 2 := by decide +kernel
theorem sd_L_30 : j_sideV jlw 30 RX9 yX9_line cX9_line 4 (some .int) 2 := ⟨⟨wd_3_80, wd_1_1, wd_3_77, jdl_30⟩, wd_3_78, wd_3_79⟩
theorem jdl_33 : yX9_copy.cls ≠ "java/lang/invoke/MethodHandle" ∧ yX9_copy.cls ≠ "java/lang/invoke/VarHandle" ∧ (parseMethodDescriptor yX9_copy.desc).map (fun d => d.parameters.length) = some 2 := by decide +kernel
theorem sd_L_33 : j_sideV jlw 33 RX9 yX9_copy cX9_copy 4 (some .int) 2 := ⟨⟨wd_3_88, wd_1_1, wd_3_85, jdl_33⟩, wd_3_86, wd_3_87⟩
theorem jdl_36 : yX9_isSame.cls ≠ "java/lang/invoke/MethodHandle" ∧ yX9_isSame.cls ≠ "java/lang/invoke/VarHandle" ∧ (parseMethodDescriptor yX9_isSame.desc).map (fun d => d.parameters.length) = some 2 := by decide +kernel
theorem sd_L_36 : j_sideV jlw 36 RX9 yX9_isSame cX9_isSame 5 (some .boolean) 2 := ⟨⟨wd_3_100, wd_1_1, wd_3_97, jdl_36⟩, wd_3_98, wd_3_99⟩
theorem jdl_40 : yX9_distance.cls ≠ "java/lang/invoke/MethodHandle" ∧ yX9_distance.cls ≠ "java/lang/invoke/VarHandle" ∧ (parseMethodDescriptor yX9_distance.desc).map (fun d => d.parameters.length) = some 2 := by decide +kernel
theorem sd_L_40 : j_sideV jlw 40 RX9 yX9_distance cX9_distance 5 (some .int) 2 := ⟨⟨wd_3_111, wd_1_1, wd_3_108, jdl_40⟩, wd_3_109, wd_3_110⟩
theorem jdl_43 : yX9_feed.cls ≠ "java/lang/invoke/MethodHandle" ∧ yX9_feed.cls ≠ "java/lang/invoke/VarHandle" ∧ (parseMethodDescriptor yX9_feed.desc).map (fun d => d.parameters.length) = some 1 := by decide +kernel
theorem sd_L_43 : j_sideV jlw 43 RX9 yX9_feed cX9_feed 2 (some .int) 1 := ⟨⟨wd_3_172, wd_1_1, wd_3_169, jdl_43⟩, wd_3_170, wd_3_171⟩
theorem jdl_47 : yX9_readDocument.cls ≠ "java/lang/invoke/MethodHandle" ∧ yX9_readDocument.cls ≠ "java/lang/invoke/VarHandle" ∧ (parseMethodDescriptor yX9_readDocument.desc).map (fun d => d.parameters.length) = some 1 := by decide +kernel
theorem sd_L_47 : j_sideV jlw 47 RX9 yX9_readDocument cX9_readDocument 5 (some .int) 1 := ⟨⟨wd_3_194, wd_1_1, wd_3_191, jdl_47⟩, wd_3_192, wd_3_193⟩
theorem jdl_50 : yX9_setMode.cls ≠ "java/lang/invoke/MethodHandle" ∧ yX9_setMode.cls ≠ "java/lang/invoke/VarHandle" ∧ (parseMethodDescriptor yX9_setMode.desc).map (fun d => d.parameters.length) = some 1 := by decide +kernel
theorem sd_L_50 : j_sideV jlw 50 RX9 yX9_setMode cX9_setMode 3 (some .int) 1 := ⟨⟨wd_3_230, wd_1_1, wd_3_227, jdl_50⟩, wd_3_228, wd_3_229⟩
theorem jdl_53 : yX9_compare.cls ≠ "java/lang/invoke/MethodHandle" ∧ yX9_compare.cls ≠ "java/lang/invoke/VarHandle" ∧ (parseMethodDescriptor yX9_compare.desc).map (fun d => d.parameters.length) = some 2 := by decide +kernel
theorem sd_L_53 : j_sideV jlw 53 RX9 yX9_compare cX9_compare 5 (some .int) 2 := ⟨⟨wd_3_238, wd_1_1, wd_3_235, jdl_53⟩, wd_3_236, wd_3_237⟩
theorem jdl_56 : yX9_partner.cls ≠ "java/lang/invoke/MethodHandle" ∧ yX9_partner.cls ≠ "java/lang/invoke/VarHandle" ∧ (parseMethodDescriptor yX9_partner.desc).map (fun d => d.parameters.length) = some 1 := by decide +kernel
theorem sd_L_56 : j_sideV jlw 56 RX9 yX9_partner cX9_partner 2 (some .int) 1 := ⟨⟨wd_4_38, wd_1_1, wd_4_35, jdl_56⟩, wd_4_36, wd_4_37⟩
theorem jdl_59 : yX9_anchors.cls ≠ "java/lang/invoke/MethodHandle" ∧ yX9_anchors.cls ≠ "java/lang/invoke/VarHandle" ∧ (parseMethodDescriptor yX9_anchors.desc).map (fun d => d.parameters.length) = some 0 := by decide +kernel
theorem sd_L_59 : j_sideV jlw 59 RX9 yX9_anchors cX9_anchors 1 (some .int) 0 := ⟨⟨wd_4_63, wd_1_1, wd_4_60, jdl_59⟩, wd_4_61, wd_4_62⟩
theorem jdl_63 : yX9_differences.cls ≠ "java/lang/invoke/MethodHandle" ∧ yX9_differences.cls ≠ "java/lang/invoke/VarHandle" ∧ (parseMethodDescriptor yX9_differences.desc).map (fun d => d.parameters.length) = some 0 := by decide +kernel
theorem sd_L_63 : j_sideV jlw 63 RX9 yX9_differences cX9_differences 1 (some .int) 0 := ⟨⟨wd_4_74, wd_1_1, wd_4_71, jdl_63⟩, wd_4_72, wd_4_73⟩
theorem jdl_66 : yX9_difference.cls ≠ "java/lang/invoke/MethodHandle" ∧ yX9_difference.cls ≠ "java/lang/invoke/VarHandle" ∧ (parseMethodDescriptor yX9_difference.desc).map (fun d => d.parameters.length) = some 2 := by decide +kernel
theorem sd_L_66 : j_sideV jlw 66 RX9 yX9_difference cX9_difference 3 (some .int) 2 := ⟨⟨wd_4_89, wd_1_1, wd_4_86, jdl_66⟩, wd_4_87, wd_4_88⟩
theorem jdl_69 : yX9_step.cls ≠ "java/lang/invoke/MethodHandle" ∧ yX9_step.cls ≠ "java/lang/invoke/VarHandle" ∧ (parseMethodDescriptor yX9_step.desc).map (fun d => d.parameters.length) = some 1 := by decide +kernel
theorem sd_L_69 : j_sideV jlw 69 RX9 yX9_step cX9_step 2 (some .int) 1 := ⟨⟨wd_4_107, wd_1_1, wd_4_104, jdl_69⟩, wd_4_105, wd_4_106⟩
theorem jdl_74 : yX9_similarity.cls ≠ "java/lang/invoke/MethodHandle" ∧ yX9_similarity.cls ≠ "java/lang/invoke/VarHandle" ∧ (parseMethodDescriptor yX9_similarity.desc).map (fun d => d.parameters.length) = some 0 := by decide +kernel
theorem sd_L_74 : j_sideV jlw 74 RX9 yX9_similarity cX9_similarity 2 (some .double) 0 := ⟨⟨wd_4_148, wd_1_1, wd_4_145, jdl_74⟩, wd_4_146, wd_4_147⟩
theorem jdl_80 : yX9_findMoves.cls ≠ "java/lang/invoke/MethodHandle" ∧ yX9_findMoves.cls ≠ "java/lang/invoke/VarHandle" ∧ (parseMethodDescriptor yX9_findMoves.desc).map (fun d => d.parameters.length) = some 1 := by decide +kernel
theorem sd_L_80 : j_sideV jlw 80 RX9 yX9_findMoves cX9_findMoves 2 (some .int) 1 := ⟨⟨wd_4_162, wd_1_1, wd_4_159, jdl_80⟩, wd_4_160, wd_4_161⟩
theorem jdl_83 : yX9_move.cls ≠ "java/lang/invoke/MethodHandle" ∧ yX9_move.cls ≠ "java/lang/invoke/VarHandle" ∧ (parseMethodDescriptor yX9_move.desc).map (fun d => d.parameters.length) = some 2 := by decide +kernel
theorem sd_L_83 : j_sideV jlw 83 RX9 yX9_move cX9_move 3 (some .int) 2 := ⟨⟨wd_4_200, wd_1_1, wd_4_197, jdl_83⟩, wd_4_198, wd_4_199⟩
theorem jdl_86 : yX9_merge.cls ≠ "java/lang/invoke/MethodHandle" ∧ yX9_merge.cls ≠ "java/lang/invoke/VarHandle" ∧ (parseMethodDescriptor yX9_merge.desc).map (fun d => d.parameters.length) = some 3 := by decide +kernel
theorem sd_L_86 : j_sideV jlw 86 RX9 yX9_merge cX9_merge 7 (some .int) 3 := ⟨⟨wd_4_211, wd_1_1, wd_4_208, jdl_86⟩, wd_4_209, wd_4_210⟩
theorem jdl_89 : yX9_chunks.cls ≠ "java/lang/invoke/MethodHandle" ∧ yX9_chunks.cls ≠ "java/lang/invoke/VarHandle" ∧ (parseMethodDescriptor yX9_chunks.desc).map (fun d => d.parameters.length) = some 0 := by decide +kernel
theorem sd_L_89 : j_sideV jlw 89 RX9 yX9_chunks cX9_chunks 1 (some .int) 0 := ⟨⟨wd_5_56, wd_1_1, wd_5_53, jdl_89⟩, wd_5_54, wd_5_55⟩
theorem jdl_92 : yX9_chunk.cls ≠ "java/lang/invoke/MethodHandle" ∧ yX9_chunk.cls ≠ "java/lang/invoke/VarHandle" ∧ (parseMethodDescriptor yX9_chunk.desc).map (fun d => d.parameters.length) = some 2 := by decide +kernel
theorem sd_L_92 : j_sideV jlw 92 RX9 yX9_chunk cX9_chunk 3 (some .int) 2 := ⟨⟨wd_5_76, wd_1_1, wd_5_73, jdl_92⟩, wd_5_74, wd_5_75⟩
theorem jdl_95 : yX9_resolve.cls ≠ "java/lang/invoke/MethodHandle" ∧ yX9_resolve.cls ≠ "java/lang/invoke/VarHandle" ∧ (parseMethodDescriptor yX9_resolve.desc).map (fun d => d.parameters.length) = some 2 := by decide +kernel
theorem sd_L_95 : j_sideV jlw 95 RX9 yX9_resolve cX9_resolve 3 (some .int) 2 := ⟨⟨wd_5_83, wd_1_1, wd_5_80, jdl_95⟩, wd_5_81, wd_5_82⟩
theorem jdl_98 : yX9_unresolved.cls ≠ "java/lang/invoke/MethodHandle" ∧ yX9_unresolved.cls ≠ "java/lang/invoke/VarHandle" ∧ (parseMethodDescriptor yX9_unresolved.desc).map (fun d => d.parameters.length) = some 0 := by decide +kernel
theorem sd_L_98 : j_sideV jlw 98 RX9 yX9_unresolved cX9_unresolved 1 (some .int) 0 := ⟨⟨wd_5_105, wd_1_1, wd_5_102, jdl_98⟩, wd_5_103, wd_5_104⟩
theorem jdl_101 : yX9_mergedLength.cls ≠ "java/lang/invoke/MethodHandle" ∧ yX9_mergedLength.cls ≠ "java/lang/invoke/VarHandle" ∧ (parseMethodDescriptor yX9_mergedLength.desc).map (fun d => d.parameters.length) = some 0 := by decide +kernel
theorem sd_L_101 : j_sideV jlw 101 RX9 yX9_mergedLength cX9_mergedLength 1 (some .int) 0 := ⟨⟨wd_5_116, wd_1_1, wd_5_113, jdl_101⟩, wd_5_114, wd_5_115⟩
theorem jdl_104 : yX9_merged.cls ≠ "java/lang/invoke/MethodHandle" ∧ yX9_merged.cls ≠ "java/lang/invoke/VarHandle" ∧ (parseMethodDescriptor yX9_merged.desc).map (fun d => d.parameters.length) = some 1 := by decide +kernel
theorem sd_L_104 : j_sideV jlw 104 RX9 yX9_merged cX9_merged 2 (some .int) 1 := ⟨⟨wd_5_127, wd_1_1, wd_5_124, jdl_104⟩, wd_5_125, wd_5_126⟩
theorem jdl_107 : yX9_accept.cls ≠ "java/lang/invoke/MethodHandle" ∧ yX9_accept.cls ≠ "java/lang/invoke/VarHandle" ∧ (parseMethodDescriptor yX9_accept.desc).map (fun d => d.parameters.length) = some 1 := by decide +kernel
theorem sd_L_107 : j_sideV jlw 107 RX9 yX9_accept cX9_accept 3 (some .int) 1 := ⟨⟨wd_5_135, wd_1_1, wd_5_132, jdl_107⟩, wd_5_133, wd_5_134⟩
theorem jdl_112 : yX9_makePatch.cls ≠ "java/lang/invoke/MethodHandle" ∧ yX9_makePatch.cls ≠ "java/lang/invoke/VarHandle" ∧ (parseMethodDescriptor yX9_makePatch.desc).map (fun d => d.parameters.length) = some 1 := by decide +kernel
theorem sd_L_112 : j_sideV jlw 112 RX9 yX9_makePatch cX9_makePatch 2 (some .int) 1 := ⟨⟨wd_5_159, wd_1_1, wd_5_156, jdl_112⟩, wd_5_157, wd_5_158⟩
theorem jdl_115 : yX9_hunk.cls ≠ "java/lang/invoke/MethodHandle" ∧ yX9_hunk.cls ≠ "java/lang/invoke/VarHandle" ∧ (parseMethodDescriptor yX9_hunk.desc).map (fun d => d.parameters.length) = some 2 := by decide +kernel
theorem sd_L_115 : j_sideV jlw 115 RX9 yX9_hunk cX9_hunk 3 (some .int) 2 := ⟨⟨wd_5_190, wd_1_1, wd_5_187, jdl_115⟩, wd_5_188, wd_5_189⟩
theorem jdl_118 : yX9_apply.cls ≠ "java/lang/invoke/MethodHandle" ∧ yX9_apply.cls ≠ "java/lang/invoke/VarHandle" ∧ (parseMethodDescriptor yX9_apply.desc).map (fun d => d.parameters.length) = some 3 := by decide +kernel
theorem sd_L_118 : j_sideV jlw 118 RX9 yX9_apply cX9_apply 6 (some .int) 3 := ⟨⟨wd_5_210, wd_1_1, wd_5_207, jdl_118⟩, wd_5_208, wd_5_209⟩
theorem jdl_122 : yX9_outcome.cls ≠ "java/lang/invoke/MethodHandle" ∧ yX9_outcome.cls ≠ "java/lang/invoke/VarHandle" ∧ (parseMethodDescriptor yX9_outcome.desc).map (fun d => d.parameters.length) = some 2 := by decide +kernel
theorem sd_L_122 : j_sideV jlw 122 RX9 yX9_outcome cX9_outcome 3 (some .int) 2 := ⟨⟨wd_6_18, wd_1_1, wd_6_15, jdl_122⟩, wd_6_16, wd_6_17⟩
theorem jdl_125 : yX9_undo.cls ≠ "java/lang/invoke/MethodHandle" ∧ yX9_undo.cls ≠ "java/lang/invoke/VarHandle" ∧ (parseMethodDescriptor yX9_undo.desc).map (fun d => d.parameters.length) = some 0 := by decide +kernel
theorem sd_L_125 : j_sideV jlw 125 RX9 yX9_undo cX9_undo 1 (some .int) 0 := ⟨⟨wd_6_30, wd_1_1, wd_6_27, jdl_125⟩, wd_6_28, wd_6_29⟩
theorem jdl_128 : yX9_restore.cls ≠ "java/lang/invoke/MethodHandle" ∧ yX9_restore.cls ≠ "java/lang/invoke/VarHandle" ∧ (parseMethodDescriptor yX9_restore.desc).map (fun d => d.parameters.length) = some 0 := by decide +kernel
theorem sd_L_128 : j_sideV jlw 128 RX9 yX9_restore cX9_restore 1 (some .int) 0 := ⟨⟨wd_6_47, wd_1_1, wd_6_44, jdl_128⟩, wd_6_45, wd_6_46⟩
