theorem jdl_10 : yL_at.cls ≠ "java/lang/invoke/MethodHandle" ∧ yL_at.cls ≠ "java/lang/invoke/VarHandle" ∧ (parseMethodDescriptor yL_at.desc).map (fun d => d.parameters.length) = some 2 := by decide +kernel
theorem sd_L_10 : j_sideS jlw 10 yL_at cL_at 2 (some .int) 2 := ⟨⟨wd_3_166, wd_1_0, wd_3_164, jdl_10⟩, wd_3_165⟩
theorem jdl_16 : yX9_append.cls ≠ "java/lang/invoke/MethodHandle" ∧ yX9_append.cls ≠ "java/lang/invoke/VarHandle" ∧ (parseMethodDescriptor yX9_append.desc).map (fun d => d.parameters.length) = some 2 := by decide +kernel
theorem sd_L_16 : j_sideV jlw 16 RX9 yX9_append cX9_append 4 (some .int) 2 := ⟨⟨wd_4_208, wd_1_1, wd_4_205, jdl_16⟩, wd_4_206, wd_4_207⟩
theorem jdl_20 : yX9_copy.cls ≠ "java/lang/invoke/MethodHandle" ∧ yX9_copy.cls ≠ "java/lang/invoke/VarHandle" ∧ (parseMethodDescriptor yX9_copy.desc).map (fun d => d.parameters.length) = some 2 := by decide +kernel
theorem sd_L_20 : j_sideV jlw 20 RX9 yX9_copy cX9_copy 4 (some .int) 2 := ⟨⟨wd_1_199, wd_1_1, wd_1_196, jdl_20⟩, wd_1_197, wd_1_198⟩
theorem jdl_23 : yX9_length.cls ≠ "java/lang/invoke/MethodHandle" ∧ yX9_length.cls ≠ "java/lang/invoke/VarHandle" ∧ (parseMethodDescriptor yX9_length.desc).map (fun d => d.parameters.length) = some 1 := by decide +kernel
theorem sd_L_23 : j_sideV jlw 23 RX9 yX9_length cX9_length 2 (some .int) 1 := ⟨⟨wd_1_186, wd_1_1, wd_1_183, jdl_23⟩, wd_1_184, wd_1_185⟩
theorem jdl_27 : yX9_delete.cls ≠ "java/lang/invoke/MethodHandle" ∧ yX9_delete.cls ≠ "java/lang/invoke/VarHandle" ∧ (parseMethodDescriptor yX9_delete.desc).map (fun d => d.parameters.length) = some 2 := by decide +kernel
theorem sd_L_27 : j_sideV jlw 27 RX9 yX9_delete cX9_delete 4 (some .int) 2 := ⟨⟨wd_4_213, wd_1_1, wd_4_210, jdl_27⟩, wd_4_211, wd_4_212⟩
theorem jdl_30 : yX9_insert.cls ≠ "java/lang/invoke/MethodHandle" ∧ yX9_insert.cls ≠ "java/lang/invoke/VarHandle" ∧ (parseMethodDescriptor yX9_insert.desc).map (fun d => d.parameters.length) = some 3 := by decide +kernel
theorem sd_L_30 : j_sideV jlw 30 RX9 yX9_insert cX9_insert 5 (some .int) 3 := ⟨⟨wd_1_23, wd_1_1, wd_1_20, jdl_30⟩, wd_1_21, wd_1_22⟩
theorem jdl_34 : yX9_setMode.cls ≠ "java/lang/invoke/MethodHandle" ∧ yX9_setMode.cls ≠ "java/lang/invoke/VarHandle" ∧ (parseMethodDescriptor yX9_setMode.desc).map (fun d => d.parameters.length) = some 1 := by decide +kernel
theorem sd_L_34 : j_sideV jlw 34 RX9 yX9_setMode cX9_setMode 3 (some .int) 1 := ⟨⟨wd_4_218, wd_1_1, wd_4_215, jdl_34⟩, wd_4_216, wd_4_217⟩
theorem jdl_37 : yX9_setShrinking.cls ≠ "java/lang/invoke/MethodHandle" ∧ yX9_setShrinking.cls ≠ "java/lang/invoke/VarHandle" ∧ (parseMethodDescriptor yX9_setShrinking.desc).map (fun d => d.parameters.length) = some 1 := by decide +kernel
theorem sd_L_37 : j_sideV jlw 37 RX9 yX9_setShrinking cX9_setShrinking 3 (some .boolean) 1 := ⟨⟨wd_4_223, wd_1_1, wd_4_220, jdl_37⟩, wd_4_221, wd_4_222⟩
theorem jdl_41 : yX9_apply.cls ≠ "java/lang/invoke/MethodHandle" ∧ yX9_apply.cls ≠ "java/lang/invoke/VarHandle" ∧ (parseMethodDescriptor yX9_apply.desc).map (fun d => d.parameters.length) = some 3 := by decide +kernel
theorem sd_L_41 : j_sideV jlw 41 RX9 yX9_apply cX9_apply 6 (some .int) 3 := ⟨⟨wd_4_231, wd_1_1, wd_4_228, jdl_41⟩, wd_4_229, wd_4_230⟩
theorem jdl_47 : yX9_feed.cls ≠ "java/lang/invoke/MethodHandle" ∧ yX9_feed.cls ≠ "java/lang/invoke/VarHandle" ∧ (parseMethodDescriptor yX9_feed.desc).map (fun d => d.parameters.length) = some 1 := by decide +kernel
theorem sd_L_47 : j_sideV jlw 47 RX9 yX9_feed cX9_feed 2 (some .int) 1 := ⟨⟨wd_5_54, wd_1_1, wd_5_51, jdl_47⟩, wd_5_52, wd_5_53⟩
theorem jdl_51 : yL_build.cls ≠ "java/lang/invoke/MethodHandle" ∧ yL_build.cls ≠ "java/lang/invoke/VarHandle" ∧ (parseMethodDescriptor yL_build.desc).map (fun d => d.parameters.length) = some 1 := by decide +kernel
theorem sd_L_51 : j_sideS jlw 51 yL_build cL_build 8 (some (.object "MergeWorkbench")) 1 := ⟨⟨wd_3_169, wd_1_0, wd_3_167, jdl_51⟩, wd_3_168⟩
theorem jdl_55 : yX9_save.cls ≠ "java/lang/invoke/MethodHandle" ∧ yX9_save.cls ≠ "java/lang/invoke/VarHandle" ∧ (parseMethodDescriptor yX9_save.desc).map (fun d => d.parameters.length) = some 0 := by decide +kernel
theorem sd_L_55 : j_sideV jlw 55 RX9 yX9_save cX9_save 1 (some .int) 0 := ⟨⟨wd_3_143, wd_1_1, wd_3_140, jdl_55⟩, wd_3_141, wd_3_142⟩
theorem jdl_59 : yX9_compare.cls ≠ "java/lang/invoke/MethodHandle" ∧ yX9_compare.cls ≠ "java/lang/invoke/VarHandle" ∧ (parseMethodDescriptor yX9_compare.desc).map (fun d => d.parameters.length) = some 2 := by decide +kernel
theorem sd_L_59 : j_sideV jlw 59 RX9 yX9_compare cX9_compare 5 (some .int) 2 := ⟨⟨wd_2_11, wd_1_1, wd_2_8, jdl_59⟩, wd_2_9, wd_2_10⟩
theorem jdl_62 : yX9_findMoves.cls ≠ "java/lang/invoke/MethodHandle" ∧ yX9_findMoves.cls ≠ "java/lang/invoke/VarHandle" ∧ (parseMethodDescriptor yX9_findMoves.desc).map (fun d => d.parameters.length) = some 1 := by decide +kernel
theorem sd_L_62 : j_sideV jlw 62 RX9 yX9_findMoves cX9_findMoves 2 (some .int) 1 := ⟨⟨wd_2_134, wd_1_1, wd_2_131, jdl_62⟩, wd_2_132, wd_2_133⟩
theorem jdl_65 : yX9_move.cls ≠ "java/lang/invoke/MethodHandle" ∧ yX9_move.cls ≠ "java/lang/invoke/VarHandle" ∧ (parseMethodDescriptor yX9_move.desc).map (fun d => d.parameters.length) = some 2 := by decide +kernel
theorem sd_L_65 : j_sideV jlw 65 RX9 yX9_move cX9_move 3 (some .int) 2 := ⟨⟨wd_2_172, wd_1_1, wd_2_169, jdl_65⟩, wd_2_170, wd_2_171⟩
theorem jdl_68 : yX9_line.cls ≠ "java/lang/invoke/MethodHandle" ∧ yX9_line.cls ≠ "java/lang/invoke/VarHandle" ∧ (parseMethodDescriptor yX9_line.desc).map (fun d => d.parameters.length) = some 2 := by decide +kernel
theorem sd_L_68 : j_sideV jlw 68 RX9 yX9_line cX9_line 4 (some .int) 2 := ⟨⟨wd_1_190, wd_1_1, wd_1_187, jdl_68⟩, wd_1_188, wd_1_189⟩
theorem jdl_71 : yX9_partner.cls ≠ "java/lang/invoke/MethodHandle" ∧ yX9_partner.cls ≠ "java/lang/invoke/VarHandle" ∧ (parseMethodDescriptor yX9_partner.desc).map (fun d => d.parameters.length) = some 1 := by decide +kernel
theorem sd_L_71 : j_sideV jlw 71 RX9 yX9_partner cX9_partner 2 (some .int) 1 := ⟨⟨wd_2_112, wd_1_1, wd_2_109, jdl_71⟩, wd_2_110, wd_2_111⟩
theorem jdl_74 : yX9_makePatch.cls ≠ "java/lang/invoke/MethodHandle" ∧ yX9_makePatch.cls ≠ "java/lang/invoke/VarHandle" ∧ (parseMethodDescriptor yX9_makePatch.desc).map (fun d => d.parameters.length) = some 1 := by decide +kernel
theorem sd_L_74 : j_sideV jlw 74 RX9 yX9_makePatch cX9_makePatch 2 (some .int) 1 := ⟨⟨wd_3_53, wd_1_1, wd_3_50, jdl_74⟩, wd_3_51, wd_3_52⟩
theorem jdl_77 : yL_applied.cls ≠ "java/lang/invoke/MethodHandle" ∧ yL_applied.cls ≠ "java/lang/invoke/VarHandle" ∧ (parseMethodDescriptor yL_applied.desc).map (fun d => d.parameters.length) = some 1 := by decide +kernel
theorem sd_W_77 : jw_side jlw 77 yL_applied cL_applied 2 [(0, 7, 8, 45)] 1 := ⟨wd_4_226, wd_1_0, wd_4_224, jdl_77, wd_4_225⟩
theorem jdl_81 : yX9_outcome.cls ≠ "java/lang/invoke/MethodHandle" ∧ yX9_outcome.cls ≠ "java/lang/invoke/VarHandle" ∧ (parseMethodDescriptor yX9_outcome.desc).map (fun d => d.parameters.length) = some 2 := by decide +kernel
theorem sd_L_81 : j_sideV jlw 81 RX9 yX9_outcome cX9_outcome 3 (some .int) 2 := ⟨⟨wd_3_105, wd_1_1, wd_3_102, jdl_81⟩, wd_3_103, wd_3_104⟩
theorem jdl_84 : yX9_hunk.cls ≠ "java/lang/invoke/MethodHandle" ∧ yX9_hunk.cls ≠ "java/lang/invoke/VarHandle" ∧ (parseMethodDescriptor yX9_hunk.desc).map (fun d => d.parameters.length) = some 2 := by decide +kernel
theorem sd_L_84 : j_sideV jlw 84 RX9 yX9_hunk cX9_hunk 3 (some .int) 2 := ⟨⟨wd_3_88, wd_1_1, wd_3_85, jdl_84⟩, wd_3_86, wd_3_87⟩
theorem jdl_92 : yX9_undo.cls ≠ "java/lang/invoke/MethodHandle" ∧ yX9_undo.cls ≠ "java/lang/invoke/VarHandle" ∧ (parseMethodDescriptor yX9_undo.desc).map (fun d => d.parameters.length) = some 0 := by decide +kernel
theorem sd_L_92 : j_sideV jlw 92 RX9 yX9_undo cX9_undo 1 (some .int) 0 := ⟨⟨wd_3_129, wd_1_1, wd_3_126, jdl_92⟩, wd_3_127, wd_3_128⟩
theorem jdl_95 : yL_feed.cls ≠ "java/lang/invoke/MethodHandle" ∧ yL_feed.cls ≠ "java/lang/invoke/VarHandle" ∧ (parseMethodDescriptor yL_feed.desc).map (fun d => d.parameters.length) = some 2 := by decide +kernel
theorem sd_L_95 : j_sideS jlw 95 yL_feed cL_feed 3 none 2 := ⟨⟨wd_5_50, wd_1_0, wd_5_48, jdl_95⟩, wd_5_49⟩
theorem jdl_98 : yX9_readDocument.cls ≠ "java/lang/invoke/MethodHandle" ∧ yX9_readDocument.cls ≠ "java/lang/invoke/VarHandle" ∧ (parseMethodDescriptor yX9_readDocument.desc).map (fun d => d.parameters.length) = some 1 := by decide +kernel
theorem sd_L_98 : j_sideV jlw 98 RX9 yX9_readDocument cX9_readDocument 5 (some .int) 1 := ⟨⟨wd_1_208, wd_1_1, wd_1_205, jdl_98⟩, wd_1_206, wd_1_207⟩
theorem jdl_101 : yX9_restore.cls ≠ "java/lang/invoke/MethodHandle" ∧ yX9_restore.cls ≠ "java/lang/invoke/VarHandle" ∧ (parseMethodDescriptor yX9_restore.desc).map (fun d => d.parameters.length) = some 0 := by decide +kernel
theorem sd_L_101 : j_sideV jlw 101 RX9 yX9_restore cX9_restore 1 (some .int) 0 := ⟨⟨wd_3_158, wd_1_1, wd_3_155, jdl_101⟩, wd_3_156, wd_3_157⟩
theorem jdl_104 : yX9_merge.cls ≠ "java/lang/invoke/MethodHandle" ∧ yX9_merge.cls ≠ "java/lang/invoke/VarHandle" ∧ (parseMethodDescriptor yX9_merge.desc).map (fun d => d.parameters.length) = some 3 := by decide +kernel
theorem sd_L_104 : j_sideV jlw 104 RX9 yX9_merge cX9_merge 7 (some .int) 3 := ⟨⟨wd_2_190, wd_1_1, wd_2_187, jdl_104⟩, wd_2_188, wd_2_189⟩
theorem jdl_107 : yX9_mergedLength.cls ≠ "java/lang/invoke/MethodHandle" ∧ yX9_mergedLength.cls ≠ "java/lang/invoke/VarHandle" ∧ (parseMethodDescriptor yX9_mergedLength.desc).map (fun d => d.parameters.length) = some 0 := by decide +kernel
theorem sd_L_107 : j_sideV jlw 107 RX9 yX9_mergedLength cX9_mergedLength 1 (some .int) 0 := ⟨⟨wd_3_36, wd_1_1, wd_3_33, jdl_107⟩, wd_3_34, wd_3_35⟩
