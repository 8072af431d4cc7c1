theorem jxt_0_168 : jxt 0 168 172 := ⟨wd_2_134, wd_1_15, by decide +kernel, by decide +kernel, by decide +kernel, by decide +kernel⟩
theorem jxt_1_147 : jxt 1 147 151 := ⟨wd_2_215, wd_1_16, by decide +kernel, by decide +kernel, by decide +kernel, by decide +kernel⟩
theorem jxt_2_106 : jxt 2 106 110 := ⟨wd_3_33, wd_1_17, by decide +kernel, by decide +kernel, by decide +kernel, by decide +kernel⟩
theorem jxt_3_210 : jxt 3 210 214 := ⟨wd_4_112, wd_1_21, by decide +kernel, by decide +kernel, by decide +kernel, by decide +kernel⟩
theorem jxt_4_218 : jxt 4 218 222 := ⟨wd_4_153, wd_1_22, by decide +kernel, by decide +kernel, by decide +kernel, by decide +kernel⟩
theorem jxt_5_263 : jxt 5 263 267 := ⟨wd_5_137, wd_1_23, by decide +kernel, by decide +kernel, by decide +kernel, by decide +kernel⟩
