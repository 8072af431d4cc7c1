theorem jxt_0_168 : jxt 0 168 172 := ⟨wd_1_29, wd_1_14, by decide +kernel, by decide +kernel, by decide +kernel, by decide +kernel⟩
theorem jxt_4_263 : jxt 4 263 267 := ⟨wd_5_29, wd_1_18, by decide +kernel, by decide +kernel, by decide +kernel, by decide +kernel⟩
