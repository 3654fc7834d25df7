theorem okl_18 : k_Lw_law18.all (pv_okb 12 "law" code) = true := by decide +kernel
theorem okl_19 : k_Lw_law19.all (pv_okb 12 "law" code) = true := by decide +kernel
theorem okl_20 : k_Lw_law20.all (pv_okb 12 "law" code) = true := by decide +kernel
theorem okl_21 : k_Lw_law21.all (pv_okb 12 "law" code) = true := by decide +kernel
theorem okl_22 : k_Lw_law22.all (pv_okb 12 "law" code) = true := by decide +kernel
theorem okl_23 : k_Lw_law23.all (pv_okb 12 "law" code) = true := by decide +kernel
theorem okl_24 : k_Lw_law24.all (pv_okb 12 "law" code) = true := by decide +kernel
theorem okl_25 : k_Lw_law25.all (pv_okb 12 "law" code) = true := by decide +kernel
