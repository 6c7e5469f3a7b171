theorem gm_k223_14 : gm_c223_14.all (gm_chk 223) = true := by decide +kernel
theorem gm_k223_15 : gm_c223_15.all (gm_chk 223) = true := by decide +kernel
theorem gm_k223_16 : gm_c223_16.all (gm_chk 223) = true := by decide +kernel
theorem gm_k223_17 : gm_c223_17.all (gm_chk 223) = true := by decide +kernel
theorem gm_k223_18 : gm_c223_18.all (gm_chk 223) = true := by decide +kernel
theorem gm_k223_19 : gm_c223_19.all (gm_chk 223) = true := by decide +kernel
theorem gm_k223_20 : gm_c223_20.all (gm_chk 223) = true := by decide +kernel
