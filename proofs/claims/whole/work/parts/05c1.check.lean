theorem gm_k223_7 : gm_c223_7.all (gm_chk 223) = true := by decide +kernel
theorem gm_k223_8 : gm_c223_8.all (gm_chk 223) = true := by decide +kernel
theorem gm_k223_9 : gm_c223_9.all (gm_chk 223) = true := by decide +kernel
theorem gm_k223_10 : gm_c223_10.all (gm_chk 223) = true := by decide +kernel
theorem gm_k223_11 : gm_c223_11.all (gm_chk 223) = true := by decide +kernel
theorem gm_k223_12 : gm_c223_12.all (gm_chk 223) = true := by decide +kernel
theorem gm_k223_13 : gm_c223_13.all (gm_chk 223) = true := by decide +kernel
