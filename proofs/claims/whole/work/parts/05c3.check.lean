theorem gm_k223_21 : gm_c223_21.all (gm_chk 223) = true := by decide +kernel
theorem gm_k223_22 : gm_c223_22.all (gm_chk 223) = true := by decide +kernel
theorem gm_k223_23 : gm_c223_23.all (gm_chk 223) = true := by decide +kernel
theorem gm_k223_24 : gm_c223_24.all (gm_chk 223) = true := by decide +kernel
theorem gm_k223_25 : gm_c223_25.all (gm_chk 223) = true := by decide +kernel
