theorem gm_k223_0 : gm_c223_0.all (gm_chk 223) = true := by decide +kernel
theorem gm_k223_1 : gm_c223_1.all (gm_chk 223) = true := by decide +kernel
theorem gm_k223_2 : gm_c223_2.all (gm_chk 223) = true := by decide +kernel
theorem gm_k223_3 : gm_c223_3.all (gm_chk 223) = true := by decide +kernel
theorem gm_k223_4 : gm_c223_4.all (gm_chk 223) = true := by decide +kernel
theorem gm_k223_5 : gm_c223_5.all (gm_chk 223) = true := by decide +kernel
theorem gm_k223_6 : gm_c223_6.all (gm_chk 223) = true := by decide +kernel
