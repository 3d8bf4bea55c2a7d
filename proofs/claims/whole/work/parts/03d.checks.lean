/-! the rows are the code's: decided by the kernel; the law's entry by bytes -/
theorem ck_0 : (List.range 79).all (fun k => rowsChk (0 + k) 0 (msz (0 + k))) = true := by decide +kernel
theorem ck_1 : (List.range 85).all (fun k => rowsChk (79 + k) 0 (msz (79 + k))) = true := by decide +kernel
theorem ck_2 : (List.range 76).all (fun k => rowsChk (164 + k) 0 (msz (164 + k))) = true := by decide +kernel
theorem ck_3 : (List.range 66).all (fun k => rowsChk (240 + k) 0 (msz (240 + k))) = true := by decide +kernel
theorem ce_0 : rowsChk 306 0 240 = true := by decide +kernel
theorem ce_1 : rowsChk 306 240 240 = true := by decide +kernel
theorem ce_2 : rowsChk 306 480 240 = true := by decide +kernel
theorem ce_3 : rowsChk 306 720 240 = true := by decide +kernel
theorem ce_4 : rowsChk 306 960 240 = true := by decide +kernel
theorem ce_5 : rowsChk 306 1200 240 = true := by decide +kernel
theorem ce_6 : rowsChk 306 1440 240 = true := by decide +kernel
theorem ce_7 : rowsChk 306 1680 240 = true := by decide +kernel
theorem ce_8 : rowsChk 306 1920 240 = true := by decide +kernel
theorem ce_9 : rowsChk 306 2160 240 = true := by decide +kernel
theorem ce_10 : rowsChk 306 2400 240 = true := by decide +kernel
theorem ce_11 : rowsChk 306 2640 240 = true := by decide +kernel
theorem ce_12 : rowsChk 306 2880 240 = true := by decide +kernel
theorem ce_13 : rowsChk 306 3120 234 = true := by decide +kernel
