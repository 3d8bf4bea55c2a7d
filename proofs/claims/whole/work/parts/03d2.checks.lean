/-! the rows are the code's: decided by the kernel; the law's entry by bytes (printed by wip/whole/gen03d.py) -/
theorem ck_26 : (List.range 2).all (fun k => rowsChk (252 + k) 0 (msz (252 + k))) = true := by decide +kernel
theorem ck_27 : (List.range 6).all (fun k => rowsChk (254 + k) 0 (msz (254 + k))) = true := by decide +kernel
theorem ck_28 : (List.range 7).all (fun k => rowsChk (260 + k) 0 (msz (260 + k))) = true := by decide +kernel
theorem ck_29 : (List.range 27).all (fun k => rowsChk (267 + k) 0 (msz (267 + k))) = true := by decide +kernel
theorem ck_30 : (List.range 12).all (fun k => rowsChk (294 + k) 0 (msz (294 + k))) = true := by decide +kernel
theorem ce_0 : rowsChk 306 0 430 = true := by decide +kernel
theorem ce_1 : rowsChk 306 430 154 = true := by decide +kernel
theorem ce_2 : rowsChk 306 584 126 = true := by decide +kernel
theorem ce_3 : rowsChk 306 710 105 = true := by decide +kernel
theorem ce_4 : rowsChk 306 815 90 = true := by decide +kernel
theorem ce_5 : rowsChk 306 905 85 = true := by decide +kernel
theorem ce_6 : rowsChk 306 990 80 = true := by decide +kernel
theorem ce_7 : rowsChk 306 1070 75 = true := by decide +kernel
theorem ce_8 : rowsChk 306 1145 65 = true := by decide +kernel
theorem ce_9 : rowsChk 306 1210 64 = true := by decide +kernel
theorem ce_10 : rowsChk 306 1274 65 = true := by decide +kernel
theorem ce_11 : rowsChk 306 1339 65 = true := by decide +kernel
theorem ce_12 : rowsChk 306 1404 53 = true := by decide +kernel
theorem ce_13 : rowsChk 306 1457 61 = true := by decide +kernel
theorem ce_14 : rowsChk 306 1518 56 = true := by decide +kernel
theorem ce_15 : rowsChk 306 1574 54 = true := by decide +kernel
theorem ce_16 : rowsChk 306 1628 48 = true := by decide +kernel
theorem ce_17 : rowsChk 306 1676 56 = true := by decide +kernel
theorem ce_18 : rowsChk 306 1732 44 = true := by decide +kernel
theorem ce_19 : rowsChk 306 1776 59 = true := by decide +kernel
