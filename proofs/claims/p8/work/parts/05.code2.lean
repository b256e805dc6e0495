set_option maxRecDepth 100000 in
theorem ai_k123_0 : ai_ch1 ai_r123 0 0 (ai_d123.getD 0 []) = true := by decide +kernel
set_option maxRecDepth 100000 in
theorem ai_k123_1 : ai_ch1 ai_r123 1 0 (ai_d123.getD 1 []) = true := by decide +kernel
set_option maxRecDepth 100000 in
theorem ai_k123_2 : ai_ch1 ai_r123 2 0 (ai_d123.getD 2 []) = true := by decide +kernel
set_option maxRecDepth 100000 in
theorem ai_k123_3 : ai_ch1 ai_r123 3 0 (ai_d123.getD 3 []) = true := by decide +kernel
set_option maxRecDepth 100000 in
theorem ai_k123_4 : ai_ch1 ai_r123 4 0 (ai_d123.getD 4 []) = true := by decide +kernel
set_option maxRecDepth 100000 in
theorem ai_k123_5 : ai_ch1 ai_r123 5 0 (ai_d123.getD 5 []) = true := by decide +kernel
set_option maxRecDepth 100000 in
theorem ai_k123_6 : ai_ch1 ai_r123 6 0 (ai_d123.getD 6 []) = true := by decide +kernel
set_option maxRecDepth 100000 in
theorem ai_k123_7 : ai_ch1 ai_r123 7 0 (ai_d123.getD 7 []) = true := by decide +kernel
set_option maxRecDepth 100000 in
theorem ai_k123_8 : ai_ch1 ai_r123 8 0 (ai_d123.getD 8 []) = true := by decide +kernel
set_option maxRecDepth 100000 in
theorem ai_k123_9 : ai_ch1 ai_r123 9 0 (ai_d123.getD 9 []) = true := by decide +kernel
set_option maxRecDepth 100000 in
theorem ai_k123 : ai_chk ai_r123 = true := (ai_ch_cons ai_k123_0 (ai_ch_cons ai_k123_1 (ai_ch_cons ai_k123_2 (ai_ch_cons ai_k123_3 (ai_ch_cons ai_k123_4 (ai_ch_cons ai_k123_5 (ai_ch_cons ai_k123_6 (ai_ch_cons ai_k123_7 (ai_ch_cons ai_k123_8 (ai_ch_cons ai_k123_9 (rfl)))))))))) : ai_ch ai_r123 0 ai_d123 = true)
set_option maxRecDepth 100000 in
theorem ai_k124 : ai_chk ai_r124 = true := by decide +kernel
set_option maxRecDepth 100000 in
theorem ai_k125_0 : ai_ch1 ai_r125 0 0 (ai_d125.getD 0 []) = true := by decide +kernel
set_option maxRecDepth 100000 in
theorem ai_k125_1 : ai_ch1 ai_r125 1 0 (ai_d125.getD 1 []) = true := by decide +kernel
set_option maxRecDepth 100000 in
theorem ai_k125_2 : ai_ch1 ai_r125 2 0 (ai_d125.getD 2 []) = true := by decide +kernel
set_option maxRecDepth 100000 in
theorem ai_k125_3 : ai_ch1 ai_r125 3 0 (ai_d125.getD 3 []) = true := by decide +kernel
set_option maxRecDepth 100000 in
theorem ai_k125_4 : ai_ch1 ai_r125 4 0 (ai_d125.getD 4 []) = true := by decide +kernel
set_option maxRecDepth 100000 in
theorem ai_k125_5 : ai_ch1 ai_r125 5 0 (ai_d125.getD 5 []) = true := by decide +kernel
set_option maxRecDepth 100000 in
theorem ai_k125_6 : ai_ch1 ai_r125 6 0 (ai_d125.getD 6 []) = true := by decide +kernel
set_option maxRecDepth 100000 in
theorem ai_k125_7 : ai_ch1 ai_r125 7 0 (ai_d125.getD 7 []) = true := by decide +kernel
set_option maxRecDepth 100000 in
theorem ai_k125_8 : ai_ch1 ai_r125 8 0 (ai_d125.getD 8 []) = true := by decide +kernel
set_option maxRecDepth 100000 in
theorem ai_k125_9 : ai_ch1 ai_r125 9 0 (ai_d125.getD 9 []) = true := by decide +kernel
set_option maxRecDepth 100000 in
theorem ai_k125 : ai_chk ai_r125 = true := (ai_ch_cons ai_k125_0 (ai_ch_cons ai_k125_1 (ai_ch_cons ai_k125_2 (ai_ch_cons ai_k125_3 (ai_ch_cons ai_k125_4 (ai_ch_cons ai_k125_5 (ai_ch_cons ai_k125_6 (ai_ch_cons ai_k125_7 (ai_ch_cons ai_k125_8 (ai_ch_cons ai_k125_9 (rfl)))))))))) : ai_ch ai_r125 0 ai_d125 = true)
set_option maxRecDepth 100000 in
theorem ai_k126 : ai_chk ai_r126 = true := by decide +kernel
set_option maxRecDepth 100000 in
theorem ai_k127 : ai_chk ai_r127 = true := by decide +kernel
set_option maxRecDepth 100000 in
theorem ai_k128 : ai_chk ai_r128 = true := by decide +kernel
set_option maxRecDepth 100000 in
theorem ai_k129_0 : ai_ch1 ai_r129 0 0 (ai_d129.getD 0 []) = true := by decide +kernel
set_option maxRecDepth 100000 in
theorem ai_k129_1 : ai_ch1 ai_r129 1 0 (ai_d129.getD 1 []) = true := by decide +kernel
set_option maxRecDepth 100000 in
theorem ai_k129_2 : ai_ch1 ai_r129 2 0 (ai_d129.getD 2 []) = true := by decide +kernel
set_option maxRecDepth 100000 in
theorem ai_k129_3 : ai_ch1 ai_r129 3 0 (ai_d129.getD 3 []) = true := by decide +kernel
set_option maxRecDepth 100000 in
theorem ai_k129_4 : ai_ch1 ai_r129 4 0 (ai_d129.getD 4 []) = true := by decide +kernel
set_option maxRecDepth 100000 in
theorem ai_k129_5 : ai_ch1 ai_r129 5 0 (ai_d129.getD 5 []) = true := by decide +kernel
set_option maxRecDepth 100000 in
theorem ai_k129_6 : ai_ch1 ai_r129 6 0 (ai_d129.getD 6 []) = true := by decide +kernel
set_option maxRecDepth 100000 in
theorem ai_k129_7 : ai_ch1 ai_r129 7 0 (ai_d129.getD 7 []) = true := by decide +kernel
set_option maxRecDepth 100000 in
theorem ai_k129_8 : ai_ch1 ai_r129 8 0 (ai_d129.getD 8 []) = true := by decide +kernel
set_option maxRecDepth 100000 in
theorem ai_k129_9 : ai_ch1 ai_r129 9 0 (ai_d129.getD 9 []) = true := by decide +kernel
set_option maxRecDepth 100000 in
theorem ai_k129_10 : ai_ch1 ai_r129 10 0 (ai_d129.getD 10 []) = true := by decide +kernel
set_option maxRecDepth 100000 in
theorem ai_k129_11 : ai_ch1 ai_r129 11 0 (ai_d129.getD 11 []) = true := by decide +kernel
set_option maxRecDepth 100000 in
theorem ai_k129_12 : ai_ch1 ai_r129 12 0 (ai_d129.getD 12 []) = true := by decide +kernel
set_option maxRecDepth 100000 in
theorem ai_k129_13 : ai_ch1 ai_r129 13 0 (ai_d129.getD 13 []) = true := by decide +kernel
set_option maxRecDepth 100000 in
theorem ai_k129 : ai_chk ai_r129 = true := (ai_ch_cons ai_k129_0 (ai_ch_cons ai_k129_1 (ai_ch_cons ai_k129_2 (ai_ch_cons ai_k129_3 (ai_ch_cons ai_k129_4 (ai_ch_cons ai_k129_5 (ai_ch_cons ai_k129_6 (ai_ch_cons ai_k129_7 (ai_ch_cons ai_k129_8 (ai_ch_cons ai_k129_9 (ai_ch_cons ai_k129_10 (ai_ch_cons ai_k129_11 (ai_ch_cons ai_k129_12 (ai_ch_cons ai_k129_13 (rfl)))))))))))))) : ai_ch ai_r129 0 ai_d129 = true)
set_option maxRecDepth 100000 in
theorem ai_k130 : ai_chk ai_r130 = true := by decide +kernel
set_option maxRecDepth 100000 in
theorem ai_k131 : ai_chk ai_r131 = true := by decide +kernel
set_option maxRecDepth 100000 in
theorem ai_k132_0 : ai_ch1 ai_r132 0 0 (ai_d132.getD 0 []) = true := by decide +kernel
set_option maxRecDepth 100000 in
theorem ai_k132_1 : ai_ch1 ai_r132 1 0 (ai_d132.getD 1 []) = true := by decide +kernel
set_option maxRecDepth 100000 in
theorem ai_k132_2 : ai_ch1 ai_r132 2 0 (ai_d132.getD 2 []) = true := by decide +kernel
set_option maxRecDepth 100000 in
theorem ai_k132_3 : ai_ch1 ai_r132 3 0 (ai_d132.getD 3 []) = true := by decide +kernel
set_option maxRecDepth 100000 in
theorem ai_k132_4 : ai_ch1 ai_r132 4 0 (ai_d132.getD 4 []) = true := by decide +kernel
set_option maxRecDepth 100000 in
theorem ai_k132_5 : ai_ch1 ai_r132 5 0 (ai_d132.getD 5 []) = true := by decide +kernel
set_option maxRecDepth 100000 in
theorem ai_k132_6 : ai_ch1 ai_r132 6 0 (ai_d132.getD 6 []) = true := by decide +kernel
set_option maxRecDepth 100000 in
theorem ai_k132_7 : ai_ch1 ai_r132 7 0 (ai_d132.getD 7 []) = true := by decide +kernel
set_option maxRecDepth 100000 in
theorem ai_k132_8 : ai_ch1 ai_r132 8 0 (ai_d132.getD 8 []) = true := by decide +kernel
set_option maxRecDepth 100000 in
theorem ai_k132_9 : ai_ch1 ai_r132 9 0 (ai_d132.getD 9 []) = true := by decide +kernel
set_option maxRecDepth 100000 in
theorem ai_k132_10 : ai_ch1 ai_r132 10 0 (ai_d132.getD 10 []) = true := by decide +kernel
set_option maxRecDepth 100000 in
theorem ai_k132_11 : ai_ch1 ai_r132 11 0 (ai_d132.getD 11 []) = true := by decide +kernel
set_option maxRecDepth 100000 in
theorem ai_k132_12 : ai_ch1 ai_r132 12 0 (ai_d132.getD 12 []) = true := by decide +kernel
set_option maxRecDepth 100000 in
theorem ai_k132_13 : ai_ch1 ai_r132 13 0 (ai_d132.getD 13 []) = true := by decide +kernel
set_option maxRecDepth 100000 in
theorem ai_k132_14 : ai_ch1 ai_r132 14 0 (ai_d132.getD 14 []) = true := by decide +kernel
set_option maxRecDepth 100000 in
theorem ai_k132_15 : ai_ch1 ai_r132 15 0 (ai_d132.getD 15 []) = true := by decide +kernel
set_option maxRecDepth 100000 in
theorem ai_k132_16 : ai_ch1 ai_r132 16 0 (ai_d132.getD 16 []) = true := by decide +kernel
set_option maxRecDepth 100000 in
theorem ai_k132_17 : ai_ch1 ai_r132 17 0 (ai_d132.getD 17 []) = true := by decide +kernel
set_option maxRecDepth 100000 in
theorem ai_k132_18 : ai_ch1 ai_r132 18 0 (ai_d132.getD 18 []) = true := by decide +kernel
set_option maxRecDepth 100000 in
theorem ai_k132_19 : ai_ch1 ai_r132 19 0 (ai_d132.getD 19 []) = true := by decide +kernel
set_option maxRecDepth 100000 in
theorem ai_k132_20 : ai_ch1 ai_r132 20 0 (ai_d132.getD 20 []) = true := by decide +kernel
set_option maxRecDepth 100000 in
theorem ai_k132_21 : ai_ch1 ai_r132 21 0 (ai_d132.getD 21 []) = true := by decide +kernel
set_option maxRecDepth 100000 in
theorem ai_k132_22 : ai_ch1 ai_r132 22 0 (ai_d132.getD 22 []) = true := by decide +kernel
set_option maxRecDepth 100000 in
theorem ai_k132 : ai_chk ai_r132 = true := (ai_ch_cons ai_k132_0 (ai_ch_cons ai_k132_1 (ai_ch_cons ai_k132_2 (ai_ch_cons ai_k132_3 (ai_ch_cons ai_k132_4 (ai_ch_cons ai_k132_5 (ai_ch_cons ai_k132_6 (ai_ch_cons ai_k132_7 (ai_ch_cons ai_k132_8 (ai_ch_cons ai_k132_9 (ai_ch_cons ai_k132_10 (ai_ch_cons ai_k132_11 (ai_ch_cons ai_k132_12 (ai_ch_cons ai_k132_13 (ai_ch_cons ai_k132_14 (ai_ch_cons ai_k132_15 (ai_ch_cons ai_k132_16 (ai_ch_cons ai_k132_17 (ai_ch_cons ai_k132_18 (ai_ch_cons ai_k132_19 (ai_ch_cons ai_k132_20 (ai_ch_cons ai_k132_21 (ai_ch_cons ai_k132_22 (rfl))))))))))))))))))))))) : ai_ch ai_r132 0 ai_d132 = true)
set_option maxRecDepth 100000 in
theorem ai_k133_0 : ai_ch1 ai_r133 0 0 (ai_d133.getD 0 []) = true := by decide +kernel
set_option maxRecDepth 100000 in
theorem ai_k133_1 : ai_ch1 ai_r133 1 0 (ai_d133.getD 1 []) = true := by decide +kernel
set_option maxRecDepth 100000 in
theorem ai_k133_2 : ai_ch1 ai_r133 2 0 (ai_d133.getD 2 []) = true := by decide +kernel
set_option maxRecDepth 100000 in
theorem ai_k133_3 : ai_ch1 ai_r133 3 0 (ai_d133.getD 3 []) = true := by decide +kernel
set_option maxRecDepth 100000 in
theorem ai_k133_4 : ai_ch1 ai_r133 4 0 (ai_d133.getD 4 []) = true := by decide +kernel
set_option maxRecDepth 100000 in
theorem ai_k133_5 : ai_ch1 ai_r133 5 0 (ai_d133.getD 5 []) = true := by decide +kernel
set_option maxRecDepth 100000 in
theorem ai_k133_6 : ai_ch1 ai_r133 6 0 (ai_d133.getD 6 []) = true := by decide +kernel
set_option maxRecDepth 100000 in
theorem ai_k133_7 : ai_ch1 ai_r133 7 0 (ai_d133.getD 7 []) = true := by decide +kernel
set_option maxRecDepth 100000 in
theorem ai_k133_8 : ai_ch1 ai_r133 8 0 (ai_d133.getD 8 []) = true := by decide +kernel
set_option maxRecDepth 100000 in
theorem ai_k133_9 : ai_ch1 ai_r133 9 0 (ai_d133.getD 9 []) = true := by decide +kernel
set_option maxRecDepth 100000 in
theorem ai_k133_10 : ai_ch1 ai_r133 10 0 (ai_d133.getD 10 []) = true := by decide +kernel
set_option maxRecDepth 100000 in
theorem ai_k133_11 : ai_ch1 ai_r133 11 0 (ai_d133.getD 11 []) = true := by decide +kernel
set_option maxRecDepth 100000 in
theorem ai_k133 : ai_chk ai_r133 = true := (ai_ch_cons ai_k133_0 (ai_ch_cons ai_k133_1 (ai_ch_cons ai_k133_2 (ai_ch_cons ai_k133_3 (ai_ch_cons ai_k133_4 (ai_ch_cons ai_k133_5 (ai_ch_cons ai_k133_6 (ai_ch_cons ai_k133_7 (ai_ch_cons ai_k133_8 (ai_ch_cons ai_k133_9 (ai_ch_cons ai_k133_10 (ai_ch_cons ai_k133_11 (rfl)))))))))))) : ai_ch ai_r133 0 ai_d133 = true)
set_option maxRecDepth 100000 in
theorem ai_k134_0 : ai_ch1 ai_r134 0 0 (ai_d134.getD 0 []) = true := by decide +kernel
set_option maxRecDepth 100000 in
theorem ai_k134_1 : ai_ch1 ai_r134 1 0 (ai_d134.getD 1 []) = true := by decide +kernel
set_option maxRecDepth 100000 in
theorem ai_k134_2 : ai_ch1 ai_r134 2 0 (ai_d134.getD 2 []) = true := by decide +kernel
set_option maxRecDepth 100000 in
theorem ai_k134_3 : ai_ch1 ai_r134 3 0 (ai_d134.getD 3 []) = true := by decide +kernel
set_option maxRecDepth 100000 in
theorem ai_k134_4 : ai_ch1 ai_r134 4 0 (ai_d134.getD 4 []) = true := by decide +kernel
set_option maxRecDepth 100000 in
theorem ai_k134_5 : ai_ch1 ai_r134 5 0 (ai_d134.getD 5 []) = true := by decide +kernel
set_option maxRecDepth 100000 in
theorem ai_k134 : ai_chk ai_r134 = true := (ai_ch_cons ai_k134_0 (ai_ch_cons ai_k134_1 (ai_ch_cons ai_k134_2 (ai_ch_cons ai_k134_3 (ai_ch_cons ai_k134_4 (ai_ch_cons ai_k134_5 (rfl)))))) : ai_ch ai_r134 0 ai_d134 = true)
set_option maxRecDepth 100000 in
theorem ai_k135 : ai_chk ai_r135 = true := by decide +kernel
set_option maxRecDepth 100000 in
theorem ai_k136_0 : ai_ch1 ai_r136 0 0 (ai_d136.getD 0 []) = true := by decide +kernel
set_option maxRecDepth 100000 in
theorem ai_k136_1 : ai_ch1 ai_r136 1 0 (ai_d136.getD 1 []) = true := by decide +kernel
set_option maxRecDepth 100000 in
theorem ai_k136_2 : ai_ch1 ai_r136 2 0 (ai_d136.getD 2 []) = true := by decide +kernel
set_option maxRecDepth 100000 in
theorem ai_k136_3 : ai_ch1 ai_r136 3 0 (ai_d136.getD 3 []) = true := by decide +kernel
set_option maxRecDepth 100000 in
theorem ai_k136_4 : ai_ch1 ai_r136 4 0 (ai_d136.getD 4 []) = true := by decide +kernel
set_option maxRecDepth 100000 in
theorem ai_k136_5 : ai_ch1 ai_r136 5 0 (ai_d136.getD 5 []) = true := by decide +kernel
set_option maxRecDepth 100000 in
theorem ai_k136_6 : ai_ch1 ai_r136 6 0 (ai_d136.getD 6 []) = true := by decide +kernel
set_option maxRecDepth 100000 in
theorem ai_k136_7 : ai_ch1 ai_r136 7 0 (ai_d136.getD 7 []) = true := by decide +kernel
set_option maxRecDepth 100000 in
theorem ai_k136_8 : ai_ch1 ai_r136 8 0 (ai_d136.getD 8 []) = true := by decide +kernel
set_option maxRecDepth 100000 in
theorem ai_k136_9 : ai_ch1 ai_r136 9 0 (ai_d136.getD 9 []) = true := by decide +kernel
set_option maxRecDepth 100000 in
theorem ai_k136_10 : ai_ch1 ai_r136 10 0 (ai_d136.getD 10 []) = true := by decide +kernel
set_option maxRecDepth 100000 in
theorem ai_k136_11 : ai_ch1 ai_r136 11 0 (ai_d136.getD 11 []) = true := by decide +kernel
set_option maxRecDepth 100000 in
theorem ai_k136_12 : ai_ch1 ai_r136 12 0 (ai_d136.getD 12 []) = true := by decide +kernel
set_option maxRecDepth 100000 in
theorem ai_k136_13 : ai_ch1 ai_r136 13 0 (ai_d136.getD 13 []) = true := by decide +kernel
set_option maxRecDepth 100000 in
theorem ai_k136_14 : ai_ch1 ai_r136 14 0 (ai_d136.getD 14 []) = true := by decide +kernel
set_option maxRecDepth 100000 in
theorem ai_k136_15 : ai_ch1 ai_r136 15 0 (ai_d136.getD 15 []) = true := by decide +kernel
set_option maxRecDepth 100000 in
theorem ai_k136_16 : ai_ch1 ai_r136 16 0 (ai_d136.getD 16 []) = true := by decide +kernel
set_option maxRecDepth 100000 in
theorem ai_k136_17 : ai_ch1 ai_r136 17 0 (ai_d136.getD 17 []) = true := by decide +kernel
set_option maxRecDepth 100000 in
theorem ai_k136_18 : ai_ch1 ai_r136 18 0 (ai_d136.getD 18 []) = true := by decide +kernel
set_option maxRecDepth 100000 in
theorem ai_k136_19 : ai_ch1 ai_r136 19 0 (ai_d136.getD 19 []) = true := by decide +kernel
set_option maxRecDepth 100000 in
theorem ai_k136_20 : ai_ch1 ai_r136 20 0 (ai_d136.getD 20 []) = true := by decide +kernel
set_option maxRecDepth 100000 in
theorem ai_k136_21 : ai_ch1 ai_r136 21 0 (ai_d136.getD 21 []) = true := by decide +kernel
set_option maxRecDepth 100000 in
theorem ai_k136_22 : ai_ch1 ai_r136 22 0 (ai_d136.getD 22 []) = true := by decide +kernel
set_option maxRecDepth 100000 in
theorem ai_k136_23 : ai_ch1 ai_r136 23 0 (ai_d136.getD 23 []) = true := by decide +kernel
set_option maxRecDepth 100000 in
theorem ai_k136_24 : ai_ch1 ai_r136 24 0 (ai_d136.getD 24 []) = true := by decide +kernel
set_option maxRecDepth 100000 in
theorem ai_k136_25 : ai_ch1 ai_r136 25 0 (ai_d136.getD 25 []) = true := by decide +kernel
set_option maxRecDepth 100000 in
theorem ai_k136_26 : ai_ch1 ai_r136 26 0 (ai_d136.getD 26 []) = true := by decide +kernel
set_option maxRecDepth 100000 in
theorem ai_k136_27 : ai_ch1 ai_r136 27 0 (ai_d136.getD 27 []) = true := by decide +kernel
set_option maxRecDepth 100000 in
theorem ai_k136_28 : ai_ch1 ai_r136 28 0 (ai_d136.getD 28 []) = true := by decide +kernel
set_option maxRecDepth 100000 in
theorem ai_k136_29 : ai_ch1 ai_r136 29 0 (ai_d136.getD 29 []) = true := by decide +kernel
set_option maxRecDepth 100000 in
theorem ai_k136 : ai_chk ai_r136 = true := (ai_ch_cons ai_k136_0 (ai_ch_cons ai_k136_1 (ai_ch_cons ai_k136_2 (ai_ch_cons ai_k136_3 (ai_ch_cons ai_k136_4 (ai_ch_cons ai_k136_5 (ai_ch_cons ai_k136_6 (ai_ch_cons ai_k136_7 (ai_ch_cons ai_k136_8 (ai_ch_cons ai_k136_9 (ai_ch_cons ai_k136_10 (ai_ch_cons ai_k136_11 (ai_ch_cons ai_k136_12 (ai_ch_cons ai_k136_13 (ai_ch_cons ai_k136_14 (ai_ch_cons ai_k136_15 (ai_ch_cons ai_k136_16 (ai_ch_cons ai_k136_17 (ai_ch_cons ai_k136_18 (ai_ch_cons ai_k136_19 (ai_ch_cons ai_k136_20 (ai_ch_cons ai_k136_21 (ai_ch_cons ai_k136_22 (ai_ch_cons ai_k136_23 (ai_ch_cons ai_k136_24 (ai_ch_cons ai_k136_25 (ai_ch_cons ai_k136_26 (ai_ch_cons ai_k136_27 (ai_ch_cons ai_k136_28 (ai_ch_cons ai_k136_29 (rfl)))))))))))))))))))))))))))))) : ai_ch ai_r136 0 ai_d136 = true)
set_option maxRecDepth 100000 in
theorem ai_k137_0 : ai_ch1 ai_r137 0 0 (ai_d137.getD 0 []) = true := by decide +kernel
set_option maxRecDepth 100000 in
theorem ai_k137_1 : ai_ch1 ai_r137 1 0 (ai_d137.getD 1 []) = true := by decide +kernel
set_option maxRecDepth 100000 in
theorem ai_k137_2 : ai_ch1 ai_r137 2 0 (ai_d137.getD 2 []) = true := by decide +kernel
set_option maxRecDepth 100000 in
theorem ai_k137_3 : ai_ch1 ai_r137 3 0 (ai_d137.getD 3 []) = true := by decide +kernel
set_option maxRecDepth 100000 in
theorem ai_k137_4 : ai_ch1 ai_r137 4 0 (ai_d137.getD 4 []) = true := by decide +kernel
set_option maxRecDepth 100000 in
theorem ai_k137_5 : ai_ch1 ai_r137 5 0 (ai_d137.getD 5 []) = true := by decide +kernel
set_option maxRecDepth 100000 in
theorem ai_k137_6 : ai_ch1 ai_r137 6 0 (ai_d137.getD 6 []) = true := by decide +kernel
set_option maxRecDepth 100000 in
theorem ai_k137_7 : ai_ch1 ai_r137 7 0 (ai_d137.getD 7 []) = true := by decide +kernel
set_option maxRecDepth 100000 in
theorem ai_k137_8 : ai_ch1 ai_r137 8 0 (ai_d137.getD 8 []) = true := by decide +kernel
set_option maxRecDepth 100000 in
theorem ai_k137_9 : ai_ch1 ai_r137 9 0 (ai_d137.getD 9 []) = true := by decide +kernel
set_option maxRecDepth 100000 in
theorem ai_k137_10 : ai_ch1 ai_r137 10 0 (ai_d137.getD 10 []) = true := by decide +kernel
set_option maxRecDepth 100000 in
theorem ai_k137_11 : ai_ch1 ai_r137 11 0 (ai_d137.getD 11 []) = true := by decide +kernel
set_option maxRecDepth 100000 in
theorem ai_k137_12 : ai_ch1 ai_r137 12 0 (ai_d137.getD 12 []) = true := by decide +kernel
set_option maxRecDepth 100000 in
theorem ai_k137 : ai_chk ai_r137 = true := (ai_ch_cons ai_k137_0 (ai_ch_cons ai_k137_1 (ai_ch_cons ai_k137_2 (ai_ch_cons ai_k137_3 (ai_ch_cons ai_k137_4 (ai_ch_cons ai_k137_5 (ai_ch_cons ai_k137_6 (ai_ch_cons ai_k137_7 (ai_ch_cons ai_k137_8 (ai_ch_cons ai_k137_9 (ai_ch_cons ai_k137_10 (ai_ch_cons ai_k137_11 (ai_ch_cons ai_k137_12 (rfl))))))))))))) : ai_ch ai_r137 0 ai_d137 = true)
set_option maxRecDepth 100000 in
theorem ai_k138 : ai_chk ai_r138 = true := by decide +kernel
set_option maxRecDepth 100000 in
theorem ai_k139 : ai_chk ai_r139 = true := by decide +kernel
set_option maxRecDepth 100000 in
theorem ai_k140 : ai_chk ai_r140 = true := by decide +kernel
set_option maxRecDepth 100000 in
theorem ai_k141_0 : ai_ch1 ai_r141 0 0 (ai_d141.getD 0 []) = true := by decide +kernel
set_option maxRecDepth 100000 in
theorem ai_k141_1 : ai_ch1 ai_r141 1 0 (ai_d141.getD 1 []) = true := by decide +kernel
set_option maxRecDepth 100000 in
theorem ai_k141_2 : ai_ch1 ai_r141 2 0 (ai_d141.getD 2 []) = true := by decide +kernel
set_option maxRecDepth 100000 in
theorem ai_k141_3 : ai_ch1 ai_r141 3 0 (ai_d141.getD 3 []) = true := by decide +kernel
set_option maxRecDepth 100000 in
theorem ai_k141_4 : ai_ch1 ai_r141 4 0 (ai_d141.getD 4 []) = true := by decide +kernel
set_option maxRecDepth 100000 in
theorem ai_k141_5 : ai_ch1 ai_r141 5 0 (ai_d141.getD 5 []) = true := by decide +kernel
set_option maxRecDepth 100000 in
theorem ai_k141_6 : ai_ch1 ai_r141 6 0 (ai_d141.getD 6 []) = true := by decide +kernel
set_option maxRecDepth 100000 in
theorem ai_k141_7 : ai_ch1 ai_r141 7 0 (ai_d141.getD 7 []) = true := by decide +kernel
set_option maxRecDepth 100000 in
theorem ai_k141_8 : ai_ch1 ai_r141 8 0 (ai_d141.getD 8 []) = true := by decide +kernel
set_option maxRecDepth 100000 in
theorem ai_k141 : ai_chk ai_r141 = true := (ai_ch_cons ai_k141_0 (ai_ch_cons ai_k141_1 (ai_ch_cons ai_k141_2 (ai_ch_cons ai_k141_3 (ai_ch_cons ai_k141_4 (ai_ch_cons ai_k141_5 (ai_ch_cons ai_k141_6 (ai_ch_cons ai_k141_7 (ai_ch_cons ai_k141_8 (rfl))))))))) : ai_ch ai_r141 0 ai_d141 = true)
set_option maxRecDepth 100000 in
theorem ai_k142 : ai_chk ai_r142 = true := by decide +kernel
set_option maxRecDepth 100000 in
theorem ai_k143_0 : ai_ch1 ai_r143 0 0 (ai_d143.getD 0 []) = true := by decide +kernel
set_option maxRecDepth 100000 in
theorem ai_k143_1 : ai_ch1 ai_r143 1 0 (ai_d143.getD 1 []) = true := by decide +kernel
set_option maxRecDepth 100000 in
theorem ai_k143_2 : ai_ch1 ai_r143 2 0 (ai_d143.getD 2 []) = true := by decide +kernel
set_option maxRecDepth 100000 in
theorem ai_k143_3 : ai_ch1 ai_r143 3 0 (ai_d143.getD 3 []) = true := by decide +kernel
set_option maxRecDepth 100000 in
theorem ai_k143_4 : ai_ch1 ai_r143 4 0 (ai_d143.getD 4 []) = true := by decide +kernel
set_option maxRecDepth 100000 in
theorem ai_k143_5 : ai_ch1 ai_r143 5 0 (ai_d143.getD 5 []) = true := by decide +kernel
set_option maxRecDepth 100000 in
theorem ai_k143_6 : ai_ch1 ai_r143 6 0 (ai_d143.getD 6 []) = true := by decide +kernel
set_option maxRecDepth 100000 in
theorem ai_k143_7 : ai_ch1 ai_r143 7 0 (ai_d143.getD 7 []) = true := by decide +kernel
set_option maxRecDepth 100000 in
theorem ai_k143_8 : ai_ch1 ai_r143 8 0 (ai_d143.getD 8 []) = true := by decide +kernel
set_option maxRecDepth 100000 in
theorem ai_k143_9 : ai_ch1 ai_r143 9 0 (ai_d143.getD 9 []) = true := by decide +kernel
set_option maxRecDepth 100000 in
theorem ai_k143_10 : ai_ch1 ai_r143 10 0 (ai_d143.getD 10 []) = true := by decide +kernel
set_option maxRecDepth 100000 in
theorem ai_k143_11 : ai_ch1 ai_r143 11 0 (ai_d143.getD 11 []) = true := by decide +kernel
set_option maxRecDepth 100000 in
theorem ai_k143_12 : ai_ch1 ai_r143 12 0 (ai_d143.getD 12 []) = true := by decide +kernel
set_option maxRecDepth 100000 in
theorem ai_k143_13 : ai_ch1 ai_r143 13 0 (ai_d143.getD 13 []) = true := by decide +kernel
set_option maxRecDepth 100000 in
theorem ai_k143_14 : ai_ch1 ai_r143 14 0 (ai_d143.getD 14 []) = true := by decide +kernel
set_option maxRecDepth 100000 in
theorem ai_k143_15 : ai_ch1 ai_r143 15 0 (ai_d143.getD 15 []) = true := by decide +kernel
set_option maxRecDepth 100000 in
theorem ai_k143_16 : ai_ch1 ai_r143 16 0 (ai_d143.getD 16 []) = true := by decide +kernel
set_option maxRecDepth 100000 in
theorem ai_k143_17 : ai_ch1 ai_r143 17 0 (ai_d143.getD 17 []) = true := by decide +kernel
set_option maxRecDepth 100000 in
theorem ai_k143_18 : ai_ch1 ai_r143 18 0 (ai_d143.getD 18 []) = true := by decide +kernel
set_option maxRecDepth 100000 in
theorem ai_k143_19 : ai_ch1 ai_r143 19 0 (ai_d143.getD 19 []) = true := by decide +kernel
set_option maxRecDepth 100000 in
theorem ai_k143_20 : ai_ch1 ai_r143 20 0 (ai_d143.getD 20 []) = true := by decide +kernel
set_option maxRecDepth 100000 in
theorem ai_k143_21 : ai_ch1 ai_r143 21 0 (ai_d143.getD 21 []) = true := by decide +kernel
set_option maxRecDepth 100000 in
theorem ai_k143_22 : ai_ch1 ai_r143 22 0 (ai_d143.getD 22 []) = true := by decide +kernel
set_option maxRecDepth 100000 in
theorem ai_k143_23 : ai_ch1 ai_r143 23 0 (ai_d143.getD 23 []) = true := by decide +kernel
set_option maxRecDepth 100000 in
theorem ai_k143_24 : ai_ch1 ai_r143 24 0 (ai_d143.getD 24 []) = true := by decide +kernel
set_option maxRecDepth 100000 in
theorem ai_k143_25 : ai_ch1 ai_r143 25 0 (ai_d143.getD 25 []) = true := by decide +kernel
set_option maxRecDepth 100000 in
theorem ai_k143_26 : ai_ch1 ai_r143 26 0 (ai_d143.getD 26 []) = true := by decide +kernel
set_option maxRecDepth 100000 in
theorem ai_k143_27 : ai_ch1 ai_r143 27 0 (ai_d143.getD 27 []) = true := by decide +kernel
set_option maxRecDepth 100000 in
theorem ai_k143_28 : ai_ch1 ai_r143 28 0 (ai_d143.getD 28 []) = true := by decide +kernel
set_option maxRecDepth 100000 in
theorem ai_k143_29 : ai_ch1 ai_r143 29 0 (ai_d143.getD 29 []) = true := by decide +kernel
set_option maxRecDepth 100000 in
theorem ai_k143_30 : ai_ch1 ai_r143 30 0 (ai_d143.getD 30 []) = true := by decide +kernel
set_option maxRecDepth 100000 in
theorem ai_k143_31 : ai_ch1 ai_r143 31 0 (ai_d143.getD 31 []) = true := by decide +kernel
set_option maxRecDepth 100000 in
theorem ai_k143_32 : ai_ch1 ai_r143 32 0 (ai_d143.getD 32 []) = true := by decide +kernel
set_option maxRecDepth 100000 in
theorem ai_k143_33 : ai_ch1 ai_r143 33 0 (ai_d143.getD 33 []) = true := by decide +kernel
set_option maxRecDepth 100000 in
theorem ai_k143_34 : ai_ch1 ai_r143 34 0 (ai_d143.getD 34 []) = true := by decide +kernel
set_option maxRecDepth 100000 in
theorem ai_k143_35 : ai_ch1 ai_r143 35 0 (ai_d143.getD 35 []) = true := by decide +kernel
set_option maxRecDepth 100000 in
theorem ai_k143_36 : ai_ch1 ai_r143 36 0 (ai_d143.getD 36 []) = true := by decide +kernel
set_option maxRecDepth 100000 in
theorem ai_k143_37 : ai_ch1 ai_r143 37 0 (ai_d143.getD 37 []) = true := by decide +kernel
set_option maxRecDepth 100000 in
theorem ai_k143_38 : ai_ch1 ai_r143 38 0 (ai_d143.getD 38 []) = true := by decide +kernel
set_option maxRecDepth 100000 in
theorem ai_k143_39 : ai_ch1 ai_r143 39 0 (ai_d143.getD 39 []) = true := by decide +kernel
set_option maxRecDepth 100000 in
theorem ai_k143_40 : ai_ch1 ai_r143 40 0 (ai_d143.getD 40 []) = true := by decide +kernel
set_option maxRecDepth 100000 in
theorem ai_k143 : ai_chk ai_r143 = true := (ai_ch_cons ai_k143_0 (ai_ch_cons ai_k143_1 (ai_ch_cons ai_k143_2 (ai_ch_cons ai_k143_3 (ai_ch_cons ai_k143_4 (ai_ch_cons ai_k143_5 (ai_ch_cons ai_k143_6 (ai_ch_cons ai_k143_7 (ai_ch_cons ai_k143_8 (ai_ch_cons ai_k143_9 (ai_ch_cons ai_k143_10 (ai_ch_cons ai_k143_11 (ai_ch_cons ai_k143_12 (ai_ch_cons ai_k143_13 (ai_ch_cons ai_k143_14 (ai_ch_cons ai_k143_15 (ai_ch_cons ai_k143_16 (ai_ch_cons ai_k143_17 (ai_ch_cons ai_k143_18 (ai_ch_cons ai_k143_19 (ai_ch_cons ai_k143_20 (ai_ch_cons ai_k143_21 (ai_ch_cons ai_k143_22 (ai_ch_cons ai_k143_23 (ai_ch_cons ai_k143_24 (ai_ch_cons ai_k143_25 (ai_ch_cons ai_k143_26 (ai_ch_cons ai_k143_27 (ai_ch_cons ai_k143_28 (ai_ch_cons ai_k143_29 (ai_ch_cons ai_k143_30 (ai_ch_cons ai_k143_31 (ai_ch_cons ai_k143_32 (ai_ch_cons ai_k143_33 (ai_ch_cons ai_k143_34 (ai_ch_cons ai_k143_35 (ai_ch_cons ai_k143_36 (ai_ch_cons ai_k143_37 (ai_ch_cons ai_k143_38 (ai_ch_cons ai_k143_39 (ai_ch_cons ai_k143_40 (rfl))))))))))))))))))))))))))))))))))))))))) : ai_ch ai_r143 0 ai_d143 = true)
