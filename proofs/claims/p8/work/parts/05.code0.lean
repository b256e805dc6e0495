set_option maxRecDepth 100000 in
theorem ai_k0 : ai_chk ai_r0 = true := by decide +kernel
set_option maxRecDepth 100000 in
theorem ai_k1 : ai_chk ai_r1 = true := by decide +kernel
set_option maxRecDepth 100000 in
theorem ai_k2 : ai_chk ai_r2 = true := by decide +kernel
set_option maxRecDepth 100000 in
theorem ai_k3 : ai_chk ai_r3 = true := by decide +kernel
set_option maxRecDepth 100000 in
theorem ai_k4 : ai_chk ai_r4 = true := by decide +kernel
set_option maxRecDepth 100000 in
theorem ai_k5 : ai_chk ai_r5 = true := by decide +kernel
set_option maxRecDepth 100000 in
theorem ai_k6 : ai_chk ai_r6 = true := by decide +kernel
set_option maxRecDepth 100000 in
theorem ai_k7 : ai_chk ai_r7 = true := by decide +kernel
set_option maxRecDepth 100000 in
theorem ai_k8 : ai_chk ai_r8 = true := by decide +kernel
set_option maxRecDepth 100000 in
theorem ai_k9 : ai_chk ai_r9 = true := by decide +kernel
set_option maxRecDepth 100000 in
theorem ai_k10 : ai_chk ai_r10 = true := by decide +kernel
set_option maxRecDepth 100000 in
theorem ai_k11 : ai_chk ai_r11 = true := by decide +kernel
set_option maxRecDepth 100000 in
theorem ai_k12 : ai_chk ai_r12 = true := by decide +kernel
set_option maxRecDepth 100000 in
theorem ai_k13 : ai_chk ai_r13 = true := by decide +kernel
set_option maxRecDepth 100000 in
theorem ai_k14 : ai_chk ai_r14 = true := by decide +kernel
set_option maxRecDepth 100000 in
theorem ai_k15 : ai_chk ai_r15 = true := by decide +kernel
set_option maxRecDepth 100000 in
theorem ai_k16 : ai_chk ai_r16 = true := by decide +kernel
set_option maxRecDepth 100000 in
theorem ai_k17 : ai_chk ai_r17 = true := by decide +kernel
set_option maxRecDepth 100000 in
theorem ai_k18 : ai_chk ai_r18 = true := by decide +kernel
set_option maxRecDepth 100000 in
theorem ai_k19 : ai_chk ai_r19 = true := by decide +kernel
set_option maxRecDepth 100000 in
theorem ai_k20 : ai_chk ai_r20 = true := by decide +kernel
set_option maxRecDepth 100000 in
theorem ai_k21 : ai_chk ai_r21 = true := by decide +kernel
set_option maxRecDepth 100000 in
theorem ai_k22 : ai_chk ai_r22 = true := by decide +kernel
set_option maxRecDepth 100000 in
theorem ai_k23 : ai_chk ai_r23 = true := by decide +kernel
set_option maxRecDepth 100000 in
theorem ai_k24 : ai_chk ai_r24 = true := by decide +kernel
set_option maxRecDepth 100000 in
theorem ai_k25_0 : ai_ch1 ai_r25 0 0 (ai_d25.getD 0 []) = true := by decide +kernel
set_option maxRecDepth 100000 in
theorem ai_k25_1 : ai_ch1 ai_r25 1 0 (ai_d25.getD 1 []) = true := by decide +kernel
set_option maxRecDepth 100000 in
theorem ai_k25_2 : ai_ch1 ai_r25 2 0 (ai_d25.getD 2 []) = true := by decide +kernel
set_option maxRecDepth 100000 in
theorem ai_k25_3 : ai_ch1 ai_r25 3 0 (ai_d25.getD 3 []) = true := by decide +kernel
set_option maxRecDepth 100000 in
theorem ai_k25_4 : ai_ch1 ai_r25 4 0 (ai_d25.getD 4 []) = true := by decide +kernel
set_option maxRecDepth 100000 in
theorem ai_k25_5 : ai_ch1 ai_r25 5 0 (ai_d25.getD 5 []) = true := by decide +kernel
set_option maxRecDepth 100000 in
theorem ai_k25_6 : ai_ch1 ai_r25 6 0 (ai_d25.getD 6 []) = true := by decide +kernel
set_option maxRecDepth 100000 in
theorem ai_k25_7 : ai_ch1 ai_r25 7 0 (ai_d25.getD 7 []) = true := by decide +kernel
set_option maxRecDepth 100000 in
theorem ai_k25 : ai_chk ai_r25 = true := (ai_ch_cons ai_k25_0 (ai_ch_cons ai_k25_1 (ai_ch_cons ai_k25_2 (ai_ch_cons ai_k25_3 (ai_ch_cons ai_k25_4 (ai_ch_cons ai_k25_5 (ai_ch_cons ai_k25_6 (ai_ch_cons ai_k25_7 (rfl)))))))) : ai_ch ai_r25 0 ai_d25 = true)
set_option maxRecDepth 100000 in
theorem ai_k26 : ai_chk ai_r26 = true := by decide +kernel
set_option maxRecDepth 100000 in
theorem ai_k27_0 : ai_ch1 ai_r27 0 0 (ai_d27.getD 0 []) = true := by decide +kernel
set_option maxRecDepth 100000 in
theorem ai_k27_1 : ai_ch1 ai_r27 1 0 (ai_d27.getD 1 []) = true := by decide +kernel
set_option maxRecDepth 100000 in
theorem ai_k27_2 : ai_ch1 ai_r27 2 0 (ai_d27.getD 2 []) = true := by decide +kernel
set_option maxRecDepth 100000 in
theorem ai_k27_3 : ai_ch1 ai_r27 3 0 (ai_d27.getD 3 []) = true := by decide +kernel
set_option maxRecDepth 100000 in
theorem ai_k27_4 : ai_ch1 ai_r27 4 0 (ai_d27.getD 4 []) = true := by decide +kernel
set_option maxRecDepth 100000 in
theorem ai_k27_5 : ai_ch1 ai_r27 5 0 (ai_d27.getD 5 []) = true := by decide +kernel
set_option maxRecDepth 100000 in
theorem ai_k27_6 : ai_ch1 ai_r27 6 0 (ai_d27.getD 6 []) = true := by decide +kernel
set_option maxRecDepth 100000 in
theorem ai_k27_7 : ai_ch1 ai_r27 7 0 (ai_d27.getD 7 []) = true := by decide +kernel
set_option maxRecDepth 100000 in
theorem ai_k27 : ai_chk ai_r27 = true := (ai_ch_cons ai_k27_0 (ai_ch_cons ai_k27_1 (ai_ch_cons ai_k27_2 (ai_ch_cons ai_k27_3 (ai_ch_cons ai_k27_4 (ai_ch_cons ai_k27_5 (ai_ch_cons ai_k27_6 (ai_ch_cons ai_k27_7 (rfl)))))))) : ai_ch ai_r27 0 ai_d27 = true)
set_option maxRecDepth 100000 in
theorem ai_k28_0 : ai_ch1 ai_r28 0 0 (ai_d28.getD 0 []) = true := by decide +kernel
set_option maxRecDepth 100000 in
theorem ai_k28_1 : ai_ch1 ai_r28 1 0 (ai_d28.getD 1 []) = true := by decide +kernel
set_option maxRecDepth 100000 in
theorem ai_k28_2 : ai_ch1 ai_r28 2 0 (ai_d28.getD 2 []) = true := by decide +kernel
set_option maxRecDepth 100000 in
theorem ai_k28_3 : ai_ch1 ai_r28 3 0 (ai_d28.getD 3 []) = true := by decide +kernel
set_option maxRecDepth 100000 in
theorem ai_k28_4 : ai_ch1 ai_r28 4 0 (ai_d28.getD 4 []) = true := by decide +kernel
set_option maxRecDepth 100000 in
theorem ai_k28_5 : ai_ch1 ai_r28 5 0 (ai_d28.getD 5 []) = true := by decide +kernel
set_option maxRecDepth 100000 in
theorem ai_k28_6 : ai_ch1 ai_r28 6 0 (ai_d28.getD 6 []) = true := by decide +kernel
set_option maxRecDepth 100000 in
theorem ai_k28_7 : ai_ch1 ai_r28 7 0 (ai_d28.getD 7 []) = true := by decide +kernel
set_option maxRecDepth 100000 in
theorem ai_k28_8 : ai_ch1 ai_r28 8 0 (ai_d28.getD 8 []) = true := by decide +kernel
set_option maxRecDepth 100000 in
theorem ai_k28_9 : ai_ch1 ai_r28 9 0 (ai_d28.getD 9 []) = true := by decide +kernel
set_option maxRecDepth 100000 in
theorem ai_k28_10 : ai_ch1 ai_r28 10 0 (ai_d28.getD 10 []) = true := by decide +kernel
set_option maxRecDepth 100000 in
theorem ai_k28 : ai_chk ai_r28 = true := (ai_ch_cons ai_k28_0 (ai_ch_cons ai_k28_1 (ai_ch_cons ai_k28_2 (ai_ch_cons ai_k28_3 (ai_ch_cons ai_k28_4 (ai_ch_cons ai_k28_5 (ai_ch_cons ai_k28_6 (ai_ch_cons ai_k28_7 (ai_ch_cons ai_k28_8 (ai_ch_cons ai_k28_9 (ai_ch_cons ai_k28_10 (rfl))))))))))) : ai_ch ai_r28 0 ai_d28 = true)
set_option maxRecDepth 100000 in
theorem ai_k29 : ai_chk ai_r29 = true := by decide +kernel
set_option maxRecDepth 100000 in
theorem ai_k30 : ai_chk ai_r30 = true := by decide +kernel
set_option maxRecDepth 100000 in
theorem ai_k31 : ai_chk ai_r31 = true := by decide +kernel
set_option maxRecDepth 100000 in
theorem ai_k32_0 : ai_ch1 ai_r32 0 0 (ai_d32.getD 0 []) = true := by decide +kernel
set_option maxRecDepth 100000 in
theorem ai_k32_1 : ai_ch1 ai_r32 1 0 (ai_d32.getD 1 []) = true := by decide +kernel
set_option maxRecDepth 100000 in
theorem ai_k32_2 : ai_ch1 ai_r32 2 0 (ai_d32.getD 2 []) = true := by decide +kernel
set_option maxRecDepth 100000 in
theorem ai_k32_3 : ai_ch1 ai_r32 3 0 (ai_d32.getD 3 []) = true := by decide +kernel
set_option maxRecDepth 100000 in
theorem ai_k32_4 : ai_ch1 ai_r32 4 0 (ai_d32.getD 4 []) = true := by decide +kernel
set_option maxRecDepth 100000 in
theorem ai_k32_5 : ai_ch1 ai_r32 5 0 (ai_d32.getD 5 []) = true := by decide +kernel
set_option maxRecDepth 100000 in
theorem ai_k32_6 : ai_ch1 ai_r32 6 0 (ai_d32.getD 6 []) = true := by decide +kernel
set_option maxRecDepth 100000 in
theorem ai_k32_7 : ai_ch1 ai_r32 7 0 (ai_d32.getD 7 []) = true := by decide +kernel
set_option maxRecDepth 100000 in
theorem ai_k32 : ai_chk ai_r32 = true := (ai_ch_cons ai_k32_0 (ai_ch_cons ai_k32_1 (ai_ch_cons ai_k32_2 (ai_ch_cons ai_k32_3 (ai_ch_cons ai_k32_4 (ai_ch_cons ai_k32_5 (ai_ch_cons ai_k32_6 (ai_ch_cons ai_k32_7 (rfl)))))))) : ai_ch ai_r32 0 ai_d32 = true)
set_option maxRecDepth 100000 in
theorem ai_k33 : ai_chk ai_r33 = true := by decide +kernel
set_option maxRecDepth 100000 in
theorem ai_k34 : ai_chk ai_r34 = true := by decide +kernel
set_option maxRecDepth 100000 in
theorem ai_k35 : ai_chk ai_r35 = true := by decide +kernel
set_option maxRecDepth 100000 in
theorem ai_k36 : ai_chk ai_r36 = true := by decide +kernel
set_option maxRecDepth 100000 in
theorem ai_k37 : ai_chk ai_r37 = true := by decide +kernel
set_option maxRecDepth 100000 in
theorem ai_k38 : ai_chk ai_r38 = true := by decide +kernel
set_option maxRecDepth 100000 in
theorem ai_k39 : ai_chk ai_r39 = true := by decide +kernel
set_option maxRecDepth 100000 in
theorem ai_k40 : ai_chk ai_r40 = true := by decide +kernel
set_option maxRecDepth 100000 in
theorem ai_k41 : ai_chk ai_r41 = true := by decide +kernel
set_option maxRecDepth 100000 in
theorem ai_k42 : ai_chk ai_r42 = true := by decide +kernel
set_option maxRecDepth 100000 in
theorem ai_k43 : ai_chk ai_r43 = true := by decide +kernel
set_option maxRecDepth 100000 in
theorem ai_k44 : ai_chk ai_r44 = true := by decide +kernel
set_option maxRecDepth 100000 in
theorem ai_k45 : ai_chk ai_r45 = true := by decide +kernel
set_option maxRecDepth 100000 in
theorem ai_k46_0 : ai_ch1 ai_r46 0 0 (ai_d46.getD 0 []) = true := by decide +kernel
set_option maxRecDepth 100000 in
theorem ai_k46_1 : ai_ch1 ai_r46 1 0 (ai_d46.getD 1 []) = true := by decide +kernel
set_option maxRecDepth 100000 in
theorem ai_k46_2 : ai_ch1 ai_r46 2 0 (ai_d46.getD 2 []) = true := by decide +kernel
set_option maxRecDepth 100000 in
theorem ai_k46_3 : ai_ch1 ai_r46 3 0 (ai_d46.getD 3 []) = true := by decide +kernel
set_option maxRecDepth 100000 in
theorem ai_k46_4 : ai_ch1 ai_r46 4 0 (ai_d46.getD 4 []) = true := by decide +kernel
set_option maxRecDepth 100000 in
theorem ai_k46_5 : ai_ch1 ai_r46 5 0 (ai_d46.getD 5 []) = true := by decide +kernel
set_option maxRecDepth 100000 in
theorem ai_k46_6 : ai_ch1 ai_r46 6 0 (ai_d46.getD 6 []) = true := by decide +kernel
set_option maxRecDepth 100000 in
theorem ai_k46_7 : ai_ch1 ai_r46 7 0 (ai_d46.getD 7 []) = true := by decide +kernel
set_option maxRecDepth 100000 in
theorem ai_k46_8 : ai_ch1 ai_r46 8 0 (ai_d46.getD 8 []) = true := by decide +kernel
set_option maxRecDepth 100000 in
theorem ai_k46_9 : ai_ch1 ai_r46 9 0 (ai_d46.getD 9 []) = true := by decide +kernel
set_option maxRecDepth 100000 in
theorem ai_k46_10 : ai_ch1 ai_r46 10 0 (ai_d46.getD 10 []) = true := by decide +kernel
set_option maxRecDepth 100000 in
theorem ai_k46_11 : ai_ch1 ai_r46 11 0 (ai_d46.getD 11 []) = true := by decide +kernel
set_option maxRecDepth 100000 in
theorem ai_k46_12 : ai_ch1 ai_r46 12 0 (ai_d46.getD 12 []) = true := by decide +kernel
set_option maxRecDepth 100000 in
theorem ai_k46_13 : ai_ch1 ai_r46 13 0 (ai_d46.getD 13 []) = true := by decide +kernel
set_option maxRecDepth 100000 in
theorem ai_k46_14 : ai_ch1 ai_r46 14 0 (ai_d46.getD 14 []) = true := by decide +kernel
set_option maxRecDepth 100000 in
theorem ai_k46_15 : ai_ch1 ai_r46 15 0 (ai_d46.getD 15 []) = true := by decide +kernel
set_option maxRecDepth 100000 in
theorem ai_k46_16 : ai_ch1 ai_r46 16 0 (ai_d46.getD 16 []) = true := by decide +kernel
set_option maxRecDepth 100000 in
theorem ai_k46_17 : ai_ch1 ai_r46 17 0 (ai_d46.getD 17 []) = true := by decide +kernel
set_option maxRecDepth 100000 in
theorem ai_k46_18 : ai_ch1 ai_r46 18 0 (ai_d46.getD 18 []) = true := by decide +kernel
set_option maxRecDepth 100000 in
theorem ai_k46_19 : ai_ch1 ai_r46 19 0 (ai_d46.getD 19 []) = true := by decide +kernel
set_option maxRecDepth 100000 in
theorem ai_k46 : ai_chk ai_r46 = true := (ai_ch_cons ai_k46_0 (ai_ch_cons ai_k46_1 (ai_ch_cons ai_k46_2 (ai_ch_cons ai_k46_3 (ai_ch_cons ai_k46_4 (ai_ch_cons ai_k46_5 (ai_ch_cons ai_k46_6 (ai_ch_cons ai_k46_7 (ai_ch_cons ai_k46_8 (ai_ch_cons ai_k46_9 (ai_ch_cons ai_k46_10 (ai_ch_cons ai_k46_11 (ai_ch_cons ai_k46_12 (ai_ch_cons ai_k46_13 (ai_ch_cons ai_k46_14 (ai_ch_cons ai_k46_15 (ai_ch_cons ai_k46_16 (ai_ch_cons ai_k46_17 (ai_ch_cons ai_k46_18 (ai_ch_cons ai_k46_19 (rfl)))))))))))))))))))) : ai_ch ai_r46 0 ai_d46 = true)
set_option maxRecDepth 100000 in
theorem ai_k47 : ai_chk ai_r47 = true := by decide +kernel
set_option maxRecDepth 100000 in
theorem ai_k48 : ai_chk ai_r48 = true := by decide +kernel
set_option maxRecDepth 100000 in
theorem ai_k49 : ai_chk ai_r49 = true := by decide +kernel
set_option maxRecDepth 100000 in
theorem ai_k50 : ai_chk ai_r50 = true := by decide +kernel
set_option maxRecDepth 100000 in
theorem ai_k51 : ai_chk ai_r51 = true := by decide +kernel
set_option maxRecDepth 100000 in
theorem ai_k52 : ai_chk ai_r52 = true := by decide +kernel
set_option maxRecDepth 100000 in
theorem ai_k53 : ai_chk ai_r53 = true := by decide +kernel
set_option maxRecDepth 100000 in
theorem ai_k54 : ai_chk ai_r54 = true := by decide +kernel
set_option maxRecDepth 100000 in
theorem ai_k55 : ai_chk ai_r55 = true := by decide +kernel
set_option maxRecDepth 100000 in
theorem ai_k56 : ai_chk ai_r56 = true := by decide +kernel
set_option maxRecDepth 100000 in
theorem ai_k57 : ai_chk ai_r57 = true := by decide +kernel
set_option maxRecDepth 100000 in
theorem ai_k58 : ai_chk ai_r58 = true := by decide +kernel
set_option maxRecDepth 100000 in
theorem ai_k59_0 : ai_ch1 ai_r59 0 0 (ai_d59.getD 0 []) = true := by decide +kernel
set_option maxRecDepth 100000 in
theorem ai_k59_1 : ai_ch1 ai_r59 1 0 (ai_d59.getD 1 []) = true := by decide +kernel
set_option maxRecDepth 100000 in
theorem ai_k59_2 : ai_ch1 ai_r59 2 0 (ai_d59.getD 2 []) = true := by decide +kernel
set_option maxRecDepth 100000 in
theorem ai_k59_3 : ai_ch1 ai_r59 3 0 (ai_d59.getD 3 []) = true := by decide +kernel
set_option maxRecDepth 100000 in
theorem ai_k59_4 : ai_ch1 ai_r59 4 0 (ai_d59.getD 4 []) = true := by decide +kernel
set_option maxRecDepth 100000 in
theorem ai_k59_5 : ai_ch1 ai_r59 5 0 (ai_d59.getD 5 []) = true := by decide +kernel
set_option maxRecDepth 100000 in
theorem ai_k59_6 : ai_ch1 ai_r59 6 0 (ai_d59.getD 6 []) = true := by decide +kernel
set_option maxRecDepth 100000 in
theorem ai_k59_7 : ai_ch1 ai_r59 7 0 (ai_d59.getD 7 []) = true := by decide +kernel
set_option maxRecDepth 100000 in
theorem ai_k59_8 : ai_ch1 ai_r59 8 0 (ai_d59.getD 8 []) = true := by decide +kernel
set_option maxRecDepth 100000 in
theorem ai_k59_9 : ai_ch1 ai_r59 9 0 (ai_d59.getD 9 []) = true := by decide +kernel
set_option maxRecDepth 100000 in
theorem ai_k59 : ai_chk ai_r59 = true := (ai_ch_cons ai_k59_0 (ai_ch_cons ai_k59_1 (ai_ch_cons ai_k59_2 (ai_ch_cons ai_k59_3 (ai_ch_cons ai_k59_4 (ai_ch_cons ai_k59_5 (ai_ch_cons ai_k59_6 (ai_ch_cons ai_k59_7 (ai_ch_cons ai_k59_8 (ai_ch_cons ai_k59_9 (rfl)))))))))) : ai_ch ai_r59 0 ai_d59 = true)
set_option maxRecDepth 100000 in
theorem ai_k60 : ai_chk ai_r60 = true := by decide +kernel
set_option maxRecDepth 100000 in
theorem ai_k61 : ai_chk ai_r61 = true := by decide +kernel
set_option maxRecDepth 100000 in
theorem ai_k62 : ai_chk ai_r62 = true := by decide +kernel
set_option maxRecDepth 100000 in
theorem ai_k63_0 : ai_ch1 ai_r63 0 0 (ai_d63.getD 0 []) = true := by decide +kernel
set_option maxRecDepth 100000 in
theorem ai_k63_1 : ai_ch1 ai_r63 1 0 (ai_d63.getD 1 []) = true := by decide +kernel
set_option maxRecDepth 100000 in
theorem ai_k63_2 : ai_ch1 ai_r63 2 0 (ai_d63.getD 2 []) = true := by decide +kernel
set_option maxRecDepth 100000 in
theorem ai_k63_3 : ai_ch1 ai_r63 3 0 (ai_d63.getD 3 []) = true := by decide +kernel
set_option maxRecDepth 100000 in
theorem ai_k63_4 : ai_ch1 ai_r63 4 0 (ai_d63.getD 4 []) = true := by decide +kernel
set_option maxRecDepth 100000 in
theorem ai_k63_5 : ai_ch1 ai_r63 5 0 (ai_d63.getD 5 []) = true := by decide +kernel
set_option maxRecDepth 100000 in
theorem ai_k63_6 : ai_ch1 ai_r63 6 0 (ai_d63.getD 6 []) = true := by decide +kernel
set_option maxRecDepth 100000 in
theorem ai_k63_7 : ai_ch1 ai_r63 7 0 (ai_d63.getD 7 []) = true := by decide +kernel
set_option maxRecDepth 100000 in
theorem ai_k63 : ai_chk ai_r63 = true := (ai_ch_cons ai_k63_0 (ai_ch_cons ai_k63_1 (ai_ch_cons ai_k63_2 (ai_ch_cons ai_k63_3 (ai_ch_cons ai_k63_4 (ai_ch_cons ai_k63_5 (ai_ch_cons ai_k63_6 (ai_ch_cons ai_k63_7 (rfl)))))))) : ai_ch ai_r63 0 ai_d63 = true)
set_option maxRecDepth 100000 in
theorem ai_k64 : ai_chk ai_r64 = true := by decide +kernel
set_option maxRecDepth 100000 in
theorem ai_k65 : ai_chk ai_r65 = true := by decide +kernel
set_option maxRecDepth 100000 in
theorem ai_k66 : ai_chk ai_r66 = true := by decide +kernel
set_option maxRecDepth 100000 in
theorem ai_k67 : ai_chk ai_r67 = true := by decide +kernel
