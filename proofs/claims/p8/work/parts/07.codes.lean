set_option maxRecDepth 1000000 in
theorem ai_c0 : lw_tbl[160]? = some (Cond.code ai_r0.2.1 ai_r0.2.2.1 ai_r0.2.2.2.1 ai_r0.2.2.2.2.1) := rfl
set_option maxRecDepth 1000000 in
theorem ai_c1 : lw_tbl[277]? = some (Cond.code ai_r1.2.1 ai_r1.2.2.1 ai_r1.2.2.2.1 ai_r1.2.2.2.2.1) := rfl
set_option maxRecDepth 1000000 in
theorem ai_c2 : lw_tbl[273]? = some (Cond.code ai_r2.2.1 ai_r2.2.2.1 ai_r2.2.2.2.1 ai_r2.2.2.2.2.1) := rfl
set_option maxRecDepth 1000000 in
theorem ai_c3 : lw_tbl[222]? = some (Cond.code ai_r3.2.1 ai_r3.2.2.1 ai_r3.2.2.2.1 ai_r3.2.2.2.2.1) := rfl
set_option maxRecDepth 1000000 in
theorem ai_c4 : lw_tbl[300]? = some (Cond.code ai_r4.2.1 ai_r4.2.2.1 ai_r4.2.2.2.1 ai_r4.2.2.2.2.1) := rfl
set_option maxRecDepth 1000000 in
theorem ai_c5 : lw_tbl[226]? = some (Cond.code ai_r5.2.1 ai_r5.2.2.1 ai_r5.2.2.2.1 ai_r5.2.2.2.2.1) := rfl
set_option maxRecDepth 1000000 in
theorem ai_c6 : lw_tbl[230]? = some (Cond.code ai_r6.2.1 ai_r6.2.2.1 ai_r6.2.2.2.1 ai_r6.2.2.2.2.1) := rfl
set_option maxRecDepth 1000000 in
theorem ai_c7 : lw_tbl[239]? = some (Cond.code ai_r7.2.1 ai_r7.2.2.1 ai_r7.2.2.2.1 ai_r7.2.2.2.2.1) := rfl
set_option maxRecDepth 1000000 in
theorem ai_c8 : lw_tbl[243]? = some (Cond.code ai_r8.2.1 ai_r8.2.2.1 ai_r8.2.2.2.1 ai_r8.2.2.2.2.1) := rfl
set_option maxRecDepth 1000000 in
theorem ai_c9 : lw_tbl[341]? = some (Cond.code ai_r9.2.1 ai_r9.2.2.1 ai_r9.2.2.2.1 ai_r9.2.2.2.2.1) := rfl
set_option maxRecDepth 1000000 in
theorem ai_c10 : lw_tbl[363]? = some (Cond.code ai_r10.2.1 ai_r10.2.2.1 ai_r10.2.2.2.1 ai_r10.2.2.2.2.1) := rfl
set_option maxRecDepth 1000000 in
theorem ai_c11 : lw_tbl[368]? = some (Cond.code ai_r11.2.1 ai_r11.2.2.1 ai_r11.2.2.2.1 ai_r11.2.2.2.2.1) := rfl
set_option maxRecDepth 1000000 in
theorem ai_c12 : lw_tbl[548]? = some (Cond.code ai_r12.2.1 ai_r12.2.2.1 ai_r12.2.2.2.1 ai_r12.2.2.2.2.1) := rfl
set_option maxRecDepth 1000000 in
theorem ai_c13 : lw_tbl[556]? = some (Cond.code ai_r13.2.1 ai_r13.2.2.1 ai_r13.2.2.2.1 ai_r13.2.2.2.2.1) := rfl
set_option maxRecDepth 1000000 in
theorem ai_c14 : lw_tbl[552]? = some (Cond.code ai_r14.2.1 ai_r14.2.2.1 ai_r14.2.2.2.1 ai_r14.2.2.2.2.1) := rfl
set_option maxRecDepth 1000000 in
theorem ai_c15 : lw_tbl[79]? = some (Cond.code ai_r15.2.1 ai_r15.2.2.1 ai_r15.2.2.2.1 ai_r15.2.2.2.2.1) := rfl
set_option maxRecDepth 1000000 in
theorem ai_c16 : lw_tbl[281]? = some (Cond.code ai_r16.2.1 ai_r16.2.2.1 ai_r16.2.2.2.1 ai_r16.2.2.2.2.1) := rfl
set_option maxRecDepth 1000000 in
theorem ai_c17 : lw_tbl[285]? = some (Cond.code ai_r17.2.1 ai_r17.2.2.1 ai_r17.2.2.2.1 ai_r17.2.2.2.2.1) := rfl
set_option maxRecDepth 1000000 in
theorem ai_c18 : lw_tbl[389]? = some (Cond.code ai_r18.2.1 ai_r18.2.2.1 ai_r18.2.2.2.1 ai_r18.2.2.2.2.1) := rfl
set_option maxRecDepth 1000000 in
theorem ai_c19 : lw_tbl[377]? = some (Cond.code ai_r19.2.1 ai_r19.2.2.1 ai_r19.2.2.2.1 ai_r19.2.2.2.2.1) := rfl
set_option maxRecDepth 1000000 in
theorem ai_c20 : lw_tbl[385]? = some (Cond.code ai_r20.2.1 ai_r20.2.2.1 ai_r20.2.2.2.1 ai_r20.2.2.2.2.1) := rfl
set_option maxRecDepth 1000000 in
theorem ai_c21 : lw_tbl[381]? = some (Cond.code ai_r21.2.1 ai_r21.2.2.1 ai_r21.2.2.2.1 ai_r21.2.2.2.2.1) := rfl
set_option maxRecDepth 1000000 in
theorem ai_c22 : lw_tbl[393]? = some (Cond.code ai_r22.2.1 ai_r22.2.2.1 ai_r22.2.2.2.1 ai_r22.2.2.2.2.1) := rfl
set_option maxRecDepth 1000000 in
theorem ai_c23 : lw_tbl[318]? = some (Cond.code ai_r23.2.1 ai_r23.2.2.1 ai_r23.2.2.2.1 ai_r23.2.2.2.2.1) := rfl
set_option maxRecDepth 1000000 in
theorem ai_c24 : lw_tbl[304]? = some (Cond.code ai_r24.2.1 ai_r24.2.2.1 ai_r24.2.2.2.1 ai_r24.2.2.2.2.1) := rfl
set_option maxRecDepth 1000000 in
theorem ai_c25 : lw_tbl[263]? = some (Cond.code ai_r25.2.1 ai_r25.2.2.1 ai_r25.2.2.2.1 ai_r25.2.2.2.2.1) := rfl
set_option maxRecDepth 1000000 in
theorem ai_c26 : lw_tbl[289]? = some (Cond.code ai_r26.2.1 ai_r26.2.2.1 ai_r26.2.2.2.1 ai_r26.2.2.2.2.1) := rfl
set_option maxRecDepth 1000000 in
theorem ai_c27 : lw_tbl[269]? = some (Cond.code ai_r27.2.1 ai_r27.2.2.1 ai_r27.2.2.2.1 ai_r27.2.2.2.2.1) := rfl
set_option maxRecDepth 1000000 in
theorem ai_c28 : lw_tbl[293]? = some (Cond.code ai_r28.2.1 ai_r28.2.2.1 ai_r28.2.2.2.1 ai_r28.2.2.2.2.1) := rfl
set_option maxRecDepth 1000000 in
theorem ai_c29 : lw_tbl[307]? = some (Cond.code ai_r29.2.1 ai_r29.2.2.1 ai_r29.2.2.2.1 ai_r29.2.2.2.2.1) := rfl
set_option maxRecDepth 1000000 in
theorem ai_c30 : lw_tbl[314]? = some (Cond.code ai_r30.2.1 ai_r30.2.2.1 ai_r30.2.2.2.1 ai_r30.2.2.2.2.1) := rfl
set_option maxRecDepth 1000000 in
theorem ai_c31 : lw_tbl[322]? = some (Cond.code ai_r31.2.1 ai_r31.2.2.1 ai_r31.2.2.2.1 ai_r31.2.2.2.2.1) := rfl
set_option maxRecDepth 1000000 in
theorem ai_c32 : lw_tbl[351]? = some (Cond.code ai_r32.2.1 ai_r32.2.2.1 ai_r32.2.2.2.1 ai_r32.2.2.2.2.1) := rfl
set_option maxRecDepth 1000000 in
theorem ai_c33 : lw_tbl[355]? = some (Cond.code ai_r33.2.1 ai_r33.2.2.1 ai_r33.2.2.2.1 ai_r33.2.2.2.2.1) := rfl
set_option maxRecDepth 1000000 in
theorem ai_c34 : lw_tbl[359]? = some (Cond.code ai_r34.2.1 ai_r34.2.2.1 ai_r34.2.2.2.1 ai_r34.2.2.2.2.1) := rfl
set_option maxRecDepth 1000000 in
theorem ai_c35 : lw_tbl[124]? = some (Cond.code ai_r35.2.1 ai_r35.2.2.1 ai_r35.2.2.2.1 ai_r35.2.2.2.2.1) := rfl
set_option maxRecDepth 1000000 in
theorem ai_c36 : lw_tbl[484]? = some (Cond.code ai_r36.2.1 ai_r36.2.2.1 ai_r36.2.2.2.1 ai_r36.2.2.2.2.1) := rfl
set_option maxRecDepth 1000000 in
theorem ai_c37 : lw_tbl[488]? = some (Cond.code ai_r37.2.1 ai_r37.2.2.1 ai_r37.2.2.2.1 ai_r37.2.2.2.2.1) := rfl
set_option maxRecDepth 1000000 in
theorem ai_c38 : lw_tbl[492]? = some (Cond.code ai_r38.2.1 ai_r38.2.2.1 ai_r38.2.2.2.1 ai_r38.2.2.2.2.1) := rfl
set_option maxRecDepth 1000000 in
theorem ai_c39 : lw_tbl[496]? = some (Cond.code ai_r39.2.1 ai_r39.2.2.1 ai_r39.2.2.2.1 ai_r39.2.2.2.2.1) := rfl
set_option maxRecDepth 1000000 in
theorem ai_c40 : lw_tbl[505]? = some (Cond.code ai_r40.2.1 ai_r40.2.2.1 ai_r40.2.2.2.1 ai_r40.2.2.2.2.1) := rfl
set_option maxRecDepth 1000000 in
theorem ai_c41 : lw_tbl[429]? = some (Cond.code ai_r41.2.1 ai_r41.2.2.1 ai_r41.2.2.2.1 ai_r41.2.2.2.2.1) := rfl
set_option maxRecDepth 1000000 in
theorem ai_c42 : lw_tbl[425]? = some (Cond.code ai_r42.2.1 ai_r42.2.2.1 ai_r42.2.2.2.1 ai_r42.2.2.2.2.1) := rfl
set_option maxRecDepth 1000000 in
theorem ai_c43 : lw_tbl[433]? = some (Cond.code ai_r43.2.1 ai_r43.2.2.1 ai_r43.2.2.2.1 ai_r43.2.2.2.2.1) := rfl
set_option maxRecDepth 1000000 in
theorem ai_c44 : lw_tbl[437]? = some (Cond.code ai_r44.2.1 ai_r44.2.2.1 ai_r44.2.2.2.1 ai_r44.2.2.2.2.1) := rfl
set_option maxRecDepth 1000000 in
theorem ai_c45 : lw_tbl[442]? = some (Cond.code ai_r45.2.1 ai_r45.2.2.1 ai_r45.2.2.2.1 ai_r45.2.2.2.2.1) := rfl
set_option maxRecDepth 1000000 in
theorem ai_c46 : lw_tbl[455]? = some (Cond.code ai_r46.2.1 ai_r46.2.2.1 ai_r46.2.2.2.1 ai_r46.2.2.2.2.1) := rfl
set_option maxRecDepth 1000000 in
theorem ai_c47 : lw_tbl[468]? = some (Cond.code ai_r47.2.1 ai_r47.2.2.1 ai_r47.2.2.2.1 ai_r47.2.2.2.2.1) := rfl
set_option maxRecDepth 1000000 in
theorem ai_c48 : lw_tbl[472]? = some (Cond.code ai_r48.2.1 ai_r48.2.2.1 ai_r48.2.2.2.1 ai_r48.2.2.2.2.1) := rfl
set_option maxRecDepth 1000000 in
theorem ai_c49 : lw_tbl[476]? = some (Cond.code ai_r49.2.1 ai_r49.2.2.1 ai_r49.2.2.2.1 ai_r49.2.2.2.2.1) := rfl
set_option maxRecDepth 1000000 in
theorem ai_c50 : lw_tbl[463]? = some (Cond.code ai_r50.2.1 ai_r50.2.2.1 ai_r50.2.2.2.1 ai_r50.2.2.2.2.1) := rfl
set_option maxRecDepth 1000000 in
theorem ai_c51 : lw_tbl[447]? = some (Cond.code ai_r51.2.1 ai_r51.2.2.1 ai_r51.2.2.2.1 ai_r51.2.2.2.2.1) := rfl
set_option maxRecDepth 1000000 in
theorem ai_c52 : lw_tbl[459]? = some (Cond.code ai_r52.2.1 ai_r52.2.2.1 ai_r52.2.2.2.1 ai_r52.2.2.2.2.1) := rfl
set_option maxRecDepth 1000000 in
theorem ai_c53 : lw_tbl[451]? = some (Cond.code ai_r53.2.1 ai_r53.2.2.1 ai_r53.2.2.2.1 ai_r53.2.2.2.2.1) := rfl
set_option maxRecDepth 1000000 in
theorem ai_c54 : lw_tbl[114]? = some (Cond.code ai_r54.2.1 ai_r54.2.2.1 ai_r54.2.2.2.1 ai_r54.2.2.2.2.1) := rfl
set_option maxRecDepth 1000000 in
theorem ai_c55 : lw_tbl[346]? = some (Cond.code ai_r55.2.1 ai_r55.2.2.1 ai_r55.2.2.2.1 ai_r55.2.2.2.2.1) := rfl
set_option maxRecDepth 1000000 in
theorem ai_c56 : lw_tbl[372]? = some (Cond.code ai_r56.2.1 ai_r56.2.2.1 ai_r56.2.2.2.1 ai_r56.2.2.2.2.1) := rfl
set_option maxRecDepth 1000000 in
theorem ai_c57 : lw_tbl[396]? = some (Cond.code ai_r57.2.1 ai_r57.2.2.1 ai_r57.2.2.2.1 ai_r57.2.2.2.2.1) := rfl
set_option maxRecDepth 1000000 in
theorem ai_c58 : lw_tbl[400]? = some (Cond.code ai_r58.2.1 ai_r58.2.2.1 ai_r58.2.2.2.1 ai_r58.2.2.2.2.1) := rfl
set_option maxRecDepth 1000000 in
theorem ai_c59 : lw_tbl[405]? = some (Cond.code ai_r59.2.1 ai_r59.2.2.1 ai_r59.2.2.2.1 ai_r59.2.2.2.2.1) := rfl
set_option maxRecDepth 1000000 in
theorem ai_c60 : lw_tbl[98]? = some (Cond.code ai_r60.2.1 ai_r60.2.2.1 ai_r60.2.2.2.1 ai_r60.2.2.2.2.1) := rfl
set_option maxRecDepth 1000000 in
theorem ai_c61 : lw_tbl[337]? = some (Cond.code ai_r61.2.1 ai_r61.2.2.1 ai_r61.2.2.2.1 ai_r61.2.2.2.2.1) := rfl
set_option maxRecDepth 1000000 in
theorem ai_c62 : lw_tbl[540]? = some (Cond.code ai_r62.2.1 ai_r62.2.2.1 ai_r62.2.2.2.1 ai_r62.2.2.2.2.1) := rfl
set_option maxRecDepth 1000000 in
theorem ai_c63 : lw_tbl[255]? = some (Cond.code ai_r63.2.1 ai_r63.2.2.1 ai_r63.2.2.2.1 ai_r63.2.2.2.2.1) := rfl
set_option maxRecDepth 1000000 in
theorem ai_c64 : lw_tbl[259]? = some (Cond.code ai_r64.2.1 ai_r64.2.2.1 ai_r64.2.2.2.1 ai_r64.2.2.2.2.1) := rfl
set_option maxRecDepth 1000000 in
theorem ai_c65 : lw_tbl[326]? = some (Cond.code ai_r65.2.1 ai_r65.2.2.1 ai_r65.2.2.2.1 ai_r65.2.2.2.2.1) := rfl
set_option maxRecDepth 1000000 in
theorem ai_c66 : lw_tbl[333]? = some (Cond.code ai_r66.2.1 ai_r66.2.2.1 ai_r66.2.2.2.1 ai_r66.2.2.2.2.1) := rfl
set_option maxRecDepth 1000000 in
theorem ai_c67 : lw_tbl[69]? = some (Cond.code ai_r67.2.1 ai_r67.2.2.1 ai_r67.2.2.2.1 ai_r67.2.2.2.2.1) := rfl
set_option maxRecDepth 1000000 in
theorem ai_c68 : lw_tbl[198]? = some (Cond.code ai_r68.2.1 ai_r68.2.2.1 ai_r68.2.2.2.1 ai_r68.2.2.2.2.1) := rfl
set_option maxRecDepth 1000000 in
theorem ai_c69 : lw_tbl[235]? = some (Cond.code ai_r69.2.1 ai_r69.2.2.1 ai_r69.2.2.2.1 ai_r69.2.2.2.2.1) := rfl
set_option maxRecDepth 1000000 in
theorem ai_c70 : lw_tbl[247]? = some (Cond.code ai_r70.2.1 ai_r70.2.2.1 ai_r70.2.2.2.1 ai_r70.2.2.2.2.1) := rfl
set_option maxRecDepth 1000000 in
theorem ai_c71 : lw_tbl[251]? = some (Cond.code ai_r71.2.1 ai_r71.2.2.1 ai_r71.2.2.2.1 ai_r71.2.2.2.2.1) := rfl
set_option maxRecDepth 1000000 in
theorem ai_c72 : lw_tbl[413]? = some (Cond.code ai_r72.2.1 ai_r72.2.2.1 ai_r72.2.2.2.1 ai_r72.2.2.2.2.1) := rfl
set_option maxRecDepth 1000000 in
theorem ai_c73 : lw_tbl[480]? = some (Cond.code ai_r73.2.1 ai_r73.2.2.1 ai_r73.2.2.2.1 ai_r73.2.2.2.2.1) := rfl
set_option maxRecDepth 1000000 in
theorem ai_c74 : lw_tbl[501]? = some (Cond.code ai_r74.2.1 ai_r74.2.2.1 ai_r74.2.2.2.1 ai_r74.2.2.2.2.1) := rfl
set_option maxRecDepth 1000000 in
theorem ai_c75 : lw_tbl[509]? = some (Cond.code ai_r75.2.1 ai_r75.2.2.1 ai_r75.2.2.2.1 ai_r75.2.2.2.2.1) := rfl
set_option maxRecDepth 1000000 in
theorem ai_c76 : lw_tbl[521]? = some (Cond.code ai_r76.2.1 ai_r76.2.2.1 ai_r76.2.2.2.1 ai_r76.2.2.2.2.1) := rfl
set_option maxRecDepth 1000000 in
theorem ai_c77 : lw_tbl[527]? = some (Cond.code ai_r77.2.1 ai_r77.2.2.1 ai_r77.2.2.2.1 ai_r77.2.2.2.2.1) := rfl
set_option maxRecDepth 1000000 in
theorem ai_c78 : lw_tbl[532]? = some (Cond.code ai_r78.2.1 ai_r78.2.2.1 ai_r78.2.2.2.1 ai_r78.2.2.2.2.1) := rfl
set_option maxRecDepth 1000000 in
theorem ai_c79 : lw_tbl[536]? = some (Cond.code ai_r79.2.1 ai_r79.2.2.1 ai_r79.2.2.2.1 ai_r79.2.2.2.2.1) := rfl
set_option maxRecDepth 1000000 in
theorem ai_c80 : lw_tbl[544]? = some (Cond.code ai_r80.2.1 ai_r80.2.2.1 ai_r80.2.2.2.1 ai_r80.2.2.2.2.1) := rfl
set_option maxRecDepth 1000000 in
theorem ai_c81 : lw_tbl[560]? = some (Cond.code ai_r81.2.1 ai_r81.2.2.1 ai_r81.2.2.2.1 ai_r81.2.2.2.2.1) := rfl
set_option maxRecDepth 1000000 in
theorem ai_c82 : lw_tbl[564]? = some (Cond.code ai_r82.2.1 ai_r82.2.2.1 ai_r82.2.2.2.1 ai_r82.2.2.2.2.1) := rfl
set_option maxRecDepth 1000000 in
theorem ai_c83 : lw_tbl[569]? = some (Cond.code ai_r83.2.1 ai_r83.2.2.1 ai_r83.2.2.2.1 ai_r83.2.2.2.2.1) := rfl
set_option maxRecDepth 1000000 in
theorem ai_c84 : lw_tbl[417]? = some (Cond.code ai_r84.2.1 ai_r84.2.2.1 ai_r84.2.2.2.1 ai_r84.2.2.2.2.1) := rfl
set_option maxRecDepth 1000000 in
theorem ai_c85 : lw_tbl[421]? = some (Cond.code ai_r85.2.1 ai_r85.2.2.1 ai_r85.2.2.2.1 ai_r85.2.2.2.2.1) := rfl
set_option maxRecDepth 1000000 in
theorem ai_c86 : lw_tbl[513]? = some (Cond.code ai_r86.2.1 ai_r86.2.2.1 ai_r86.2.2.2.1 ai_r86.2.2.2.2.1) := rfl
set_option maxRecDepth 1000000 in
theorem ai_c87 : lw_tbl[201]? = some (Cond.code ai_r87.2.1 ai_r87.2.2.1 ai_r87.2.2.2.1 ai_r87.2.2.2.2.1) := rfl
set_option maxRecDepth 1000000 in
theorem ai_c88 : lw_tbl[212]? = some (Cond.code ai_r88.2.1 ai_r88.2.2.1 ai_r88.2.2.2.1 ai_r88.2.2.2.2.1) := rfl
set_option maxRecDepth 1000000 in
theorem ai_c89 : lw_tbl[215]? = some (Cond.code ai_r89.2.1 ai_r89.2.2.1 ai_r89.2.2.2.1 ai_r89.2.2.2.2.1) := rfl
set_option maxRecDepth 1000000 in
theorem ai_c90 : lw_tbl[207]? = some (Cond.code ai_r90.2.1 ai_r90.2.2.1 ai_r90.2.2.2.1 ai_r90.2.2.2.2.1) := rfl
set_option maxRecDepth 1000000 in
theorem ai_c91 : lw_tbl[204]? = some (Cond.code ai_r91.2.1 ai_r91.2.2.1 ai_r91.2.2.2.1 ai_r91.2.2.2.2.1) := rfl
set_option maxRecDepth 1000000 in
theorem ai_c92 : lw_tbl[218]? = some (Cond.code ai_r92.2.1 ai_r92.2.2.1 ai_r92.2.2.2.1 ai_r92.2.2.2.2.1) := rfl
set_option maxRecDepth 1000000 in
theorem ai_c93 : lw_tbl[310]? = some (Cond.code ai_r93.2.1 ai_r93.2.2.1 ai_r93.2.2.2.1 ai_r93.2.2.2.2.1) := rfl
set_option maxRecDepth 1000000 in
theorem ai_c94 : lw_tbl[575]? = some (Cond.code ai_r94.2.1 ai_r94.2.2.1 ai_r94.2.2.2.1 ai_r94.2.2.2.2.1) := rfl
set_option maxRecDepth 1000000 in
theorem ai_c95 : lw_tbl[674]? = some (Cond.code ai_r95.2.1 ai_r95.2.2.1 ai_r95.2.2.2.1 ai_r95.2.2.2.2.1) := rfl
set_option maxRecDepth 1000000 in
theorem ai_c96 : lw_tbl[671]? = some (Cond.code ai_r96.2.1 ai_r96.2.2.1 ai_r96.2.2.2.1 ai_r96.2.2.2.2.1) := rfl
set_option maxRecDepth 1000000 in
theorem ai_c97 : lw_tbl[686]? = some (Cond.code ai_r97.2.1 ai_r97.2.2.1 ai_r97.2.2.2.1 ai_r97.2.2.2.2.1) := rfl
set_option maxRecDepth 1000000 in
theorem ai_c98 : lw_tbl[692]? = some (Cond.code ai_r98.2.1 ai_r98.2.2.1 ai_r98.2.2.2.1 ai_r98.2.2.2.2.1) := rfl
set_option maxRecDepth 1000000 in
theorem ai_c99 : lw_tbl[680]? = some (Cond.code ai_r99.2.1 ai_r99.2.2.1 ai_r99.2.2.2.1 ai_r99.2.2.2.2.1) := rfl
set_option maxRecDepth 1000000 in
theorem ai_c100 : lw_tbl[677]? = some (Cond.code ai_r100.2.1 ai_r100.2.2.1 ai_r100.2.2.2.1 ai_r100.2.2.2.2.1) := rfl
set_option maxRecDepth 1000000 in
theorem ai_c101 : lw_tbl[683]? = some (Cond.code ai_r101.2.1 ai_r101.2.2.1 ai_r101.2.2.2.1 ai_r101.2.2.2.2.1) := rfl
set_option maxRecDepth 1000000 in
theorem ai_c102 : lw_tbl[689]? = some (Cond.code ai_r102.2.1 ai_r102.2.2.1 ai_r102.2.2.2.1 ai_r102.2.2.2.2.1) := rfl
set_option maxRecDepth 1000000 in
theorem ai_c103 : lw_tbl[668]? = some (Cond.code ai_r103.2.1 ai_r103.2.2.1 ai_r103.2.2.2.1 ai_r103.2.2.2.2.1) := rfl
set_option maxRecDepth 1000000 in
theorem ai_c104 : lw_tbl[696]? = some (Cond.code ai_r104.2.1 ai_r104.2.2.1 ai_r104.2.2.2.1 ai_r104.2.2.2.2.1) := rfl
set_option maxRecDepth 1000000 in
theorem ai_c105 : lw_tbl[700]? = some (Cond.code ai_r105.2.1 ai_r105.2.2.1 ai_r105.2.2.2.1 ai_r105.2.2.2.2.1) := rfl
set_option maxRecDepth 1000000 in
theorem ai_c106 : lw_tbl[721]? = some (Cond.code ai_r106.2.1 ai_r106.2.2.1 ai_r106.2.2.2.1 ai_r106.2.2.2.2.1) := rfl
set_option maxRecDepth 1000000 in
theorem ai_c107 : lw_tbl[744]? = some (Cond.code ai_r107.2.1 ai_r107.2.2.1 ai_r107.2.2.2.1 ai_r107.2.2.2.2.1) := rfl
set_option maxRecDepth 1000000 in
theorem ai_c108 : lw_tbl[733]? = some (Cond.code ai_r108.2.1 ai_r108.2.2.1 ai_r108.2.2.2.1 ai_r108.2.2.2.2.1) := rfl
set_option maxRecDepth 1000000 in
theorem ai_c109 : lw_tbl[741]? = some (Cond.code ai_r109.2.1 ai_r109.2.2.1 ai_r109.2.2.2.1 ai_r109.2.2.2.2.1) := rfl
set_option maxRecDepth 1000000 in
theorem ai_c110 : lw_tbl[729]? = some (Cond.code ai_r110.2.1 ai_r110.2.2.1 ai_r110.2.2.2.1 ai_r110.2.2.2.2.1) := rfl
set_option maxRecDepth 1000000 in
theorem ai_c111 : lw_tbl[737]? = some (Cond.code ai_r111.2.1 ai_r111.2.2.1 ai_r111.2.2.2.1 ai_r111.2.2.2.2.1) := rfl
set_option maxRecDepth 1000000 in
theorem ai_c112 : lw_tbl[725]? = some (Cond.code ai_r112.2.1 ai_r112.2.2.1 ai_r112.2.2.2.1 ai_r112.2.2.2.2.1) := rfl
set_option maxRecDepth 1000000 in
theorem ai_c113 : lw_tbl[716]? = some (Cond.code ai_r113.2.1 ai_r113.2.2.1 ai_r113.2.2.2.1 ai_r113.2.2.2.2.1) := rfl
set_option maxRecDepth 1000000 in
theorem ai_c114 : lw_tbl[752]? = some (Cond.code ai_r114.2.1 ai_r114.2.2.1 ai_r114.2.2.2.1 ai_r114.2.2.2.2.1) := rfl
set_option maxRecDepth 1000000 in
theorem ai_c115 : lw_tbl[748]? = some (Cond.code ai_r115.2.1 ai_r115.2.2.1 ai_r115.2.2.2.1 ai_r115.2.2.2.2.1) := rfl
set_option maxRecDepth 1000000 in
theorem ai_c116 : lw_tbl[712]? = some (Cond.code ai_r116.2.1 ai_r116.2.2.1 ai_r116.2.2.2.1 ai_r116.2.2.2.2.1) := rfl
set_option maxRecDepth 1000000 in
theorem ai_c117 : lw_tbl[760]? = some (Cond.code ai_r117.2.1 ai_r117.2.2.1 ai_r117.2.2.2.1 ai_r117.2.2.2.2.1) := rfl
set_option maxRecDepth 1000000 in
theorem ai_c118 : lw_tbl[756]? = some (Cond.code ai_r118.2.1 ai_r118.2.2.1 ai_r118.2.2.2.1 ai_r118.2.2.2.2.1) := rfl
set_option maxRecDepth 1000000 in
theorem ai_c119 : lw_tbl[708]? = some (Cond.code ai_r119.2.1 ai_r119.2.2.1 ai_r119.2.2.2.1 ai_r119.2.2.2.2.1) := rfl
set_option maxRecDepth 1000000 in
theorem ai_c120 : lw_tbl[704]? = some (Cond.code ai_r120.2.1 ai_r120.2.2.1 ai_r120.2.2.2.1 ai_r120.2.2.2.2.1) := rfl
set_option maxRecDepth 1000000 in
theorem ai_c121 : lw_tbl[764]? = some (Cond.code ai_r121.2.1 ai_r121.2.2.1 ai_r121.2.2.2.1 ai_r121.2.2.2.2.1) := rfl
set_option maxRecDepth 1000000 in
theorem ai_c122 : lw_tbl[770]? = some (Cond.code ai_r122.2.1 ai_r122.2.2.1 ai_r122.2.2.2.1 ai_r122.2.2.2.2.1) := rfl
set_option maxRecDepth 1000000 in
theorem ai_c123 : lw_tbl[778]? = some (Cond.code ai_r123.2.1 ai_r123.2.2.1 ai_r123.2.2.2.1 ai_r123.2.2.2.2.1) := rfl
set_option maxRecDepth 1000000 in
theorem ai_c124 : lw_tbl[774]? = some (Cond.code ai_r124.2.1 ai_r124.2.2.1 ai_r124.2.2.2.1 ai_r124.2.2.2.2.1) := rfl
set_option maxRecDepth 1000000 in
theorem ai_c125 : lw_tbl[782]? = some (Cond.code ai_r125.2.1 ai_r125.2.2.1 ai_r125.2.2.2.1 ai_r125.2.2.2.2.1) := rfl
set_option maxRecDepth 1000000 in
theorem ai_c126 : lw_tbl[798]? = some (Cond.code ai_r126.2.1 ai_r126.2.2.1 ai_r126.2.2.2.1 ai_r126.2.2.2.2.1) := rfl
set_option maxRecDepth 1000000 in
theorem ai_c127 : lw_tbl[794]? = some (Cond.code ai_r127.2.1 ai_r127.2.2.1 ai_r127.2.2.2.1 ai_r127.2.2.2.2.1) := rfl
set_option maxRecDepth 1000000 in
theorem ai_c128 : lw_tbl[801]? = some (Cond.code ai_r128.2.1 ai_r128.2.2.1 ai_r128.2.2.2.1 ai_r128.2.2.2.2.1) := rfl
set_option maxRecDepth 1000000 in
theorem ai_c129 : lw_tbl[790]? = some (Cond.code ai_r129.2.1 ai_r129.2.2.1 ai_r129.2.2.2.1 ai_r129.2.2.2.2.1) := rfl
set_option maxRecDepth 1000000 in
theorem ai_c130 : lw_tbl[786]? = some (Cond.code ai_r130.2.1 ai_r130.2.2.1 ai_r130.2.2.2.1 ai_r130.2.2.2.2.1) := rfl
set_option maxRecDepth 1000000 in
theorem ai_c131 : lw_tbl[813]? = some (Cond.code ai_r131.2.1 ai_r131.2.2.1 ai_r131.2.2.2.1 ai_r131.2.2.2.2.1) := rfl
set_option maxRecDepth 1000000 in
theorem ai_c132 : lw_tbl[809]? = some (Cond.code ai_r132.2.1 ai_r132.2.2.1 ai_r132.2.2.2.1 ai_r132.2.2.2.2.1) := rfl
set_option maxRecDepth 1000000 in
theorem ai_c133 : lw_tbl[805]? = some (Cond.code ai_r133.2.1 ai_r133.2.2.1 ai_r133.2.2.2.1 ai_r133.2.2.2.2.1) := rfl
set_option maxRecDepth 1000000 in
theorem ai_c134 : lw_tbl[821]? = some (Cond.code ai_r134.2.1 ai_r134.2.2.1 ai_r134.2.2.2.1 ai_r134.2.2.2.2.1) := rfl
set_option maxRecDepth 1000000 in
theorem ai_c135 : lw_tbl[825]? = some (Cond.code ai_r135.2.1 ai_r135.2.2.1 ai_r135.2.2.2.1 ai_r135.2.2.2.2.1) := rfl
set_option maxRecDepth 1000000 in
theorem ai_c136 : lw_tbl[829]? = some (Cond.code ai_r136.2.1 ai_r136.2.2.1 ai_r136.2.2.2.1 ai_r136.2.2.2.2.1) := rfl
set_option maxRecDepth 1000000 in
theorem ai_c137 : lw_tbl[817]? = some (Cond.code ai_r137.2.1 ai_r137.2.2.1 ai_r137.2.2.2.1 ai_r137.2.2.2.2.1) := rfl
set_option maxRecDepth 1000000 in
theorem ai_c138 : lw_tbl[833]? = some (Cond.code ai_r138.2.1 ai_r138.2.2.1 ai_r138.2.2.2.1 ai_r138.2.2.2.2.1) := rfl
set_option maxRecDepth 1000000 in
theorem ai_c139 : lw_tbl[838]? = some (Cond.code ai_r139.2.1 ai_r139.2.2.1 ai_r139.2.2.2.1 ai_r139.2.2.2.2.1) := rfl
set_option maxRecDepth 1000000 in
theorem ai_c140 : lw_tbl[842]? = some (Cond.code ai_r140.2.1 ai_r140.2.2.1 ai_r140.2.2.2.1 ai_r140.2.2.2.2.1) := rfl
set_option maxRecDepth 1000000 in
theorem ai_c141 : lw_tbl[846]? = some (Cond.code ai_r141.2.1 ai_r141.2.2.1 ai_r141.2.2.2.1 ai_r141.2.2.2.2.1) := rfl
set_option maxRecDepth 1000000 in
theorem ai_c142 : lw_tbl[851]? = some (Cond.code ai_r142.2.1 ai_r142.2.2.1 ai_r142.2.2.2.1 ai_r142.2.2.2.2.1) := rfl
theorem ai_cg0 : ∀ r ∈ ([ai_r0, ai_r1, ai_r2, ai_r3, ai_r4, ai_r5, ai_r6, ai_r7, ai_r8, ai_r9, ai_r10, ai_r11, ai_r12, ai_r13, ai_r14, ai_r15, ai_r16, ai_r17, ai_r18, ai_r19, ai_r20, ai_r21, ai_r22, ai_r23] : List ai_R), Cond.code r.2.1 r.2.2.1 r.2.2.2.1 r.2.2.2.2.1 ∈ lw_tbl := List.forall_mem_cons.mpr ⟨List.mem_of_getElem? ai_c0, List.forall_mem_cons.mpr ⟨List.mem_of_getElem? ai_c1, List.forall_mem_cons.mpr ⟨List.mem_of_getElem? ai_c2, List.forall_mem_cons.mpr ⟨List.mem_of_getElem? ai_c3, List.forall_mem_cons.mpr ⟨List.mem_of_getElem? ai_c4, List.forall_mem_cons.mpr ⟨List.mem_of_getElem? ai_c5, List.forall_mem_cons.mpr ⟨List.mem_of_getElem? ai_c6, List.forall_mem_cons.mpr ⟨List.mem_of_getElem? ai_c7, List.forall_mem_cons.mpr ⟨List.mem_of_getElem? ai_c8, List.forall_mem_cons.mpr ⟨List.mem_of_getElem? ai_c9, List.forall_mem_cons.mpr ⟨List.mem_of_getElem? ai_c10, List.forall_mem_cons.mpr ⟨List.mem_of_getElem? ai_c11, List.forall_mem_cons.mpr ⟨List.mem_of_getElem? ai_c12, List.forall_mem_cons.mpr ⟨List.mem_of_getElem? ai_c13, List.forall_mem_cons.mpr ⟨List.mem_of_getElem? ai_c14, List.forall_mem_cons.mpr ⟨List.mem_of_getElem? ai_c15, List.forall_mem_cons.mpr ⟨List.mem_of_getElem? ai_c16, List.forall_mem_cons.mpr ⟨List.mem_of_getElem? ai_c17, List.forall_mem_cons.mpr ⟨List.mem_of_getElem? ai_c18, List.forall_mem_cons.mpr ⟨List.mem_of_getElem? ai_c19, List.forall_mem_cons.mpr ⟨List.mem_of_getElem? ai_c20, List.forall_mem_cons.mpr ⟨List.mem_of_getElem? ai_c21, List.forall_mem_cons.mpr ⟨List.mem_of_getElem? ai_c22, List.forall_mem_cons.mpr ⟨List.mem_of_getElem? ai_c23, fun _ h => absurd h List.not_mem_nil⟩⟩⟩⟩⟩⟩⟩⟩⟩⟩⟩⟩⟩⟩⟩⟩⟩⟩⟩⟩⟩⟩⟩⟩
theorem ai_cg1 : ∀ r ∈ ([ai_r24, ai_r25, ai_r26, ai_r27, ai_r28, ai_r29, ai_r30, ai_r31, ai_r32, ai_r33, ai_r34, ai_r35, ai_r36, ai_r37, ai_r38, ai_r39, ai_r40, ai_r41, ai_r42, ai_r43, ai_r44, ai_r45, ai_r46, ai_r47] : List ai_R), Cond.code r.2.1 r.2.2.1 r.2.2.2.1 r.2.2.2.2.1 ∈ lw_tbl := List.forall_mem_cons.mpr ⟨List.mem_of_getElem? ai_c24, List.forall_mem_cons.mpr ⟨List.mem_of_getElem? ai_c25, List.forall_mem_cons.mpr ⟨List.mem_of_getElem? ai_c26, List.forall_mem_cons.mpr ⟨List.mem_of_getElem? ai_c27, List.forall_mem_cons.mpr ⟨List.mem_of_getElem? ai_c28, List.forall_mem_cons.mpr ⟨List.mem_of_getElem? ai_c29, List.forall_mem_cons.mpr ⟨List.mem_of_getElem? ai_c30, List.forall_mem_cons.mpr ⟨List.mem_of_getElem? ai_c31, List.forall_mem_cons.mpr ⟨List.mem_of_getElem? ai_c32, List.forall_mem_cons.mpr ⟨List.mem_of_getElem? ai_c33, List.forall_mem_cons.mpr ⟨List.mem_of_getElem? ai_c34, List.forall_mem_cons.mpr ⟨List.mem_of_getElem? ai_c35, List.forall_mem_cons.mpr ⟨List.mem_of_getElem? ai_c36, List.forall_mem_cons.mpr ⟨List.mem_of_getElem? ai_c37, List.forall_mem_cons.mpr ⟨List.mem_of_getElem? ai_c38, List.forall_mem_cons.mpr ⟨List.mem_of_getElem? ai_c39, List.forall_mem_cons.mpr ⟨List.mem_of_getElem? ai_c40, List.forall_mem_cons.mpr ⟨List.mem_of_getElem? ai_c41, List.forall_mem_cons.mpr ⟨List.mem_of_getElem? ai_c42, List.forall_mem_cons.mpr ⟨List.mem_of_getElem? ai_c43, List.forall_mem_cons.mpr ⟨List.mem_of_getElem? ai_c44, List.forall_mem_cons.mpr ⟨List.mem_of_getElem? ai_c45, List.forall_mem_cons.mpr ⟨List.mem_of_getElem? ai_c46, List.forall_mem_cons.mpr ⟨List.mem_of_getElem? ai_c47, fun _ h => absurd h List.not_mem_nil⟩⟩⟩⟩⟩⟩⟩⟩⟩⟩⟩⟩⟩⟩⟩⟩⟩⟩⟩⟩⟩⟩⟩⟩
theorem ai_cg2 : ∀ r ∈ ([ai_r48, ai_r49, ai_r50, ai_r51, ai_r52, ai_r53, ai_r54, ai_r55, ai_r56, ai_r57, ai_r58, ai_r59, ai_r60, ai_r61, ai_r62, ai_r63, ai_r64, ai_r65, ai_r66, ai_r67, ai_r68, ai_r69, ai_r70, ai_r71] : List ai_R), Cond.code r.2.1 r.2.2.1 r.2.2.2.1 r.2.2.2.2.1 ∈ lw_tbl := List.forall_mem_cons.mpr ⟨List.mem_of_getElem? ai_c48, List.forall_mem_cons.mpr ⟨List.mem_of_getElem? ai_c49, List.forall_mem_cons.mpr ⟨List.mem_of_getElem? ai_c50, List.forall_mem_cons.mpr ⟨List.mem_of_getElem? ai_c51, List.forall_mem_cons.mpr ⟨List.mem_of_getElem? ai_c52, List.forall_mem_cons.mpr ⟨List.mem_of_getElem? ai_c53, List.forall_mem_cons.mpr ⟨List.mem_of_getElem? ai_c54, List.forall_mem_cons.mpr ⟨List.mem_of_getElem? ai_c55, List.forall_mem_cons.mpr ⟨List.mem_of_getElem? ai_c56, List.forall_mem_cons.mpr ⟨List.mem_of_getElem? ai_c57, List.forall_mem_cons.mpr ⟨List.mem_of_getElem? ai_c58, List.forall_mem_cons.mpr ⟨List.mem_of_getElem? ai_c59, List.forall_mem_cons.mpr ⟨List.mem_of_getElem? ai_c60, List.forall_mem_cons.mpr ⟨List.mem_of_getElem? ai_c61, List.forall_mem_cons.mpr ⟨List.mem_of_getElem? ai_c62, List.forall_mem_cons.mpr ⟨List.mem_of_getElem? ai_c63, List.forall_mem_cons.mpr ⟨List.mem_of_getElem? ai_c64, List.forall_mem_cons.mpr ⟨List.mem_of_getElem? ai_c65, List.forall_mem_cons.mpr ⟨List.mem_of_getElem? ai_c66, List.forall_mem_cons.mpr ⟨List.mem_of_getElem? ai_c67, List.forall_mem_cons.mpr ⟨List.mem_of_getElem? ai_c68, List.forall_mem_cons.mpr ⟨List.mem_of_getElem? ai_c69, List.forall_mem_cons.mpr ⟨List.mem_of_getElem? ai_c70, List.forall_mem_cons.mpr ⟨List.mem_of_getElem? ai_c71, fun _ h => absurd h List.not_mem_nil⟩⟩⟩⟩⟩⟩⟩⟩⟩⟩⟩⟩⟩⟩⟩⟩⟩⟩⟩⟩⟩⟩⟩⟩
theorem ai_cg3 : ∀ r ∈ ([ai_r72, ai_r73, ai_r74, ai_r75, ai_r76, ai_r77, ai_r78, ai_r79, ai_r80, ai_r81, ai_r82, ai_r83, ai_r84, ai_r85, ai_r86, ai_r87, ai_r88, ai_r89, ai_r90, ai_r91, ai_r92, ai_r93, ai_r94, ai_r95] : List ai_R), Cond.code r.2.1 r.2.2.1 r.2.2.2.1 r.2.2.2.2.1 ∈ lw_tbl := List.forall_mem_cons.mpr ⟨List.mem_of_getElem? ai_c72, List.forall_mem_cons.mpr ⟨List.mem_of_getElem? ai_c73, List.forall_mem_cons.mpr ⟨List.mem_of_getElem? ai_c74, List.forall_mem_cons.mpr ⟨List.mem_of_getElem? ai_c75, List.forall_mem_cons.mpr ⟨List.mem_of_getElem? ai_c76, List.forall_mem_cons.mpr ⟨List.mem_of_getElem? ai_c77, List.forall_mem_cons.mpr ⟨List.mem_of_getElem? ai_c78, List.forall_mem_cons.mpr ⟨List.mem_of_getElem? ai_c79, List.forall_mem_cons.mpr ⟨List.mem_of_getElem? ai_c80, List.forall_mem_cons.mpr ⟨List.mem_of_getElem? ai_c81, List.forall_mem_cons.mpr ⟨List.mem_of_getElem? ai_c82, List.forall_mem_cons.mpr ⟨List.mem_of_getElem? ai_c83, List.forall_mem_cons.mpr ⟨List.mem_of_getElem? ai_c84, List.forall_mem_cons.mpr ⟨List.mem_of_getElem? ai_c85, List.forall_mem_cons.mpr ⟨List.mem_of_getElem? ai_c86, List.forall_mem_cons.mpr ⟨List.mem_of_getElem? ai_c87, List.forall_mem_cons.mpr ⟨List.mem_of_getElem? ai_c88, List.forall_mem_cons.mpr ⟨List.mem_of_getElem? ai_c89, List.forall_mem_cons.mpr ⟨List.mem_of_getElem? ai_c90, List.forall_mem_cons.mpr ⟨List.mem_of_getElem? ai_c91, List.forall_mem_cons.mpr ⟨List.mem_of_getElem? ai_c92, List.forall_mem_cons.mpr ⟨List.mem_of_getElem? ai_c93, List.forall_mem_cons.mpr ⟨List.mem_of_getElem? ai_c94, List.forall_mem_cons.mpr ⟨List.mem_of_getElem? ai_c95, fun _ h => absurd h List.not_mem_nil⟩⟩⟩⟩⟩⟩⟩⟩⟩⟩⟩⟩⟩⟩⟩⟩⟩⟩⟩⟩⟩⟩⟩⟩
theorem ai_cg4 : ∀ r ∈ ([ai_r96, ai_r97, ai_r98, ai_r99, ai_r100, ai_r101, ai_r102, ai_r103, ai_r104, ai_r105, ai_r106, ai_r107, ai_r108, ai_r109, ai_r110, ai_r111, ai_r112, ai_r113, ai_r114, ai_r115, ai_r116, ai_r117, ai_r118, ai_r119] : List ai_R), Cond.code r.2.1 r.2.2.1 r.2.2.2.1 r.2.2.2.2.1 ∈ lw_tbl := List.forall_mem_cons.mpr ⟨List.mem_of_getElem? ai_c96, List.forall_mem_cons.mpr ⟨List.mem_of_getElem? ai_c97, List.forall_mem_cons.mpr ⟨List.mem_of_getElem? ai_c98, List.forall_mem_cons.mpr ⟨List.mem_of_getElem? ai_c99, List.forall_mem_cons.mpr ⟨List.mem_of_getElem? ai_c100, List.forall_mem_cons.mpr ⟨List.mem_of_getElem? ai_c101, List.forall_mem_cons.mpr ⟨List.mem_of_getElem? ai_c102, List.forall_mem_cons.mpr ⟨List.mem_of_getElem? ai_c103, List.forall_mem_cons.mpr ⟨List.mem_of_getElem? ai_c104, List.forall_mem_cons.mpr ⟨List.mem_of_getElem? ai_c105, List.forall_mem_cons.mpr ⟨List.mem_of_getElem? ai_c106, List.forall_mem_cons.mpr ⟨List.mem_of_getElem? ai_c107, List.forall_mem_cons.mpr ⟨List.mem_of_getElem? ai_c108, List.forall_mem_cons.mpr ⟨List.mem_of_getElem? ai_c109, List.forall_mem_cons.mpr ⟨List.mem_of_getElem? ai_c110, List.forall_mem_cons.mpr ⟨List.mem_of_getElem? ai_c111, List.forall_mem_cons.mpr ⟨List.mem_of_getElem? ai_c112, List.forall_mem_cons.mpr ⟨List.mem_of_getElem? ai_c113, List.forall_mem_cons.mpr ⟨List.mem_of_getElem? ai_c114, List.forall_mem_cons.mpr ⟨List.mem_of_getElem? ai_c115, List.forall_mem_cons.mpr ⟨List.mem_of_getElem? ai_c116, List.forall_mem_cons.mpr ⟨List.mem_of_getElem? ai_c117, List.forall_mem_cons.mpr ⟨List.mem_of_getElem? ai_c118, List.forall_mem_cons.mpr ⟨List.mem_of_getElem? ai_c119, fun _ h => absurd h List.not_mem_nil⟩⟩⟩⟩⟩⟩⟩⟩⟩⟩⟩⟩⟩⟩⟩⟩⟩⟩⟩⟩⟩⟩⟩⟩
theorem ai_cg5 : ∀ r ∈ ([ai_r120, ai_r121, ai_r122, ai_r123, ai_r124, ai_r125, ai_r126, ai_r127, ai_r128, ai_r129, ai_r130, ai_r131, ai_r132, ai_r133, ai_r134, ai_r135, ai_r136, ai_r137, ai_r138, ai_r139, ai_r140, ai_r141, ai_r142] : List ai_R), Cond.code r.2.1 r.2.2.1 r.2.2.2.1 r.2.2.2.2.1 ∈ lw_tbl := List.forall_mem_cons.mpr ⟨List.mem_of_getElem? ai_c120, List.forall_mem_cons.mpr ⟨List.mem_of_getElem? ai_c121, List.forall_mem_cons.mpr ⟨List.mem_of_getElem? ai_c122, List.forall_mem_cons.mpr ⟨List.mem_of_getElem? ai_c123, List.forall_mem_cons.mpr ⟨List.mem_of_getElem? ai_c124, List.forall_mem_cons.mpr ⟨List.mem_of_getElem? ai_c125, List.forall_mem_cons.mpr ⟨List.mem_of_getElem? ai_c126, List.forall_mem_cons.mpr ⟨List.mem_of_getElem? ai_c127, List.forall_mem_cons.mpr ⟨List.mem_of_getElem? ai_c128, List.forall_mem_cons.mpr ⟨List.mem_of_getElem? ai_c129, List.forall_mem_cons.mpr ⟨List.mem_of_getElem? ai_c130, List.forall_mem_cons.mpr ⟨List.mem_of_getElem? ai_c131, List.forall_mem_cons.mpr ⟨List.mem_of_getElem? ai_c132, List.forall_mem_cons.mpr ⟨List.mem_of_getElem? ai_c133, List.forall_mem_cons.mpr ⟨List.mem_of_getElem? ai_c134, List.forall_mem_cons.mpr ⟨List.mem_of_getElem? ai_c135, List.forall_mem_cons.mpr ⟨List.mem_of_getElem? ai_c136, List.forall_mem_cons.mpr ⟨List.mem_of_getElem? ai_c137, List.forall_mem_cons.mpr ⟨List.mem_of_getElem? ai_c138, List.forall_mem_cons.mpr ⟨List.mem_of_getElem? ai_c139, List.forall_mem_cons.mpr ⟨List.mem_of_getElem? ai_c140, List.forall_mem_cons.mpr ⟨List.mem_of_getElem? ai_c141, List.forall_mem_cons.mpr ⟨List.mem_of_getElem? ai_c142, fun _ h => absurd h List.not_mem_nil⟩⟩⟩⟩⟩⟩⟩⟩⟩⟩⟩⟩⟩⟩⟩⟩⟩⟩⟩⟩⟩⟩⟩
theorem ai_call : ∀ r ∈ ai_ms.take 143, Cond.code r.2.1 r.2.2.1 r.2.2.2.1 r.2.2.2.2.1 ∈ lw_tbl := by
  show ∀ r ∈ ([ai_r0, ai_r1, ai_r2, ai_r3, ai_r4, ai_r5, ai_r6, ai_r7, ai_r8, ai_r9, ai_r10, ai_r11, ai_r12, ai_r13, ai_r14, ai_r15, ai_r16, ai_r17, ai_r18, ai_r19, ai_r20, ai_r21, ai_r22, ai_r23] : List ai_R) ++ (([ai_r24, ai_r25, ai_r26, ai_r27, ai_r28, ai_r29, ai_r30, ai_r31, ai_r32, ai_r33, ai_r34, ai_r35, ai_r36, ai_r37, ai_r38, ai_r39, ai_r40, ai_r41, ai_r42, ai_r43, ai_r44, ai_r45, ai_r46, ai_r47] : List ai_R) ++ (([ai_r48, ai_r49, ai_r50, ai_r51, ai_r52, ai_r53, ai_r54, ai_r55, ai_r56, ai_r57, ai_r58, ai_r59, ai_r60, ai_r61, ai_r62, ai_r63, ai_r64, ai_r65, ai_r66, ai_r67, ai_r68, ai_r69, ai_r70, ai_r71] : List ai_R) ++ (([ai_r72, ai_r73, ai_r74, ai_r75, ai_r76, ai_r77, ai_r78, ai_r79, ai_r80, ai_r81, ai_r82, ai_r83, ai_r84, ai_r85, ai_r86, ai_r87, ai_r88, ai_r89, ai_r90, ai_r91, ai_r92, ai_r93, ai_r94, ai_r95] : List ai_R) ++ (([ai_r96, ai_r97, ai_r98, ai_r99, ai_r100, ai_r101, ai_r102, ai_r103, ai_r104, ai_r105, ai_r106, ai_r107, ai_r108, ai_r109, ai_r110, ai_r111, ai_r112, ai_r113, ai_r114, ai_r115, ai_r116, ai_r117, ai_r118, ai_r119] : List ai_R) ++ ([ai_r120, ai_r121, ai_r122, ai_r123, ai_r124, ai_r125, ai_r126, ai_r127, ai_r128, ai_r129, ai_r130, ai_r131, ai_r132, ai_r133, ai_r134, ai_r135, ai_r136, ai_r137, ai_r138, ai_r139, ai_r140, ai_r141, ai_r142]))))), Cond.code r.2.1 r.2.2.1 r.2.2.2.1 r.2.2.2.2.1 ∈ lw_tbl
  exact List.forall_mem_append.mpr ⟨ai_cg0, List.forall_mem_append.mpr ⟨ai_cg1, List.forall_mem_append.mpr ⟨ai_cg2, List.forall_mem_append.mpr ⟨ai_cg3, List.forall_mem_append.mpr ⟨ai_cg4, ai_cg5⟩⟩⟩⟩⟩
