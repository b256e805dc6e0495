set_option maxRecDepth 100000 in
theorem ai_k68_0 : ai_ch1 ai_r68 0 0 (ai_d68.getD 0 []) = true := by decide +kernel
set_option maxRecDepth 100000 in
theorem ai_k68_1 : ai_ch1 ai_r68 1 0 (ai_d68.getD 1 []) = true := by decide +kernel
set_option maxRecDepth 100000 in
theorem ai_k68_2 : ai_ch1 ai_r68 2 0 (ai_d68.getD 2 []) = true := by decide +kernel
set_option maxRecDepth 100000 in
theorem ai_k68_3 : ai_ch1 ai_r68 3 0 (ai_d68.getD 3 []) = true := by decide +kernel
set_option maxRecDepth 100000 in
theorem ai_k68_4 : ai_ch1 ai_r68 4 0 (ai_d68.getD 4 []) = true := by decide +kernel
set_option maxRecDepth 100000 in
theorem ai_k68_5 : ai_ch1 ai_r68 5 0 (ai_d68.getD 5 []) = true := by decide +kernel
set_option maxRecDepth 100000 in
theorem ai_k68_6 : ai_ch1 ai_r68 6 0 (ai_d68.getD 6 []) = true := by decide +kernel
set_option maxRecDepth 100000 in
theorem ai_k68_7 : ai_ch1 ai_r68 7 0 (ai_d68.getD 7 []) = true := by decide +kernel
set_option maxRecDepth 100000 in
theorem ai_k68 : ai_chk ai_r68 = true := (ai_ch_cons ai_k68_0 (ai_ch_cons ai_k68_1 (ai_ch_cons ai_k68_2 (ai_ch_cons ai_k68_3 (ai_ch_cons ai_k68_4 (ai_ch_cons ai_k68_5 (ai_ch_cons ai_k68_6 (ai_ch_cons ai_k68_7 (rfl)))))))) : ai_ch ai_r68 0 ai_d68 = true)
set_option maxRecDepth 100000 in
theorem ai_k69 : ai_chk ai_r69 = true := by decide +kernel
set_option maxRecDepth 100000 in
theorem ai_k70 : ai_chk ai_r70 = true := by decide +kernel
set_option maxRecDepth 100000 in
theorem ai_k71_0 : ai_ch1 ai_r71 0 0 (ai_d71.getD 0 []) = true := by decide +kernel
set_option maxRecDepth 100000 in
theorem ai_k71_1 : ai_ch1 ai_r71 1 0 (ai_d71.getD 1 []) = true := by decide +kernel
set_option maxRecDepth 100000 in
theorem ai_k71_2 : ai_ch1 ai_r71 2 0 (ai_d71.getD 2 []) = true := by decide +kernel
set_option maxRecDepth 100000 in
theorem ai_k71_3 : ai_ch1 ai_r71 3 0 (ai_d71.getD 3 []) = true := by decide +kernel
set_option maxRecDepth 100000 in
theorem ai_k71_4 : ai_ch1 ai_r71 4 0 (ai_d71.getD 4 []) = true := by decide +kernel
set_option maxRecDepth 100000 in
theorem ai_k71_5 : ai_ch1 ai_r71 5 0 (ai_d71.getD 5 []) = true := by decide +kernel
set_option maxRecDepth 100000 in
theorem ai_k71_6 : ai_ch1 ai_r71 6 0 (ai_d71.getD 6 []) = true := by decide +kernel
set_option maxRecDepth 100000 in
theorem ai_k71_7 : ai_ch1 ai_r71 7 0 (ai_d71.getD 7 []) = true := by decide +kernel
set_option maxRecDepth 100000 in
theorem ai_k71 : ai_chk ai_r71 = true := (ai_ch_cons ai_k71_0 (ai_ch_cons ai_k71_1 (ai_ch_cons ai_k71_2 (ai_ch_cons ai_k71_3 (ai_ch_cons ai_k71_4 (ai_ch_cons ai_k71_5 (ai_ch_cons ai_k71_6 (ai_ch_cons ai_k71_7 (rfl)))))))) : ai_ch ai_r71 0 ai_d71 = true)
set_option maxRecDepth 100000 in
theorem ai_k72 : ai_chk ai_r72 = true := by decide +kernel
set_option maxRecDepth 100000 in
theorem ai_k73 : ai_chk ai_r73 = true := by decide +kernel
set_option maxRecDepth 100000 in
theorem ai_k74 : ai_chk ai_r74 = true := by decide +kernel
set_option maxRecDepth 100000 in
theorem ai_k75 : ai_chk ai_r75 = true := by decide +kernel
set_option maxRecDepth 100000 in
theorem ai_k76 : ai_chk ai_r76 = true := by decide +kernel
set_option maxRecDepth 100000 in
theorem ai_k77 : ai_chk ai_r77 = true := by decide +kernel
set_option maxRecDepth 100000 in
theorem ai_k78 : ai_chk ai_r78 = true := by decide +kernel
set_option maxRecDepth 100000 in
theorem ai_k79 : ai_chk ai_r79 = true := by decide +kernel
set_option maxRecDepth 100000 in
theorem ai_k80 : ai_chk ai_r80 = true := by decide +kernel
set_option maxRecDepth 100000 in
theorem ai_k81 : ai_chk ai_r81 = true := by decide +kernel
set_option maxRecDepth 100000 in
theorem ai_k82 : ai_chk ai_r82 = true := by decide +kernel
set_option maxRecDepth 100000 in
theorem ai_k83 : ai_chk ai_r83 = true := by decide +kernel
set_option maxRecDepth 100000 in
theorem ai_k84 : ai_chk ai_r84 = true := by decide +kernel
set_option maxRecDepth 100000 in
theorem ai_k85 : ai_chk ai_r85 = true := by decide +kernel
set_option maxRecDepth 100000 in
theorem ai_k86 : ai_chk ai_r86 = true := by decide +kernel
set_option maxRecDepth 100000 in
theorem ai_k87 : ai_chk ai_r87 = true := by decide +kernel
set_option maxRecDepth 100000 in
theorem ai_k88 : ai_chk ai_r88 = true := by decide +kernel
set_option maxRecDepth 100000 in
theorem ai_k89 : ai_chk ai_r89 = true := by decide +kernel
set_option maxRecDepth 100000 in
theorem ai_k90 : ai_chk ai_r90 = true := by decide +kernel
set_option maxRecDepth 100000 in
theorem ai_k91 : ai_chk ai_r91 = true := by decide +kernel
set_option maxRecDepth 100000 in
theorem ai_k92 : ai_chk ai_r92 = true := by decide +kernel
set_option maxRecDepth 100000 in
theorem ai_k93 : ai_chk ai_r93 = true := by decide +kernel
set_option maxRecDepth 100000 in
theorem ai_k94_0 : ai_ch1 ai_r94 0 0 (ai_d94.getD 0 []) = true := by decide +kernel
set_option maxRecDepth 100000 in
theorem ai_k94_1 : ai_ch1 ai_r94 1 0 (ai_d94.getD 1 []) = true := by decide +kernel
set_option maxRecDepth 100000 in
theorem ai_k94_2 : ai_ch1 ai_r94 2 0 (ai_d94.getD 2 []) = true := by decide +kernel
set_option maxRecDepth 100000 in
theorem ai_k94_3 : ai_ch1 ai_r94 3 0 (ai_d94.getD 3 []) = true := by decide +kernel
set_option maxRecDepth 100000 in
theorem ai_k94_4 : ai_ch1 ai_r94 4 0 (ai_d94.getD 4 []) = true := by decide +kernel
set_option maxRecDepth 100000 in
theorem ai_k94_5 : ai_ch1 ai_r94 5 0 (ai_d94.getD 5 []) = true := by decide +kernel
set_option maxRecDepth 100000 in
theorem ai_k94_6 : ai_ch1 ai_r94 6 0 (ai_d94.getD 6 []) = true := by decide +kernel
set_option maxRecDepth 100000 in
theorem ai_k94_7 : ai_ch1 ai_r94 7 0 (ai_d94.getD 7 []) = true := by decide +kernel
set_option maxRecDepth 100000 in
theorem ai_k94_8 : ai_ch1 ai_r94 8 0 (ai_d94.getD 8 []) = true := by decide +kernel
set_option maxRecDepth 100000 in
theorem ai_k94_9 : ai_ch1 ai_r94 9 0 (ai_d94.getD 9 []) = true := by decide +kernel
set_option maxRecDepth 100000 in
theorem ai_k94 : ai_chk ai_r94 = true := (ai_ch_cons ai_k94_0 (ai_ch_cons ai_k94_1 (ai_ch_cons ai_k94_2 (ai_ch_cons ai_k94_3 (ai_ch_cons ai_k94_4 (ai_ch_cons ai_k94_5 (ai_ch_cons ai_k94_6 (ai_ch_cons ai_k94_7 (ai_ch_cons ai_k94_8 (ai_ch_cons ai_k94_9 (rfl)))))))))) : ai_ch ai_r94 0 ai_d94 = true)
set_option maxRecDepth 100000 in
theorem ai_k95 : ai_chk ai_r95 = true := by decide +kernel
set_option maxRecDepth 100000 in
theorem ai_k96 : ai_chk ai_r96 = true := by decide +kernel
set_option maxRecDepth 100000 in
theorem ai_k97 : ai_chk ai_r97 = true := by decide +kernel
set_option maxRecDepth 100000 in
theorem ai_k98 : ai_chk ai_r98 = true := by decide +kernel
set_option maxRecDepth 100000 in
theorem ai_k99 : ai_chk ai_r99 = true := by decide +kernel
set_option maxRecDepth 100000 in
theorem ai_k100 : ai_chk ai_r100 = true := by decide +kernel
set_option maxRecDepth 100000 in
theorem ai_k101 : ai_chk ai_r101 = true := by decide +kernel
set_option maxRecDepth 100000 in
theorem ai_k102 : ai_chk ai_r102 = true := by decide +kernel
set_option maxRecDepth 100000 in
theorem ai_k103_0 : ai_ch1 ai_r103 0 0 (ai_d103.getD 0 []) = true := by decide +kernel
set_option maxRecDepth 100000 in
theorem ai_k103_1 : ai_ch1 ai_r103 1 0 (ai_d103.getD 1 []) = true := by decide +kernel
set_option maxRecDepth 100000 in
theorem ai_k103_2 : ai_ch1 ai_r103 2 0 (ai_d103.getD 2 []) = true := by decide +kernel
set_option maxRecDepth 100000 in
theorem ai_k103_3 : ai_ch1 ai_r103 3 0 (ai_d103.getD 3 []) = true := by decide +kernel
set_option maxRecDepth 100000 in
theorem ai_k103_4 : ai_ch1 ai_r103 4 0 (ai_d103.getD 4 []) = true := by decide +kernel
set_option maxRecDepth 100000 in
theorem ai_k103_5 : ai_ch1 ai_r103 5 0 (ai_d103.getD 5 []) = true := by decide +kernel
set_option maxRecDepth 100000 in
theorem ai_k103_6 : ai_ch1 ai_r103 6 0 (ai_d103.getD 6 []) = true := by decide +kernel
set_option maxRecDepth 100000 in
theorem ai_k103_7 : ai_ch1 ai_r103 7 0 (ai_d103.getD 7 []) = true := by decide +kernel
set_option maxRecDepth 100000 in
theorem ai_k103_8 : ai_ch1 ai_r103 8 0 (ai_d103.getD 8 []) = true := by decide +kernel
set_option maxRecDepth 100000 in
theorem ai_k103_9 : ai_ch1 ai_r103 9 0 (ai_d103.getD 9 []) = true := by decide +kernel
set_option maxRecDepth 100000 in
theorem ai_k103_10 : ai_ch1 ai_r103 10 0 (ai_d103.getD 10 []) = true := by decide +kernel
set_option maxRecDepth 100000 in
theorem ai_k103_11 : ai_ch1 ai_r103 11 0 (ai_d103.getD 11 []) = true := by decide +kernel
set_option maxRecDepth 100000 in
theorem ai_k103_12 : ai_ch1 ai_r103 12 0 (ai_d103.getD 12 []) = true := by decide +kernel
set_option maxRecDepth 100000 in
theorem ai_k103_13 : ai_ch1 ai_r103 13 0 (ai_d103.getD 13 []) = true := by decide +kernel
set_option maxRecDepth 100000 in
theorem ai_k103 : ai_chk ai_r103 = true := (ai_ch_cons ai_k103_0 (ai_ch_cons ai_k103_1 (ai_ch_cons ai_k103_2 (ai_ch_cons ai_k103_3 (ai_ch_cons ai_k103_4 (ai_ch_cons ai_k103_5 (ai_ch_cons ai_k103_6 (ai_ch_cons ai_k103_7 (ai_ch_cons ai_k103_8 (ai_ch_cons ai_k103_9 (ai_ch_cons ai_k103_10 (ai_ch_cons ai_k103_11 (ai_ch_cons ai_k103_12 (ai_ch_cons ai_k103_13 (rfl)))))))))))))) : ai_ch ai_r103 0 ai_d103 = true)
set_option maxRecDepth 100000 in
theorem ai_k104 : ai_chk ai_r104 = true := by decide +kernel
set_option maxRecDepth 100000 in
theorem ai_k105 : ai_chk ai_r105 = true := by decide +kernel
set_option maxRecDepth 100000 in
theorem ai_k106_0 : ai_ch1 ai_r106 0 0 (ai_d106.getD 0 []) = true := by decide +kernel
set_option maxRecDepth 100000 in
theorem ai_k106_1 : ai_ch1 ai_r106 1 0 (ai_d106.getD 1 []) = true := by decide +kernel
set_option maxRecDepth 100000 in
theorem ai_k106_2 : ai_ch1 ai_r106 2 0 (ai_d106.getD 2 []) = true := by decide +kernel
set_option maxRecDepth 100000 in
theorem ai_k106_3 : ai_ch1 ai_r106 3 0 (ai_d106.getD 3 []) = true := by decide +kernel
set_option maxRecDepth 100000 in
theorem ai_k106_4 : ai_ch1 ai_r106 4 0 (ai_d106.getD 4 []) = true := by decide +kernel
set_option maxRecDepth 100000 in
theorem ai_k106_5 : ai_ch1 ai_r106 5 0 (ai_d106.getD 5 []) = true := by decide +kernel
set_option maxRecDepth 100000 in
theorem ai_k106_6 : ai_ch1 ai_r106 6 0 (ai_d106.getD 6 []) = true := by decide +kernel
set_option maxRecDepth 100000 in
theorem ai_k106_7 : ai_ch1 ai_r106 7 0 (ai_d106.getD 7 []) = true := by decide +kernel
set_option maxRecDepth 100000 in
theorem ai_k106_8 : ai_ch1 ai_r106 8 0 (ai_d106.getD 8 []) = true := by decide +kernel
set_option maxRecDepth 100000 in
theorem ai_k106 : ai_chk ai_r106 = true := (ai_ch_cons ai_k106_0 (ai_ch_cons ai_k106_1 (ai_ch_cons ai_k106_2 (ai_ch_cons ai_k106_3 (ai_ch_cons ai_k106_4 (ai_ch_cons ai_k106_5 (ai_ch_cons ai_k106_6 (ai_ch_cons ai_k106_7 (ai_ch_cons ai_k106_8 (rfl))))))))) : ai_ch ai_r106 0 ai_d106 = true)
set_option maxRecDepth 100000 in
theorem ai_k107 : ai_chk ai_r107 = true := by decide +kernel
set_option maxRecDepth 100000 in
theorem ai_k108 : ai_chk ai_r108 = true := by decide +kernel
set_option maxRecDepth 100000 in
theorem ai_k109 : ai_chk ai_r109 = true := by decide +kernel
set_option maxRecDepth 100000 in
theorem ai_k110 : ai_chk ai_r110 = true := by decide +kernel
set_option maxRecDepth 100000 in
theorem ai_k111 : ai_chk ai_r111 = true := by decide +kernel
set_option maxRecDepth 100000 in
theorem ai_k112_0 : ai_ch1 ai_r112 0 0 (ai_d112.getD 0 []) = true := by decide +kernel
set_option maxRecDepth 100000 in
theorem ai_k112_1 : ai_ch1 ai_r112 1 0 (ai_d112.getD 1 []) = true := by decide +kernel
set_option maxRecDepth 100000 in
theorem ai_k112_2 : ai_ch1 ai_r112 2 0 (ai_d112.getD 2 []) = true := by decide +kernel
set_option maxRecDepth 100000 in
theorem ai_k112_3 : ai_ch1 ai_r112 3 0 (ai_d112.getD 3 []) = true := by decide +kernel
set_option maxRecDepth 100000 in
theorem ai_k112_4 : ai_ch1 ai_r112 4 0 (ai_d112.getD 4 []) = true := by decide +kernel
set_option maxRecDepth 100000 in
theorem ai_k112_5 : ai_ch1 ai_r112 5 0 (ai_d112.getD 5 []) = true := by decide +kernel
set_option maxRecDepth 100000 in
theorem ai_k112_6 : ai_ch1 ai_r112 6 0 (ai_d112.getD 6 []) = true := by decide +kernel
set_option maxRecDepth 100000 in
theorem ai_k112_7 : ai_ch1 ai_r112 7 0 (ai_d112.getD 7 []) = true := by decide +kernel
set_option maxRecDepth 100000 in
theorem ai_k112_8 : ai_ch1 ai_r112 8 0 (ai_d112.getD 8 []) = true := by decide +kernel
set_option maxRecDepth 100000 in
theorem ai_k112_9 : ai_ch1 ai_r112 9 0 (ai_d112.getD 9 []) = true := by decide +kernel
set_option maxRecDepth 100000 in
theorem ai_k112_10 : ai_ch1 ai_r112 10 0 (ai_d112.getD 10 []) = true := by decide +kernel
set_option maxRecDepth 100000 in
theorem ai_k112_11 : ai_ch1 ai_r112 11 0 (ai_d112.getD 11 []) = true := by decide +kernel
set_option maxRecDepth 100000 in
theorem ai_k112_12 : ai_ch1 ai_r112 12 0 (ai_d112.getD 12 []) = true := by decide +kernel
set_option maxRecDepth 100000 in
theorem ai_k112_13 : ai_ch1 ai_r112 13 0 (ai_d112.getD 13 []) = true := by decide +kernel
set_option maxRecDepth 100000 in
theorem ai_k112_14 : ai_ch1 ai_r112 14 0 (ai_d112.getD 14 []) = true := by decide +kernel
set_option maxRecDepth 100000 in
theorem ai_k112 : ai_chk ai_r112 = true := (ai_ch_cons ai_k112_0 (ai_ch_cons ai_k112_1 (ai_ch_cons ai_k112_2 (ai_ch_cons ai_k112_3 (ai_ch_cons ai_k112_4 (ai_ch_cons ai_k112_5 (ai_ch_cons ai_k112_6 (ai_ch_cons ai_k112_7 (ai_ch_cons ai_k112_8 (ai_ch_cons ai_k112_9 (ai_ch_cons ai_k112_10 (ai_ch_cons ai_k112_11 (ai_ch_cons ai_k112_12 (ai_ch_cons ai_k112_13 (ai_ch_cons ai_k112_14 (rfl))))))))))))))) : ai_ch ai_r112 0 ai_d112 = true)
set_option maxRecDepth 100000 in
theorem ai_k113_0 : ai_ch1 ai_r113 0 0 (ai_d113.getD 0 []) = true := by decide +kernel
set_option maxRecDepth 100000 in
theorem ai_k113_1 : ai_ch1 ai_r113 1 0 (ai_d113.getD 1 []) = true := by decide +kernel
set_option maxRecDepth 100000 in
theorem ai_k113_2 : ai_ch1 ai_r113 2 0 (ai_d113.getD 2 []) = true := by decide +kernel
set_option maxRecDepth 100000 in
theorem ai_k113_3 : ai_ch1 ai_r113 3 0 (ai_d113.getD 3 []) = true := by decide +kernel
set_option maxRecDepth 100000 in
theorem ai_k113_4 : ai_ch1 ai_r113 4 0 (ai_d113.getD 4 []) = true := by decide +kernel
set_option maxRecDepth 100000 in
theorem ai_k113_5 : ai_ch1 ai_r113 5 0 (ai_d113.getD 5 []) = true := by decide +kernel
set_option maxRecDepth 100000 in
theorem ai_k113_6 : ai_ch1 ai_r113 6 0 (ai_d113.getD 6 []) = true := by decide +kernel
set_option maxRecDepth 100000 in
theorem ai_k113_7 : ai_ch1 ai_r113 7 0 (ai_d113.getD 7 []) = true := by decide +kernel
set_option maxRecDepth 100000 in
theorem ai_k113_8 : ai_ch1 ai_r113 8 0 (ai_d113.getD 8 []) = true := by decide +kernel
set_option maxRecDepth 100000 in
theorem ai_k113 : ai_chk ai_r113 = true := (ai_ch_cons ai_k113_0 (ai_ch_cons ai_k113_1 (ai_ch_cons ai_k113_2 (ai_ch_cons ai_k113_3 (ai_ch_cons ai_k113_4 (ai_ch_cons ai_k113_5 (ai_ch_cons ai_k113_6 (ai_ch_cons ai_k113_7 (ai_ch_cons ai_k113_8 (rfl))))))))) : ai_ch ai_r113 0 ai_d113 = true)
set_option maxRecDepth 100000 in
theorem ai_k114 : ai_chk ai_r114 = true := by decide +kernel
set_option maxRecDepth 100000 in
theorem ai_k115 : ai_chk ai_r115 = true := by decide +kernel
set_option maxRecDepth 100000 in
theorem ai_k116_0 : ai_ch1 ai_r116 0 0 (ai_d116.getD 0 []) = true := by decide +kernel
set_option maxRecDepth 100000 in
theorem ai_k116_1 : ai_ch1 ai_r116 1 0 (ai_d116.getD 1 []) = true := by decide +kernel
set_option maxRecDepth 100000 in
theorem ai_k116_2 : ai_ch1 ai_r116 2 0 (ai_d116.getD 2 []) = true := by decide +kernel
set_option maxRecDepth 100000 in
theorem ai_k116_3 : ai_ch1 ai_r116 3 0 (ai_d116.getD 3 []) = true := by decide +kernel
set_option maxRecDepth 100000 in
theorem ai_k116_4 : ai_ch1 ai_r116 4 0 (ai_d116.getD 4 []) = true := by decide +kernel
set_option maxRecDepth 100000 in
theorem ai_k116_5 : ai_ch1 ai_r116 5 0 (ai_d116.getD 5 []) = true := by decide +kernel
set_option maxRecDepth 100000 in
theorem ai_k116_6 : ai_ch1 ai_r116 6 0 (ai_d116.getD 6 []) = true := by decide +kernel
set_option maxRecDepth 100000 in
theorem ai_k116_7 : ai_ch1 ai_r116 7 0 (ai_d116.getD 7 []) = true := by decide +kernel
set_option maxRecDepth 100000 in
theorem ai_k116_8 : ai_ch1 ai_r116 8 0 (ai_d116.getD 8 []) = true := by decide +kernel
set_option maxRecDepth 100000 in
theorem ai_k116_9 : ai_ch1 ai_r116 9 0 (ai_d116.getD 9 []) = true := by decide +kernel
set_option maxRecDepth 100000 in
theorem ai_k116_10 : ai_ch1 ai_r116 10 0 (ai_d116.getD 10 []) = true := by decide +kernel
set_option maxRecDepth 100000 in
theorem ai_k116_11 : ai_ch1 ai_r116 11 0 (ai_d116.getD 11 []) = true := by decide +kernel
set_option maxRecDepth 100000 in
theorem ai_k116_12 : ai_ch1 ai_r116 12 0 (ai_d116.getD 12 []) = true := by decide +kernel
set_option maxRecDepth 100000 in
theorem ai_k116_13 : ai_ch1 ai_r116 13 0 (ai_d116.getD 13 []) = true := by decide +kernel
set_option maxRecDepth 100000 in
theorem ai_k116_14 : ai_ch1 ai_r116 14 0 (ai_d116.getD 14 []) = true := by decide +kernel
set_option maxRecDepth 100000 in
theorem ai_k116_15 : ai_ch1 ai_r116 15 0 (ai_d116.getD 15 []) = true := by decide +kernel
set_option maxRecDepth 100000 in
theorem ai_k116_16 : ai_ch1 ai_r116 16 0 (ai_d116.getD 16 []) = true := by decide +kernel
set_option maxRecDepth 100000 in
theorem ai_k116 : ai_chk ai_r116 = true := (ai_ch_cons ai_k116_0 (ai_ch_cons ai_k116_1 (ai_ch_cons ai_k116_2 (ai_ch_cons ai_k116_3 (ai_ch_cons ai_k116_4 (ai_ch_cons ai_k116_5 (ai_ch_cons ai_k116_6 (ai_ch_cons ai_k116_7 (ai_ch_cons ai_k116_8 (ai_ch_cons ai_k116_9 (ai_ch_cons ai_k116_10 (ai_ch_cons ai_k116_11 (ai_ch_cons ai_k116_12 (ai_ch_cons ai_k116_13 (ai_ch_cons ai_k116_14 (ai_ch_cons ai_k116_15 (ai_ch_cons ai_k116_16 (rfl))))))))))))))))) : ai_ch ai_r116 0 ai_d116 = true)
set_option maxRecDepth 100000 in
theorem ai_k117_0 : ai_ch1 ai_r117 0 0 (ai_d117.getD 0 []) = true := by decide +kernel
set_option maxRecDepth 100000 in
theorem ai_k117_1 : ai_ch1 ai_r117 1 0 (ai_d117.getD 1 []) = true := by decide +kernel
set_option maxRecDepth 100000 in
theorem ai_k117_2 : ai_ch1 ai_r117 2 0 (ai_d117.getD 2 []) = true := by decide +kernel
set_option maxRecDepth 100000 in
theorem ai_k117_3 : ai_ch1 ai_r117 3 0 (ai_d117.getD 3 []) = true := by decide +kernel
set_option maxRecDepth 100000 in
theorem ai_k117_4 : ai_ch1 ai_r117 4 0 (ai_d117.getD 4 []) = true := by decide +kernel
set_option maxRecDepth 100000 in
theorem ai_k117_5 : ai_ch1 ai_r117 5 0 (ai_d117.getD 5 []) = true := by decide +kernel
set_option maxRecDepth 100000 in
theorem ai_k117_6 : ai_ch1 ai_r117 6 0 (ai_d117.getD 6 []) = true := by decide +kernel
set_option maxRecDepth 100000 in
theorem ai_k117 : ai_chk ai_r117 = true := (ai_ch_cons ai_k117_0 (ai_ch_cons ai_k117_1 (ai_ch_cons ai_k117_2 (ai_ch_cons ai_k117_3 (ai_ch_cons ai_k117_4 (ai_ch_cons ai_k117_5 (ai_ch_cons ai_k117_6 (rfl))))))) : ai_ch ai_r117 0 ai_d117 = true)
set_option maxRecDepth 100000 in
theorem ai_k118_0 : ai_ch1 ai_r118 0 0 (ai_d118.getD 0 []) = true := by decide +kernel
set_option maxRecDepth 100000 in
theorem ai_k118_1 : ai_ch1 ai_r118 1 0 (ai_d118.getD 1 []) = true := by decide +kernel
set_option maxRecDepth 100000 in
theorem ai_k118_2 : ai_ch1 ai_r118 2 0 (ai_d118.getD 2 []) = true := by decide +kernel
set_option maxRecDepth 100000 in
theorem ai_k118_3 : ai_ch1 ai_r118 3 0 (ai_d118.getD 3 []) = true := by decide +kernel
set_option maxRecDepth 100000 in
theorem ai_k118_4 : ai_ch1 ai_r118 4 0 (ai_d118.getD 4 []) = true := by decide +kernel
set_option maxRecDepth 100000 in
theorem ai_k118_5 : ai_ch1 ai_r118 5 0 (ai_d118.getD 5 []) = true := by decide +kernel
set_option maxRecDepth 100000 in
theorem ai_k118_6 : ai_ch1 ai_r118 6 0 (ai_d118.getD 6 []) = true := by decide +kernel
set_option maxRecDepth 100000 in
theorem ai_k118_7 : ai_ch1 ai_r118 7 0 (ai_d118.getD 7 []) = true := by decide +kernel
set_option maxRecDepth 100000 in
theorem ai_k118_8 : ai_ch1 ai_r118 8 0 (ai_d118.getD 8 []) = true := by decide +kernel
set_option maxRecDepth 100000 in
theorem ai_k118 : ai_chk ai_r118 = true := (ai_ch_cons ai_k118_0 (ai_ch_cons ai_k118_1 (ai_ch_cons ai_k118_2 (ai_ch_cons ai_k118_3 (ai_ch_cons ai_k118_4 (ai_ch_cons ai_k118_5 (ai_ch_cons ai_k118_6 (ai_ch_cons ai_k118_7 (ai_ch_cons ai_k118_8 (rfl))))))))) : ai_ch ai_r118 0 ai_d118 = true)
set_option maxRecDepth 100000 in
theorem ai_k119 : ai_chk ai_r119 = true := by decide +kernel
set_option maxRecDepth 100000 in
theorem ai_k120 : ai_chk ai_r120 = true := by decide +kernel
set_option maxRecDepth 100000 in
theorem ai_k121 : ai_chk ai_r121 = true := by decide +kernel
set_option maxRecDepth 100000 in
theorem ai_k122 : ai_chk ai_r122 = true := by decide +kernel
