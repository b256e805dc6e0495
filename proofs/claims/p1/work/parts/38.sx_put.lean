set_option maxRecDepth 1000000 in
theorem sy_plo : sy_good (sy_run 6 40000 (((sy_E0.set 6 (((0 : Nat) : Int), ((0 : Nat) : Int))).set 1 (-2147483648, -1)).set 2 (-2147483648, 2147483647))) = true := by decide +kernel
set_option maxRecDepth 1000000 in
theorem sy_phi : sy_good (sy_run 6 40000 (((sy_E0.set 6 (((0 : Nat) : Int), ((0 : Nat) : Int))).set 1 (8, 2147483647)).set 2 (-2147483648, 2147483647))) = true := by decide +kernel
set_option maxRecDepth 1000000 in
theorem sy_pklo : sy_good (sy_run 6 40000 (((sy_E0.set 6 (((0 : Nat) : Int), ((0 : Nat) : Int))).set 1 (0, 7)).set 2 (-2147483648, -1))) = true := by decide +kernel
set_option maxRecDepth 1000000 in
theorem sy_pkhi : sy_good (sy_run 6 40000 (((sy_E0.set 6 (((0 : Nat) : Int), ((0 : Nat) : Int))).set 1 (0, 7)).set 2 (13, 2147483647))) = true := by decide +kernel
set_option maxRecDepth 1000000 in
theorem sy_pk0 : sy_good (sy_run 6 40000 (((sy_E0.set 6 (((0 : Nat) : Int), ((0 : Nat) : Int))).set 1 (0, 7)).set 2 (0, 0))) = true := by decide +kernel
set_option maxRecDepth 1000000 in
theorem sy_pk1 : sy_good (sy_run 6 40000 (((sy_E0.set 6 (((0 : Nat) : Int), ((0 : Nat) : Int))).set 1 (0, 7)).set 2 (1, 1))) = true := by decide +kernel
set_option maxRecDepth 1000000 in
theorem sy_pk2 : sy_good (sy_run 6 40000 (((sy_E0.set 6 (((0 : Nat) : Int), ((0 : Nat) : Int))).set 1 (0, 7)).set 2 (2, 2))) = true := by decide +kernel
set_option maxRecDepth 1000000 in
theorem sy_pk3 : sy_good (sy_run 6 40000 (((sy_E0.set 6 (((0 : Nat) : Int), ((0 : Nat) : Int))).set 1 (0, 7)).set 2 (3, 3))) = true := by decide +kernel
set_option maxRecDepth 1000000 in
theorem sy_pk4 : sy_good (sy_run 6 40000 (((sy_E0.set 6 (((0 : Nat) : Int), ((0 : Nat) : Int))).set 1 (0, 7)).set 2 (4, 4))) = true := by decide +kernel
set_option maxRecDepth 1000000 in
theorem sy_pk5 : sy_good (sy_run 6 40000 (((sy_E0.set 6 (((0 : Nat) : Int), ((0 : Nat) : Int))).set 1 (0, 7)).set 2 (5, 5))) = true := by decide +kernel
set_option maxRecDepth 1000000 in
theorem sy_pk6 : sy_good (sy_run 6 40000 (((sy_E0.set 6 (((0 : Nat) : Int), ((0 : Nat) : Int))).set 1 (0, 7)).set 2 (6, 6))) = true := by decide +kernel
set_option maxRecDepth 1000000 in
theorem sy_pk7 : sy_good (sy_run 6 40000 (((sy_E0.set 6 (((0 : Nat) : Int), ((0 : Nat) : Int))).set 1 (0, 7)).set 2 (7, 7))) = true := by decide +kernel
set_option maxRecDepth 1000000 in
theorem sy_pk8 : sy_good (sy_run 6 40000 (((sy_E0.set 6 (((0 : Nat) : Int), ((0 : Nat) : Int))).set 1 (0, 7)).set 2 (8, 8))) = true := by decide +kernel
set_option maxRecDepth 1000000 in
theorem sy_pk9 : sy_good (sy_run 6 40000 (((sy_E0.set 6 (((0 : Nat) : Int), ((0 : Nat) : Int))).set 1 (0, 7)).set 2 (9, 9))) = true := by decide +kernel
set_option maxRecDepth 1000000 in
theorem sy_pk10 : sy_good (sy_run 6 40000 (((sy_E0.set 6 (((0 : Nat) : Int), ((0 : Nat) : Int))).set 1 (0, 7)).set 2 (10, 10))) = true := by decide +kernel
set_option maxRecDepth 1000000 in
theorem sy_pk11 : sy_good (sy_run 6 40000 (((sy_E0.set 6 (((0 : Nat) : Int), ((0 : Nat) : Int))).set 1 (0, 7)).set 2 (11, 11))) = true := by decide +kernel
set_option maxRecDepth 1000000 in
theorem sy_pk12 : sy_good (sy_run 6 40000 (((sy_E0.set 6 (((0 : Nat) : Int), ((0 : Nat) : Int))).set 1 (0, 7)).set 2 (12, 12))) = true := by decide +kernel
