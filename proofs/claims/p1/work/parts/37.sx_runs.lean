set_option maxRecDepth 1000000 in
theorem sy_l0 : sy_good (sy_run 0 20000 sy_E0) = true := by decide +kernel
set_option maxRecDepth 1000000 in
theorem sy_l1 : sy_good (sy_run 1 20000 sy_E0) = true := by decide +kernel
set_option maxRecDepth 1000000 in
theorem sy_l2 : sy_good (sy_run 2 20000 sy_E0) = true := by decide +kernel
set_option maxRecDepth 1000000 in
theorem sy_l3 : sy_good (sy_run 3 20000 sy_E0) = true := by decide +kernel
set_option maxRecDepth 1000000 in
theorem sy_l4 : sy_good (sy_run 4 20000 sy_E0) = true := by decide +kernel
set_option maxRecDepth 1000000 in
theorem sy_l5 : sy_good (sy_run 5 20000 sy_E0) = true := by decide +kernel
set_option maxRecDepth 1000000 in
theorem sy_k1 : sy_good (sy_run 6 40000 (sy_E0.set 6 (((1 : Nat) : Int), ((1 : Nat) : Int)))) = true := by decide +kernel
set_option maxRecDepth 1000000 in
theorem sy_k2 : sy_good (sy_run 6 40000 (sy_E0.set 6 (((2 : Nat) : Int), ((2 : Nat) : Int)))) = true := by decide +kernel
set_option maxRecDepth 1000000 in
theorem sy_k5 : sy_good (sy_run 6 40000 (sy_E0.set 6 (((5 : Nat) : Int), ((5 : Nat) : Int)))) = true := by decide +kernel
set_option maxRecDepth 1000000 in
theorem sy_k6 : sy_good (sy_run 6 40000 (sy_E0.set 6 (((6 : Nat) : Int), ((6 : Nat) : Int)))) = true := by decide +kernel
set_option maxRecDepth 1000000 in
theorem sy_k13 : sy_good (sy_run 6 40000 (sy_E0.set 6 (((13 : Nat) : Int), ((13 : Nat) : Int)))) = true := by decide +kernel
set_option maxRecDepth 1000000 in
theorem sy_k14 : sy_good (sy_run 6 40000 (sy_E0.set 6 (((14 : Nat) : Int), ((14 : Nat) : Int)))) = true := by decide +kernel
set_option maxRecDepth 1000000 in
theorem sy_k15 : sy_good (sy_run 6 40000 (sy_E0.set 6 (((15 : Nat) : Int), ((15 : Nat) : Int)))) = true := by decide +kernel
set_option maxRecDepth 1000000 in
theorem sy_k7 : sy_good (sy_run 6 40000 (sy_E0.set 6 (((7 : Nat) : Int), ((7 : Nat) : Int)))) = true := by decide +kernel
set_option maxRecDepth 1000000 in
theorem sy_k8 : sy_good (sy_run 6 40000 (sy_E0.set 6 (((8 : Nat) : Int), ((8 : Nat) : Int)))) = true := by decide +kernel
set_option maxRecDepth 1000000 in
theorem sy_k9 : sy_good (sy_run 6 40000 (sy_E0.set 6 (((9 : Nat) : Int), ((9 : Nat) : Int)))) = true := by decide +kernel
set_option maxRecDepth 1000000 in
theorem sy_k12 : sy_good (sy_run 6 40000 (sy_E0.set 6 (((12 : Nat) : Int), ((12 : Nat) : Int)))) = true := by decide +kernel
set_option maxRecDepth 1000000 in
theorem sy_k10 : sy_good (sy_run 6 40000 (sy_E0.set 6 (((10 : Nat) : Int), ((10 : Nat) : Int)))) = true := by decide +kernel
set_option maxRecDepth 1000000 in
theorem sy_k11 : sy_good (sy_run 6 40000 (sy_E0.set 6 (((11 : Nat) : Int), ((11 : Nat) : Int)))) = true := by decide +kernel
set_option maxRecDepth 1000000 in
theorem sy_k4 : sy_good (sy_run 6 40000 (sy_E0.set 6 (((4 : Nat) : Int), ((4 : Nat) : Int)))) = true := by decide +kernel
set_option maxRecDepth 1000000 in
theorem sy_k3 : sy_good (sy_run 6 40000 (sy_E0.set 6 (((3 : Nat) : Int), ((3 : Nat) : Int)))) = true := by decide +kernel
