noncomputable def g93 (x0 : Int32) (x1 : Int32) (x2 : Int32) (m : fm) : Option (Int32 × fm) :=
  bif decide (x0 = nI 2) then
    some ((x1 + x2), m)
  else bif decide (x0 = nI 3) then
    some ((x1 * x2), m)
  else 
  bif ai_c .ne x2 0 then
    dvI x1 x2 fun v1 =>
    some (v1, m)
  else
    some ((nI 0), m)
set_option maxHeartbeats 4000000 in
theorem t93_0 {X : ai_X} {d w : Nat} (hX : X[1]? = some (39, ai_sh)) (hd : 0 ≤ d) (hw : 0 ≤ w) (x0 : Int32) (x1 : Int32) (x2 : Int32) (m : fm) (Q : Option Value → fm → Prop) (h : ob (g93 x0 x1 x2 m) (fun z : Int32 × fm => Q (some (.int z.1)) z.2)) : fT X d w ai_r93 0 [some (.int x0), some (.int x1), some (.int x2)] [] m Q := by
  unfold g93 at h
  refine fT_ss 1 (pc' := 1) (L' := [some (.int x0), some (.int x1), some (.int x2)]) (st' := [.int x0]) rfl ?_
  by_cases e2 : x0 = nI 2
  · subst e2
    replace h := ob_eqT h
    refine fT_ss 1 (pc' := 28) (L' := [some (.int (nI 2)), some (.int x1), some (.int x2)]) (st' := []) rfl ?_
    refine fT_ss 3 (pc' := 31) (L' := [none, some (.int x1), some (.int x2)]) (st' := [.int (x1 + x2)]) rfl ?_
    exact fT_r rfl rfl h
  replace h := ob_eqF e2 h
  by_cases e3 : x0 = nI 3
  · subst e3
    replace h := ob_eqT h
    refine fT_ss 1 (pc' := 32) (L' := [some (.int (nI 3)), some (.int x1), some (.int x2)]) (st' := []) rfl ?_
    refine fT_ss 3 (pc' := 35) (L' := [none, some (.int x1), some (.int x2)]) (st' := [.int (x1 * x2)]) rfl ?_
    exact fT_r rfl rfl h
  replace h := ob_eqF e3 h
  refine fO_ld 36 rfl rfl rfl ((lv_osw e2 rfl).trans ((lv_osw e3 rfl).trans rfl)) ?_
  refine fT_ss 1 (pc' := 37) (L' := [none, some (.int x1), some (.int x2)]) (st' := [.int x2]) rfl ?_
  refine fO_if 44 rfl rfl h (fun h => ?_) (fun h => ?_)
  · refine fT_ss 2 (pc' := 46) (L' := [none, some (.int x1), some (.int x2)]) (st' := [.int x2, .int x1]) rfl ?_
    refine fO_dv rfl h (fun v1 h => ?_)
    exact fT_r rfl rfl h
  · refine fT_ss 2 (pc' := 47) (L' := [none, none, none]) (st' := [.int (nI 0)]) rfl ?_
    exact fT_r rfl rfl h
noncomputable def g29 (x0 : Int32) (x1 : Int64) (x3 : Int64) (m : fm) : Option (Int64 × fm) :=
  bif ai_c .eq (lg_cmp x1 (Int64.ofNat 1000000000000)) 0 then
    some ((Int64.ofNat 1000000000000), m)
  else
    bif ai_c .ne (lg_cmp x3 (Int64.ofNat 1000000000000)) 0 then
      cl2 (g93 x0 ((x1).toInt32) ((x3).toInt32) m) fun v2 m1 =>
      some (((v2).toInt64), m1)
    else
      some ((Int64.ofNat 1000000000000), m)
set_option maxHeartbeats 4000000 in
theorem t29_0 {X : ai_X} {d w : Nat} (hX : X[1]? = some (39, ai_sh)) (hd : 1 ≤ d) (hw : 22 ≤ w) (x0 : Int32) (x1 : Int64) (x3 : Int64) (m : fm) (Q : Option Value → fm → Prop) (h : ob (g29 x0 x1 x3 m) (fun z : Int64 × fm => Q (some (.long z.1)) z.2)) : fT X d w ai_r29 0 [some (.int x0), some (.long x1), none, some (.long x3), none] [] m Q := by
  unfold g29 at h
  refine fT_ss 1 (pc' := 1) (L' := [some (.int x0), some (.long x1), none, some (.long x3), none]) (st' := [.long x1]) rfl ?_
  refine fT_lc rfl ?_
  refine fT_ss 1 (pc' := 5) (L' := [some (.int x0), some (.long x1), none, some (.long x3), none]) (st' := [.int (lg_cmp x1 (Int64.ofNat 1000000000000))]) rfl ?_
  refine fO_if 16 rfl rfl h (fun h => ?_) (fun h => ?_)
  · refine fT_lc rfl ?_
    refine fT_ss 1 (pc' := 31) (L' := [none, none, none, none, none]) (st' := [.long (Int64.ofNat 1000000000000)]) rfl ?_
    exact fT_r rfl rfl h
  · refine fT_ss 1 (pc' := 9) (L' := [some (.int x0), some (.long x1), none, some (.long x3), none]) (st' := [.long x3]) rfl ?_
    refine fT_lc rfl ?_
    refine fT_ss 1 (pc' := 13) (L' := [some (.int x0), some (.long x1), none, some (.long x3), none]) (st' := [.int (lg_cmp x3 (Int64.ofNat 1000000000000))]) rfl ?_
    refine fO_if 22 rfl rfl h (fun h => ?_) (fun h => ?_)
    · refine fT_ss 5 (pc' := 27) (L' := [some (.int x0), some (.long x1), none, some (.long x3), none]) (st' := [.int ((x3).toInt32), .int ((x1).toInt32), .int x0]) rfl ?_
      refine fO_qs2 Value.int (r' := ai_r93) (As := [.int x0, .int ((x1).toInt32), .int ((x3).toInt32)]) (rest := []) rfl rfl rfl rfl rfl rfl (by omega) (show 19 + 3 ≤ w by omega) (Nat.le_of_ble_eq_true rfl) (Nat.le_of_ble_eq_true rfl) rfl rfl (fun Qc hq => t93_0 hX (show 0 ≤ d - 1 by omega) (show 0 ≤ w - (19 + 3) by omega) _ _ _ _ Qc hq) h (fun v2 m1 h => ?_)
      refine fT_ss 1 (pc' := 31) (L' := [some (.int x0), some (.long x1), none, some (.long x3), none]) (st' := [.long ((v2).toInt64)]) rfl ?_
      exact fT_r rfl rfl h
    · refine fT_lc rfl ?_
      refine fT_ss 1 (pc' := 31) (L' := [none, none, none, none, none]) (st' := [.long (Int64.ofNat 1000000000000)]) rfl ?_
      exact fT_r rfl rfl h
noncomputable def g28_122 (c1 : Nat) (x2 : Int32) (x3 : Int32) (x4 : Int32) (m : fm) : Option (fm) :=
  cl2 (g24 c1 x2 (nI 2) m) fun v13 m12 =>
  cl2 (g24 c1 x2 (nI 3) m12) fun v15 m14 =>
  cl2 (g29 x3 v13 v15 m14) fun v17 m16 =>
  stL m16 7 4 x4 v17 fun m18 =>
  some m18
set_option maxHeartbeats 4000000 in
theorem t28_122 {X : ai_X} {d w : Nat} (hX : X[1]? = some (39, ai_sh)) (hd : 2 ≤ d) (hw : 46 ≤ w) {c1 : Nat} (hc1 : isC c1) (x2 : Int32) (x3 : Int32) (x4 : Int32) (m : fm) (Q : Option Value → fm → Prop) (h : ob (g28_122 c1 x2 x3 x4 m) (fun z : fm => Q none z)) : fT X d w ai_r28 122 [some (.ref 4), some (.ref c1), some (.int x2), some (.int x3), some (.int x4)] [] m Q := by
  unfold g28_122 at h
  refine fT_ss 1 (pc' := 123) (L' := [some (.ref 4), some (.ref c1), some (.int x2), some (.int x3), some (.int x4)]) (st' := [.ref 4]) rfl ?_
  refine fT_gr (q := 7) rfl rfl rfl ?_
  refine fT_ss 6 (pc' := 133) (L' := [some (.ref 4), some (.ref c1), some (.int x2), some (.int x3), some (.int x4)]) (st' := [.int (nI 2), .int x2, .ref c1, .ref 4, .int x3, .int x4, .ref 7]) rfl ?_
  refine fO_qv2 Value.long (r' := ai_r24) (k := 4) (As := [.ref c1, .int x2, .int (nI 2)]) (rest := [.int x3, .int x4, .ref 7]) rfl rfl rfl rfl rfl rfl (by omega) (show 19 + 4 ≤ w by omega) (Nat.le_of_ble_eq_true rfl) (Nat.le_of_ble_eq_true rfl) (all_c rfl (all_c (kl_c hc1.2.2.1) rfl)) rfl (fun Qc hq => t24_0 hX (show 0 ≤ d - 1 by omega) (show 0 ≤ w - (19 + 4) by omega) hc1 _ _ _ Qc hq) h (fun v13 m12 h => ?_)
  refine fT_ss 4 (pc' := 140) (L' := [some (.ref 4), some (.ref c1), some (.int x2), some (.int x3), some (.int x4)]) (st' := [.int (nI 3), .int x2, .ref c1, .ref 4, .long v13, .int x3, .int x4, .ref 7]) rfl ?_
  refine fO_qv2 Value.long (r' := ai_r24) (k := 4) (As := [.ref c1, .int x2, .int (nI 3)]) (rest := [.long v13, .int x3, .int x4, .ref 7]) rfl rfl rfl rfl rfl rfl (by omega) (show 19 + 4 ≤ w by omega) (Nat.le_of_ble_eq_true rfl) (Nat.le_of_ble_eq_true rfl) (all_c rfl (all_c (kl_c hc1.2.2.1) rfl)) rfl (fun Qc hq => t24_0 hX (show 0 ≤ d - 1 by omega) (show 0 ≤ w - (19 + 4) by omega) hc1 _ _ _ Qc hq) h (fun v15 m14 h => ?_)
  refine fO_qs2 Value.long (r' := ai_r29) (As := [.int x3, .long v13, .long v15]) (rest := [.int x4, .ref 7]) rfl rfl rfl rfl rfl rfl (by omega) (show 19 + 5 ≤ w by omega) (Nat.le_of_ble_eq_true rfl) (Nat.le_of_ble_eq_true rfl) (all_c rfl (all_c (kl_c hc1.2.2.1) rfl)) rfl (fun Qc hq => t29_0 hX (show 1 ≤ d - 1 by omega) (show 22 ≤ w - (19 + 5) by omega) _ _ _ _ Qc hq) h (fun v17 m16 h => ?_)
  refine fO_ls rfl rfl h (fun m18 h => ?_)
  refine fT_ss 1 (pc' := 163) (L' := [some (.ref 4), some (.ref c1), some (.int x2), some (.int x3), some (.int x4)]) (st' := []) rfl ?_
  exact fT_r rfl rfl h
noncomputable def g28_150 (x4 : Int32) (m : fm) : Option (fm) :=
  stL m 7 4 x4 (Int64.ofNat 1000000000000) fun m19 =>
  some m19
set_option maxHeartbeats 4000000 in
theorem t28_150 {X : ai_X} {d w : Nat} (hX : X[1]? = some (39, ai_sh)) (hd : 2 ≤ d) (hw : 46 ≤ w) (x4 : Int32) (m : fm) (Q : Option Value → fm → Prop) (h : ob (g28_150 x4 m) (fun z : fm => Q none z)) : fT X d w ai_r28 150 [some (.ref 4), none, none, none, some (.int x4)] [] m Q := by
  unfold g28_150 at h
  refine fT_ss 1 (pc' := 151) (L' := [some (.ref 4), none, none, none, some (.int x4)]) (st' := [.ref 4]) rfl ?_
  refine fT_gr (q := 7) rfl rfl rfl ?_
  refine fT_ss 1 (pc' := 156) (L' := [some (.ref 4), none, none, none, some (.int x4)]) (st' := [.int x4, .ref 7]) rfl ?_
  refine fT_lc rfl ?_
  refine fO_ls rfl rfl h (fun m19 h => ?_)
  refine fT_ss 1 (pc' := 163) (L' := [some (.ref 4), none, none, none, some (.int x4)]) (st' := []) rfl ?_
  exact fT_r rfl rfl h
noncomputable def g28 (c1 : Nat) (x2 : Int32) (m : fm) : Option (fm) :=
  cpL m 5 96 (x2 * (nI 4)) 7 4 (nI 0) (nI 4) fun m1 =>
  cl2 (g4 c1 x2 (nI 0) m1) fun v3 m2 =>
  cl2 (g4 c1 x2 (nI 1) m2) fun v5 m4 =>
  bif decide (v3 = nI 0) then
    cl2 (g4 c1 x2 (nI 2) m4) fun v7 m6 =>
    stL m6 7 4 v5 ((v7).toInt64) fun m8 =>
    some m8
  else bif decide (v3 = nI 1) then
    cl2 (g24 c1 x2 (nI 2) m4) fun v10 m9 =>
    stL m9 7 4 v5 v10 fun m11 =>
    some m11
  else bif decide (v3 = nI 2) then
    g28_122 c1 x2 v3 v5 m4
  else bif decide (v3 = nI 3) then
    g28_122 c1 x2 v3 v5 m4
  else bif decide (v3 = nI 4) then
    g28_122 c1 x2 v3 v5 m4
  else bif decide (v3 = nI 5) then
    some m4
  else bif decide (v3 = nI 6) then
    some m4
  else bif decide (v3 = nI 7) then
    g28_150 v5 m4
  else bif decide (v3 = nI 8) then
    some m4
  else bif decide (v3 = nI 9) then
    g28_150 v5 m4
  else 
  some m4
set_option maxHeartbeats 4000000 in
theorem t28_0 {X : ai_X} {d w : Nat} (hX : X[1]? = some (39, ai_sh)) (hd : 2 ≤ d) (hw : 46 ≤ w) {c1 : Nat} (hc1 : isC c1) (x2 : Int32) (m : fm) (Q : Option Value → fm → Prop) (h : ob (g28 c1 x2 m) (fun z : fm => Q none z)) : fT X d w ai_r28 0 [some (.ref 4), some (.ref c1), some (.int x2), none, none] [] m Q := by
  unfold g28 at h
  refine fT_ss 1 (pc' := 1) (L' := [some (.ref 4), some (.ref c1), some (.int x2), none, none]) (st' := [.ref 4]) rfl ?_
  refine fT_gr (q := 5) rfl rfl rfl ?_
  refine fT_ss 4 (pc' := 8) (L' := [some (.ref 4), some (.ref c1), some (.int x2), none, none]) (st' := [.ref 4, .int (x2 * (nI 4)), .ref 5]) rfl ?_
  refine fT_gr (q := 7) rfl rfl rfl ?_
  refine fT_ss 2 (pc' := 13) (L' := [some (.ref 4), some (.ref c1), some (.int x2), none, none]) (st' := [.int (nI 4), .int (nI 0), .ref 7, .int (x2 * (nI 4)), .ref 5]) rfl ?_
  refine fO_cpL rfl rfl rfl (Nat.le_of_ble_eq_true rfl) (by omega) (by omega) h (fun m1 h => ?_)
  refine fT_ss 3 (pc' := 19) (L' := [some (.ref 4), some (.ref c1), some (.int x2), none, none]) (st' := [.int (nI 0), .int x2, .ref c1]) rfl ?_
  refine fO_qv2 Value.int (r' := ai_r4) (k := c1) (As := [.int x2, .int (nI 0)]) (rest := []) rfl rfl rfl rfl hc1.1 rfl (by omega) (show 19 + 3 ≤ w by omega) (Nat.le_of_ble_eq_true rfl) (Nat.le_of_ble_eq_true rfl) (all_c rfl (all_c (kl_c hc1.2.2.1) rfl)) rfl (fun Qc hq => t4_0 hX (show 0 ≤ d - 1 by omega) (show 0 ≤ w - (19 + 3) by omega) hc1 _ _ _ Qc hq) h (fun v3 m2 h => ?_)
  refine fT_ss 4 (pc' := 26) (L' := [some (.ref 4), some (.ref c1), some (.int x2), some (.int v3), none]) (st' := [.int (nI 1), .int x2, .ref c1]) rfl ?_
  refine fO_qv2 Value.int (r' := ai_r4) (k := c1) (As := [.int x2, .int (nI 1)]) (rest := []) rfl rfl rfl rfl hc1.1 rfl (by omega) (show 19 + 3 ≤ w by omega) (Nat.le_of_ble_eq_true rfl) (Nat.le_of_ble_eq_true rfl) (all_c rfl (all_c (kl_c hc1.2.2.1) rfl)) rfl (fun Qc hq => t4_0 hX (show 0 ≤ d - 1 by omega) (show 0 ≤ w - (19 + 3) by omega) hc1 _ _ _ Qc hq) h (fun v5 m4 h => ?_)
  refine fT_ss 2 (pc' := 32) (L' := [some (.ref 4), some (.ref c1), some (.int x2), some (.int v3), some (.int v5)]) (st' := [.int v3]) rfl ?_
  by_cases e0 : v3 = nI 0
  · subst e0
    replace h := ob_eqT h
    refine fT_ss 1 (pc' := 88) (L' := [some (.ref 4), some (.ref c1), some (.int x2), some (.int (nI 0)), some (.int v5)]) (st' := []) rfl ?_
    refine fT_ss 1 (pc' := 89) (L' := [some (.ref 4), some (.ref c1), some (.int x2), none, some (.int v5)]) (st' := [.ref 4]) rfl ?_
    refine fT_gr (q := 7) rfl rfl rfl ?_
    refine fT_ss 4 (pc' := 97) (L' := [some (.ref 4), some (.ref c1), some (.int x2), none, some (.int v5)]) (st' := [.int (nI 2), .int x2, .ref c1, .int v5, .ref 7]) rfl ?_
    refine fO_qv2 Value.int (r' := ai_r4) (k := c1) (As := [.int x2, .int (nI 2)]) (rest := [.int v5, .ref 7]) rfl rfl rfl rfl hc1.1 rfl (by omega) (show 19 + 3 ≤ w by omega) (Nat.le_of_ble_eq_true rfl) (Nat.le_of_ble_eq_true rfl) (all_c rfl (all_c (kl_c hc1.2.2.1) rfl)) rfl (fun Qc hq => t4_0 hX (show 0 ≤ d - 1 by omega) (show 0 ≤ w - (19 + 3) by omega) hc1 _ _ _ Qc hq) h (fun v7 m6 h => ?_)
    refine fT_ss 1 (pc' := 101) (L' := [some (.ref 4), some (.ref c1), some (.int x2), none, some (.int v5)]) (st' := [.long ((v7).toInt64), .int v5, .ref 7]) rfl ?_
    refine fO_ls rfl rfl h (fun m8 h => ?_)
    refine fT_ss 1 (pc' := 163) (L' := [some (.ref 4), some (.ref c1), some (.int x2), none, some (.int v5)]) (st' := []) rfl ?_
    exact fT_r rfl rfl h
  replace h := ob_eqF e0 h
  by_cases e1 : v3 = nI 1
  · subst e1
    replace h := ob_eqT h
    refine fT_ss 1 (pc' := 105) (L' := [some (.ref 4), some (.ref c1), some (.int x2), some (.int (nI 1)), some (.int v5)]) (st' := []) rfl ?_
    refine fT_ss 1 (pc' := 106) (L' := [some (.ref 4), some (.ref c1), some (.int x2), none, some (.int v5)]) (st' := [.ref 4]) rfl ?_
    refine fT_gr (q := 7) rfl rfl rfl ?_
    refine fT_ss 5 (pc' := 115) (L' := [some (.ref 4), some (.ref c1), some (.int x2), none, some (.int v5)]) (st' := [.int (nI 2), .int x2, .ref c1, .ref 4, .int v5, .ref 7]) rfl ?_
    refine fO_qv2 Value.long (r' := ai_r24) (k := 4) (As := [.ref c1, .int x2, .int (nI 2)]) (rest := [.int v5, .ref 7]) rfl rfl rfl rfl rfl rfl (by omega) (show 19 + 4 ≤ w by omega) (Nat.le_of_ble_eq_true rfl) (Nat.le_of_ble_eq_true rfl) (all_c rfl (all_c (kl_c hc1.2.2.1) rfl)) rfl (fun Qc hq => t24_0 hX (show 0 ≤ d - 1 by omega) (show 0 ≤ w - (19 + 4) by omega) hc1 _ _ _ Qc hq) h (fun v10 m9 h => ?_)
    refine fO_ls rfl rfl h (fun m11 h => ?_)
    refine fT_ss 1 (pc' := 163) (L' := [some (.ref 4), some (.ref c1), some (.int x2), none, some (.int v5)]) (st' := []) rfl ?_
    exact fT_r rfl rfl h
  replace h := ob_eqF e1 h
  by_cases e2 : v3 = nI 2
  · subst e2
    replace h := ob_eqT h
    refine fT_ss 1 (pc' := 122) (L' := [some (.ref 4), some (.ref c1), some (.int x2), some (.int (nI 2)), some (.int v5)]) (st' := []) rfl ?_
    exact fT_mk rfl rfl (t28_122 hX hd hw hc1 _ _ _ _ Q h)
  replace h := ob_eqF e2 h
  by_cases e3 : v3 = nI 3
  · subst e3
    replace h := ob_eqT h
    refine fT_ss 1 (pc' := 122) (L' := [some (.ref 4), some (.ref c1), some (.int x2), some (.int (nI 3)), some (.int v5)]) (st' := []) rfl ?_
    exact fT_mk rfl rfl (t28_122 hX hd hw hc1 _ _ _ _ Q h)
  replace h := ob_eqF e3 h
  by_cases e4 : v3 = nI 4
  · subst e4
    replace h := ob_eqT h
    refine fT_ss 1 (pc' := 122) (L' := [some (.ref 4), some (.ref c1), some (.int x2), some (.int (nI 4)), some (.int v5)]) (st' := []) rfl ?_
    exact fT_mk rfl rfl (t28_122 hX hd hw hc1 _ _ _ _ Q h)
  replace h := ob_eqF e4 h
  by_cases e5 : v3 = nI 5
  · subst e5
    replace h := ob_eqT h
    refine fT_ss 1 (pc' := 163) (L' := [some (.ref 4), some (.ref c1), some (.int x2), some (.int (nI 5)), some (.int v5)]) (st' := []) rfl ?_
    exact fT_r rfl rfl h
  replace h := ob_eqF e5 h
  by_cases e6 : v3 = nI 6
  · subst e6
    replace h := ob_eqT h
    refine fT_ss 1 (pc' := 163) (L' := [some (.ref 4), some (.ref c1), some (.int x2), some (.int (nI 6)), some (.int v5)]) (st' := []) rfl ?_
    exact fT_r rfl rfl h
  replace h := ob_eqF e6 h
  by_cases e7 : v3 = nI 7
  · subst e7
    replace h := ob_eqT h
    refine fT_ss 1 (pc' := 150) (L' := [some (.ref 4), some (.ref c1), some (.int x2), some (.int (nI 7)), some (.int v5)]) (st' := []) rfl ?_
    exact fT_mk rfl rfl (t28_150 hX hd hw _ _ Q h)
  replace h := ob_eqF e7 h
  by_cases e8 : v3 = nI 8
  · subst e8
    replace h := ob_eqT h
    refine fT_ss 1 (pc' := 163) (L' := [some (.ref 4), some (.ref c1), some (.int x2), some (.int (nI 8)), some (.int v5)]) (st' := []) rfl ?_
    exact fT_r rfl rfl h
  replace h := ob_eqF e8 h
  by_cases e9 : v3 = nI 9
  · subst e9
    replace h := ob_eqT h
    refine fT_ss 1 (pc' := 150) (L' := [some (.ref 4), some (.ref c1), some (.int x2), some (.int (nI 9)), some (.int v5)]) (st' := []) rfl ?_
    exact fT_mk rfl rfl (t28_150 hX hd hw _ _ Q h)
  replace h := ob_eqF e9 h
  refine fO_td 163 rfl rfl (by have := nt (k := 0) (by omega) e0; have := nt (k := 1) (by omega) e1; have := nt (k := 2) (by omega) e2; have := nt (k := 3) (by omega) e3; have := nt (k := 4) (by omega) e4; have := nt (k := 5) (by omega) e5; have := nt (k := 6) (by omega) e6; have := nt (k := 7) (by omega) e7; have := nt (k := 8) (by omega) e8; have := nt (k := 9) (by omega) e9; omega) ?_
  exact fT_r rfl rfl h
noncomputable def g30 (c1 : Nat) (x2 : Int32) (m : fm) : Option (Int32 × fm) :=
  cl2 (g4 c1 x2 (nI 0) m) fun v2 m1 =>
  bif decide (v2 = nI 4) then
    cl2 (g24 c1 x2 (nI 3) m1) fun v4 m3 =>
    bif ai_c .eq (lg_cmp v4 (Int64.ofNat 0)) 0 then
      some ((nI 0), m3)
    else
      some ((nI 1), m3)
  else bif decide (v2 = nI 5) then
    cl2 (g23 c1 x2 m1) fun v6 m5 =>
    bif ai_c .eq v6 (nI 2) then
      some ((nI 0), m5)
    else
      some ((nI 1), m5)
  else bif decide (v2 = nI 6) then
    some ((nI 0), m1)
  else bif decide (v2 = nI 7) then
    some ((nI 1), m1)
  else bif decide (v2 = nI 8) then
    some ((nI 1), m1)
  else bif decide (v2 = nI 9) then
    some ((nI 1), m1)
  else bif decide (v2 = nI 10) then
    some ((nI 0), m1)
  else bif decide (v2 = nI 11) then
    cl2 (g24 c1 x2 (nI 1) m1) fun v8 m7 =>
    bif ai_c .eq (lg_cmp v8 (Int64.ofNat 0)) 0 then
      some ((nI 0), m7)
    else
      some ((nI 1), m7)
  else 
  some ((nI 1), m1)
set_option maxHeartbeats 4000000 in
theorem t30_0 {X : ai_X} {d w : Nat} (hX : X[1]? = some (39, ai_sh)) (hd : 2 ≤ d) (hw : 49 ≤ w) {c1 : Nat} (hc1 : isC c1) (x2 : Int32) (m : fm) (Q : Option Value → fm → Prop) (h : ob (g30 c1 x2 m) (fun z : Int32 × fm => Q (some (.int z.1)) z.2)) : fT X d w ai_r30 0 [some (.ref 4), some (.ref c1), some (.int x2)] [] m Q := by
  unfold g30 at h
  refine fT_ss 3 (pc' := 3) (L' := [some (.ref 4), some (.ref c1), some (.int x2)]) (st' := [.int (nI 0), .int x2, .ref c1]) rfl ?_
  refine fO_qv2 Value.int (r' := ai_r4) (k := c1) (As := [.int x2, .int (nI 0)]) (rest := []) rfl rfl rfl rfl hc1.1 rfl (by omega) (show 19 + 3 ≤ w by omega) (Nat.le_of_ble_eq_true rfl) (Nat.le_of_ble_eq_true rfl) (all_c rfl (all_c (kl_c hc1.2.2.1) rfl)) rfl (fun Qc hq => t4_0 hX (show 0 ≤ d - 1 by omega) (show 0 ≤ w - (19 + 3) by omega) hc1 _ _ _ Qc hq) h (fun v2 m1 h => ?_)
  by_cases e4 : v2 = nI 4
  · subst e4
    replace h := ob_eqT h
    refine fT_ss 1 (pc' := 70) (L' := [some (.ref 4), some (.ref c1), some (.int x2)]) (st' := []) rfl ?_
    refine fT_ss 4 (pc' := 74) (L' := [some (.ref 4), some (.ref c1), some (.int x2)]) (st' := [.int (nI 3), .int x2, .ref c1, .ref 4]) rfl ?_
    refine fO_qv2 Value.long (r' := ai_r24) (k := 4) (As := [.ref c1, .int x2, .int (nI 3)]) (rest := []) rfl rfl rfl rfl rfl rfl (by omega) (show 19 + 4 ≤ w by omega) (Nat.le_of_ble_eq_true rfl) (Nat.le_of_ble_eq_true rfl) (all_c rfl (all_c (kl_c hc1.2.2.1) rfl)) rfl (fun Qc hq => t24_0 hX (show 0 ≤ d - 1 by omega) (show 0 ≤ w - (19 + 4) by omega) hc1 _ _ _ Qc hq) h (fun v4 m3 h => ?_)
    refine fT_ss 2 (pc' := 79) (L' := [some (.ref 4), some (.ref c1), some (.int x2)]) (st' := [.int (lg_cmp v4 (Int64.ofNat 0))]) rfl ?_
    refine fO_if 86 rfl rfl h (fun h => ?_) (fun h => ?_)
    · refine fT_ss 1 (pc' := 87) (L' := [none, none, none]) (st' := [.int (nI 0)]) rfl ?_
      exact fT_r rfl rfl h
    · refine fT_ss 2 (pc' := 87) (L' := [none, none, none]) (st' := [.int (nI 1)]) rfl ?_
      exact fT_r rfl rfl h
  replace h := ob_eqF e4 h
  by_cases e5 : v2 = nI 5
  · subst e5
    replace h := ob_eqT h
    refine fT_ss 1 (pc' := 54) (L' := [some (.ref 4), some (.ref c1), some (.int x2)]) (st' := []) rfl ?_
    refine fT_ss 3 (pc' := 57) (L' := [some (.ref 4), some (.ref c1), some (.int x2)]) (st' := [.int x2, .ref c1, .ref 4]) rfl ?_
    refine fO_qv2 Value.int (r' := ai_r23) (k := 4) (As := [.ref c1, .int x2]) (rest := []) rfl rfl rfl rfl rfl rfl (by omega) (show 19 + 7 ≤ w by omega) (Nat.le_of_ble_eq_true rfl) (Nat.le_of_ble_eq_true rfl) (all_c rfl (all_c (kl_c hc1.2.2.1) rfl)) rfl (fun Qc hq => t23_0 hX (show 1 ≤ d - 1 by omega) (show 23 ≤ w - (19 + 7) by omega) hc1 _ _ Qc hq) h (fun v6 m5 h => ?_)
    refine fT_ss 1 (pc' := 61) (L' := [some (.ref 4), some (.ref c1), some (.int x2)]) (st' := [.int (nI 2), .int v6]) rfl ?_
    refine fO_ic 68 rfl rfl h (fun h => ?_) (fun h => ?_)
    · refine fT_ss 1 (pc' := 69) (L' := [none, none, none]) (st' := [.int (nI 0)]) rfl ?_
      exact fT_r rfl rfl h
    · refine fT_ss 2 (pc' := 69) (L' := [none, none, none]) (st' := [.int (nI 1)]) rfl ?_
      exact fT_r rfl rfl h
  replace h := ob_eqF e5 h
  by_cases e6 : v2 = nI 6
  · subst e6
    replace h := ob_eqT h
    refine fT_ss 1 (pc' := 52) (L' := [some (.ref 4), some (.ref c1), some (.int x2)]) (st' := []) rfl ?_
    refine fT_ss 1 (pc' := 53) (L' := [none, none, none]) (st' := [.int (nI 0)]) rfl ?_
    exact fT_r rfl rfl h
  replace h := ob_eqF e6 h
  by_cases e7 : v2 = nI 7
  · subst e7
    replace h := ob_eqT h
    refine fT_ss 1 (pc' := 106) (L' := [some (.ref 4), some (.ref c1), some (.int x2)]) (st' := []) rfl ?_
    refine fT_ss 1 (pc' := 107) (L' := [none, none, none]) (st' := [.int (nI 1)]) rfl ?_
    exact fT_r rfl rfl h
  replace h := ob_eqF e7 h
  by_cases e8 : v2 = nI 8
  · subst e8
    replace h := ob_eqT h
    refine fT_ss 1 (pc' := 106) (L' := [some (.ref 4), some (.ref c1), some (.int x2)]) (st' := []) rfl ?_
    refine fT_ss 1 (pc' := 107) (L' := [none, none, none]) (st' := [.int (nI 1)]) rfl ?_
    exact fT_r rfl rfl h
  replace h := ob_eqF e8 h
  by_cases e9 : v2 = nI 9
  · subst e9
    replace h := ob_eqT h
    refine fT_ss 1 (pc' := 106) (L' := [some (.ref 4), some (.ref c1), some (.int x2)]) (st' := []) rfl ?_
    refine fT_ss 1 (pc' := 107) (L' := [none, none, none]) (st' := [.int (nI 1)]) rfl ?_
    exact fT_r rfl rfl h
  replace h := ob_eqF e9 h
  by_cases e10 : v2 = nI 10
  · subst e10
    replace h := ob_eqT h
    refine fT_ss 1 (pc' := 52) (L' := [some (.ref 4), some (.ref c1), some (.int x2)]) (st' := []) rfl ?_
    refine fT_ss 1 (pc' := 53) (L' := [none, none, none]) (st' := [.int (nI 0)]) rfl ?_
    exact fT_r rfl rfl h
  replace h := ob_eqF e10 h
  by_cases e11 : v2 = nI 11
  · subst e11
    replace h := ob_eqT h
    refine fT_ss 1 (pc' := 88) (L' := [some (.ref 4), some (.ref c1), some (.int x2)]) (st' := []) rfl ?_
    refine fT_ss 4 (pc' := 92) (L' := [some (.ref 4), some (.ref c1), some (.int x2)]) (st' := [.int (nI 1), .int x2, .ref c1, .ref 4]) rfl ?_
    refine fO_qv2 Value.long (r' := ai_r24) (k := 4) (As := [.ref c1, .int x2, .int (nI 1)]) (rest := []) rfl rfl rfl rfl rfl rfl (by omega) (show 19 + 4 ≤ w by omega) (Nat.le_of_ble_eq_true rfl) (Nat.le_of_ble_eq_true rfl) (all_c rfl (all_c (kl_c hc1.2.2.1) rfl)) rfl (fun Qc hq => t24_0 hX (show 0 ≤ d - 1 by omega) (show 0 ≤ w - (19 + 4) by omega) hc1 _ _ _ Qc hq) h (fun v8 m7 h => ?_)
    refine fT_ss 2 (pc' := 97) (L' := [some (.ref 4), some (.ref c1), some (.int x2)]) (st' := [.int (lg_cmp v8 (Int64.ofNat 0))]) rfl ?_
    refine fO_if 104 rfl rfl h (fun h => ?_) (fun h => ?_)
    · refine fT_ss 1 (pc' := 105) (L' := [none, none, none]) (st' := [.int (nI 0)]) rfl ?_
      exact fT_r rfl rfl h
    · refine fT_ss 2 (pc' := 105) (L' := [none, none, none]) (st' := [.int (nI 1)]) rfl ?_
      exact fT_r rfl rfl h
  replace h := ob_eqF e11 h
  refine fO_td 106 rfl rfl (by have := nt (k := 4) (by omega) e4; have := nt (k := 5) (by omega) e5; have := nt (k := 6) (by omega) e6; have := nt (k := 7) (by omega) e7; have := nt (k := 8) (by omega) e8; have := nt (k := 9) (by omega) e9; have := nt (k := 10) (by omega) e10; have := nt (k := 11) (by omega) e11; omega) ?_
  refine fT_ss 1 (pc' := 107) (L' := [none, none, none]) (st' := [.int (nI 1)]) rfl ?_
  exact fT_r rfl rfl h
noncomputable def g31 (c1 : Nat) (x2 : Int32) (m : fm) : Option (Int32 × fm) :=
  cl2 (g4 c1 x2 (nI 0) m) fun v2 m1 =>
  bif decide (v2 = nI 5) then
    cl2 (g23 c1 x2 m1) fun v4 m3 =>
    bif ai_c .ne v4 (nI 4) then
      cl2 (g4 c1 x2 (nI 3) m3) fun v6 m5 =>
      some (v6, m5)
    else
      some ((-1), m3)
  else bif decide (v2 = nI 6) then
    cl2 (g4 c1 x2 (nI 1) m1) fun v8 m7 =>
    some (v8, m7)
  else 
  some ((-1), m1)
set_option maxHeartbeats 4000000 in
theorem t31_0 {X : ai_X} {d w : Nat} (hX : X[1]? = some (39, ai_sh)) (hd : 2 ≤ d) (hw : 49 ≤ w) {c1 : Nat} (hc1 : isC c1) (x2 : Int32) (m : fm) (Q : Option Value → fm → Prop) (h : ob (g31 c1 x2 m) (fun z : Int32 × fm => Q (some (.int z.1)) z.2)) : fT X d w ai_r31 0 [some (.ref 4), some (.ref c1), some (.int x2)] [] m Q := by
  unfold g31 at h
  refine fT_ss 3 (pc' := 3) (L' := [some (.ref 4), some (.ref c1), some (.int x2)]) (st' := [.int (nI 0), .int x2, .ref c1]) rfl ?_
  refine fO_qv2 Value.int (r' := ai_r4) (k := c1) (As := [.int x2, .int (nI 0)]) (rest := []) rfl rfl rfl rfl hc1.1 rfl (by omega) (show 19 + 3 ≤ w by omega) (Nat.le_of_ble_eq_true rfl) (Nat.le_of_ble_eq_true rfl) (all_c rfl (all_c (kl_c hc1.2.2.1) rfl)) rfl (fun Qc hq => t4_0 hX (show 0 ≤ d - 1 by omega) (show 0 ≤ w - (19 + 3) by omega) hc1 _ _ _ Qc hq) h (fun v2 m1 h => ?_)
  by_cases e5 : v2 = nI 5
  · subst e5
    replace h := ob_eqT h
    refine fT_ss 1 (pc' := 39) (L' := [some (.ref 4), some (.ref c1), some (.int x2)]) (st' := []) rfl ?_
    refine fT_ss 3 (pc' := 42) (L' := [some (.ref 4), some (.ref c1), some (.int x2)]) (st' := [.int x2, .ref c1, .ref 4]) rfl ?_
    refine fO_qv2 Value.int (r' := ai_r23) (k := 4) (As := [.ref c1, .int x2]) (rest := []) rfl rfl rfl rfl rfl rfl (by omega) (show 19 + 7 ≤ w by omega) (Nat.le_of_ble_eq_true rfl) (Nat.le_of_ble_eq_true rfl) (all_c rfl (all_c (kl_c hc1.2.2.1) rfl)) rfl (fun Qc hq => t23_0 hX (show 1 ≤ d - 1 by omega) (show 23 ≤ w - (19 + 7) by omega) hc1 _ _ Qc hq) h (fun v4 m3 h => ?_)
    refine fT_ss 1 (pc' := 46) (L' := [some (.ref 4), some (.ref c1), some (.int x2)]) (st' := [.int (nI 4), .int v4]) rfl ?_
    refine fO_ic 53 rfl rfl h (fun h => ?_) (fun h => ?_)
    · refine fT_ss 3 (pc' := 56) (L' := [none, some (.ref c1), some (.int x2)]) (st' := [.int (nI 3), .int x2, .ref c1]) rfl ?_
      refine fO_qv2 Value.int (r' := ai_r4) (k := c1) (As := [.int x2, .int (nI 3)]) (rest := []) rfl rfl rfl rfl hc1.1 rfl (by omega) (show 19 + 3 ≤ w by omega) (Nat.le_of_ble_eq_true rfl) (Nat.le_of_ble_eq_true rfl) (all_c rfl (all_c (kl_c hc1.2.2.1) rfl)) rfl (fun Qc hq => t4_0 hX (show 0 ≤ d - 1 by omega) (show 0 ≤ w - (19 + 3) by omega) hc1 _ _ _ Qc hq) h (fun v6 m5 h => ?_)
      exact fT_r rfl rfl h
    · refine fT_ss 2 (pc' := 59) (L' := [none, none, none]) (st' := [.int (-1)]) rfl ?_
      exact fT_r rfl rfl h
  replace h := ob_eqF e5 h
  by_cases e6 : v2 = nI 6
  · subst e6
    replace h := ob_eqT h
    refine fT_ss 1 (pc' := 32) (L' := [some (.ref 4), some (.ref c1), some (.int x2)]) (st' := []) rfl ?_
    refine fT_ss 3 (pc' := 35) (L' := [none, some (.ref c1), some (.int x2)]) (st' := [.int (nI 1), .int x2, .ref c1]) rfl ?_
    refine fO_qv2 Value.int (r' := ai_r4) (k := c1) (As := [.int x2, .int (nI 1)]) (rest := []) rfl rfl rfl rfl hc1.1 rfl (by omega) (show 19 + 3 ≤ w by omega) (Nat.le_of_ble_eq_true rfl) (Nat.le_of_ble_eq_true rfl) (all_c rfl (all_c (kl_c hc1.2.2.1) rfl)) rfl (fun Qc hq => t4_0 hX (show 0 ≤ d - 1 by omega) (show 0 ≤ w - (19 + 3) by omega) hc1 _ _ _ Qc hq) h (fun v8 m7 h => ?_)
    exact fT_r rfl rfl h
  replace h := ob_eqF e6 h
  refine fO_ld 60 rfl rfl rfl ((lv_osw e5 rfl).trans ((lv_osw e6 rfl).trans rfl)) ?_
  refine fT_ss 1 (pc' := 61) (L' := [none, none, none]) (st' := [.int (-1)]) rfl ?_
  exact fT_r rfl rfl h
noncomputable def g26_31 (c1 : Nat) (x2 : Int32) (y0 : Int32) (m : fm) : Option (Int32 × fm) :=
  cl2 (g31 c1 x2 m) fun v5 m4 =>
  cl2 (g27 c1 v5 m4) fun v7 m6 =>
  bif ai_c .ne v7 0 then
    some ((nI 1), m6)
  else
    bif ai_c .eq y0 0 then
      some ((nI 0), m6)
    else
      some ((nI 1), m6)
set_option maxHeartbeats 4000000 in
theorem t26_31 {X : ai_X} {d w : Nat} (hX : X[1]? = some (39, ai_sh)) (hd : 3 ≤ d) (hw : 71 ≤ w) {c1 : Nat} (hc1 : isC c1) (x2 : Int32) (y0 : Int32) (m : fm) (Q : Option Value → fm → Prop) (h : ob (g26_31 c1 x2 y0 m) (fun z : Int32 × fm => Q (some (.int z.1)) z.2)) : fT X d w ai_r26 31 [some (.ref 4), some (.ref c1), some (.int x2), none] [.int y0] m Q := by
  unfold g26_31 at h
  refine fT_ss 6 (pc' := 37) (L' := [some (.ref 4), some (.ref c1), some (.int x2), some (.int y0)]) (st' := [.int x2, .ref c1, .ref 4, .ref c1, .ref 4]) rfl ?_
  refine fO_qv2 Value.int (r' := ai_r31) (k := 4) (As := [.ref c1, .int x2]) (rest := [.ref c1, .ref 4]) rfl rfl rfl rfl rfl rfl (by omega) (show 19 + 3 ≤ w by omega) (Nat.le_of_ble_eq_true rfl) (Nat.le_of_ble_eq_true rfl) (all_c rfl (all_c (kl_c hc1.2.2.1) rfl)) (all_c (k_c hc1.2.2.1) rfl) (fun Qc hq => t31_0 hX (show 2 ≤ d - 1 by omega) (show 49 ≤ w - (19 + 3) by omega) hc1 _ _ Qc hq) h (fun v5 m4 h => ?_)
  refine fO_qv2 Value.int (r' := ai_r27) (k := 4) (As := [.ref c1, .int v5]) (rest := []) rfl rfl rfl rfl rfl rfl (by omega) (show 19 + 8 ≤ w by omega) (Nat.le_of_ble_eq_true rfl) (Nat.le_of_ble_eq_true rfl) (all_c rfl (all_c (kl_c hc1.2.2.1) rfl)) rfl (fun Qc hq => t27_0 hX (show 1 ≤ d - 1 by omega) (show 21 ≤ w - (19 + 8) by omega) hc1 _ _ Qc hq) h (fun v7 m6 h => ?_)
  refine fO_if 50 rfl rfl h (fun h => ?_) (fun h => ?_)
  · refine fT_ss 2 (pc' := 55) (L' := [none, none, none, none]) (st' := [.int (nI 1)]) rfl ?_
    exact fT_r rfl rfl h
  · refine fT_ss 1 (pc' := 47) (L' := [none, none, none, some (.int y0)]) (st' := [.int y0]) rfl ?_
    refine fO_if 54 rfl rfl h (fun h => ?_) (fun h => ?_)
    · refine fT_ss 1 (pc' := 55) (L' := [none, none, none, none]) (st' := [.int (nI 0)]) rfl ?_
      exact fT_r rfl rfl h
    · refine fT_ss 2 (pc' := 55) (L' := [none, none, none, none]) (st' := [.int (nI 1)]) rfl ?_
      exact fT_r rfl rfl h
noncomputable def g26 (c1 : Nat) (x2 : Int32) (m : fm) : Option (Int32 × fm) :=
  cl1 (g28 c1 x2 m) fun m1 =>
  cl2 (g30 c1 x2 m1) fun v3 m2 =>
  bif ai_c .eq v3 0 then
    g26_31 c1 x2 (nI 0) m2
  else
    cl2 (g27 c1 (x2 + (nI 1)) m2) fun v9 m8 =>
    bif ai_c .eq v9 0 then
      g26_31 c1 x2 (nI 0) m8
    else
      g26_31 c1 x2 (nI 1) m8
set_option maxHeartbeats 4000000 in
theorem t26_0 {X : ai_X} {d w : Nat} (hX : X[1]? = some (39, ai_sh)) (hd : 3 ≤ d) (hw : 71 ≤ w) {c1 : Nat} (hc1 : isC c1) (x2 : Int32) (m : fm) (Q : Option Value → fm → Prop) (h : ob (g26 c1 x2 m) (fun z : Int32 × fm => Q (some (.int z.1)) z.2)) : fT X d w ai_r26 0 [some (.ref 4), some (.ref c1), some (.int x2), none] [] m Q := by
  unfold g26 at h
  refine fT_ss 3 (pc' := 3) (L' := [some (.ref 4), some (.ref c1), some (.int x2), none]) (st' := [.int x2, .ref c1, .ref 4]) rfl ?_
  refine fO_qv1 (r' := ai_r28) (k := 4) (As := [.ref c1, .int x2]) (rest := []) rfl rfl rfl rfl rfl rfl (by omega) (show 19 + 5 ≤ w by omega) (Nat.le_of_ble_eq_true rfl) (Nat.le_of_ble_eq_true rfl) (all_c rfl (all_c (kl_c hc1.2.2.1) rfl)) rfl (fun Qc hq => t28_0 hX (show 2 ≤ d - 1 by omega) (show 46 ≤ w - (19 + 5) by omega) hc1 _ _ Qc hq) h (fun m1 h => ?_)
  refine fT_ss 3 (pc' := 9) (L' := [some (.ref 4), some (.ref c1), some (.int x2), none]) (st' := [.int x2, .ref c1, .ref 4]) rfl ?_
  refine fO_qv2 Value.int (r' := ai_r30) (k := 4) (As := [.ref c1, .int x2]) (rest := []) rfl rfl rfl rfl rfl rfl (by omega) (show 19 + 3 ≤ w by omega) (Nat.le_of_ble_eq_true rfl) (Nat.le_of_ble_eq_true rfl) (all_c rfl (all_c (kl_c hc1.2.2.1) rfl)) rfl (fun Qc hq => t30_0 hX (show 2 ≤ d - 1 by omega) (show 49 ≤ w - (19 + 3) by omega) hc1 _ _ Qc hq) h (fun v3 m2 h => ?_)
  refine fO_if 30 rfl rfl h (fun h => ?_) (fun h => ?_)
  · refine fT_ss 1 (pc' := 31) (L' := [some (.ref 4), some (.ref c1), some (.int x2), none]) (st' := [.int (nI 0)]) rfl ?_
    exact fT_mk rfl rfl (t26_31 hX hd hw hc1 _ _ _ Q h)
  · refine fT_ss 5 (pc' := 20) (L' := [some (.ref 4), some (.ref c1), some (.int x2), none]) (st' := [.int (x2 + (nI 1)), .ref c1, .ref 4]) rfl ?_
    refine fO_qv2 Value.int (r' := ai_r27) (k := 4) (As := [.ref c1, .int (x2 + (nI 1))]) (rest := []) rfl rfl rfl rfl rfl rfl (by omega) (show 19 + 8 ≤ w by omega) (Nat.le_of_ble_eq_true rfl) (Nat.le_of_ble_eq_true rfl) (all_c rfl (all_c (kl_c hc1.2.2.1) rfl)) rfl (fun Qc hq => t27_0 hX (show 1 ≤ d - 1 by omega) (show 21 ≤ w - (19 + 8) by omega) hc1 _ _ Qc hq) h (fun v9 m8 h => ?_)
    refine fO_if 30 rfl rfl h (fun h => ?_) (fun h => ?_)
    · refine fT_ss 1 (pc' := 31) (L' := [some (.ref 4), some (.ref c1), some (.int x2), none]) (st' := [.int (nI 0)]) rfl ?_
      exact fT_mk rfl rfl (t26_31 hX hd hw hc1 _ _ _ Q h)
    · refine fT_ss 2 (pc' := 31) (L' := [some (.ref 4), some (.ref c1), some (.int x2), none]) (st' := [.int (nI 1)]) rfl ?_
      exact fT_mk rfl rfl (t26_31 hX hd hw hc1 _ _ _ Q h)
noncomputable def s25_83 (c1 : Nat) (x2 : Int32) (x3 : Int32) (x4 : Int32) (m : fm) : Option ((Int32 × Int32 × fm) ⊕ ((Int32 × Int32 × fm) ⊕ (fm))) :=
  cl2 (g1 c1 m) fun v8 m7 =>
  bif ai_c .ge x4 v8 then
    some (.inr (.inl (x2, (x3 + (nI 1)), m7)))
  else
    cl2 (g16 x4 m7) fun v10 m9 =>
    bif ai_c .eq v10 0 then
      some (.inl (x2, (x4 + (nI 1)), m9))
    else
      cl2 (g26 c1 x4 m9) fun v12 m11 =>
      bif ai_c .eq v12 0 then
        some (.inl (x2, (x4 + (nI 1)), m11))
      else
        some (.inl ((nI 1), (x4 + (nI 1)), m11))
set_option maxHeartbeats 4000000 in
theorem b25_83 {X : ai_X} {d w : Nat} (hX : X[1]? = some (39, ai_sh)) (hd : 4 ≤ d) (hw : 94 ≤ w) {c1 : Nat} (hc1 : isC c1) (x2 : Int32) (x3 : Int32) (x4 : Int32) (m : fm) (Q : Option Value → fm → Prop) (h : ob (s25_83 c1 x2 x3 x4 m) (Sum.elim (fun s : Int32 × Int32 × fm => fT X d w ai_r25 83 [some (.ref 4), some (.ref c1), some (.int s.1), some (.int x3), some (.int s.2.1)] [] s.2.2 Q) (Sum.elim (fun s : Int32 × Int32 × fm => fT X d w ai_r25 67 [some (.ref 4), some (.ref c1), some (.int s.1), some (.int s.2.1), none] [] s.2.2 Q) (fun z : fm => Q none z)))) : fT X d w ai_r25 83 [some (.ref 4), some (.ref c1), some (.int x2), some (.int x3), some (.int x4)] [] m Q := by
  unfold s25_83 at h
  refine fT_ss 2 (pc' := 86) (L' := [some (.ref 4), some (.ref c1), some (.int x2), some (.int x3), some (.int x4)]) (st' := [.ref c1, .int x4]) rfl ?_
  refine fO_qv2 Value.int (r' := ai_r1) (k := c1) (As := []) (rest := [.int x4]) rfl rfl rfl rfl hc1.1 rfl (by omega) (show 19 + 1 ≤ w by omega) (Nat.le_of_ble_eq_true rfl) (Nat.le_of_ble_eq_true rfl) (all_c rfl (all_c (kl_c hc1.2.2.1) rfl)) rfl (fun Qc hq => t1_0 hX (show 0 ≤ d - 1 by omega) (show 0 ≤ w - (19 + 1) by omega) hc1 _ Qc hq) h (fun v8 m7 h => ?_)
  refine fO_ic 119 rfl rfl h (fun h => ?_) (fun h => ?_)
  · refine fT_ss 2 (pc' := 67) (L' := [some (.ref 4), some (.ref c1), some (.int x2), some (.int (x3 + (nI 1))), none]) (st' := []) rfl ?_
    replace h := ob_inr h
    replace h := ob_inl h
    exact fT_mk rfl rfl h
  · refine fT_ss 2 (pc' := 95) (L' := [some (.ref 4), some (.ref c1), some (.int x2), some (.int x3), some (.int x4)]) (st' := [.int x4, .ref 4]) rfl ?_
    refine fO_qv2 Value.int (r' := ai_r16) (k := 4) (As := [.int x4]) (rest := []) rfl rfl rfl rfl rfl rfl (by omega) (show 19 + 2 ≤ w by omega) (Nat.le_of_ble_eq_true rfl) (Nat.le_of_ble_eq_true rfl) (all_c rfl (all_c (kl_c hc1.2.2.1) rfl)) rfl (fun Qc hq => t16_0 hX (show 1 ≤ d - 1 by omega) (show 22 ≤ w - (19 + 2) by omega) _ _ Qc hq) h (fun v10 m9 h => ?_)
    refine fO_if 113 rfl rfl h (fun h => ?_) (fun h => ?_)
    · refine fT_ss 2 (pc' := 83) (L' := [some (.ref 4), some (.ref c1), some (.int x2), some (.int x3), some (.int (x4 + (nI 1)))]) (st' := []) rfl ?_
      replace h := ob_inl h
      exact fT_mk rfl rfl h
    · refine fT_ss 3 (pc' := 105) (L' := [some (.ref 4), some (.ref c1), some (.int x2), some (.int x3), some (.int x4)]) (st' := [.int x4, .ref c1, .ref 4]) rfl ?_
      refine fO_qv2 Value.int (r' := ai_r26) (k := 4) (As := [.ref c1, .int x4]) (rest := []) rfl rfl rfl rfl rfl rfl (by omega) (show 19 + 4 ≤ w by omega) (Nat.le_of_ble_eq_true rfl) (Nat.le_of_ble_eq_true rfl) (all_c rfl (all_c (kl_c hc1.2.2.1) rfl)) rfl (fun Qc hq => t26_0 hX (show 3 ≤ d - 1 by omega) (show 71 ≤ w - (19 + 4) by omega) hc1 _ _ Qc hq) h (fun v12 m11 h => ?_)
      refine fO_if 113 rfl rfl h (fun h => ?_) (fun h => ?_)
      · refine fT_ss 2 (pc' := 83) (L' := [some (.ref 4), some (.ref c1), some (.int x2), some (.int x3), some (.int (x4 + (nI 1)))]) (st' := []) rfl ?_
        replace h := ob_inl h
        exact fT_mk rfl rfl h
      · refine fT_ss 4 (pc' := 83) (L' := [some (.ref 4), some (.ref c1), some (.int (nI 1)), some (.int x3), some (.int (x4 + (nI 1)))]) (st' := []) rfl ?_
        replace h := ob_inl h
        exact fT_mk rfl rfl h
noncomputable def g25_83 (c1 : Nat) (x2 : Int32) (x3 : Int32) (x4 : Int32) (m : fm) : Option ((Int32 × Int32 × fm) ⊕ (fm)) := wl (fun s : Int32 × Int32 × fm => s25_83 c1 s.1 x3 s.2.1 s.2.2) lf (x2, x4, m)
theorem t25_83 {X : ai_X} {d w : Nat} (hX : X[1]? = some (39, ai_sh)) (hd : 4 ≤ d) (hw : 94 ≤ w) {c1 : Nat} (hc1 : isC c1) (x2 : Int32) (x3 : Int32) (x4 : Int32) (m : fm) (Q : Option Value → fm → Prop) (h : ob (g25_83 c1 x2 x3 x4 m) (Sum.elim (fun s : Int32 × Int32 × fm => fT X d w ai_r25 67 [some (.ref 4), some (.ref c1), some (.int s.1), some (.int s.2.1), none] [] s.2.2 Q) (fun z : fm => Q none z))) : fT X d w ai_r25 83 [some (.ref 4), some (.ref c1), some (.int x2), some (.int x3), some (.int x4)] [] m Q :=
  wl_ob (P := fun s : Int32 × Int32 × fm => fT X d w ai_r25 83 [some (.ref 4), some (.ref c1), some (.int s.1), some (.int x3), some (.int s.2.1)] [] s.2.2 Q) (fun s h => b25_83 hX hd hw hc1 s.1 x3 s.2.1 s.2.2 Q h) lf (x2, x4, m) h
noncomputable def s25_67 (c1 : Nat) (x2 : Int32) (x3 : Int32) (m : fm) : Option ((Int32 × Int32 × fm) ⊕ (fm)) :=
  bif ai_c .eq x2 0 then
    some (.inr m)
  else
    bif ai_c .ge x3 (nI 193) then
      some (.inr m)
    else
      g25_83 c1 (nI 0) x3 (nI 0) m
set_option maxHeartbeats 4000000 in
theorem b25_67 {X : ai_X} {d w : Nat} (hX : X[1]? = some (39, ai_sh)) (hd : 4 ≤ d) (hw : 94 ≤ w) {c1 : Nat} (hc1 : isC c1) (x2 : Int32) (x3 : Int32) (m : fm) (Q : Option Value → fm → Prop) (h : ob (s25_67 c1 x2 x3 m) (Sum.elim (fun s : Int32 × Int32 × fm => fT X d w ai_r25 67 [some (.ref 4), some (.ref c1), some (.int s.1), some (.int s.2.1), none] [] s.2.2 Q) (fun z : fm => Q none z))) : fT X d w ai_r25 67 [some (.ref 4), some (.ref c1), some (.int x2), some (.int x3), none] [] m Q := by
  unfold s25_67 at h
  refine fT_ss 1 (pc' := 68) (L' := [some (.ref 4), some (.ref c1), some (.int x2), some (.int x3), none]) (st' := [.int x2]) rfl ?_
  refine fO_if 125 rfl rfl h (fun h => ?_) (fun h => ?_)
  · exact fT_r rfl rfl h
  · refine fT_ss 2 (pc' := 75) (L' := [some (.ref 4), some (.ref c1), none, some (.int x3), none]) (st' := [.int (nI 193), .int x3]) rfl ?_
    refine fO_ic 125 rfl rfl h (fun h => ?_) (fun h => ?_)
    · exact fT_r rfl rfl h
    · refine fT_ss 4 (pc' := 83) (L' := [some (.ref 4), some (.ref c1), some (.int (nI 0)), some (.int x3), some (.int (nI 0))]) (st' := []) rfl ?_
      exact fT_mk rfl rfl (t25_83 hX hd hw hc1 _ _ _ _ Q h)
noncomputable def g25_67 (c1 : Nat) (x2 : Int32) (x3 : Int32) (m : fm) : Option (fm) := wl (fun s : Int32 × Int32 × fm => s25_67 c1 s.1 s.2.1 s.2.2) lf (x2, x3, m)
theorem t25_67 {X : ai_X} {d w : Nat} (hX : X[1]? = some (39, ai_sh)) (hd : 4 ≤ d) (hw : 94 ≤ w) {c1 : Nat} (hc1 : isC c1) (x2 : Int32) (x3 : Int32) (m : fm) (Q : Option Value → fm → Prop) (h : ob (g25_67 c1 x2 x3 m) (fun z : fm => Q none z)) : fT X d w ai_r25 67 [some (.ref 4), some (.ref c1), some (.int x2), some (.int x3), none] [] m Q :=
  wl_ob (P := fun s : Int32 × Int32 × fm => fT X d w ai_r25 67 [some (.ref 4), some (.ref c1), some (.int s.1), some (.int s.2.1), none] [] s.2.2 Q) (fun s h => b25_67 hX hd hw hc1 s.1 s.2.1 s.2.2 Q h) lf (x2, x3, m) h
noncomputable def s25_2 (c1 : Nat) (x2 : Int32) (m : fm) : Option ((Int32 × fm) ⊕ (fm)) :=
  bif ai_c .ge x2 (nI 96) then
    stL m 7 4 (nI 0) (Int64.ofNat 1000000000000) fun m1 =>
    stL m1 7 4 (nI 1) (Int64.ofNat 1000000000000) fun m2 =>
    stL m2 7 4 (nI 2) (Int64.ofNat 0) fun m3 =>
    stL m3 7 4 (nI 3) (Int64.ofNat 0) fun m4 =>
    cl2 (g27 c1 (nI 0) m4) fun v6 m5 =>
    (g25_67 c1 v6 (nI 0) m5).map Sum.inr
  else
    stL m 5 96 x2 (Int64.ofNat 2000000000000) fun m13 =>
    some (.inl ((x2 + (nI 1)), m13))
set_option maxHeartbeats 4000000 in
theorem b25_2 {X : ai_X} {d w : Nat} (hX : X[1]? = some (39, ai_sh)) (hd : 4 ≤ d) (hw : 94 ≤ w) {c1 : Nat} (hc1 : isC c1) (x2 : Int32) (m : fm) (Q : Option Value → fm → Prop) (h : ob (s25_2 c1 x2 m) (Sum.elim (fun s : Int32 × fm => fT X d w ai_r25 2 [some (.ref 4), some (.ref c1), some (.int s.1), none, none] [] s.2 Q) (fun z : fm => Q none z))) : fT X d w ai_r25 2 [some (.ref 4), some (.ref c1), some (.int x2), none, none] [] m Q := by
  unfold s25_2 at h
  refine fT_ss 2 (pc' := 4) (L' := [some (.ref 4), some (.ref c1), some (.int x2), none, none]) (st' := [.ref 4, .int x2]) rfl ?_
  refine fT_gr (q := 5) rfl rfl rfl ?_
  refine fO_al rfl len_5 ?_
  refine fO_ic 26 rfl rfl h (fun h => ?_) (fun h => ?_)
  · refine fT_ss 1 (pc' := 27) (L' := [some (.ref 4), some (.ref c1), none, none, none]) (st' := [.ref 4]) rfl ?_
    refine fT_gr (q := 7) rfl rfl rfl ?_
    refine fT_ss 1 (pc' := 31) (L' := [some (.ref 4), some (.ref c1), none, none, none]) (st' := [.int (nI 0), .ref 7]) rfl ?_
    refine fT_lc rfl ?_
    refine fO_ls rfl rfl h (fun m1 h => ?_)
    refine fT_ss 1 (pc' := 36) (L' := [some (.ref 4), some (.ref c1), none, none, none]) (st' := [.ref 4]) rfl ?_
    refine fT_gr (q := 7) rfl rfl rfl ?_
    refine fT_ss 1 (pc' := 40) (L' := [some (.ref 4), some (.ref c1), none, none, none]) (st' := [.int (nI 1), .ref 7]) rfl ?_
    refine fT_lc rfl ?_
    refine fO_ls rfl rfl h (fun m2 h => ?_)
    refine fT_ss 1 (pc' := 45) (L' := [some (.ref 4), some (.ref c1), none, none, none]) (st' := [.ref 4]) rfl ?_
    refine fT_gr (q := 7) rfl rfl rfl ?_
    refine fT_ss 2 (pc' := 50) (L' := [some (.ref 4), some (.ref c1), none, none, none]) (st' := [.long (Int64.ofNat 0), .int (nI 2), .ref 7]) rfl ?_
    refine fO_ls rfl rfl h (fun m3 h => ?_)
    refine fT_ss 1 (pc' := 52) (L' := [some (.ref 4), some (.ref c1), none, none, none]) (st' := [.ref 4]) rfl ?_
    refine fT_gr (q := 7) rfl rfl rfl ?_
    refine fT_ss 2 (pc' := 57) (L' := [some (.ref 4), some (.ref c1), none, none, none]) (st' := [.long (Int64.ofNat 0), .int (nI 3), .ref 7]) rfl ?_
    refine fO_ls rfl rfl h (fun m4 h => ?_)
    refine fT_ss 3 (pc' := 61) (L' := [some (.ref 4), some (.ref c1), none, none, none]) (st' := [.int (nI 0), .ref c1, .ref 4]) rfl ?_
    refine fO_qv2 Value.int (r' := ai_r27) (k := 4) (As := [.ref c1, .int (nI 0)]) (rest := []) rfl rfl rfl rfl rfl rfl (by omega) (show 19 + 8 ≤ w by omega) (Nat.le_of_ble_eq_true rfl) (Nat.le_of_ble_eq_true rfl) (all_c rfl (all_c (kl_c hc1.2.2.1) rfl)) rfl (fun Qc hq => t27_0 hX (show 1 ≤ d - 1 by omega) (show 21 ≤ w - (19 + 8) by omega) hc1 _ _ Qc hq) h (fun v6 m5 h => ?_)
    refine fT_ss 3 (pc' := 67) (L' := [some (.ref 4), some (.ref c1), some (.int v6), some (.int (nI 0)), none]) (st' := []) rfl ?_
    exact fT_mk rfl rfl (t25_67 hX hd hw hc1 _ _ _ Q (ob_mapR h))
  · refine fT_ss 1 (pc' := 12) (L' := [some (.ref 4), some (.ref c1), some (.int x2), none, none]) (st' := [.ref 4]) rfl ?_
    refine fT_gr (q := 5) rfl rfl rfl ?_
    refine fT_ss 1 (pc' := 16) (L' := [some (.ref 4), some (.ref c1), some (.int x2), none, none]) (st' := [.int x2, .ref 5]) rfl ?_
    refine fT_lc rfl ?_
    refine fO_ls rfl rfl h (fun m13 h => ?_)
    refine fT_ss 2 (pc' := 2) (L' := [some (.ref 4), some (.ref c1), some (.int (x2 + (nI 1))), none, none]) (st' := []) rfl ?_
    replace h := ob_inl h
    exact fT_mk rfl rfl h
noncomputable def g25_2 (c1 : Nat) (x2 : Int32) (m : fm) : Option (fm) := wl (fun s : Int32 × fm => s25_2 c1 s.1 s.2) lf (x2, m)
theorem t25_2 {X : ai_X} {d w : Nat} (hX : X[1]? = some (39, ai_sh)) (hd : 4 ≤ d) (hw : 94 ≤ w) {c1 : Nat} (hc1 : isC c1) (x2 : Int32) (m : fm) (Q : Option Value → fm → Prop) (h : ob (g25_2 c1 x2 m) (fun z : fm => Q none z)) : fT X d w ai_r25 2 [some (.ref 4), some (.ref c1), some (.int x2), none, none] [] m Q :=
  wl_ob (P := fun s : Int32 × fm => fT X d w ai_r25 2 [some (.ref 4), some (.ref c1), some (.int s.1), none, none] [] s.2 Q) (fun s h => b25_2 hX hd hw hc1 s.1 s.2 Q h) lf (x2, m) h
noncomputable def g25 (c1 : Nat) (m : fm) : Option (fm) :=
  g25_2 c1 (nI 0) m
set_option maxHeartbeats 4000000 in
theorem t25_0 {X : ai_X} {d w : Nat} (hX : X[1]? = some (39, ai_sh)) (hd : 4 ≤ d) (hw : 94 ≤ w) {c1 : Nat} (hc1 : isC c1) (m : fm) (Q : Option Value → fm → Prop) (h : ob (g25 c1 m) (fun z : fm => Q none z)) : fT X d w ai_r25 0 [some (.ref 4), some (.ref c1), none, none, none] [] m Q := by
  unfold g25 at h
  refine fT_ss 2 (pc' := 2) (L' := [some (.ref 4), some (.ref c1), some (.int (nI 0)), none, none]) (st' := []) rfl ?_
  exact fT_mk rfl rfl (t25_2 hX hd hw hc1 _ _ Q h)
noncomputable def g34 (c1 : Nat) (x2 : Int32) (m : fm) : Option (Int32 × fm) :=
  cl2 (g2 c1 x2 m) fun v2 m1 =>
  bif ai_c .eq v2 0 then
    some ((nI 0), m1)
  else
    cl2 (g10 c1 x2 m1) fun v4 m3 =>
    ldI m3 6 24 x2 fun v5 =>
    cl2 (g11 c1 x2 m3) fun v7 m6 =>
    some ((v4 ||| (v5 &&& (v7 ^^^ (-1)))), m6)
set_option maxHeartbeats 4000000 in
theorem t34_0 {X : ai_X} {d w : Nat} (hX : X[1]? = some (39, ai_sh)) (hd : 2 ≤ d) (hw : 44 ≤ w) {c1 : Nat} (hc1 : isC c1) (x2 : Int32) (m : fm) (Q : Option Value → fm → Prop) (h : ob (g34 c1 x2 m) (fun z : Int32 × fm => Q (some (.int z.1)) z.2)) : fT X d w ai_r34 0 [some (.ref 4), some (.ref c1), some (.int x2)] [] m Q := by
  unfold g34 at h
  refine fT_ss 2 (pc' := 2) (L' := [some (.ref 4), some (.ref c1), some (.int x2)]) (st' := [.int x2, .ref c1]) rfl ?_
  refine fO_qv2 Value.int (r' := ai_r2) (k := c1) (As := [.int x2]) (rest := []) rfl rfl rfl rfl hc1.1 rfl (by omega) (show 19 + 2 ≤ w by omega) (Nat.le_of_ble_eq_true rfl) (Nat.le_of_ble_eq_true rfl) (all_c rfl (all_c (kl_c hc1.2.2.1) rfl)) rfl (fun Qc hq => t2_0 hX (show 0 ≤ d - 1 by omega) (show 0 ≤ w - (19 + 2) by omega) hc1 _ _ Qc hq) h (fun v2 m1 h => ?_)
  refine fO_if 31 rfl rfl h (fun h => ?_) (fun h => ?_)
  · refine fT_ss 1 (pc' := 32) (L' := [none, none, none]) (st' := [.int (nI 0)]) rfl ?_
    exact fT_r rfl rfl h
  · refine fT_ss 2 (pc' := 10) (L' := [some (.ref 4), some (.ref c1), some (.int x2)]) (st' := [.int x2, .ref c1]) rfl ?_
    refine fO_qv2 Value.int (r' := ai_r10) (k := c1) (As := [.int x2]) (rest := []) rfl rfl rfl rfl hc1.1 rfl (by omega) (show 19 + 3 ≤ w by omega) (Nat.le_of_ble_eq_true rfl) (Nat.le_of_ble_eq_true rfl) (all_c rfl (all_c (kl_c hc1.2.2.1) rfl)) rfl (fun Qc hq => t10_0 hX (show 1 ≤ d - 1 by omega) (show 22 ≤ w - (19 + 3) by omega) hc1 _ _ Qc hq) h (fun v4 m3 h => ?_)
    refine fT_ss 1 (pc' := 14) (L' := [some (.ref 4), some (.ref c1), some (.int x2)]) (st' := [.ref 4, .int v4]) rfl ?_
    refine fT_gr (q := 6) rfl rfl rfl ?_
    refine fT_ss 1 (pc' := 18) (L' := [some (.ref 4), some (.ref c1), some (.int x2)]) (st' := [.int x2, .ref 6, .int v4]) rfl ?_
    refine fO_ia rfl rfl rfl h (fun v5 h => ?_)
    refine fT_ss 2 (pc' := 21) (L' := [some (.ref 4), some (.ref c1), some (.int x2)]) (st' := [.int x2, .ref c1, .int v5, .int v4]) rfl ?_
    refine fO_qv2 Value.int (r' := ai_r11) (k := c1) (As := [.int x2]) (rest := [.int v5, .int v4]) rfl rfl rfl rfl hc1.1 rfl (by omega) (show 19 + 2 ≤ w by omega) (Nat.le_of_ble_eq_true rfl) (Nat.le_of_ble_eq_true rfl) (all_c rfl (all_c (kl_c hc1.2.2.1) rfl)) rfl (fun Qc hq => t11_0 hX (show 1 ≤ d - 1 by omega) (show 22 ≤ w - (19 + 2) by omega) hc1 _ _ Qc hq) h (fun v7 m6 h => ?_)
    refine fT_ss 5 (pc' := 32) (L' := [some (.ref 4), some (.ref c1), some (.int x2)]) (st' := [.int (v4 ||| (v5 &&& (v7 ^^^ (-1))))]) rfl ?_
    exact fT_r rfl rfl h
noncomputable def g33 (c1 : Nat) (x2 : Int32) (m : fm) : Option (Int32 × fm) :=
  cl2 (g31 c1 x2 m) fun v2 m1 =>
  cl2 (g34 c1 v2 m1) fun v4 m3 =>
  cl2 (g30 c1 x2 m3) fun v6 m5 =>
  bif ai_c .eq v6 0 then
    some (v4, m5)
  else
    cl2 (g34 c1 (x2 + (nI 1)) m5) fun v8 m7 =>
    some ((v4 ||| v8), m7)
set_option maxHeartbeats 4000000 in
theorem t33_0 {X : ai_X} {d w : Nat} (hX : X[1]? = some (39, ai_sh)) (hd : 3 ≤ d) (hw : 71 ≤ w) {c1 : Nat} (hc1 : isC c1) (x2 : Int32) (m : fm) (Q : Option Value → fm → Prop) (h : ob (g33 c1 x2 m) (fun z : Int32 × fm => Q (some (.int z.1)) z.2)) : fT X d w ai_r33 0 [some (.ref 4), some (.ref c1), some (.int x2), none] [] m Q := by
  unfold g33 at h
  refine fT_ss 5 (pc' := 5) (L' := [some (.ref 4), some (.ref c1), some (.int x2), none]) (st' := [.int x2, .ref c1, .ref 4, .ref c1, .ref 4]) rfl ?_
  refine fO_qv2 Value.int (r' := ai_r31) (k := 4) (As := [.ref c1, .int x2]) (rest := [.ref c1, .ref 4]) rfl rfl rfl rfl rfl rfl (by omega) (show 19 + 3 ≤ w by omega) (Nat.le_of_ble_eq_true rfl) (Nat.le_of_ble_eq_true rfl) (all_c rfl (all_c (kl_c hc1.2.2.1) rfl)) (all_c (k_c hc1.2.2.1) rfl) (fun Qc hq => t31_0 hX (show 2 ≤ d - 1 by omega) (show 49 ≤ w - (19 + 3) by omega) hc1 _ _ Qc hq) h (fun v2 m1 h => ?_)
  refine fO_qv2 Value.int (r' := ai_r34) (k := 4) (As := [.ref c1, .int v2]) (rest := []) rfl rfl rfl rfl rfl rfl (by omega) (show 19 + 3 ≤ w by omega) (Nat.le_of_ble_eq_true rfl) (Nat.le_of_ble_eq_true rfl) (all_c rfl (all_c (kl_c hc1.2.2.1) rfl)) rfl (fun Qc hq => t34_0 hX (show 2 ≤ d - 1 by omega) (show 44 ≤ w - (19 + 3) by omega) hc1 _ _ Qc hq) h (fun v4 m3 h => ?_)
  refine fT_ss 4 (pc' := 15) (L' := [some (.ref 4), some (.ref c1), some (.int x2), some (.int v4)]) (st' := [.int x2, .ref c1, .ref 4]) rfl ?_
  refine fO_qv2 Value.int (r' := ai_r30) (k := 4) (As := [.ref c1, .int x2]) (rest := []) rfl rfl rfl rfl rfl rfl (by omega) (show 19 + 3 ≤ w by omega) (Nat.le_of_ble_eq_true rfl) (Nat.le_of_ble_eq_true rfl) (all_c rfl (all_c (kl_c hc1.2.2.1) rfl)) rfl (fun Qc hq => t30_0 hX (show 2 ≤ d - 1 by omega) (show 49 ≤ w - (19 + 3) by omega) hc1 _ _ Qc hq) h (fun v6 m5 h => ?_)
  refine fO_if 34 rfl rfl h (fun h => ?_) (fun h => ?_)
  · refine fT_ss 1 (pc' := 35) (L' := [none, none, none, some (.int v4)]) (st' := [.int v4]) rfl ?_
    exact fT_r rfl rfl h
  · refine fT_ss 6 (pc' := 27) (L' := [some (.ref 4), some (.ref c1), some (.int x2), some (.int v4)]) (st' := [.int (x2 + (nI 1)), .ref c1, .ref 4, .int v4]) rfl ?_
    refine fO_qv2 Value.int (r' := ai_r34) (k := 4) (As := [.ref c1, .int (x2 + (nI 1))]) (rest := [.int v4]) rfl rfl rfl rfl rfl rfl (by omega) (show 19 + 3 ≤ w by omega) (Nat.le_of_ble_eq_true rfl) (Nat.le_of_ble_eq_true rfl) (all_c rfl (all_c (kl_c hc1.2.2.1) rfl)) rfl (fun Qc hq => t34_0 hX (show 2 ≤ d - 1 by omega) (show 44 ≤ w - (19 + 3) by omega) hc1 _ _ Qc hq) h (fun v8 m7 h => ?_)
    refine fT_ss 2 (pc' := 35) (L' := [some (.ref 4), some (.ref c1), some (.int x2), some (.int v4)]) (st' := [.int (v4 ||| v8)]) rfl ?_
    exact fT_r rfl rfl h
noncomputable def g32_94 (c1 : Nat) (x3 : Int32) (x4 : Int32) (x5 : Int32) (y0 : Int32) (m : fm) : Option ((Int32 × Int32 × fm) ⊕ ((Int32 × Int32 × fm) ⊕ (fm))) :=
  stI m 6 24 x4 x5 fun m5 =>
  some (.inl (y0, (x4 + (-1)), m5))
set_option maxHeartbeats 4000000 in
theorem t32_94 {X : ai_X} {d w : Nat} (hX : X[1]? = some (39, ai_sh)) (hd : 4 ≤ d) (hw : 94 ≤ w) {c1 : Nat} (hc1 : isC c1) (x3 : Int32) (x4 : Int32) (x5 : Int32) (y0 : Int32) (m : fm) (Q : Option Value → fm → Prop) (h : ob (g32_94 c1 x3 x4 x5 y0 m) (Sum.elim (fun s : Int32 × Int32 × fm => fT X d w ai_r32 46 [some (.ref 4), some (.ref c1), some (.int s.1), some (.int x3), some (.int s.2.1), none] [] s.2.2 Q) (Sum.elim (fun s : Int32 × Int32 × fm => fT X d w ai_r32 25 [some (.ref 4), some (.ref c1), some (.int s.1), some (.int s.2.1), none, none] [] s.2.2 Q) (fun z : fm => Q none z)))) : fT X d w ai_r32 94 [some (.ref 4), some (.ref c1), none, some (.int x3), some (.int x4), some (.int x5)] [.int y0] m Q := by
  unfold g32_94 at h
  refine fT_ss 2 (pc' := 96) (L' := [some (.ref 4), some (.ref c1), some (.int y0), some (.int x3), some (.int x4), some (.int x5)]) (st' := [.ref 4]) rfl ?_
  refine fT_gr (q := 6) rfl rfl rfl ?_
  refine fT_ss 2 (pc' := 103) (L' := [some (.ref 4), some (.ref c1), some (.int y0), some (.int x3), some (.int x4), some (.int x5)]) (st' := [.int x5, .int x4, .ref 6]) rfl ?_
  refine fO_is rfl rfl h (fun m5 h => ?_)
  refine fT_ss 2 (pc' := 46) (L' := [some (.ref 4), some (.ref c1), some (.int y0), some (.int x3), some (.int (x4 + (-1))), some (.int x5)]) (st' := []) rfl ?_
  replace h := ob_inl h
  exact fT_mk rfl rfl h
noncomputable def g32_71 (c1 : Nat) (x2 : Int32) (x3 : Int32) (x4 : Int32) (y0 : Int32) (m : fm) : Option ((Int32 × Int32 × fm) ⊕ ((Int32 × Int32 × fm) ⊕ (fm))) :=
  bif ai_c .ne x2 0 then
    g32_94 c1 x3 x4 y0 (nI 1) m
  else
    ldI m 6 24 x4 fun v6 =>
    bif ai_c .eq y0 v6 then
      g32_94 c1 x3 x4 y0 (nI 0) m
    else
      g32_94 c1 x3 x4 y0 (nI 1) m
set_option maxHeartbeats 4000000 in
theorem t32_71 {X : ai_X} {d w : Nat} (hX : X[1]? = some (39, ai_sh)) (hd : 4 ≤ d) (hw : 94 ≤ w) {c1 : Nat} (hc1 : isC c1) (x2 : Int32) (x3 : Int32) (x4 : Int32) (y0 : Int32) (m : fm) (Q : Option Value → fm → Prop) (h : ob (g32_71 c1 x2 x3 x4 y0 m) (Sum.elim (fun s : Int32 × Int32 × fm => fT X d w ai_r32 46 [some (.ref 4), some (.ref c1), some (.int s.1), some (.int x3), some (.int s.2.1), none] [] s.2.2 Q) (Sum.elim (fun s : Int32 × Int32 × fm => fT X d w ai_r32 25 [some (.ref 4), some (.ref c1), some (.int s.1), some (.int s.2.1), none, none] [] s.2.2 Q) (fun z : fm => Q none z)))) : fT X d w ai_r32 71 [some (.ref 4), some (.ref c1), some (.int x2), some (.int x3), some (.int x4), none] [.int y0] m Q := by
  unfold g32_71 at h
  refine fT_ss 2 (pc' := 74) (L' := [some (.ref 4), some (.ref c1), some (.int x2), some (.int x3), some (.int x4), some (.int y0)]) (st' := [.int x2]) rfl ?_
  refine fO_if 89 rfl rfl h (fun h => ?_) (fun h => ?_)
  · refine fT_ss 2 (pc' := 94) (L' := [some (.ref 4), some (.ref c1), none, some (.int x3), some (.int x4), some (.int y0)]) (st' := [.int (nI 1)]) rfl ?_
    exact fT_mk rfl rfl (t32_94 hX hd hw hc1 _ _ _ _ _ Q h)
  · refine fT_ss 2 (pc' := 80) (L' := [some (.ref 4), some (.ref c1), none, some (.int x3), some (.int x4), some (.int y0)]) (st' := [.ref 4, .int y0]) rfl ?_
    refine fT_gr (q := 6) rfl rfl rfl ?_
    refine fT_ss 1 (pc' := 85) (L' := [some (.ref 4), some (.ref c1), none, some (.int x3), some (.int x4), some (.int y0)]) (st' := [.int x4, .ref 6, .int y0]) rfl ?_
    refine fO_ia rfl rfl rfl h (fun v6 h => ?_)
    refine fO_ic 93 rfl rfl h (fun h => ?_) (fun h => ?_)
    · refine fT_ss 1 (pc' := 94) (L' := [some (.ref 4), some (.ref c1), none, some (.int x3), some (.int x4), some (.int y0)]) (st' := [.int (nI 0)]) rfl ?_
      exact fT_mk rfl rfl (t32_94 hX hd hw hc1 _ _ _ _ _ Q h)
    · refine fT_ss 2 (pc' := 94) (L' := [some (.ref 4), some (.ref c1), none, some (.int x3), some (.int x4), some (.int y0)]) (st' := [.int (nI 1)]) rfl ?_
      exact fT_mk rfl rfl (t32_94 hX hd hw hc1 _ _ _ _ _ Q h)
noncomputable def s32_46 (c1 : Nat) (x2 : Int32) (x3 : Int32) (x4 : Int32) (m : fm) : Option ((Int32 × Int32 × fm) ⊕ ((Int32 × Int32 × fm) ⊕ (fm))) :=
  bif ai_c .lt x4 0 then
    some (.inr (.inl (x2, (x3 + (nI 1)), m)))
  else
    cl2 (g16 x4 m) fun v4 m3 =>
    bif ai_c .eq v4 0 then
      g32_71 c1 x2 x3 x4 (nI 0) m3
    else
      cl2 (g33 c1 x4 m3) fun v8 m7 =>
      g32_71 c1 x2 x3 x4 v8 m7
set_option maxHeartbeats 4000000 in
theorem b32_46 {X : ai_X} {d w : Nat} (hX : X[1]? = some (39, ai_sh)) (hd : 4 ≤ d) (hw : 94 ≤ w) {c1 : Nat} (hc1 : isC c1) (x2 : Int32) (x3 : Int32) (x4 : Int32) (m : fm) (Q : Option Value → fm → Prop) (h : ob (s32_46 c1 x2 x3 x4 m) (Sum.elim (fun s : Int32 × Int32 × fm => fT X d w ai_r32 46 [some (.ref 4), some (.ref c1), some (.int s.1), some (.int x3), some (.int s.2.1), none] [] s.2.2 Q) (Sum.elim (fun s : Int32 × Int32 × fm => fT X d w ai_r32 25 [some (.ref 4), some (.ref c1), some (.int s.1), some (.int s.2.1), none, none] [] s.2.2 Q) (fun z : fm => Q none z)))) : fT X d w ai_r32 46 [some (.ref 4), some (.ref c1), some (.int x2), some (.int x3), some (.int x4), none] [] m Q := by
  unfold s32_46 at h
  refine fT_ss 1 (pc' := 48) (L' := [some (.ref 4), some (.ref c1), some (.int x2), some (.int x3), some (.int x4), none]) (st' := [.int x4]) rfl ?_
  refine fO_if 110 rfl rfl h (fun h => ?_) (fun h => ?_)
  · refine fT_ss 2 (pc' := 25) (L' := [some (.ref 4), some (.ref c1), some (.int x2), some (.int (x3 + (nI 1))), none, none]) (st' := []) rfl ?_
    replace h := ob_inr h
    replace h := ob_inl h
    exact fT_mk rfl rfl h
  · refine fT_ss 2 (pc' := 54) (L' := [some (.ref 4), some (.ref c1), some (.int x2), some (.int x3), some (.int x4), none]) (st' := [.int x4, .ref 4]) rfl ?_
    refine fO_qv2 Value.int (r' := ai_r16) (k := 4) (As := [.int x4]) (rest := []) rfl rfl rfl rfl rfl rfl (by omega) (show 19 + 2 ≤ w by omega) (Nat.le_of_ble_eq_true rfl) (Nat.le_of_ble_eq_true rfl) (all_c rfl (all_c (kl_c hc1.2.2.1) rfl)) rfl (fun Qc hq => t16_0 hX (show 1 ≤ d - 1 by omega) (show 22 ≤ w - (19 + 2) by omega) _ _ Qc hq) h (fun v4 m3 h => ?_)
    refine fO_if 70 rfl rfl h (fun h => ?_) (fun h => ?_)
    · refine fT_ss 1 (pc' := 71) (L' := [some (.ref 4), some (.ref c1), some (.int x2), some (.int x3), some (.int x4), none]) (st' := [.int (nI 0)]) rfl ?_
      exact fT_mk rfl rfl (t32_71 hX hd hw hc1 _ _ _ _ _ Q h)
    · refine fT_ss 3 (pc' := 64) (L' := [some (.ref 4), some (.ref c1), some (.int x2), some (.int x3), some (.int x4), none]) (st' := [.int x4, .ref c1, .ref 4]) rfl ?_
      refine fO_qv2 Value.int (r' := ai_r33) (k := 4) (As := [.ref c1, .int x4]) (rest := []) rfl rfl rfl rfl rfl rfl (by omega) (show 19 + 4 ≤ w by omega) (Nat.le_of_ble_eq_true rfl) (Nat.le_of_ble_eq_true rfl) (all_c rfl (all_c (kl_c hc1.2.2.1) rfl)) rfl (fun Qc hq => t33_0 hX (show 3 ≤ d - 1 by omega) (show 71 ≤ w - (19 + 4) by omega) hc1 _ _ Qc hq) h (fun v8 m7 h => ?_)
      refine fT_ss 1 (pc' := 71) (L' := [some (.ref 4), some (.ref c1), some (.int x2), some (.int x3), some (.int x4), none]) (st' := [.int v8]) rfl ?_
      exact fT_mk rfl rfl (t32_71 hX hd hw hc1 _ _ _ _ _ Q h)
noncomputable def g32_46 (c1 : Nat) (x2 : Int32) (x3 : Int32) (x4 : Int32) (m : fm) : Option ((Int32 × Int32 × fm) ⊕ (fm)) := wl (fun s : Int32 × Int32 × fm => s32_46 c1 s.1 x3 s.2.1 s.2.2) lf (x2, x4, m)
theorem t32_46 {X : ai_X} {d w : Nat} (hX : X[1]? = some (39, ai_sh)) (hd : 4 ≤ d) (hw : 94 ≤ w) {c1 : Nat} (hc1 : isC c1) (x2 : Int32) (x3 : Int32) (x4 : Int32) (m : fm) (Q : Option Value → fm → Prop) (h : ob (g32_46 c1 x2 x3 x4 m) (Sum.elim (fun s : Int32 × Int32 × fm => fT X d w ai_r32 25 [some (.ref 4), some (.ref c1), some (.int s.1), some (.int s.2.1), none, none] [] s.2.2 Q) (fun z : fm => Q none z))) : fT X d w ai_r32 46 [some (.ref 4), some (.ref c1), some (.int x2), some (.int x3), some (.int x4), none] [] m Q :=
  wl_ob (P := fun s : Int32 × Int32 × fm => fT X d w ai_r32 46 [some (.ref 4), some (.ref c1), some (.int s.1), some (.int x3), some (.int s.2.1), none] [] s.2.2 Q) (fun s h => b32_46 hX hd hw hc1 s.1 x3 s.2.1 s.2.2 Q h) lf (x2, x4, m) h
noncomputable def s32_25 (c1 : Nat) (x2 : Int32) (x3 : Int32) (m : fm) : Option ((Int32 × Int32 × fm) ⊕ (fm)) :=
  bif ai_c .eq x2 0 then
    some (.inr m)
  else
    bif ai_c .ge x3 (nI 193) then
      some (.inr m)
    else
      cl2 (g1 c1 m) fun v2 m1 =>
      g32_46 c1 (nI 0) x3 (v2 - (nI 1)) m1
set_option maxHeartbeats 4000000 in
theorem b32_25 {X : ai_X} {d w : Nat} (hX : X[1]? = some (39, ai_sh)) (hd : 4 ≤ d) (hw : 94 ≤ w) {c1 : Nat} (hc1 : isC c1) (x2 : Int32) (x3 : Int32) (m : fm) (Q : Option Value → fm → Prop) (h : ob (s32_25 c1 x2 x3 m) (Sum.elim (fun s : Int32 × Int32 × fm => fT X d w ai_r32 25 [some (.ref 4), some (.ref c1), some (.int s.1), some (.int s.2.1), none, none] [] s.2.2 Q) (fun z : fm => Q none z))) : fT X d w ai_r32 25 [some (.ref 4), some (.ref c1), some (.int x2), some (.int x3), none, none] [] m Q := by
  unfold s32_25 at h
  refine fT_ss 1 (pc' := 26) (L' := [some (.ref 4), some (.ref c1), some (.int x2), some (.int x3), none, none]) (st' := [.int x2]) rfl ?_
  refine fO_if 116 rfl rfl h (fun h => ?_) (fun h => ?_)
  · exact fT_r rfl rfl h
  · refine fT_ss 2 (pc' := 33) (L' := [some (.ref 4), some (.ref c1), none, some (.int x3), none, none]) (st' := [.int (nI 193), .int x3]) rfl ?_
    refine fO_ic 116 rfl rfl h (fun h => ?_) (fun h => ?_)
    · exact fT_r rfl rfl h
    · refine fT_ss 3 (pc' := 39) (L' := [some (.ref 4), some (.ref c1), some (.int (nI 0)), some (.int x3), none, none]) (st' := [.ref c1]) rfl ?_
      refine fO_qv2 Value.int (r' := ai_r1) (k := c1) (As := []) (rest := []) rfl rfl rfl rfl hc1.1 rfl (by omega) (show 19 + 1 ≤ w by omega) (Nat.le_of_ble_eq_true rfl) (Nat.le_of_ble_eq_true rfl) (all_c rfl (all_c (kl_c hc1.2.2.1) rfl)) rfl (fun Qc hq => t1_0 hX (show 0 ≤ d - 1 by omega) (show 0 ≤ w - (19 + 1) by omega) hc1 _ Qc hq) h (fun v2 m1 h => ?_)
      refine fT_ss 3 (pc' := 46) (L' := [some (.ref 4), some (.ref c1), some (.int (nI 0)), some (.int x3), some (.int (v2 - (nI 1))), none]) (st' := []) rfl ?_
      exact fT_mk rfl rfl (t32_46 hX hd hw hc1 _ _ _ _ Q h)
noncomputable def g32_25 (c1 : Nat) (x2 : Int32) (x3 : Int32) (m : fm) : Option (fm) := wl (fun s : Int32 × Int32 × fm => s32_25 c1 s.1 s.2.1 s.2.2) lf (x2, x3, m)
theorem t32_25 {X : ai_X} {d w : Nat} (hX : X[1]? = some (39, ai_sh)) (hd : 4 ≤ d) (hw : 94 ≤ w) {c1 : Nat} (hc1 : isC c1) (x2 : Int32) (x3 : Int32) (m : fm) (Q : Option Value → fm → Prop) (h : ob (g32_25 c1 x2 x3 m) (fun z : fm => Q none z)) : fT X d w ai_r32 25 [some (.ref 4), some (.ref c1), some (.int x2), some (.int x3), none, none] [] m Q :=
  wl_ob (P := fun s : Int32 × Int32 × fm => fT X d w ai_r32 25 [some (.ref 4), some (.ref c1), some (.int s.1), some (.int s.2.1), none, none] [] s.2.2 Q) (fun s h => b32_25 hX hd hw hc1 s.1 s.2.1 s.2.2 Q h) lf (x2, x3, m) h
noncomputable def s32_2 (c1 : Nat) (x2 : Int32) (m : fm) : Option ((Int32 × fm) ⊕ (fm)) :=
  bif ai_c .ge x2 (nI 24) then
    (g32_25 c1 (nI 1) (nI 0) m).map Sum.inr
  else
    stI m 6 24 x2 (nI 0) fun m9 =>
    some (.inl ((x2 + (nI 1)), m9))
set_option maxHeartbeats 4000000 in
theorem b32_2 {X : ai_X} {d w : Nat} (hX : X[1]? = some (39, ai_sh)) (hd : 4 ≤ d) (hw : 94 ≤ w) {c1 : Nat} (hc1 : isC c1) (x2 : Int32) (m : fm) (Q : Option Value → fm → Prop) (h : ob (s32_2 c1 x2 m) (Sum.elim (fun s : Int32 × fm => fT X d w ai_r32 2 [some (.ref 4), some (.ref c1), some (.int s.1), none, none, none] [] s.2 Q) (fun z : fm => Q none z))) : fT X d w ai_r32 2 [some (.ref 4), some (.ref c1), some (.int x2), none, none, none] [] m Q := by
  unfold s32_2 at h
  refine fT_ss 2 (pc' := 5) (L' := [some (.ref 4), some (.ref c1), some (.int x2), none, none, none]) (st' := [.int (nI 24), .int x2]) rfl ?_
  refine fO_ic 21 rfl rfl h (fun h => ?_) (fun h => ?_)
  · refine fT_ss 4 (pc' := 25) (L' := [some (.ref 4), some (.ref c1), some (.int (nI 1)), some (.int (nI 0)), none, none]) (st' := []) rfl ?_
    exact fT_mk rfl rfl (t32_25 hX hd hw hc1 _ _ _ Q (ob_mapR h))
  · refine fT_ss 1 (pc' := 9) (L' := [some (.ref 4), some (.ref c1), some (.int x2), none, none, none]) (st' := [.ref 4]) rfl ?_
    refine fT_gr (q := 6) rfl rfl rfl ?_
    refine fT_ss 2 (pc' := 14) (L' := [some (.ref 4), some (.ref c1), some (.int x2), none, none, none]) (st' := [.int (nI 0), .int x2, .ref 6]) rfl ?_
    refine fO_is rfl rfl h (fun m9 h => ?_)
    refine fT_ss 2 (pc' := 2) (L' := [some (.ref 4), some (.ref c1), some (.int (x2 + (nI 1))), none, none, none]) (st' := []) rfl ?_
    replace h := ob_inl h
    exact fT_mk rfl rfl h
noncomputable def g32_2 (c1 : Nat) (x2 : Int32) (m : fm) : Option (fm) := wl (fun s : Int32 × fm => s32_2 c1 s.1 s.2) lf (x2, m)
theorem t32_2 {X : ai_X} {d w : Nat} (hX : X[1]? = some (39, ai_sh)) (hd : 4 ≤ d) (hw : 94 ≤ w) {c1 : Nat} (hc1 : isC c1) (x2 : Int32) (m : fm) (Q : Option Value → fm → Prop) (h : ob (g32_2 c1 x2 m) (fun z : fm => Q none z)) : fT X d w ai_r32 2 [some (.ref 4), some (.ref c1), some (.int x2), none, none, none] [] m Q :=
  wl_ob (P := fun s : Int32 × fm => fT X d w ai_r32 2 [some (.ref 4), some (.ref c1), some (.int s.1), none, none, none] [] s.2 Q) (fun s h => b32_2 hX hd hw hc1 s.1 s.2 Q h) lf (x2, m) h
noncomputable def g32 (c1 : Nat) (m : fm) : Option (fm) :=
  g32_2 c1 (nI 0) m
set_option maxHeartbeats 4000000 in
theorem t32_0 {X : ai_X} {d w : Nat} (hX : X[1]? = some (39, ai_sh)) (hd : 4 ≤ d) (hw : 94 ≤ w) {c1 : Nat} (hc1 : isC c1) (m : fm) (Q : Option Value → fm → Prop) (h : ob (g32 c1 m) (fun z : fm => Q none z)) : fT X d w ai_r32 0 [some (.ref 4), some (.ref c1), none, none, none, none] [] m Q := by
  unfold g32 at h
  refine fT_ss 2 (pc' := 2) (L' := [some (.ref 4), some (.ref c1), some (.int (nI 0)), none, none, none]) (st' := []) rfl ?_
  exact fT_mk rfl rfl (t32_2 hX hd hw hc1 _ _ Q h)
noncomputable def g36  (m : fm) : Option (Int32 × fm) :=
  gfI m 14 8 fun v1 =>
  some (v1, m)
set_option maxHeartbeats 4000000 in
theorem t36_0 {X : ai_X} {d w : Nat} (hX : X[1]? = some (39, ai_sh)) (hd : 0 ≤ d) (hw : 0 ≤ w)  (m : fm) (Q : Option Value → fm → Prop) (h : ob (g36  m) (fun z : Int32 × fm => Q (some (.int z.1)) z.2)) : fT X d w ai_r36 0 [some (.ref 14)] [] m Q := by
  unfold g36 at h
  refine fT_ss 1 (pc' := 1) (L' := [some (.ref 14)]) (st' := [.ref 14]) rfl ?_
  refine fO_gi rfl rfl rfl h (fun v1 h => ?_)
  exact fT_r rfl rfl h
noncomputable def g37  (m : fm) : Option (Int32 × fm) :=
  gfI m 14 6 fun v1 =>
  some (v1, m)
set_option maxHeartbeats 4000000 in
theorem t37_0 {X : ai_X} {d w : Nat} (hX : X[1]? = some (39, ai_sh)) (hd : 0 ≤ d) (hw : 0 ≤ w)  (m : fm) (Q : Option Value → fm → Prop) (h : ob (g37  m) (fun z : Int32 × fm => Q (some (.int z.1)) z.2)) : fT X d w ai_r37 0 [some (.ref 14)] [] m Q := by
  unfold g37 at h
  refine fT_ss 1 (pc' := 1) (L' := [some (.ref 14)]) (st' := [.ref 14]) rfl ?_
  refine fO_gi rfl rfl rfl h (fun v1 h => ?_)
  exact fT_r rfl rfl h
noncomputable def g38  (m : fm) : Option (Int32 × fm) :=
  gfI m 14 7 fun v1 =>
  some (v1, m)
set_option maxHeartbeats 4000000 in
theorem t38_0 {X : ai_X} {d w : Nat} (hX : X[1]? = some (39, ai_sh)) (hd : 0 ≤ d) (hw : 0 ≤ w)  (m : fm) (Q : Option Value → fm → Prop) (h : ob (g38  m) (fun z : Int32 × fm => Q (some (.int z.1)) z.2)) : fT X d w ai_r38 0 [some (.ref 14)] [] m Q := by
  unfold g38 at h
  refine fT_ss 1 (pc' := 1) (L' := [some (.ref 14)]) (st' := [.ref 14]) rfl ?_
  refine fO_gi rfl rfl rfl h (fun v1 h => ?_)
  exact fT_r rfl rfl h
noncomputable def g39 (x1 : Int32) (m : fm) : Option (Int32 × fm) :=
  ldI m 15 4 x1 fun v1 =>
  some (v1, m)
set_option maxHeartbeats 4000000 in
theorem t39_0 {X : ai_X} {d w : Nat} (hX : X[1]? = some (39, ai_sh)) (hd : 0 ≤ d) (hw : 0 ≤ w) (x1 : Int32) (m : fm) (Q : Option Value → fm → Prop) (h : ob (g39 x1 m) (fun z : Int32 × fm => Q (some (.int z.1)) z.2)) : fT X d w ai_r39 0 [some (.ref 14), some (.int x1)] [] m Q := by
  unfold g39 at h
  refine fT_ss 1 (pc' := 1) (L' := [some (.ref 14), some (.int x1)]) (st' := [.ref 14]) rfl ?_
  refine fT_gr (q := 15) rfl rfl rfl ?_
  refine fT_ss 1 (pc' := 5) (L' := [some (.ref 14), some (.int x1)]) (st' := [.int x1, .ref 15]) rfl ?_
  refine fO_ia rfl rfl rfl h (fun v1 h => ?_)
  exact fT_r rfl rfl h
noncomputable def g40 (x1 : Int32) (m : fm) : Option (Int32 × fm) :=
  bif ai_c .lt x1 0 then
    some ((nI 0), m)
  else
    gfI m 14 7 fun v1 =>
    bif ai_c .ge x1 v1 then
      some ((nI 0), m)
    else
      bif ai_c .ge x1 (nI 60) then
        some ((nI 0), m)
      else
        ldI m 16 60 x1 fun v2 =>
        some (v2, m)
set_option maxHeartbeats 4000000 in
theorem t40_0 {X : ai_X} {d w : Nat} (hX : X[1]? = some (39, ai_sh)) (hd : 0 ≤ d) (hw : 0 ≤ w) (x1 : Int32) (m : fm) (Q : Option Value → fm → Prop) (h : ob (g40 x1 m) (fun z : Int32 × fm => Q (some (.int z.1)) z.2)) : fT X d w ai_r40 0 [some (.ref 14), some (.int x1)] [] m Q := by
  unfold g40 at h
  refine fT_ss 1 (pc' := 1) (L' := [some (.ref 14), some (.int x1)]) (st' := [.int x1]) rfl ?_
  refine fO_if 27 rfl rfl h (fun h => ?_) (fun h => ?_)
  · refine fT_ss 1 (pc' := 28) (L' := [none, none]) (st' := [.int (nI 0)]) rfl ?_
    exact fT_r rfl rfl h
  · refine fT_ss 2 (pc' := 6) (L' := [some (.ref 14), some (.int x1)]) (st' := [.ref 14, .int x1]) rfl ?_
    refine fO_gi rfl rfl rfl h (fun v1 h => ?_)
    refine fO_ic 27 rfl rfl h (fun h => ?_) (fun h => ?_)
    · refine fT_ss 1 (pc' := 28) (L' := [none, none]) (st' := [.int (nI 0)]) rfl ?_
      exact fT_r rfl rfl h
    · refine fT_ss 2 (pc' := 15) (L' := [some (.ref 14), some (.int x1)]) (st' := [.int (nI 60), .int x1]) rfl ?_
      refine fO_ic 27 rfl rfl h (fun h => ?_) (fun h => ?_)
      · refine fT_ss 1 (pc' := 28) (L' := [none, none]) (st' := [.int (nI 0)]) rfl ?_
        exact fT_r rfl rfl h
      · refine fT_ss 1 (pc' := 19) (L' := [some (.ref 14), some (.int x1)]) (st' := [.ref 14]) rfl ?_
        refine fT_gr (q := 16) rfl rfl rfl ?_
        refine fT_ss 1 (pc' := 23) (L' := [some (.ref 14), some (.int x1)]) (st' := [.int x1, .ref 16]) rfl ?_
        refine fO_ia rfl rfl rfl h (fun v2 h => ?_)
        refine fT_ss 1 (pc' := 28) (L' := [some (.ref 14), some (.int x1)]) (st' := [.int v2]) rfl ?_
        exact fT_r rfl rfl h
noncomputable def s41_2 (x1 : Int32) (m : fm) : Option ((Int32 × fm) ⊕ (fm)) :=
  bif ai_c .ge x1 (nI 4) then
    pfI m 14 5 (nI 0) fun m1 =>
    pfI m1 14 6 (nI 0) fun m2 =>
    pfI m2 14 7 (nI 0) fun m3 =>
    pfI m3 14 8 (nI 0) fun m4 =>
    some (.inr m4)
  else
    stI m 15 4 x1 (nI 0) fun m5 =>
    some (.inl ((x1 + (nI 1)), m5))
set_option maxHeartbeats 4000000 in
theorem b41_2 {X : ai_X} {d w : Nat} (hX : X[1]? = some (39, ai_sh)) (hd : 0 ≤ d) (hw : 0 ≤ w) (x1 : Int32) (m : fm) (Q : Option Value → fm → Prop) (h : ob (s41_2 x1 m) (Sum.elim (fun s : Int32 × fm => fT X d w ai_r41 2 [some (.ref 14), some (.int s.1)] [] s.2 Q) (fun z : fm => Q none z))) : fT X d w ai_r41 2 [some (.ref 14), some (.int x1)] [] m Q := by
  unfold s41_2 at h
  refine fT_ss 2 (pc' := 4) (L' := [some (.ref 14), some (.int x1)]) (st' := [.int (nI 4), .int x1]) rfl ?_
  refine fO_ic 20 rfl rfl h (fun h => ?_) (fun h => ?_)
  · refine fT_ss 2 (pc' := 22) (L' := [some (.ref 14), none]) (st' := [.int (nI 0), .ref 14]) rfl ?_
    refine fO_pi rfl rfl rfl rfl h (fun m1 h => ?_)
    refine fT_ss 2 (pc' := 27) (L' := [some (.ref 14), none]) (st' := [.int (nI 0), .ref 14]) rfl ?_
    refine fO_pi rfl rfl rfl rfl h (fun m2 h => ?_)
    refine fT_ss 2 (pc' := 32) (L' := [some (.ref 14), none]) (st' := [.int (nI 0), .ref 14]) rfl ?_
    refine fO_pi rfl rfl rfl rfl h (fun m3 h => ?_)
    refine fT_ss 2 (pc' := 37) (L' := [some (.ref 14), none]) (st' := [.int (nI 0), .ref 14]) rfl ?_
    refine fO_pi rfl rfl rfl rfl h (fun m4 h => ?_)
    exact fT_r rfl rfl h
  · refine fT_ss 1 (pc' := 8) (L' := [some (.ref 14), some (.int x1)]) (st' := [.ref 14]) rfl ?_
    refine fT_gr (q := 15) rfl rfl rfl ?_
    refine fT_ss 2 (pc' := 13) (L' := [some (.ref 14), some (.int x1)]) (st' := [.int (nI 0), .int x1, .ref 15]) rfl ?_
    refine fO_is rfl rfl h (fun m5 h => ?_)
    refine fT_ss 2 (pc' := 2) (L' := [some (.ref 14), some (.int (x1 + (nI 1)))]) (st' := []) rfl ?_
    replace h := ob_inl h
    exact fT_mk rfl rfl h
noncomputable def g41_2 (x1 : Int32) (m : fm) : Option (fm) := wl (fun s : Int32 × fm => s41_2 s.1 s.2) lf (x1, m)
theorem t41_2 {X : ai_X} {d w : Nat} (hX : X[1]? = some (39, ai_sh)) (hd : 0 ≤ d) (hw : 0 ≤ w) (x1 : Int32) (m : fm) (Q : Option Value → fm → Prop) (h : ob (g41_2 x1 m) (fun z : fm => Q none z)) : fT X d w ai_r41 2 [some (.ref 14), some (.int x1)] [] m Q :=
  wl_ob (P := fun s : Int32 × fm => fT X d w ai_r41 2 [some (.ref 14), some (.int s.1)] [] s.2 Q) (fun s h => b41_2 hX hd hw s.1 s.2 Q h) lf (x1, m) h
noncomputable def g41  (m : fm) : Option (fm) :=
  g41_2 (nI 0) m
set_option maxHeartbeats 4000000 in
theorem t41_0 {X : ai_X} {d w : Nat} (hX : X[1]? = some (39, ai_sh)) (hd : 0 ≤ d) (hw : 0 ≤ w)  (m : fm) (Q : Option Value → fm → Prop) (h : ob (g41  m) (fun z : fm => Q none z)) : fT X d w ai_r41 0 [some (.ref 14), none] [] m Q := by
  unfold g41 at h
  refine fT_ss 2 (pc' := 2) (L' := [some (.ref 14), some (.int (nI 0))]) (st' := []) rfl ?_
  exact fT_mk rfl rfl (t41_2 hX hd hw _ _ Q h)
noncomputable def g43 (x1 : Int32) (x2 : Int32) (x3 : Int32) (m : fm) : Option (fm) :=
  gfI m 14 5 fun v1 =>
  bif ai_c .lt v1 (nI 8) then
    gfI m 14 5 fun v2 =>
    stI m 17 32 (v2 * (nI 4)) x2 fun m3 =>
    stI m3 17 32 ((v2 * (nI 4)) + (nI 1)) x3 fun m4 =>
    stI m4 17 32 ((v2 * (nI 4)) + (nI 2)) (nI 0) fun m5 =>
    stI m5 17 32 ((v2 * (nI 4)) + (nI 3)) (nI 0) fun m6 =>
    gfI m6 14 5 fun v7 =>
    stI m6 18 8 v7 (nI 0) fun m8 =>
    gfI m8 14 5 fun v9 =>
    stI m8 19 8 v9 x1 fun m10 =>
    gfI m10 14 5 fun v11 =>
    pfI m10 14 5 (v11 + (nI 1)) fun m12 =>
    some m12
  else
    pfI m 14 9 (nI 3) fun m13 =>
    some m13
set_option maxHeartbeats 4000000 in
theorem t43_0 {X : ai_X} {d w : Nat} (hX : X[1]? = some (39, ai_sh)) (hd : 0 ≤ d) (hw : 0 ≤ w) (x1 : Int32) (x2 : Int32) (x3 : Int32) (m : fm) (Q : Option Value → fm → Prop) (h : ob (g43 x1 x2 x3 m) (fun z : fm => Q none z)) : fT X d w ai_r43 0 [some (.ref 14), some (.int x1), some (.int x2), some (.int x3), none] [] m Q := by
  unfold g43 at h
  refine fT_ss 1 (pc' := 1) (L' := [some (.ref 14), some (.int x1), some (.int x2), some (.int x3), none]) (st' := [.ref 14]) rfl ?_
  refine fO_gi rfl rfl rfl h (fun v1 h => ?_)
  refine fT_ss 1 (pc' := 6) (L' := [some (.ref 14), some (.int x1), some (.int x2), some (.int x3), none]) (st' := [.int (nI 8), .int v1]) rfl ?_
  refine fO_ic 15 rfl rfl h (fun h => ?_) (fun h => ?_)
  · refine fT_ss 1 (pc' := 16) (L' := [some (.ref 14), some (.int x1), some (.int x2), some (.int x3), none]) (st' := [.ref 14]) rfl ?_
    refine fO_gi rfl rfl rfl h (fun v2 h => ?_)
    refine fT_ss 4 (pc' := 24) (L' := [some (.ref 14), some (.int x1), some (.int x2), some (.int x3), some (.int (v2 * (nI 4)))]) (st' := [.ref 14]) rfl ?_
    refine fT_gr (q := 17) rfl rfl rfl ?_
    refine fT_ss 2 (pc' := 30) (L' := [some (.ref 14), some (.int x1), some (.int x2), some (.int x3), some (.int (v2 * (nI 4)))]) (st' := [.int x2, .int (v2 * (nI 4)), .ref 17]) rfl ?_
    refine fO_is rfl rfl h (fun m3 h => ?_)
    refine fT_ss 1 (pc' := 32) (L' := [some (.ref 14), some (.int x1), some (.int x2), some (.int x3), some (.int (v2 * (nI 4)))]) (st' := [.ref 14]) rfl ?_
    refine fT_gr (q := 17) rfl rfl rfl ?_
    refine fT_ss 4 (pc' := 40) (L' := [some (.ref 14), some (.int x1), some (.int x2), some (.int x3), some (.int (v2 * (nI 4)))]) (st' := [.int x3, .int ((v2 * (nI 4)) + (nI 1)), .ref 17]) rfl ?_
    refine fO_is rfl rfl h (fun m4 h => ?_)
    refine fT_ss 1 (pc' := 42) (L' := [some (.ref 14), some (.int x1), some (.int x2), some (.int x3), some (.int (v2 * (nI 4)))]) (st' := [.ref 14]) rfl ?_
    refine fT_gr (q := 17) rfl rfl rfl ?_
    refine fT_ss 4 (pc' := 50) (L' := [some (.ref 14), some (.int x1), some (.int x2), some (.int x3), some (.int (v2 * (nI 4)))]) (st' := [.int (nI 0), .int ((v2 * (nI 4)) + (nI 2)), .ref 17]) rfl ?_
    refine fO_is rfl rfl h (fun m5 h => ?_)
    refine fT_ss 1 (pc' := 52) (L' := [some (.ref 14), some (.int x1), some (.int x2), some (.int x3), some (.int (v2 * (nI 4)))]) (st' := [.ref 14]) rfl ?_
    refine fT_gr (q := 17) rfl rfl rfl ?_
    refine fT_ss 4 (pc' := 60) (L' := [some (.ref 14), some (.int x1), some (.int x2), some (.int x3), some (.int (v2 * (nI 4)))]) (st' := [.int (nI 0), .int ((v2 * (nI 4)) + (nI 3)), .ref 17]) rfl ?_
    refine fO_is rfl rfl h (fun m6 h => ?_)
    refine fT_ss 1 (pc' := 62) (L' := [some (.ref 14), some (.int x1), some (.int x2), some (.int x3), some (.int (v2 * (nI 4)))]) (st' := [.ref 14]) rfl ?_
    refine fT_gr (q := 18) rfl rfl rfl ?_
    refine fT_ss 1 (pc' := 66) (L' := [some (.ref 14), some (.int x1), some (.int x2), some (.int x3), some (.int (v2 * (nI 4)))]) (st' := [.ref 14, .ref 18]) rfl ?_
    refine fO_gi rfl rfl rfl h (fun v7 h => ?_)
    refine fT_ss 1 (pc' := 70) (L' := [some (.ref 14), some (.int x1), some (.int x2), some (.int x3), some (.int (v2 * (nI 4)))]) (st' := [.int (nI 0), .int v7, .ref 18]) rfl ?_
    refine fO_is rfl rfl h (fun m8 h => ?_)
    refine fT_ss 1 (pc' := 72) (L' := [some (.ref 14), some (.int x1), some (.int x2), some (.int x3), some (.int (v2 * (nI 4)))]) (st' := [.ref 14]) rfl ?_
    refine fT_gr (q := 19) rfl rfl rfl ?_
    refine fT_ss 1 (pc' := 76) (L' := [some (.ref 14), some (.int x1), some (.int x2), some (.int x3), some (.int (v2 * (nI 4)))]) (st' := [.ref 14, .ref 19]) rfl ?_
    refine fO_gi rfl rfl rfl h (fun v9 h => ?_)
    refine fT_ss 1 (pc' := 80) (L' := [some (.ref 14), some (.int x1), some (.int x2), some (.int x3), some (.int (v2 * (nI 4)))]) (st' := [.int x1, .int v9, .ref 19]) rfl ?_
    refine fO_is rfl rfl h (fun m10 h => ?_)
    refine fT_ss 2 (pc' := 83) (L' := [some (.ref 14), some (.int x1), some (.int x2), some (.int x3), some (.int (v2 * (nI 4)))]) (st' := [.ref 14, .ref 14]) rfl ?_
    refine fO_gi rfl rfl rfl h (fun v11 h => ?_)
    refine fT_ss 2 (pc' := 88) (L' := [some (.ref 14), some (.int x1), some (.int x2), some (.int x3), some (.int (v2 * (nI 4)))]) (st' := [.int (v11 + (nI 1)), .ref 14]) rfl ?_
    refine fO_pi rfl rfl rfl rfl h (fun m12 h => ?_)
    exact fT_r rfl rfl h
  · refine fT_ss 2 (pc' := 11) (L' := [some (.ref 14), none, none, none, none]) (st' := [.int (nI 3), .ref 14]) rfl ?_
    refine fO_pi rfl rfl rfl rfl h (fun m13 h => ?_)
    exact fT_r rfl rfl h
noncomputable def g51 (x1 : Int32) (x2 : Int32) (m : fm) : Option (fm) :=
  gfI m 14 5 fun v1 =>
  stI m 17 32 (((v1 - (nI 1)) * (nI 4)) + x1) x2 fun m2 =>
  some m2
set_option maxHeartbeats 4000000 in
theorem t51_0 {X : ai_X} {d w : Nat} (hX : X[1]? = some (39, ai_sh)) (hd : 0 ≤ d) (hw : 0 ≤ w) (x1 : Int32) (x2 : Int32) (m : fm) (Q : Option Value → fm → Prop) (h : ob (g51 x1 x2 m) (fun z : fm => Q none z)) : fT X d w ai_r51 0 [some (.ref 14), some (.int x1), some (.int x2)] [] m Q := by
  unfold g51 at h
  refine fT_ss 1 (pc' := 1) (L' := [some (.ref 14), some (.int x1), some (.int x2)]) (st' := [.ref 14]) rfl ?_
  refine fT_gr (q := 17) rfl rfl rfl ?_
  refine fT_ss 1 (pc' := 5) (L' := [some (.ref 14), some (.int x1), some (.int x2)]) (st' := [.ref 14, .ref 17]) rfl ?_
  refine fO_gi rfl rfl rfl h (fun v1 h => ?_)
  refine fT_ss 7 (pc' := 15) (L' := [some (.ref 14), some (.int x1), some (.int x2)]) (st' := [.int x2, .int (((v1 - (nI 1)) * (nI 4)) + x1), .ref 17]) rfl ?_
  refine fO_is rfl rfl h (fun m2 h => ?_)
  exact fT_r rfl rfl h
