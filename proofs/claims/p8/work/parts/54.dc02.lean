noncomputable def g53  (m : fm) : Option (fm) :=
  gfI m 14 5 fun v1 =>
  ldI m 18 8 (v1 - (nI 1)) fun v2 =>
  stI m 18 8 (v1 - (nI 1)) (v2 + (nI 1)) fun m3 =>
  some m3
set_option maxHeartbeats 4000000 in
theorem t53_0 {X : ai_X} {d w : Nat} (hX : X[1]? = some (39, ai_sh)) (hd : 0 ≤ d) (hw : 0 ≤ w)  (m : fm) (Q : Option Value → fm → Prop) (h : ob (g53  m) (fun z : fm => Q none z)) : fT X d w ai_r53 0 [some (.ref 14)] [] m Q := by
  unfold g53 at h
  refine fT_ss 1 (pc' := 1) (L' := [some (.ref 14)]) (st' := [.ref 14]) rfl ?_
  refine fT_gr (q := 18) rfl rfl rfl ?_
  refine fT_ss 1 (pc' := 5) (L' := [some (.ref 14)]) (st' := [.ref 14, .ref 18]) rfl ?_
  refine fO_gi rfl rfl rfl h (fun v1 h => ?_)
  refine fT_ss 3 (pc' := 11) (L' := [some (.ref 14)]) (st' := [.int (v1 - (nI 1)), .ref 18, .int (v1 - (nI 1)), .ref 18]) rfl ?_
  refine fO_ia rfl rfl rfl h (fun v2 h => ?_)
  refine fT_ss 2 (pc' := 14) (L' := [some (.ref 14)]) (st' := [.int (v2 + (nI 1)), .int (v1 - (nI 1)), .ref 18]) rfl ?_
  refine fO_is rfl rfl h (fun m3 h => ?_)
  exact fT_r rfl rfl h
noncomputable def g45 (b1 : Nat) (x2 : Int32) (m : fm) : Option (fm) :=
  gfI m 14 5 fun v1 =>
  pfI m 14 5 (v1 - (nI 1)) fun m2 =>
  gfI m2 14 5 fun v3 =>
  bif ai_c .ne v3 0 then
    gfI m2 14 5 fun v4 =>
    ldI m2 19 8 (v4 - (nI 1)) fun v5 =>
    ldA b1 v5 fun c6 =>
    gfI m2 14 5 fun v7 =>
    ldI m2 18 8 (v7 - (nI 1)) fun v8 =>
    cl2 (g4 c6 v8 (nI 1) m2) fun v10 m9 =>
    cl1 (g51 v10 x2 m9) fun m11 =>
    cl1 (g53  m11) fun m12 =>
    some m12
  else
    pfI m2 14 8 x2 fun m13 =>
    pfI m13 14 9 (nI 0) fun m14 =>
    some m14
set_option maxHeartbeats 4000000 in
theorem t45_0 {X : ai_X} {d w : Nat} (hX : X[1]? = some (39, ai_sh)) (hd : 1 ≤ d) (hw : 22 ≤ w) {p1 b1 : Nat} (hp1 : isP p1 b1) (x2 : Int32) (m : fm) (Q : Option Value → fm → Prop) (h : ob (g45 b1 x2 m) (fun z : fm => Q none z)) : fT X d w ai_r45 0 [some (.ref 14), some (.ref p1), some (.int x2), none] [] m Q := by
  unfold g45 at h
  refine fT_ss 2 (pc' := 2) (L' := [some (.ref 14), some (.ref p1), some (.int x2), none]) (st' := [.ref 14, .ref 14]) rfl ?_
  refine fO_gi rfl rfl rfl h (fun v1 h => ?_)
  refine fT_ss 2 (pc' := 7) (L' := [some (.ref 14), some (.ref p1), some (.int x2), none]) (st' := [.int (v1 - (nI 1)), .ref 14]) rfl ?_
  refine fO_pi rfl rfl rfl rfl h (fun m2 h => ?_)
  refine fT_ss 1 (pc' := 11) (L' := [some (.ref 14), some (.ref p1), some (.int x2), none]) (st' := [.ref 14]) rfl ?_
  refine fO_gi rfl rfl rfl h (fun v3 h => ?_)
  refine fO_if 28 rfl rfl h (fun h => ?_) (fun h => ?_)
  · refine fT_ss 2 (pc' := 30) (L' := [some (.ref 14), some (.ref p1), some (.int x2), none]) (st' := [.ref 14, .ref p1]) rfl ?_
    refine fT_gr (q := 19) rfl rfl rfl ?_
    refine fT_ss 1 (pc' := 34) (L' := [some (.ref 14), some (.ref p1), some (.int x2), none]) (st' := [.ref 14, .ref 19, .ref p1]) rfl ?_
    refine fO_gi rfl rfl rfl h (fun v4 h => ?_)
    refine fT_ss 2 (pc' := 39) (L' := [some (.ref 14), some (.ref p1), some (.int x2), none]) (st' := [.int (v4 - (nI 1)), .ref 19, .ref p1]) rfl ?_
    refine fO_ia rfl rfl rfl h (fun v5 h => ?_)
    refine fO_aa rfl hp1 h (fun c6 hc6 h => ?_)
    refine fT_ss 4 (pc' := 45) (L' := [some (.ref 14), some (.ref p1), some (.int x2), some (.ref c6)]) (st' := [.ref 14, .ref c6, .ref 14]) rfl ?_
    refine fT_gr (q := 18) rfl rfl rfl ?_
    refine fT_ss 1 (pc' := 49) (L' := [some (.ref 14), some (.ref p1), some (.int x2), some (.ref c6)]) (st' := [.ref 14, .ref 18, .ref c6, .ref 14]) rfl ?_
    refine fO_gi rfl rfl rfl h (fun v7 h => ?_)
    refine fT_ss 2 (pc' := 54) (L' := [some (.ref 14), some (.ref p1), some (.int x2), some (.ref c6)]) (st' := [.int (v7 - (nI 1)), .ref 18, .ref c6, .ref 14]) rfl ?_
    refine fO_ia rfl rfl rfl h (fun v8 h => ?_)
    refine fT_ss 1 (pc' := 56) (L' := [some (.ref 14), some (.ref p1), some (.int x2), some (.ref c6)]) (st' := [.int (nI 1), .int v8, .ref c6, .ref 14]) rfl ?_
    refine fO_qv2 Value.int (r' := ai_r4) (k := c6) (As := [.int v8, .int (nI 1)]) (rest := [.ref 14]) rfl rfl rfl rfl hc6.1 rfl (by omega) (show 19 + 3 ≤ w by omega) (Nat.le_of_ble_eq_true rfl) (Nat.le_of_ble_eq_true rfl) (all_c rfl (all_c (kl_c hp1.2.2) (all_c rfl (all_c (kl_c hc6.2.2.1) rfl)))) rfl (fun Qc hq => t4_0 hX (show 0 ≤ d - 1 by omega) (show 0 ≤ w - (19 + 3) by omega) hc6 _ _ _ Qc hq) h (fun v10 m9 h => ?_)
    refine fT_ss 1 (pc' := 60) (L' := [some (.ref 14), some (.ref p1), some (.int x2), some (.ref c6)]) (st' := [.int x2, .int v10, .ref 14]) rfl ?_
    refine fO_qv1 (r' := ai_r51) (k := 14) (As := [.int v10, .int x2]) (rest := []) rfl rfl rfl rfl rfl rfl (by omega) (show 19 + 3 ≤ w by omega) (Nat.le_of_ble_eq_true rfl) (Nat.le_of_ble_eq_true rfl) (all_c rfl (all_c (kl_c hp1.2.2) (all_c rfl (all_c (kl_c hc6.2.2.1) rfl)))) rfl (fun Qc hq => t51_0 hX (show 0 ≤ d - 1 by omega) (show 0 ≤ w - (19 + 3) by omega) _ _ _ Qc hq) h (fun m11 h => ?_)
    refine fT_ss 1 (pc' := 64) (L' := [some (.ref 14), some (.ref p1), some (.int x2), some (.ref c6)]) (st' := [.ref 14]) rfl ?_
    refine fO_qv1 (r' := ai_r53) (k := 14) (As := []) (rest := []) rfl rfl rfl rfl rfl rfl (by omega) (show 19 + 1 ≤ w by omega) (Nat.le_of_ble_eq_true rfl) (Nat.le_of_ble_eq_true rfl) (all_c rfl (all_c (kl_c hp1.2.2) (all_c rfl (all_c (kl_c hc6.2.2.1) rfl)))) rfl (fun Qc hq => t53_0 hX (show 0 ≤ d - 1 by omega) (show 0 ≤ w - (19 + 1) by omega)  _ Qc hq) h (fun m12 h => ?_)
    exact fT_r rfl rfl h
  · refine fT_ss 2 (pc' := 19) (L' := [some (.ref 14), none, some (.int x2), none]) (st' := [.int x2, .ref 14]) rfl ?_
    refine fO_pi rfl rfl rfl rfl h (fun m13 h => ?_)
    refine fT_ss 2 (pc' := 24) (L' := [some (.ref 14), none, some (.int x2), none]) (st' := [.int (nI 0), .ref 14]) rfl ?_
    refine fO_pi rfl rfl rfl rfl h (fun m14 h => ?_)
    exact fT_r rfl rfl h
noncomputable def g52 (x1 : Int32) (x2 : Int32) (m : fm) : Option (fm) :=
  cl1 (g51 x1 x2 m) fun m1 =>
  cl1 (g53  m1) fun m2 =>
  some m2
set_option maxHeartbeats 4000000 in
theorem t52_0 {X : ai_X} {d w : Nat} (hX : X[1]? = some (39, ai_sh)) (hd : 1 ≤ d) (hw : 22 ≤ w) (x1 : Int32) (x2 : Int32) (m : fm) (Q : Option Value → fm → Prop) (h : ob (g52 x1 x2 m) (fun z : fm => Q none z)) : fT X d w ai_r52 0 [some (.ref 14), some (.int x1), some (.int x2)] [] m Q := by
  unfold g52 at h
  refine fT_ss 3 (pc' := 3) (L' := [some (.ref 14), some (.int x1), some (.int x2)]) (st' := [.int x2, .int x1, .ref 14]) rfl ?_
  refine fO_qv1 (r' := ai_r51) (k := 14) (As := [.int x1, .int x2]) (rest := []) rfl rfl rfl rfl rfl rfl (by omega) (show 19 + 3 ≤ w by omega) (Nat.le_of_ble_eq_true rfl) (Nat.le_of_ble_eq_true rfl) rfl rfl (fun Qc hq => t51_0 hX (show 0 ≤ d - 1 by omega) (show 0 ≤ w - (19 + 3) by omega) _ _ _ Qc hq) h (fun m1 h => ?_)
  refine fT_ss 1 (pc' := 7) (L' := [some (.ref 14), some (.int x1), some (.int x2)]) (st' := [.ref 14]) rfl ?_
  refine fO_qv1 (r' := ai_r53) (k := 14) (As := []) (rest := []) rfl rfl rfl rfl rfl rfl (by omega) (show 19 + 1 ≤ w by omega) (Nat.le_of_ble_eq_true rfl) (Nat.le_of_ble_eq_true rfl) rfl rfl (fun Qc hq => t53_0 hX (show 0 ≤ d - 1 by omega) (show 0 ≤ w - (19 + 1) by omega)  _ Qc hq) h (fun m2 h => ?_)
  exact fT_r rfl rfl h
noncomputable def g50 (x1 : Int32) (m : fm) : Option (Int32 × fm) :=
  gfI m 14 5 fun v1 =>
  ldI m 17 32 (((v1 - (nI 1)) * (nI 4)) + x1) fun v2 =>
  some (v2, m)
set_option maxHeartbeats 4000000 in
theorem t50_0 {X : ai_X} {d w : Nat} (hX : X[1]? = some (39, ai_sh)) (hd : 0 ≤ d) (hw : 0 ≤ w) (x1 : Int32) (m : fm) (Q : Option Value → fm → Prop) (h : ob (g50 x1 m) (fun z : Int32 × fm => Q (some (.int z.1)) z.2)) : fT X d w ai_r50 0 [some (.ref 14), some (.int x1)] [] m Q := by
  unfold g50 at h
  refine fT_ss 1 (pc' := 1) (L' := [some (.ref 14), some (.int x1)]) (st' := [.ref 14]) rfl ?_
  refine fT_gr (q := 17) rfl rfl rfl ?_
  refine fT_ss 1 (pc' := 5) (L' := [some (.ref 14), some (.int x1)]) (st' := [.ref 14, .ref 17]) rfl ?_
  refine fO_gi rfl rfl rfl h (fun v1 h => ?_)
  refine fT_ss 6 (pc' := 14) (L' := [some (.ref 14), some (.int x1)]) (st' := [.int (((v1 - (nI 1)) * (nI 4)) + x1), .ref 17]) rfl ?_
  refine fO_ia rfl rfl rfl h (fun v2 h => ?_)
  exact fT_r rfl rfl h
noncomputable def g47 (x1 : Int32) (x2 : Int32) (x3 : Int32) (m : fm) : Option (fm) :=
  bif ai_c .ne x3 0 then
    cl2 (g93 (nI 4) x2 x3 m) fun v2 m1 =>
    cl1 (g52 x1 v2 m1) fun m3 =>
    some m3
  else
    pfI m 14 9 (nI 1) fun m4 =>
    some m4
set_option maxHeartbeats 4000000 in
theorem t47_0 {X : ai_X} {d w : Nat} (hX : X[1]? = some (39, ai_sh)) (hd : 2 ≤ d) (hw : 44 ≤ w) (x1 : Int32) (x2 : Int32) (x3 : Int32) (m : fm) (Q : Option Value → fm → Prop) (h : ob (g47 x1 x2 x3 m) (fun z : fm => Q none z)) : fT X d w ai_r47 0 [some (.ref 14), some (.int x1), some (.int x2), some (.int x3)] [] m Q := by
  unfold g47 at h
  refine fT_ss 1 (pc' := 1) (L' := [some (.ref 14), some (.int x1), some (.int x2), some (.int x3)]) (st' := [.int x3]) rfl ?_
  refine fO_if 12 rfl rfl h (fun h => ?_) (fun h => ?_)
  · refine fT_ss 5 (pc' := 17) (L' := [some (.ref 14), some (.int x1), some (.int x2), some (.int x3)]) (st' := [.int x3, .int x2, .int (nI 4), .int x1, .ref 14]) rfl ?_
    refine fO_qs2 Value.int (r' := ai_r93) (As := [.int (nI 4), .int x2, .int x3]) (rest := [.int x1, .ref 14]) rfl rfl rfl rfl rfl rfl (by omega) (show 19 + 3 ≤ w by omega) (Nat.le_of_ble_eq_true rfl) (Nat.le_of_ble_eq_true rfl) rfl rfl (fun Qc hq => t93_0 hX (show 0 ≤ d - 1 by omega) (show 0 ≤ w - (19 + 3) by omega) _ _ _ _ Qc hq) h (fun v2 m1 h => ?_)
    refine fO_qv1 (r' := ai_r52) (k := 14) (As := [.int x1, .int v2]) (rest := []) rfl rfl rfl rfl rfl rfl (by omega) (show 19 + 3 ≤ w by omega) (Nat.le_of_ble_eq_true rfl) (Nat.le_of_ble_eq_true rfl) rfl rfl (fun Qc hq => t52_0 hX (show 1 ≤ d - 1 by omega) (show 22 ≤ w - (19 + 3) by omega) _ _ _ Qc hq) h (fun m3 h => ?_)
    exact fT_r rfl rfl h
  · refine fT_ss 2 (pc' := 6) (L' := [some (.ref 14), none, none, none]) (st' := [.int (nI 1), .ref 14]) rfl ?_
    refine fO_pi rfl rfl rfl rfl h (fun m4 h => ?_)
    refine fT_ss 1 (pc' := 23) (L' := [some (.ref 14), none, none, none]) (st' := []) rfl ?_
    exact fT_r rfl rfl h
noncomputable def g48 (x1 : Int32) (m : fm) : Option (fm) :=
  bif ai_c .ne x1 0 then
    cl1 (g53  m) fun m1 =>
    some m1
  else
    pfI m 14 9 (nI 2) fun m2 =>
    some m2
set_option maxHeartbeats 4000000 in
theorem t48_0 {X : ai_X} {d w : Nat} (hX : X[1]? = some (39, ai_sh)) (hd : 1 ≤ d) (hw : 20 ≤ w) (x1 : Int32) (m : fm) (Q : Option Value → fm → Prop) (h : ob (g48 x1 m) (fun z : fm => Q none z)) : fT X d w ai_r48 0 [some (.ref 14), some (.int x1)] [] m Q := by
  unfold g48 at h
  refine fT_ss 1 (pc' := 1) (L' := [some (.ref 14), some (.int x1)]) (st' := [.int x1]) rfl ?_
  refine fO_if 12 rfl rfl h (fun h => ?_) (fun h => ?_)
  · refine fT_ss 1 (pc' := 13) (L' := [some (.ref 14), none]) (st' := [.ref 14]) rfl ?_
    refine fO_qv1 (r' := ai_r53) (k := 14) (As := []) (rest := []) rfl rfl rfl rfl rfl rfl (by omega) (show 19 + 1 ≤ w by omega) (Nat.le_of_ble_eq_true rfl) (Nat.le_of_ble_eq_true rfl) rfl rfl (fun Qc hq => t53_0 hX (show 0 ≤ d - 1 by omega) (show 0 ≤ w - (19 + 1) by omega)  _ Qc hq) h (fun m1 h => ?_)
    exact fT_r rfl rfl h
  · refine fT_ss 2 (pc' := 6) (L' := [some (.ref 14), none]) (st' := [.int (nI 2), .ref 14]) rfl ?_
    refine fO_pi rfl rfl rfl rfl h (fun m2 h => ?_)
    refine fT_ss 1 (pc' := 16) (L' := [some (.ref 14), none]) (st' := []) rfl ?_
    exact fT_r rfl rfl h
noncomputable def g49_19  (m : fm) : Option (fm) :=
  gfI m 14 7 fun v2 =>
  pfI m 14 7 (v2 + (nI 1)) fun m3 =>
  cl1 (g53  m3) fun m4 =>
  some m4
set_option maxHeartbeats 4000000 in
theorem t49_19 {X : ai_X} {d w : Nat} (hX : X[1]? = some (39, ai_sh)) (hd : 1 ≤ d) (hw : 20 ≤ w)  (m : fm) (Q : Option Value → fm → Prop) (h : ob (g49_19  m) (fun z : fm => Q none z)) : fT X d w ai_r49 19 [some (.ref 14), none] [] m Q := by
  unfold g49_19 at h
  refine fT_ss 2 (pc' := 21) (L' := [some (.ref 14), none]) (st' := [.ref 14, .ref 14]) rfl ?_
  refine fO_gi rfl rfl rfl h (fun v2 h => ?_)
  refine fT_ss 2 (pc' := 26) (L' := [some (.ref 14), none]) (st' := [.int (v2 + (nI 1)), .ref 14]) rfl ?_
  refine fO_pi rfl rfl rfl rfl h (fun m3 h => ?_)
  refine fT_ss 1 (pc' := 30) (L' := [some (.ref 14), none]) (st' := [.ref 14]) rfl ?_
  refine fO_qv1 (r' := ai_r53) (k := 14) (As := []) (rest := []) rfl rfl rfl rfl rfl rfl (by omega) (show 19 + 1 ≤ w by omega) (Nat.le_of_ble_eq_true rfl) (Nat.le_of_ble_eq_true rfl) rfl rfl (fun Qc hq => t53_0 hX (show 0 ≤ d - 1 by omega) (show 0 ≤ w - (19 + 1) by omega)  _ Qc hq) h (fun m4 h => ?_)
  exact fT_r rfl rfl h
noncomputable def g49 (x1 : Int32) (m : fm) : Option (fm) :=
  gfI m 14 7 fun v1 =>
  bif ai_c .ge v1 (nI 60) then
    g49_19  m
  else
    gfI m 14 7 fun v5 =>
    stI m 16 60 v5 x1 fun m6 =>
    g49_19  m6
set_option maxHeartbeats 4000000 in
theorem t49_0 {X : ai_X} {d w : Nat} (hX : X[1]? = some (39, ai_sh)) (hd : 1 ≤ d) (hw : 20 ≤ w) (x1 : Int32) (m : fm) (Q : Option Value → fm → Prop) (h : ob (g49 x1 m) (fun z : fm => Q none z)) : fT X d w ai_r49 0 [some (.ref 14), some (.int x1)] [] m Q := by
  unfold g49 at h
  refine fT_ss 1 (pc' := 1) (L' := [some (.ref 14), some (.int x1)]) (st' := [.ref 14]) rfl ?_
  refine fO_gi rfl rfl rfl h (fun v1 h => ?_)
  refine fT_ss 1 (pc' := 6) (L' := [some (.ref 14), some (.int x1)]) (st' := [.int (nI 60), .int v1]) rfl ?_
  refine fO_ic 19 rfl rfl h (fun h => ?_) (fun h => ?_)
  · exact fT_mk rfl rfl (t49_19 hX hd hw  _ Q h)
  · refine fT_ss 1 (pc' := 10) (L' := [some (.ref 14), some (.int x1)]) (st' := [.ref 14]) rfl ?_
    refine fT_gr (q := 16) rfl rfl rfl ?_
    refine fT_ss 1 (pc' := 14) (L' := [some (.ref 14), some (.int x1)]) (st' := [.ref 14, .ref 16]) rfl ?_
    refine fO_gi rfl rfl rfl h (fun v5 h => ?_)
    refine fT_ss 1 (pc' := 18) (L' := [some (.ref 14), some (.int x1)]) (st' := [.int x1, .int v5, .ref 16]) rfl ?_
    refine fO_is rfl rfl h (fun m6 h => ?_)
    exact fT_mk rfl rfl (t49_19 hX hd hw  _ Q h)
noncomputable def g46_122 (x4 : Int32) (x5 : Int32) (x6 : Int32) (x7 : Int32) (m : fm) : Option (fm) :=
  cl2 (g50 x6 m) fun v14 m13 =>
  cl2 (g50 x7 m13) fun v16 m15 =>
  cl2 (g93 x4 v14 v16 m15) fun v18 m17 =>
  cl1 (g52 x5 v18 m17) fun m19 =>
  some m19
set_option maxHeartbeats 4000000 in
theorem t46_122 {X : ai_X} {d w : Nat} (hX : X[1]? = some (39, ai_sh)) (hd : 3 ≤ d) (hw : 67 ≤ w) (x4 : Int32) (x5 : Int32) (x6 : Int32) (x7 : Int32) (m : fm) (Q : Option Value → fm → Prop) (h : ob (g46_122 x4 x5 x6 x7 m) (fun z : fm => Q none z)) : fT X d w ai_r46 122 [some (.ref 14), none, none, none, some (.int x4), some (.int x5), some (.int x6), some (.int x7)] [] m Q := by
  unfold g46_122 at h
  refine fT_ss 5 (pc' := 130) (L' := [some (.ref 14), none, none, none, some (.int x4), some (.int x5), some (.int x6), some (.int x7)]) (st' := [.int x6, .ref 14, .int x4, .int x5, .ref 14]) rfl ?_
  refine fO_qv2 Value.int (r' := ai_r50) (k := 14) (As := [.int x6]) (rest := [.int x4, .int x5, .ref 14]) rfl rfl rfl rfl rfl rfl (by omega) (show 19 + 2 ≤ w by omega) (Nat.le_of_ble_eq_true rfl) (Nat.le_of_ble_eq_true rfl) rfl rfl (fun Qc hq => t50_0 hX (show 0 ≤ d - 1 by omega) (show 0 ≤ w - (19 + 2) by omega) _ _ Qc hq) h (fun v14 m13 h => ?_)
  refine fT_ss 2 (pc' := 136) (L' := [some (.ref 14), none, none, none, some (.int x4), some (.int x5), some (.int x6), some (.int x7)]) (st' := [.int x7, .ref 14, .int v14, .int x4, .int x5, .ref 14]) rfl ?_
  refine fO_qv2 Value.int (r' := ai_r50) (k := 14) (As := [.int x7]) (rest := [.int v14, .int x4, .int x5, .ref 14]) rfl rfl rfl rfl rfl rfl (by omega) (show 19 + 2 ≤ w by omega) (Nat.le_of_ble_eq_true rfl) (Nat.le_of_ble_eq_true rfl) rfl rfl (fun Qc hq => t50_0 hX (show 0 ≤ d - 1 by omega) (show 0 ≤ w - (19 + 2) by omega) _ _ Qc hq) h (fun v16 m15 h => ?_)
  refine fO_qs2 Value.int (r' := ai_r93) (As := [.int x4, .int v14, .int v16]) (rest := [.int x5, .ref 14]) rfl rfl rfl rfl rfl rfl (by omega) (show 19 + 3 ≤ w by omega) (Nat.le_of_ble_eq_true rfl) (Nat.le_of_ble_eq_true rfl) rfl rfl (fun Qc hq => t93_0 hX (show 0 ≤ d - 1 by omega) (show 0 ≤ w - (19 + 3) by omega) _ _ _ _ Qc hq) h (fun v18 m17 h => ?_)
  refine fO_qv1 (r' := ai_r52) (k := 14) (As := [.int x5, .int v18]) (rest := []) rfl rfl rfl rfl rfl rfl (by omega) (show 19 + 3 ≤ w by omega) (Nat.le_of_ble_eq_true rfl) (Nat.le_of_ble_eq_true rfl) rfl rfl (fun Qc hq => t52_0 hX (show 1 ≤ d - 1 by omega) (show 22 ≤ w - (19 + 3) by omega) _ _ _ Qc hq) h (fun m19 h => ?_)
  refine fT_ss 1 (pc' := 314) (L' := [some (.ref 14), none, none, none, some (.int x4), some (.int x5), some (.int x6), some (.int x7)]) (st' := []) rfl ?_
  exact fT_r rfl rfl h
noncomputable def g46 (b1 : Nat) (c2 : Nat) (x3 : Int32) (m : fm) : Option (fm) :=
  cl2 (g4 c2 x3 (nI 0) m) fun v2 m1 =>
  cl2 (g4 c2 x3 (nI 1) m1) fun v4 m3 =>
  cl2 (g4 c2 x3 (nI 2) m3) fun v6 m5 =>
  cl2 (g4 c2 x3 (nI 3) m5) fun v8 m7 =>
  bif decide (v2 = nI 0) then
    cl1 (g52 v4 v6 m7) fun m9 =>
    some m9
  else bif decide (v2 = nI 1) then
    cl2 (g50 v6 m7) fun v11 m10 =>
    cl1 (g52 v4 v11 m10) fun m12 =>
    some m12
  else bif decide (v2 = nI 2) then
    g46_122 v2 v4 v6 v8 m7
  else bif decide (v2 = nI 3) then
    g46_122 v2 v4 v6 v8 m7
  else bif decide (v2 = nI 4) then
    cl2 (g50 v6 m7) fun v21 m20 =>
    cl2 (g50 v8 m20) fun v23 m22 =>
    cl1 (g47 v4 v21 v23 m22) fun m24 =>
    some m24
  else bif decide (v2 = nI 5) then
    gfI m7 14 5 fun v25 =>
    cl2 (g50 v4 m7) fun v27 m26 =>
    cl2 (g50 v6 m26) fun v29 m28 =>
    bif ai_c .ge v27 v29 then
      stI m28 18 8 (v25 - (nI 1)) (x3 + (nI 1)) fun m30 =>
      some m30
    else
      stI m28 18 8 (v25 - (nI 1)) v8 fun m31 =>
      some m31
  else bif decide (v2 = nI 6) then
    gfI m7 14 5 fun v32 =>
    stI m7 18 8 (v32 - (nI 1)) v4 fun m33 =>
    some m33
  else bif decide (v2 = nI 7) then
    ldI m7 15 4 v6 fun v34 =>
    cl1 (g52 v4 v34 m7) fun m35 =>
    some m35
  else bif decide (v2 = nI 8) then
    cl2 (g50 v4 m7) fun v37 m36 =>
    stI m36 15 4 v6 v37 fun m38 =>
    cl1 (g53  m38) fun m39 =>
    some m39
  else bif decide (v2 = nI 9) then
    cl2 (g50 (nI 0) m7) fun v41 m40 =>
    cl2 (g50 (nI 1) m40) fun v43 m42 =>
    cl1 (g43 v6 v41 v43 m42) fun m44 =>
    some m44
  else bif decide (v2 = nI 10) then
    cl2 (g50 v4 m7) fun v46 m45 =>
    cl1 (g45 b1 v46 m45) fun m47 =>
    some m47
  else bif decide (v2 = nI 11) then
    cl2 (g50 v4 m7) fun v49 m48 =>
    cl1 (g48 v49 m48) fun m50 =>
    some m50
  else 
  cl2 (g50 v4 m7) fun v52 m51 =>
  cl1 (g49 v52 m51) fun m53 =>
  some m53
set_option maxHeartbeats 4000000 in
theorem t46_0 {X : ai_X} {d w : Nat} (hX : X[1]? = some (39, ai_sh)) (hd : 3 ≤ d) (hw : 67 ≤ w) {p1 b1 : Nat} (hp1 : isP p1 b1) {c2 : Nat} (hc2 : isC c2) (x3 : Int32) (m : fm) (Q : Option Value → fm → Prop) (h : ob (g46 b1 c2 x3 m) (fun z : fm => Q none z)) : fT X d w ai_r46 0 [some (.ref 14), some (.ref p1), some (.ref c2), some (.int x3), none, none, none, none] [] m Q := by
  unfold g46 at h
  refine fT_ss 3 (pc' := 3) (L' := [some (.ref 14), some (.ref p1), some (.ref c2), some (.int x3), none, none, none, none]) (st' := [.int (nI 0), .int x3, .ref c2]) rfl ?_
  refine fO_qv2 Value.int (r' := ai_r4) (k := c2) (As := [.int x3, .int (nI 0)]) (rest := []) rfl rfl rfl rfl hc2.1 rfl (by omega) (show 19 + 3 ≤ w by omega) (Nat.le_of_ble_eq_true rfl) (Nat.le_of_ble_eq_true rfl) (all_c rfl (all_c (kl_c hp1.2.2) (all_c (kl_c hc2.2.2.1) rfl))) rfl (fun Qc hq => t4_0 hX (show 0 ≤ d - 1 by omega) (show 0 ≤ w - (19 + 3) by omega) hc2 _ _ _ Qc hq) h (fun v2 m1 h => ?_)
  refine fT_ss 4 (pc' := 11) (L' := [some (.ref 14), some (.ref p1), some (.ref c2), some (.int x3), some (.int v2), none, none, none]) (st' := [.int (nI 1), .int x3, .ref c2]) rfl ?_
  refine fO_qv2 Value.int (r' := ai_r4) (k := c2) (As := [.int x3, .int (nI 1)]) (rest := []) rfl rfl rfl rfl hc2.1 rfl (by omega) (show 19 + 3 ≤ w by omega) (Nat.le_of_ble_eq_true rfl) (Nat.le_of_ble_eq_true rfl) (all_c rfl (all_c (kl_c hp1.2.2) (all_c (kl_c hc2.2.2.1) rfl))) rfl (fun Qc hq => t4_0 hX (show 0 ≤ d - 1 by omega) (show 0 ≤ w - (19 + 3) by omega) hc2 _ _ _ Qc hq) h (fun v4 m3 h => ?_)
  refine fT_ss 4 (pc' := 19) (L' := [some (.ref 14), some (.ref p1), some (.ref c2), some (.int x3), some (.int v2), some (.int v4), none, none]) (st' := [.int (nI 2), .int x3, .ref c2]) rfl ?_
  refine fO_qv2 Value.int (r' := ai_r4) (k := c2) (As := [.int x3, .int (nI 2)]) (rest := []) rfl rfl rfl rfl hc2.1 rfl (by omega) (show 19 + 3 ≤ w by omega) (Nat.le_of_ble_eq_true rfl) (Nat.le_of_ble_eq_true rfl) (all_c rfl (all_c (kl_c hp1.2.2) (all_c (kl_c hc2.2.2.1) rfl))) rfl (fun Qc hq => t4_0 hX (show 0 ≤ d - 1 by omega) (show 0 ≤ w - (19 + 3) by omega) hc2 _ _ _ Qc hq) h (fun v6 m5 h => ?_)
  refine fT_ss 4 (pc' := 27) (L' := [some (.ref 14), some (.ref p1), some (.ref c2), some (.int x3), some (.int v2), some (.int v4), some (.int v6), none]) (st' := [.int (nI 3), .int x3, .ref c2]) rfl ?_
  refine fO_qv2 Value.int (r' := ai_r4) (k := c2) (As := [.int x3, .int (nI 3)]) (rest := []) rfl rfl rfl rfl hc2.1 rfl (by omega) (show 19 + 3 ≤ w by omega) (Nat.le_of_ble_eq_true rfl) (Nat.le_of_ble_eq_true rfl) (all_c rfl (all_c (kl_c hp1.2.2) (all_c (kl_c hc2.2.2.1) rfl))) rfl (fun Qc hq => t4_0 hX (show 0 ≤ d - 1 by omega) (show 0 ≤ w - (19 + 3) by omega) hc2 _ _ _ Qc hq) h (fun v8 m7 h => ?_)
  refine fT_ss 2 (pc' := 34) (L' := [some (.ref 14), some (.ref p1), some (.ref c2), some (.int x3), some (.int v2), some (.int v4), some (.int v6), some (.int v8)]) (st' := [.int v2]) rfl ?_
  by_cases e0 : v2 = nI 0
  · subst e0
    replace h := ob_eqT h
    refine fT_ss 1 (pc' := 96) (L' := [some (.ref 14), some (.ref p1), some (.ref c2), some (.int x3), some (.int (nI 0)), some (.int v4), some (.int v6), some (.int v8)]) (st' := []) rfl ?_
    refine fT_ss 3 (pc' := 101) (L' := [some (.ref 14), none, none, none, none, some (.int v4), some (.int v6), none]) (st' := [.int v6, .int v4, .ref 14]) rfl ?_
    refine fO_qv1 (r' := ai_r52) (k := 14) (As := [.int v4, .int v6]) (rest := []) rfl rfl rfl rfl rfl rfl (by omega) (show 19 + 3 ≤ w by omega) (Nat.le_of_ble_eq_true rfl) (Nat.le_of_ble_eq_true rfl) rfl rfl (fun Qc hq => t52_0 hX (show 1 ≤ d - 1 by omega) (show 22 ≤ w - (19 + 3) by omega) _ _ _ Qc hq) h (fun m9 h => ?_)
    refine fT_ss 1 (pc' := 314) (L' := [some (.ref 14), none, none, none, none, some (.int v4), some (.int v6), none]) (st' := []) rfl ?_
    exact fT_r rfl rfl h
  replace h := ob_eqF e0 h
  by_cases e1 : v2 = nI 1
  · subst e1
    replace h := ob_eqT h
    refine fT_ss 1 (pc' := 107) (L' := [some (.ref 14), some (.ref p1), some (.ref c2), some (.int x3), some (.int (nI 1)), some (.int v4), some (.int v6), some (.int v8)]) (st' := []) rfl ?_
    refine fT_ss 4 (pc' := 113) (L' := [some (.ref 14), none, none, none, none, some (.int v4), some (.int v6), none]) (st' := [.int v6, .ref 14, .int v4, .ref 14]) rfl ?_
    refine fO_qv2 Value.int (r' := ai_r50) (k := 14) (As := [.int v6]) (rest := [.int v4, .ref 14]) rfl rfl rfl rfl rfl rfl (by omega) (show 19 + 2 ≤ w by omega) (Nat.le_of_ble_eq_true rfl) (Nat.le_of_ble_eq_true rfl) rfl rfl (fun Qc hq => t50_0 hX (show 0 ≤ d - 1 by omega) (show 0 ≤ w - (19 + 2) by omega) _ _ Qc hq) h (fun v11 m10 h => ?_)
    refine fO_qv1 (r' := ai_r52) (k := 14) (As := [.int v4, .int v11]) (rest := []) rfl rfl rfl rfl rfl rfl (by omega) (show 19 + 3 ≤ w by omega) (Nat.le_of_ble_eq_true rfl) (Nat.le_of_ble_eq_true rfl) rfl rfl (fun Qc hq => t52_0 hX (show 1 ≤ d - 1 by omega) (show 22 ≤ w - (19 + 3) by omega) _ _ _ Qc hq) h (fun m12 h => ?_)
    refine fT_ss 1 (pc' := 314) (L' := [some (.ref 14), none, none, none, none, some (.int v4), some (.int v6), none]) (st' := []) rfl ?_
    exact fT_r rfl rfl h
  replace h := ob_eqF e1 h
  by_cases e2 : v2 = nI 2
  · subst e2
    replace h := ob_eqT h
    refine fT_ss 1 (pc' := 122) (L' := [some (.ref 14), some (.ref p1), some (.ref c2), some (.int x3), some (.int (nI 2)), some (.int v4), some (.int v6), some (.int v8)]) (st' := []) rfl ?_
    exact fT_mk rfl rfl (t46_122 hX hd hw _ _ _ _ _ Q h)
  replace h := ob_eqF e2 h
  by_cases e3 : v2 = nI 3
  · subst e3
    replace h := ob_eqT h
    refine fT_ss 1 (pc' := 122) (L' := [some (.ref 14), some (.ref p1), some (.ref c2), some (.int x3), some (.int (nI 3)), some (.int v4), some (.int v6), some (.int v8)]) (st' := []) rfl ?_
    exact fT_mk rfl rfl (t46_122 hX hd hw _ _ _ _ _ Q h)
  replace h := ob_eqF e3 h
  by_cases e4 : v2 = nI 4
  · subst e4
    replace h := ob_eqT h
    refine fT_ss 1 (pc' := 148) (L' := [some (.ref 14), some (.ref p1), some (.ref c2), some (.int x3), some (.int (nI 4)), some (.int v4), some (.int v6), some (.int v8)]) (st' := []) rfl ?_
    refine fT_ss 4 (pc' := 154) (L' := [some (.ref 14), none, none, none, none, some (.int v4), some (.int v6), some (.int v8)]) (st' := [.int v6, .ref 14, .int v4, .ref 14]) rfl ?_
    refine fO_qv2 Value.int (r' := ai_r50) (k := 14) (As := [.int v6]) (rest := [.int v4, .ref 14]) rfl rfl rfl rfl rfl rfl (by omega) (show 19 + 2 ≤ w by omega) (Nat.le_of_ble_eq_true rfl) (Nat.le_of_ble_eq_true rfl) rfl rfl (fun Qc hq => t50_0 hX (show 0 ≤ d - 1 by omega) (show 0 ≤ w - (19 + 2) by omega) _ _ Qc hq) h (fun v21 m20 h => ?_)
    refine fT_ss 2 (pc' := 160) (L' := [some (.ref 14), none, none, none, none, some (.int v4), some (.int v6), some (.int v8)]) (st' := [.int v8, .ref 14, .int v21, .int v4, .ref 14]) rfl ?_
    refine fO_qv2 Value.int (r' := ai_r50) (k := 14) (As := [.int v8]) (rest := [.int v21, .int v4, .ref 14]) rfl rfl rfl rfl rfl rfl (by omega) (show 19 + 2 ≤ w by omega) (Nat.le_of_ble_eq_true rfl) (Nat.le_of_ble_eq_true rfl) rfl rfl (fun Qc hq => t50_0 hX (show 0 ≤ d - 1 by omega) (show 0 ≤ w - (19 + 2) by omega) _ _ Qc hq) h (fun v23 m22 h => ?_)
    refine fO_qv1 (r' := ai_r47) (k := 14) (As := [.int v4, .int v21, .int v23]) (rest := []) rfl rfl rfl rfl rfl rfl (by omega) (show 19 + 4 ≤ w by omega) (Nat.le_of_ble_eq_true rfl) (Nat.le_of_ble_eq_true rfl) rfl rfl (fun Qc hq => t47_0 hX (show 2 ≤ d - 1 by omega) (show 44 ≤ w - (19 + 4) by omega) _ _ _ _ Qc hq) h (fun m24 h => ?_)
    refine fT_ss 1 (pc' := 314) (L' := [some (.ref 14), none, none, none, none, some (.int v4), some (.int v6), some (.int v8)]) (st' := []) rfl ?_
    exact fT_r rfl rfl h
  replace h := ob_eqF e4 h
  by_cases e5 : v2 = nI 5
  · subst e5
    replace h := ob_eqT h
    refine fT_ss 1 (pc' := 169) (L' := [some (.ref 14), some (.ref p1), some (.ref c2), some (.int x3), some (.int (nI 5)), some (.int v4), some (.int v6), some (.int v8)]) (st' := []) rfl ?_
    refine fT_ss 1 (pc' := 170) (L' := [some (.ref 14), none, none, some (.int x3), none, some (.int v4), some (.int v6), some (.int v8)]) (st' := [.ref 14]) rfl ?_
    refine fT_gr (q := 18) rfl rfl rfl ?_
    refine fT_ss 1 (pc' := 174) (L' := [some (.ref 14), none, none, some (.int x3), none, some (.int v4), some (.int v6), some (.int v8)]) (st' := [.ref 14, .ref 18]) rfl ?_
    refine fO_gi rfl rfl rfl h (fun v25 h => ?_)
    refine fT_ss 4 (pc' := 182) (L' := [some (.ref 14), none, none, some (.int x3), none, some (.int v4), some (.int v6), some (.int v8)]) (st' := [.int v4, .ref 14, .int (v25 - (nI 1)), .ref 18]) rfl ?_
    refine fO_qv2 Value.int (r' := ai_r50) (k := 14) (As := [.int v4]) (rest := [.int (v25 - (nI 1)), .ref 18]) rfl rfl rfl rfl rfl rfl (by omega) (show 19 + 2 ≤ w by omega) (Nat.le_of_ble_eq_true rfl) (Nat.le_of_ble_eq_true rfl) rfl rfl (fun Qc hq => t50_0 hX (show 0 ≤ d - 1 by omega) (show 0 ≤ w - (19 + 2) by omega) _ _ Qc hq) h (fun v27 m26 h => ?_)
    refine fT_ss 2 (pc' := 188) (L' := [some (.ref 14), none, none, some (.int x3), none, some (.int v4), some (.int v6), some (.int v8)]) (st' := [.int v6, .ref 14, .int v27, .int (v25 - (nI 1)), .ref 18]) rfl ?_
    refine fO_qv2 Value.int (r' := ai_r50) (k := 14) (As := [.int v6]) (rest := [.int v27, .int (v25 - (nI 1)), .ref 18]) rfl rfl rfl rfl rfl rfl (by omega) (show 19 + 2 ≤ w by omega) (Nat.le_of_ble_eq_true rfl) (Nat.le_of_ble_eq_true rfl) rfl rfl (fun Qc hq => t50_0 hX (show 0 ≤ d - 1 by omega) (show 0 ≤ w - (19 + 2) by omega) _ _ Qc hq) h (fun v29 m28 h => ?_)
    refine fO_ic 199 rfl rfl h (fun h => ?_) (fun h => ?_)
    · refine fT_ss 3 (pc' := 202) (L' := [none, none, none, some (.int x3), none, none, none, none]) (st' := [.int (x3 + (nI 1)), .int (v25 - (nI 1)), .ref 18]) rfl ?_
      refine fO_is rfl rfl h (fun m30 h => ?_)
      refine fT_ss 1 (pc' := 314) (L' := [none, none, none, none, none, none, none, none]) (st' := []) rfl ?_
      exact fT_r rfl rfl h
    · refine fT_ss 2 (pc' := 202) (L' := [none, none, none, none, none, none, none, some (.int v8)]) (st' := [.int v8, .int (v25 - (nI 1)), .ref 18]) rfl ?_
      refine fO_is rfl rfl h (fun m31 h => ?_)
      refine fT_ss 1 (pc' := 314) (L' := [none, none, none, none, none, none, none, none]) (st' := []) rfl ?_
      exact fT_r rfl rfl h
  replace h := ob_eqF e5 h
  by_cases e6 : v2 = nI 6
  · subst e6
    replace h := ob_eqT h
    refine fT_ss 1 (pc' := 206) (L' := [some (.ref 14), some (.ref p1), some (.ref c2), some (.int x3), some (.int (nI 6)), some (.int v4), some (.int v6), some (.int v8)]) (st' := []) rfl ?_
    refine fT_ss 1 (pc' := 207) (L' := [some (.ref 14), none, none, none, none, some (.int v4), none, none]) (st' := [.ref 14]) rfl ?_
    refine fT_gr (q := 18) rfl rfl rfl ?_
    refine fT_ss 1 (pc' := 211) (L' := [some (.ref 14), none, none, none, none, some (.int v4), none, none]) (st' := [.ref 14, .ref 18]) rfl ?_
    refine fO_gi rfl rfl rfl h (fun v32 h => ?_)
    refine fT_ss 3 (pc' := 218) (L' := [some (.ref 14), none, none, none, none, some (.int v4), none, none]) (st' := [.int v4, .int (v32 - (nI 1)), .ref 18]) rfl ?_
    refine fO_is rfl rfl h (fun m33 h => ?_)
    refine fT_ss 1 (pc' := 314) (L' := [some (.ref 14), none, none, none, none, some (.int v4), none, none]) (st' := []) rfl ?_
    exact fT_r rfl rfl h
  replace h := ob_eqF e6 h
  by_cases e7 : v2 = nI 7
  · subst e7
    replace h := ob_eqT h
    refine fT_ss 1 (pc' := 222) (L' := [some (.ref 14), some (.ref p1), some (.ref c2), some (.int x3), some (.int (nI 7)), some (.int v4), some (.int v6), some (.int v8)]) (st' := []) rfl ?_
    refine fT_ss 3 (pc' := 226) (L' := [some (.ref 14), none, none, none, none, some (.int v4), some (.int v6), none]) (st' := [.ref 14, .int v4, .ref 14]) rfl ?_
    refine fT_gr (q := 15) rfl rfl rfl ?_
    refine fT_ss 1 (pc' := 231) (L' := [some (.ref 14), none, none, none, none, some (.int v4), some (.int v6), none]) (st' := [.int v6, .ref 15, .int v4, .ref 14]) rfl ?_
    refine fO_ia rfl rfl rfl h (fun v34 h => ?_)
    refine fO_qv1 (r' := ai_r52) (k := 14) (As := [.int v4, .int v34]) (rest := []) rfl rfl rfl rfl rfl rfl (by omega) (show 19 + 3 ≤ w by omega) (Nat.le_of_ble_eq_true rfl) (Nat.le_of_ble_eq_true rfl) rfl rfl (fun Qc hq => t52_0 hX (show 1 ≤ d - 1 by omega) (show 22 ≤ w - (19 + 3) by omega) _ _ _ Qc hq) h (fun m35 h => ?_)
    refine fT_ss 1 (pc' := 314) (L' := [some (.ref 14), none, none, none, none, some (.int v4), some (.int v6), none]) (st' := []) rfl ?_
    exact fT_r rfl rfl h
  replace h := ob_eqF e7 h
  by_cases e8 : v2 = nI 8
  · subst e8
    replace h := ob_eqT h
    refine fT_ss 1 (pc' := 238) (L' := [some (.ref 14), some (.ref p1), some (.ref c2), some (.int x3), some (.int (nI 8)), some (.int v4), some (.int v6), some (.int v8)]) (st' := []) rfl ?_
    refine fT_ss 1 (pc' := 239) (L' := [some (.ref 14), none, none, none, none, some (.int v4), some (.int v6), none]) (st' := [.ref 14]) rfl ?_
    refine fT_gr (q := 15) rfl rfl rfl ?_
    refine fT_ss 3 (pc' := 247) (L' := [some (.ref 14), none, none, none, none, some (.int v4), some (.int v6), none]) (st' := [.int v4, .ref 14, .int v6, .ref 15]) rfl ?_
    refine fO_qv2 Value.int (r' := ai_r50) (k := 14) (As := [.int v4]) (rest := [.int v6, .ref 15]) rfl rfl rfl rfl rfl rfl (by omega) (show 19 + 2 ≤ w by omega) (Nat.le_of_ble_eq_true rfl) (Nat.le_of_ble_eq_true rfl) rfl rfl (fun Qc hq => t50_0 hX (show 0 ≤ d - 1 by omega) (show 0 ≤ w - (19 + 2) by omega) _ _ Qc hq) h (fun v37 m36 h => ?_)
    refine fO_is rfl rfl h (fun m38 h => ?_)
    refine fT_ss 1 (pc' := 252) (L' := [some (.ref 14), none, none, none, none, some (.int v4), some (.int v6), none]) (st' := [.ref 14]) rfl ?_
    refine fO_qv1 (r' := ai_r53) (k := 14) (As := []) (rest := []) rfl rfl rfl rfl rfl rfl (by omega) (show 19 + 1 ≤ w by omega) (Nat.le_of_ble_eq_true rfl) (Nat.le_of_ble_eq_true rfl) rfl rfl (fun Qc hq => t53_0 hX (show 0 ≤ d - 1 by omega) (show 0 ≤ w - (19 + 1) by omega)  _ Qc hq) h (fun m39 h => ?_)
    refine fT_ss 1 (pc' := 314) (L' := [some (.ref 14), none, none, none, none, some (.int v4), some (.int v6), none]) (st' := []) rfl ?_
    exact fT_r rfl rfl h
  replace h := ob_eqF e8 h
  by_cases e9 : v2 = nI 9
  · subst e9
    replace h := ob_eqT h
    refine fT_ss 1 (pc' := 258) (L' := [some (.ref 14), some (.ref p1), some (.ref c2), some (.int x3), some (.int (nI 9)), some (.int v4), some (.int v6), some (.int v8)]) (st' := []) rfl ?_
    refine fT_ss 4 (pc' := 263) (L' := [some (.ref 14), none, none, none, none, none, some (.int v6), none]) (st' := [.int (nI 0), .ref 14, .int v6, .ref 14]) rfl ?_
    refine fO_qv2 Value.int (r' := ai_r50) (k := 14) (As := [.int (nI 0)]) (rest := [.int v6, .ref 14]) rfl rfl rfl rfl rfl rfl (by omega) (show 19 + 2 ≤ w by omega) (Nat.le_of_ble_eq_true rfl) (Nat.le_of_ble_eq_true rfl) rfl rfl (fun Qc hq => t50_0 hX (show 0 ≤ d - 1 by omega) (show 0 ≤ w - (19 + 2) by omega) _ _ Qc hq) h (fun v41 m40 h => ?_)
    refine fT_ss 2 (pc' := 268) (L' := [some (.ref 14), none, none, none, none, none, some (.int v6), none]) (st' := [.int (nI 1), .ref 14, .int v41, .int v6, .ref 14]) rfl ?_
    refine fO_qv2 Value.int (r' := ai_r50) (k := 14) (As := [.int (nI 1)]) (rest := [.int v41, .int v6, .ref 14]) rfl rfl rfl rfl rfl rfl (by omega) (show 19 + 2 ≤ w by omega) (Nat.le_of_ble_eq_true rfl) (Nat.le_of_ble_eq_true rfl) rfl rfl (fun Qc hq => t50_0 hX (show 0 ≤ d - 1 by omega) (show 0 ≤ w - (19 + 2) by omega) _ _ Qc hq) h (fun v43 m42 h => ?_)
    refine fO_qv1 (r' := ai_r43) (k := 14) (As := [.int v6, .int v41, .int v43]) (rest := []) rfl rfl rfl rfl rfl rfl (by omega) (show 19 + 5 ≤ w by omega) (Nat.le_of_ble_eq_true rfl) (Nat.le_of_ble_eq_true rfl) rfl rfl (fun Qc hq => t43_0 hX (show 0 ≤ d - 1 by omega) (show 0 ≤ w - (19 + 5) by omega) _ _ _ _ Qc hq) h (fun m44 h => ?_)
    refine fT_ss 1 (pc' := 314) (L' := [some (.ref 14), none, none, none, none, none, some (.int v6), none]) (st' := []) rfl ?_
    exact fT_r rfl rfl h
  replace h := ob_eqF e9 h
  by_cases e10 : v2 = nI 10
  · subst e10
    replace h := ob_eqT h
    refine fT_ss 1 (pc' := 277) (L' := [some (.ref 14), some (.ref p1), some (.ref c2), some (.int x3), some (.int (nI 10)), some (.int v4), some (.int v6), some (.int v8)]) (st' := []) rfl ?_
    refine fT_ss 4 (pc' := 282) (L' := [some (.ref 14), some (.ref p1), none, none, none, some (.int v4), none, none]) (st' := [.int v4, .ref 14, .ref p1, .ref 14]) rfl ?_
    refine fO_qv2 Value.int (r' := ai_r50) (k := 14) (As := [.int v4]) (rest := [.ref p1, .ref 14]) rfl rfl rfl rfl rfl rfl (by omega) (show 19 + 2 ≤ w by omega) (Nat.le_of_ble_eq_true rfl) (Nat.le_of_ble_eq_true rfl) (all_c rfl (all_c (kl_c hp1.2.2) rfl)) (all_c (k_c hp1.2.2) rfl) (fun Qc hq => t50_0 hX (show 0 ≤ d - 1 by omega) (show 0 ≤ w - (19 + 2) by omega) _ _ Qc hq) h (fun v46 m45 h => ?_)
    refine fO_qv1 (r' := ai_r45) (k := 14) (As := [.ref p1, .int v46]) (rest := []) rfl rfl rfl rfl rfl rfl (by omega) (show 19 + 4 ≤ w by omega) (Nat.le_of_ble_eq_true rfl) (Nat.le_of_ble_eq_true rfl) (all_c rfl (all_c (kl_c hp1.2.2) rfl)) rfl (fun Qc hq => t45_0 hX (show 1 ≤ d - 1 by omega) (show 22 ≤ w - (19 + 4) by omega) hp1 _ _ Qc hq) h (fun m47 h => ?_)
    refine fT_ss 1 (pc' := 314) (L' := [some (.ref 14), some (.ref p1), none, none, none, some (.int v4), none, none]) (st' := []) rfl ?_
    exact fT_r rfl rfl h
  replace h := ob_eqF e10 h
  by_cases e11 : v2 = nI 11
  · subst e11
    replace h := ob_eqT h
    refine fT_ss 1 (pc' := 291) (L' := [some (.ref 14), some (.ref p1), some (.ref c2), some (.int x3), some (.int (nI 11)), some (.int v4), some (.int v6), some (.int v8)]) (st' := []) rfl ?_
    refine fT_ss 3 (pc' := 295) (L' := [some (.ref 14), none, none, none, none, some (.int v4), none, none]) (st' := [.int v4, .ref 14, .ref 14]) rfl ?_
    refine fO_qv2 Value.int (r' := ai_r50) (k := 14) (As := [.int v4]) (rest := [.ref 14]) rfl rfl rfl rfl rfl rfl (by omega) (show 19 + 2 ≤ w by omega) (Nat.le_of_ble_eq_true rfl) (Nat.le_of_ble_eq_true rfl) rfl rfl (fun Qc hq => t50_0 hX (show 0 ≤ d - 1 by omega) (show 0 ≤ w - (19 + 2) by omega) _ _ Qc hq) h (fun v49 m48 h => ?_)
    refine fO_qv1 (r' := ai_r48) (k := 14) (As := [.int v49]) (rest := []) rfl rfl rfl rfl rfl rfl (by omega) (show 19 + 2 ≤ w by omega) (Nat.le_of_ble_eq_true rfl) (Nat.le_of_ble_eq_true rfl) rfl rfl (fun Qc hq => t48_0 hX (show 1 ≤ d - 1 by omega) (show 20 ≤ w - (19 + 2) by omega) _ _ Qc hq) h (fun m50 h => ?_)
    refine fT_ss 1 (pc' := 314) (L' := [some (.ref 14), none, none, none, none, some (.int v4), none, none]) (st' := []) rfl ?_
    exact fT_r rfl rfl h
  replace h := ob_eqF e11 h
  refine fO_td 304 rfl rfl (by have := nt (k := 0) (by omega) e0; have := nt (k := 1) (by omega) e1; have := nt (k := 2) (by omega) e2; have := nt (k := 3) (by omega) e3; have := nt (k := 4) (by omega) e4; have := nt (k := 5) (by omega) e5; have := nt (k := 6) (by omega) e6; have := nt (k := 7) (by omega) e7; have := nt (k := 8) (by omega) e8; have := nt (k := 9) (by omega) e9; have := nt (k := 10) (by omega) e10; have := nt (k := 11) (by omega) e11; omega) ?_
  refine fT_ss 3 (pc' := 308) (L' := [some (.ref 14), none, none, none, none, some (.int v4), none, none]) (st' := [.int v4, .ref 14, .ref 14]) rfl ?_
  refine fO_qv2 Value.int (r' := ai_r50) (k := 14) (As := [.int v4]) (rest := [.ref 14]) rfl rfl rfl rfl rfl rfl (by omega) (show 19 + 2 ≤ w by omega) (Nat.le_of_ble_eq_true rfl) (Nat.le_of_ble_eq_true rfl) rfl rfl (fun Qc hq => t50_0 hX (show 0 ≤ d - 1 by omega) (show 0 ≤ w - (19 + 2) by omega) _ _ Qc hq) h (fun v52 m51 h => ?_)
  refine fO_qv1 (r' := ai_r49) (k := 14) (As := [.int v52]) (rest := []) rfl rfl rfl rfl rfl rfl (by omega) (show 19 + 2 ≤ w by omega) (Nat.le_of_ble_eq_true rfl) (Nat.le_of_ble_eq_true rfl) rfl rfl (fun Qc hq => t49_0 hX (show 1 ≤ d - 1 by omega) (show 20 ≤ w - (19 + 2) by omega) _ _ Qc hq) h (fun m53 h => ?_)
  exact fT_r rfl rfl h
noncomputable def g44 (b1 : Nat) (m : fm) : Option (fm) :=
  gfI m 14 5 fun v1 =>
  ldI m 19 8 (v1 - (nI 1)) fun v2 =>
  ldA b1 v2 fun c3 =>
  gfI m 14 5 fun v4 =>
  ldI m 18 8 (v4 - (nI 1)) fun v5 =>
  cl2 (g2 c3 v5 m) fun v7 m6 =>
  bif ai_c .ne v7 0 then
    gfI m6 14 6 fun v8 =>
    bif ai_c .lt v8 (nI 2000) then
      gfI m6 14 6 fun v9 =>
      pfI m6 14 6 (v9 + (nI 1)) fun m10 =>
      cl1 (g46 b1 c3 v5 m10) fun m11 =>
      some m11
    else
      pfI m6 14 9 (nI 4) fun m12 =>
      some m12
  else
    cl1 (g45 b1 (nI 0) m6) fun m13 =>
    some m13
set_option maxHeartbeats 4000000 in
theorem t44_0 {X : ai_X} {d w : Nat} (hX : X[1]? = some (39, ai_sh)) (hd : 4 ≤ d) (hw : 94 ≤ w) {p1 b1 : Nat} (hp1 : isP p1 b1) (m : fm) (Q : Option Value → fm → Prop) (h : ob (g44 b1 m) (fun z : fm => Q none z)) : fT X d w ai_r44 0 [some (.ref 14), some (.ref p1), none, none] [] m Q := by
  unfold g44 at h
  refine fT_ss 2 (pc' := 2) (L' := [some (.ref 14), some (.ref p1), none, none]) (st' := [.ref 14, .ref p1]) rfl ?_
  refine fT_gr (q := 19) rfl rfl rfl ?_
  refine fT_ss 1 (pc' := 6) (L' := [some (.ref 14), some (.ref p1), none, none]) (st' := [.ref 14, .ref 19, .ref p1]) rfl ?_
  refine fO_gi rfl rfl rfl h (fun v1 h => ?_)
  refine fT_ss 2 (pc' := 11) (L' := [some (.ref 14), some (.ref p1), none, none]) (st' := [.int (v1 - (nI 1)), .ref 19, .ref p1]) rfl ?_
  refine fO_ia rfl rfl rfl h (fun v2 h => ?_)
  refine fO_aa rfl hp1 h (fun c3 hc3 h => ?_)
  refine fT_ss 2 (pc' := 15) (L' := [some (.ref 14), some (.ref p1), some (.ref c3), none]) (st' := [.ref 14]) rfl ?_
  refine fT_gr (q := 18) rfl rfl rfl ?_
  refine fT_ss 1 (pc' := 19) (L' := [some (.ref 14), some (.ref p1), some (.ref c3), none]) (st' := [.ref 14, .ref 18]) rfl ?_
  refine fO_gi rfl rfl rfl h (fun v4 h => ?_)
  refine fT_ss 2 (pc' := 24) (L' := [some (.ref 14), some (.ref p1), some (.ref c3), none]) (st' := [.int (v4 - (nI 1)), .ref 18]) rfl ?_
  refine fO_ia rfl rfl rfl h (fun v5 h => ?_)
  refine fT_ss 3 (pc' := 28) (L' := [some (.ref 14), some (.ref p1), some (.ref c3), some (.int v5)]) (st' := [.int v5, .ref c3]) rfl ?_
  refine fO_qv2 Value.int (r' := ai_r2) (k := c3) (As := [.int v5]) (rest := []) rfl rfl rfl rfl hc3.1 rfl (by omega) (show 19 + 2 ≤ w by omega) (Nat.le_of_ble_eq_true rfl) (Nat.le_of_ble_eq_true rfl) (all_c rfl (all_c (kl_c hp1.2.2) (all_c (kl_c hc3.2.2.1) rfl))) rfl (fun Qc hq => t2_0 hX (show 0 ≤ d - 1 by omega) (show 0 ≤ w - (19 + 2) by omega) hc3 _ _ Qc hq) h (fun v7 m6 h => ?_)
  refine fO_if 43 rfl rfl h (fun h => ?_) (fun h => ?_)
  · refine fT_ss 1 (pc' := 44) (L' := [some (.ref 14), some (.ref p1), some (.ref c3), some (.int v5)]) (st' := [.ref 14]) rfl ?_
    refine fO_gi rfl rfl rfl h (fun v8 h => ?_)
    refine fT_ss 1 (pc' := 50) (L' := [some (.ref 14), some (.ref p1), some (.ref c3), some (.int v5)]) (st' := [.int (nI 2000), .int v8]) rfl ?_
    refine fO_ic 61 rfl rfl h (fun h => ?_) (fun h => ?_)
    · refine fT_ss 2 (pc' := 63) (L' := [some (.ref 14), some (.ref p1), some (.ref c3), some (.int v5)]) (st' := [.ref 14, .ref 14]) rfl ?_
      refine fO_gi rfl rfl rfl h (fun v9 h => ?_)
      refine fT_ss 2 (pc' := 68) (L' := [some (.ref 14), some (.ref p1), some (.ref c3), some (.int v5)]) (st' := [.int (v9 + (nI 1)), .ref 14]) rfl ?_
      refine fO_pi rfl rfl rfl rfl h (fun m10 h => ?_)
      refine fT_ss 4 (pc' := 75) (L' := [some (.ref 14), some (.ref p1), some (.ref c3), some (.int v5)]) (st' := [.int v5, .ref c3, .ref p1, .ref 14]) rfl ?_
      refine fO_qv1 (r' := ai_r46) (k := 14) (As := [.ref p1, .ref c3, .int v5]) (rest := []) rfl rfl rfl rfl rfl rfl (by omega) (show 19 + 8 ≤ w by omega) (Nat.le_of_ble_eq_true rfl) (Nat.le_of_ble_eq_true rfl) (all_c rfl (all_c (kl_c hp1.2.2) (all_c (kl_c hc3.2.2.1) rfl))) rfl (fun Qc hq => t46_0 hX (show 3 ≤ d - 1 by omega) (show 67 ≤ w - (19 + 8) by omega) hp1 hc3 _ _ Qc hq) h (fun m11 h => ?_)
      exact fT_r rfl rfl h
    · refine fT_ss 2 (pc' := 55) (L' := [some (.ref 14), none, none, none]) (st' := [.int (nI 4), .ref 14]) rfl ?_
      refine fO_pi rfl rfl rfl rfl h (fun m12 h => ?_)
      refine fT_ss 1 (pc' := 78) (L' := [some (.ref 14), none, none, none]) (st' := []) rfl ?_
      exact fT_r rfl rfl h
  · refine fT_ss 3 (pc' := 37) (L' := [some (.ref 14), some (.ref p1), none, none]) (st' := [.int (nI 0), .ref p1, .ref 14]) rfl ?_
    refine fO_qv1 (r' := ai_r45) (k := 14) (As := [.ref p1, .int (nI 0)]) (rest := []) rfl rfl rfl rfl rfl rfl (by omega) (show 19 + 4 ≤ w by omega) (Nat.le_of_ble_eq_true rfl) (Nat.le_of_ble_eq_true rfl) (all_c rfl (all_c (kl_c hp1.2.2) rfl)) rfl (fun Qc hq => t45_0 hX (show 1 ≤ d - 1 by omega) (show 22 ≤ w - (19 + 4) by omega) hp1 _ _ Qc hq) h (fun m13 h => ?_)
    refine fT_ss 1 (pc' := 78) (L' := [some (.ref 14), some (.ref p1), none, none]) (st' := []) rfl ?_
    exact fT_r rfl rfl h
noncomputable def s42_20 (b1 : Nat) (x5 : Int32) (m : fm) : Option ((Int32 × fm) ⊕ (Int32 × fm)) :=
  gfI m 14 9 fun v4 =>
  bif ai_c .ne v4 (-1) then
    gfI m 14 9 fun v5 =>
    some (.inr (v5, m))
  else
    bif ai_c .ge x5 (nI 10000) then
      gfI m 14 9 fun v6 =>
      some (.inr (v6, m))
    else
      cl1 (g44 b1 m) fun m7 =>
      some (.inl ((x5 + (nI 1)), m7))
set_option maxHeartbeats 4000000 in
theorem b42_20 {X : ai_X} {d w : Nat} (hX : X[1]? = some (39, ai_sh)) (hd : 5 ≤ d) (hw : 117 ≤ w) {p1 b1 : Nat} (hp1 : isP p1 b1) (x5 : Int32) (m : fm) (Q : Option Value → fm → Prop) (h : ob (s42_20 b1 x5 m) (Sum.elim (fun s : Int32 × fm => fT X d w ai_r42 20 [some (.ref 14), some (.ref p1), none, none, none, some (.int s.1)] [] s.2 Q) (fun z : Int32 × fm => Q (some (.int z.1)) z.2))) : fT X d w ai_r42 20 [some (.ref 14), some (.ref p1), none, none, none, some (.int x5)] [] m Q := by
  unfold s42_20 at h
  refine fT_ss 1 (pc' := 21) (L' := [some (.ref 14), some (.ref p1), none, none, none, some (.int x5)]) (st' := [.ref 14]) rfl ?_
  refine fO_gi rfl rfl rfl h (fun v4 h => ?_)
  refine fT_ss 1 (pc' := 25) (L' := [some (.ref 14), some (.ref p1), none, none, none, some (.int x5)]) (st' := [.int (-1), .int v4]) rfl ?_
  refine fO_ic 47 rfl rfl h (fun h => ?_) (fun h => ?_)
  · refine fT_ss 1 (pc' := 48) (L' := [some (.ref 14), none, none, none, none, none]) (st' := [.ref 14]) rfl ?_
    refine fO_gi rfl rfl rfl h (fun v5 h => ?_)
    exact fT_r rfl rfl h
  · refine fT_ss 2 (pc' := 33) (L' := [some (.ref 14), some (.ref p1), none, none, none, some (.int x5)]) (st' := [.int (nI 10000), .int x5]) rfl ?_
    refine fO_ic 47 rfl rfl h (fun h => ?_) (fun h => ?_)
    · refine fT_ss 1 (pc' := 48) (L' := [some (.ref 14), none, none, none, none, none]) (st' := [.ref 14]) rfl ?_
      refine fO_gi rfl rfl rfl h (fun v6 h => ?_)
      exact fT_r rfl rfl h
    · refine fT_ss 2 (pc' := 38) (L' := [some (.ref 14), some (.ref p1), none, none, none, some (.int x5)]) (st' := [.ref p1, .ref 14]) rfl ?_
      refine fO_qv1 (r' := ai_r44) (k := 14) (As := [.ref p1]) (rest := []) rfl rfl rfl rfl rfl rfl (by omega) (show 19 + 4 ≤ w by omega) (Nat.le_of_ble_eq_true rfl) (Nat.le_of_ble_eq_true rfl) (all_c rfl (all_c (kl_c hp1.2.2) rfl)) rfl (fun Qc hq => t44_0 hX (show 4 ≤ d - 1 by omega) (show 94 ≤ w - (19 + 4) by omega) hp1 _ Qc hq) h (fun m7 h => ?_)
      refine fT_ss 2 (pc' := 20) (L' := [some (.ref 14), some (.ref p1), none, none, none, some (.int (x5 + (nI 1)))]) (st' := []) rfl ?_
      replace h := ob_inl h
      exact fT_mk rfl rfl h
noncomputable def g42_20 (b1 : Nat) (x5 : Int32) (m : fm) : Option (Int32 × fm) := wl (fun s : Int32 × fm => s42_20 b1 s.1 s.2) lf (x5, m)
theorem t42_20 {X : ai_X} {d w : Nat} (hX : X[1]? = some (39, ai_sh)) (hd : 5 ≤ d) (hw : 117 ≤ w) {p1 b1 : Nat} (hp1 : isP p1 b1) (x5 : Int32) (m : fm) (Q : Option Value → fm → Prop) (h : ob (g42_20 b1 x5 m) (fun z : Int32 × fm => Q (some (.int z.1)) z.2)) : fT X d w ai_r42 20 [some (.ref 14), some (.ref p1), none, none, none, some (.int x5)] [] m Q :=
  wl_ob (P := fun s : Int32 × fm => fT X d w ai_r42 20 [some (.ref 14), some (.ref p1), none, none, none, some (.int s.1)] [] s.2 Q) (fun s h => b42_20 hX hd hw hp1 s.1 s.2 Q h) lf (x5, m) h
noncomputable def g42 (b1 : Nat) (x2 : Int32) (x3 : Int32) (x4 : Int32) (m : fm) : Option (Int32 × fm) :=
  cl1 (g41  m) fun m1 =>
  pfI m1 14 9 (-1) fun m2 =>
  cl1 (g43 x2 x3 x4 m2) fun m3 =>
  g42_20 b1 (nI 0) m3
set_option maxHeartbeats 4000000 in
theorem t42_0 {X : ai_X} {d w : Nat} (hX : X[1]? = some (39, ai_sh)) (hd : 5 ≤ d) (hw : 117 ≤ w) {p1 b1 : Nat} (hp1 : isP p1 b1) (x2 : Int32) (x3 : Int32) (x4 : Int32) (m : fm) (Q : Option Value → fm → Prop) (h : ob (g42 b1 x2 x3 x4 m) (fun z : Int32 × fm => Q (some (.int z.1)) z.2)) : fT X d w ai_r42 0 [some (.ref 14), some (.ref p1), some (.int x2), some (.int x3), some (.int x4), none] [] m Q := by
  unfold g42 at h
  refine fT_ss 1 (pc' := 1) (L' := [some (.ref 14), some (.ref p1), some (.int x2), some (.int x3), some (.int x4), none]) (st' := [.ref 14]) rfl ?_
  refine fO_qv1 (r' := ai_r41) (k := 14) (As := []) (rest := []) rfl rfl rfl rfl rfl rfl (by omega) (show 19 + 2 ≤ w by omega) (Nat.le_of_ble_eq_true rfl) (Nat.le_of_ble_eq_true rfl) (all_c rfl (all_c (kl_c hp1.2.2) rfl)) rfl (fun Qc hq => t41_0 hX (show 0 ≤ d - 1 by omega) (show 0 ≤ w - (19 + 2) by omega)  _ Qc hq) h (fun m1 h => ?_)
  refine fT_ss 2 (pc' := 6) (L' := [some (.ref 14), some (.ref p1), some (.int x2), some (.int x3), some (.int x4), none]) (st' := [.int (-1), .ref 14]) rfl ?_
  refine fO_pi rfl rfl rfl rfl h (fun m2 h => ?_)
  refine fT_ss 4 (pc' := 14) (L' := [some (.ref 14), some (.ref p1), some (.int x2), some (.int x3), some (.int x4), none]) (st' := [.int x4, .int x3, .int x2, .ref 14]) rfl ?_
  refine fO_qv1 (r' := ai_r43) (k := 14) (As := [.int x2, .int x3, .int x4]) (rest := []) rfl rfl rfl rfl rfl rfl (by omega) (show 19 + 5 ≤ w by omega) (Nat.le_of_ble_eq_true rfl) (Nat.le_of_ble_eq_true rfl) (all_c rfl (all_c (kl_c hp1.2.2) rfl)) rfl (fun Qc hq => t43_0 hX (show 0 ≤ d - 1 by omega) (show 0 ≤ w - (19 + 5) by omega) _ _ _ _ Qc hq) h (fun m3 h => ?_)
  refine fT_ss 2 (pc' := 20) (L' := [some (.ref 14), some (.ref p1), some (.int x2), some (.int x3), some (.int x4), some (.int (nI 0))]) (st' := []) rfl ?_
  exact fT_mk rfl rfl (t42_20 hX hd hw hp1 _ _ Q h)
noncomputable def g57 (x0 : Int32) (m : fm) : Option (Int32 × fm) :=
  bif ai_c .eq (x0 &&& (nI 1)) 0 then
    some ((nI 0), m)
  else
    bif ai_c .ne (x0 &&& (nI 28)) 0 then
      some ((nI 0), m)
    else
      some ((nI 1), m)
set_option maxHeartbeats 4000000 in
theorem t57_0 {X : ai_X} {d w : Nat} (hX : X[1]? = some (39, ai_sh)) (hd : 0 ≤ d) (hw : 0 ≤ w) (x0 : Int32) (m : fm) (Q : Option Value → fm → Prop) (h : ob (g57 x0 m) (fun z : Int32 × fm => Q (some (.int z.1)) z.2)) : fT X d w ai_r57 0 [some (.int x0)] [] m Q := by
  unfold g57 at h
  refine fT_ss 3 (pc' := 3) (L' := [some (.int x0)]) (st' := [.int (x0 &&& (nI 1))]) rfl ?_
  refine fO_if 17 rfl rfl h (fun h => ?_) (fun h => ?_)
  · refine fT_ss 1 (pc' := 18) (L' := [none]) (st' := [.int (nI 0)]) rfl ?_
    exact fT_r rfl rfl h
  · refine fT_ss 3 (pc' := 10) (L' := [some (.int x0)]) (st' := [.int (x0 &&& (nI 28))]) rfl ?_
    refine fO_if 17 rfl rfl h (fun h => ?_) (fun h => ?_)
    · refine fT_ss 1 (pc' := 18) (L' := [none]) (st' := [.int (nI 0)]) rfl ?_
      exact fT_r rfl rfl h
    · refine fT_ss 2 (pc' := 18) (L' := [none]) (st' := [.int (nI 1)]) rfl ?_
      exact fT_r rfl rfl h
noncomputable def s56_5 (c1 : Nat) (x3 : Int32) (x4 : Int32) (m : fm) : Option ((Int32 × Int32 × fm) ⊕ (fm)) :=
  bif ai_c .gt x4 (nI 24) then
    some (.inr m)
  else
    stI m 13 25 x4 x3 fun m1 =>
    cl2 (g2 c1 x4 m1) fun v3 m2 =>
    bif ai_c .eq v3 0 then
      some (.inl (x3, (x4 + (nI 1)), m2))
    else
      cl2 (g19 c1 x4 m2) fun v5 m4 =>
      cl2 (g57 v5 m4) fun v7 m6 =>
      bif ai_c .eq v7 0 then
        some (.inl (x3, (x4 + (nI 1)), m6))
      else
        some (.inl ((x3 + (nI 1)), (x4 + (nI 1)), m6))
set_option maxHeartbeats 4000000 in
theorem b56_5 {X : ai_X} {d w : Nat} (hX : X[1]? = some (39, ai_sh)) (hd : 3 ≤ d) (hw : 71 ≤ w) {c1 : Nat} (hc1 : isC c1) (x3 : Int32) (x4 : Int32) (m : fm) (Q : Option Value → fm → Prop) (h : ob (s56_5 c1 x3 x4 m) (Sum.elim (fun s : Int32 × Int32 × fm => fT X d w ai_r56 5 [some (.ref 12), some (.ref c1), some (.ref 4), some (.int s.1), some (.int s.2.1)] [] s.2.2 Q) (fun z : fm => Q none z))) : fT X d w ai_r56 5 [some (.ref 12), some (.ref c1), some (.ref 4), some (.int x3), some (.int x4)] [] m Q := by
  unfold s56_5 at h
  refine fT_ss 2 (pc' := 9) (L' := [some (.ref 12), some (.ref c1), some (.ref 4), some (.int x3), some (.int x4)]) (st' := [.int (nI 24), .int x4]) rfl ?_
  refine fO_ic 51 rfl rfl h (fun h => ?_) (fun h => ?_)
  · exact fT_r rfl rfl h
  · refine fT_ss 1 (pc' := 13) (L' := [some (.ref 12), some (.ref c1), some (.ref 4), some (.int x3), some (.int x4)]) (st' := [.ref 12]) rfl ?_
    refine fT_gr (q := 13) rfl rfl rfl ?_
    refine fT_ss 2 (pc' := 19) (L' := [some (.ref 12), some (.ref c1), some (.ref 4), some (.int x3), some (.int x4)]) (st' := [.int x3, .int x4, .ref 13]) rfl ?_
    refine fO_is rfl rfl h (fun m1 h => ?_)
    refine fT_ss 2 (pc' := 23) (L' := [some (.ref 12), some (.ref c1), some (.ref 4), some (.int x3), some (.int x4)]) (st' := [.int x4, .ref c1]) rfl ?_
    refine fO_qv2 Value.int (r' := ai_r2) (k := c1) (As := [.int x4]) (rest := []) rfl rfl rfl rfl hc1.1 rfl (by omega) (show 19 + 2 ≤ w by omega) (Nat.le_of_ble_eq_true rfl) (Nat.le_of_ble_eq_true rfl) (all_c rfl (all_c (kl_c hc1.2.2.1) rfl)) rfl (fun Qc hq => t2_0 hX (show 0 ≤ d - 1 by omega) (show 0 ≤ w - (19 + 2) by omega) hc1 _ _ Qc hq) h (fun v3 m2 h => ?_)
    refine fO_if 45 rfl rfl h (fun h => ?_) (fun h => ?_)
    · refine fT_ss 2 (pc' := 5) (L' := [some (.ref 12), some (.ref c1), some (.ref 4), some (.int x3), some (.int (x4 + (nI 1)))]) (st' := []) rfl ?_
      replace h := ob_inl h
      exact fT_mk rfl rfl h
    · refine fT_ss 3 (pc' := 33) (L' := [some (.ref 12), some (.ref c1), some (.ref 4), some (.int x3), some (.int x4)]) (st' := [.int x4, .ref c1, .ref 4]) rfl ?_
      refine fO_qv2 Value.int (r' := ai_r19) (k := 4) (As := [.ref c1, .int x4]) (rest := []) rfl rfl rfl rfl rfl rfl (by omega) (show 19 + 3 ≤ w by omega) (Nat.le_of_ble_eq_true rfl) (Nat.le_of_ble_eq_true rfl) (all_c rfl (all_c (kl_c hc1.2.2.1) rfl)) rfl (fun Qc hq => t19_0 hX (show 2 ≤ d - 1 by omega) (show 49 ≤ w - (19 + 3) by omega) hc1 _ _ Qc hq) h (fun v5 m4 h => ?_)
      refine fO_qs2 Value.int (r' := ai_r57) (As := [.int v5]) (rest := []) rfl rfl rfl rfl rfl rfl (by omega) (show 19 + 1 ≤ w by omega) (Nat.le_of_ble_eq_true rfl) (Nat.le_of_ble_eq_true rfl) (all_c rfl (all_c (kl_c hc1.2.2.1) rfl)) rfl (fun Qc hq => t57_0 hX (show 0 ≤ d - 1 by omega) (show 0 ≤ w - (19 + 1) by omega) _ _ Qc hq) h (fun v7 m6 h => ?_)
      refine fO_if 45 rfl rfl h (fun h => ?_) (fun h => ?_)
      · refine fT_ss 2 (pc' := 5) (L' := [some (.ref 12), some (.ref c1), some (.ref 4), some (.int x3), some (.int (x4 + (nI 1)))]) (st' := []) rfl ?_
        replace h := ob_inl h
        exact fT_mk rfl rfl h
      · refine fT_ss 3 (pc' := 5) (L' := [some (.ref 12), some (.ref c1), some (.ref 4), some (.int (x3 + (nI 1))), some (.int (x4 + (nI 1)))]) (st' := []) rfl ?_
        replace h := ob_inl h
        exact fT_mk rfl rfl h
noncomputable def g56_5 (c1 : Nat) (x3 : Int32) (x4 : Int32) (m : fm) : Option (fm) := wl (fun s : Int32 × Int32 × fm => s56_5 c1 s.1 s.2.1 s.2.2) lf (x3, x4, m)
theorem t56_5 {X : ai_X} {d w : Nat} (hX : X[1]? = some (39, ai_sh)) (hd : 3 ≤ d) (hw : 71 ≤ w) {c1 : Nat} (hc1 : isC c1) (x3 : Int32) (x4 : Int32) (m : fm) (Q : Option Value → fm → Prop) (h : ob (g56_5 c1 x3 x4 m) (fun z : fm => Q none z)) : fT X d w ai_r56 5 [some (.ref 12), some (.ref c1), some (.ref 4), some (.int x3), some (.int x4)] [] m Q :=
  wl_ob (P := fun s : Int32 × Int32 × fm => fT X d w ai_r56 5 [some (.ref 12), some (.ref c1), some (.ref 4), some (.int s.1), some (.int s.2.1)] [] s.2.2 Q) (fun s h => b56_5 hX hd hw hc1 s.1 s.2.1 s.2.2 Q h) lf (x3, x4, m) h
noncomputable def g56 (c1 : Nat) (m : fm) : Option (fm) :=
  g56_5 c1 (nI 0) (nI 0) m
set_option maxHeartbeats 4000000 in
theorem t56_0 {X : ai_X} {d w : Nat} (hX : X[1]? = some (39, ai_sh)) (hd : 3 ≤ d) (hw : 71 ≤ w) {c1 : Nat} (hc1 : isC c1) (m : fm) (Q : Option Value → fm → Prop) (h : ob (g56 c1 m) (fun z : fm => Q none z)) : fT X d w ai_r56 0 [some (.ref 12), some (.ref c1), some (.ref 4), none, none] [] m Q := by
  unfold g56 at h
  refine fT_ss 4 (pc' := 5) (L' := [some (.ref 12), some (.ref c1), some (.ref 4), some (.int (nI 0)), some (.int (nI 0))]) (st' := []) rfl ?_
  exact fT_mk rfl rfl (t56_5 hX hd hw hc1 _ _ _ Q h)
noncomputable def g59_131 (c1 : Nat) (x4 : Int32) (x5 : Int32) (x6 : Int32) (x7 : Int32) (x8 : Int32) (y0 : Int32) (m : fm) : Option (Int32 × fm) :=
  cl1 (g6 c1 x4 x5 x6 x7 y0 m) fun m10 =>
  bif ai_c .eq y0 x8 then
    some ((nI 0), m10)
  else
    some ((nI 1), m10)
set_option maxHeartbeats 4000000 in
theorem t59_131 {X : ai_X} {d w : Nat} (hX : X[1]? = some (39, ai_sh)) (hd : 2 ≤ d) (hw : 47 ≤ w) {c1 : Nat} (hc1 : isC c1) (x4 : Int32) (x5 : Int32) (x6 : Int32) (x7 : Int32) (x8 : Int32) (y0 : Int32) (m : fm) (Q : Option Value → fm → Prop) (h : ob (g59_131 c1 x4 x5 x6 x7 x8 y0 m) (fun z : Int32 × fm => Q (some (.int z.1)) z.2)) : fT X d w ai_r59 131 [none, some (.ref c1), none, none, some (.int x4), some (.int x5), some (.int x6), some (.int x7), some (.int x8), none] [.int y0] m Q := by
  unfold g59_131 at h
  refine fT_ss 7 (pc' := 144) (L' := [none, some (.ref c1), none, none, some (.int x4), some (.int x5), some (.int x6), some (.int x7), some (.int x8), some (.int y0)]) (st' := [.int y0, .int x7, .int x6, .int x5, .int x4, .ref c1]) rfl ?_
  refine fO_qv1 (r' := ai_r6) (k := c1) (As := [.int x4, .int x5, .int x6, .int x7, .int y0]) (rest := []) rfl rfl rfl rfl hc1.1 rfl (by omega) (show 19 + 7 ≤ w by omega) (Nat.le_of_ble_eq_true rfl) (Nat.le_of_ble_eq_true rfl) (all_c rfl (all_c (kl_c hc1.2.2.1) rfl)) rfl (fun Qc hq => t6_0 hX (show 1 ≤ d - 1 by omega) (show 21 ≤ w - (19 + 7) by omega) hc1 _ _ _ _ _ _ Qc hq) h (fun m10 h => ?_)
  refine fT_ss 2 (pc' := 151) (L' := [none, some (.ref c1), none, none, some (.int x4), some (.int x5), some (.int x6), some (.int x7), some (.int x8), some (.int y0)]) (st' := [.int x8, .int y0]) rfl ?_
  refine fO_ic 158 rfl rfl h (fun h => ?_) (fun h => ?_)
  · refine fT_ss 1 (pc' := 159) (L' := [none, none, none, none, none, none, none, none, none, none]) (st' := [.int (nI 0)]) rfl ?_
    exact fT_r rfl rfl h
  · refine fT_ss 2 (pc' := 159) (L' := [none, none, none, none, none, none, none, none, none, none]) (st' := [.int (nI 1)]) rfl ?_
    exact fT_r rfl rfl h
noncomputable def g59_113 (c1 : Nat) (x4 : Int32) (x5 : Int32) (x6 : Int32) (x7 : Int32) (x8 : Int32) (m : fm) : Option (Int32 × fm) :=
  bif ai_c .ne x5 (nI 5) then
    g59_131 c1 x4 x5 x6 x7 x8 x8 m
  else
    ldI m 13 25 x8 fun v11 =>
    g59_131 c1 x4 x5 x6 x7 x8 v11 m
set_option maxHeartbeats 4000000 in
theorem t59_113 {X : ai_X} {d w : Nat} (hX : X[1]? = some (39, ai_sh)) (hd : 2 ≤ d) (hw : 47 ≤ w) {c1 : Nat} (hc1 : isC c1) (x4 : Int32) (x5 : Int32) (x6 : Int32) (x7 : Int32) (x8 : Int32) (m : fm) (Q : Option Value → fm → Prop) (h : ob (g59_113 c1 x4 x5 x6 x7 x8 m) (fun z : Int32 × fm => Q (some (.int z.1)) z.2)) : fT X d w ai_r59 113 [some (.ref 12), some (.ref c1), none, none, some (.int x4), some (.int x5), some (.int x6), some (.int x7), some (.int x8), none] [] m Q := by
  unfold g59_113 at h
  refine fT_ss 2 (pc' := 116) (L' := [some (.ref 12), some (.ref c1), none, none, some (.int x4), some (.int x5), some (.int x6), some (.int x7), some (.int x8), none]) (st' := [.int (nI 5), .int x5]) rfl ?_
  refine fO_ic 129 rfl rfl h (fun h => ?_) (fun h => ?_)
  · refine fT_ss 1 (pc' := 131) (L' := [none, some (.ref c1), none, none, some (.int x4), some (.int x5), some (.int x6), some (.int x7), some (.int x8), none]) (st' := [.int x8]) rfl ?_
    exact fT_mk rfl rfl (t59_131 hX hd hw hc1 _ _ _ _ _ _ _ Q h)
  · refine fT_ss 1 (pc' := 120) (L' := [some (.ref 12), some (.ref c1), none, none, some (.int x4), some (.int x5), some (.int x6), some (.int x7), some (.int x8), none]) (st' := [.ref 12]) rfl ?_
    refine fT_gr (q := 13) rfl rfl rfl ?_
    refine fT_ss 1 (pc' := 125) (L' := [some (.ref 12), some (.ref c1), none, none, some (.int x4), some (.int x5), some (.int x6), some (.int x7), some (.int x8), none]) (st' := [.int x8, .ref 13]) rfl ?_
    refine fO_ia rfl rfl rfl h (fun v11 h => ?_)
    refine fT_ss 1 (pc' := 131) (L' := [some (.ref 12), some (.ref c1), none, none, some (.int x4), some (.int x5), some (.int x6), some (.int x7), some (.int x8), none]) (st' := [.int v11]) rfl ?_
    exact fT_mk rfl rfl (t59_131 hX hd hw hc1 _ _ _ _ _ _ _ Q h)
noncomputable def g59 (c1 : Nat) (x2 : Int32) (x3 : Int32) (m : fm) : Option (Int32 × fm) :=
  ldI m 13 25 x2 fun v1 =>
  cl2 (g4 c1 x2 (nI 0) m) fun v3 m2 =>
  cl2 (g4 c1 x2 (nI 1) m2) fun v5 m4 =>
  cl2 (g4 c1 x2 (nI 2) m4) fun v7 m6 =>
  cl2 (g4 c1 x2 (nI 3) m6) fun v9 m8 =>
  bif ai_c .ne v3 (nI 6) then
    bif ai_c .ne v3 (nI 5) then
      g59_113 c1 v1 v3 v5 v7 v9 m8
    else
      bif ai_c .eq x3 0 then
        g59_113 c1 v1 v3 v5 v7 v9 m8
      else
        ldI m8 13 25 v9 fun v12 =>
        cl1 (g6 c1 v1 (nI 6) v12 (nI 0) (nI 0) m8) fun m13 =>
        some ((nI 1), m13)
  else
    ldI m8 13 25 v5 fun v14 =>
    cl1 (g6 c1 v1 (nI 6) v14 v7 v9 m8) fun m15 =>
    ldI m15 13 25 v5 fun v16 =>
    bif ai_c .eq v16 v5 then
      some ((nI 0), m15)
    else
      some ((nI 1), m15)
set_option maxHeartbeats 4000000 in
theorem t59_0 {X : ai_X} {d w : Nat} (hX : X[1]? = some (39, ai_sh)) (hd : 2 ≤ d) (hw : 47 ≤ w) {c1 : Nat} (hc1 : isC c1) (x2 : Int32) (x3 : Int32) (m : fm) (Q : Option Value → fm → Prop) (h : ob (g59 c1 x2 x3 m) (fun z : Int32 × fm => Q (some (.int z.1)) z.2)) : fT X d w ai_r59 0 [some (.ref 12), some (.ref c1), some (.int x2), some (.int x3), none, none, none, none, none, none] [] m Q := by
  unfold g59 at h
  refine fT_ss 1 (pc' := 1) (L' := [some (.ref 12), some (.ref c1), some (.int x2), some (.int x3), none, none, none, none, none, none]) (st' := [.ref 12]) rfl ?_
  refine fT_gr (q := 13) rfl rfl rfl ?_
  refine fT_ss 1 (pc' := 5) (L' := [some (.ref 12), some (.ref c1), some (.int x2), some (.int x3), none, none, none, none, none, none]) (st' := [.int x2, .ref 13]) rfl ?_
  refine fO_ia rfl rfl rfl h (fun v1 h => ?_)
  refine fT_ss 4 (pc' := 11) (L' := [some (.ref 12), some (.ref c1), some (.int x2), some (.int x3), some (.int v1), none, none, none, none, none]) (st' := [.int (nI 0), .int x2, .ref c1]) rfl ?_
  refine fO_qv2 Value.int (r' := ai_r4) (k := c1) (As := [.int x2, .int (nI 0)]) (rest := []) rfl rfl rfl rfl hc1.1 rfl (by omega) (show 19 + 3 ≤ w by omega) (Nat.le_of_ble_eq_true rfl) (Nat.le_of_ble_eq_true rfl) (all_c rfl (all_c (kl_c hc1.2.2.1) rfl)) rfl (fun Qc hq => t4_0 hX (show 0 ≤ d - 1 by omega) (show 0 ≤ w - (19 + 3) by omega) hc1 _ _ _ Qc hq) h (fun v3 m2 h => ?_)
  refine fT_ss 4 (pc' := 19) (L' := [some (.ref 12), some (.ref c1), some (.int x2), some (.int x3), some (.int v1), some (.int v3), none, none, none, none]) (st' := [.int (nI 1), .int x2, .ref c1]) rfl ?_
  refine fO_qv2 Value.int (r' := ai_r4) (k := c1) (As := [.int x2, .int (nI 1)]) (rest := []) rfl rfl rfl rfl hc1.1 rfl (by omega) (show 19 + 3 ≤ w by omega) (Nat.le_of_ble_eq_true rfl) (Nat.le_of_ble_eq_true rfl) (all_c rfl (all_c (kl_c hc1.2.2.1) rfl)) rfl (fun Qc hq => t4_0 hX (show 0 ≤ d - 1 by omega) (show 0 ≤ w - (19 + 3) by omega) hc1 _ _ _ Qc hq) h (fun v5 m4 h => ?_)
  refine fT_ss 4 (pc' := 27) (L' := [some (.ref 12), some (.ref c1), some (.int x2), some (.int x3), some (.int v1), some (.int v3), some (.int v5), none, none, none]) (st' := [.int (nI 2), .int x2, .ref c1]) rfl ?_
  refine fO_qv2 Value.int (r' := ai_r4) (k := c1) (As := [.int x2, .int (nI 2)]) (rest := []) rfl rfl rfl rfl hc1.1 rfl (by omega) (show 19 + 3 ≤ w by omega) (Nat.le_of_ble_eq_true rfl) (Nat.le_of_ble_eq_true rfl) (all_c rfl (all_c (kl_c hc1.2.2.1) rfl)) rfl (fun Qc hq => t4_0 hX (show 0 ≤ d - 1 by omega) (show 0 ≤ w - (19 + 3) by omega) hc1 _ _ _ Qc hq) h (fun v7 m6 h => ?_)
  refine fT_ss 4 (pc' := 35) (L' := [some (.ref 12), some (.ref c1), some (.int x2), some (.int x3), some (.int v1), some (.int v3), some (.int v5), some (.int v7), none, none]) (st' := [.int (nI 3), .int x2, .ref c1]) rfl ?_
  refine fO_qv2 Value.int (r' := ai_r4) (k := c1) (As := [.int x2, .int (nI 3)]) (rest := []) rfl rfl rfl rfl hc1.1 rfl (by omega) (show 19 + 3 ≤ w by omega) (Nat.le_of_ble_eq_true rfl) (Nat.le_of_ble_eq_true rfl) (all_c rfl (all_c (kl_c hc1.2.2.1) rfl)) rfl (fun Qc hq => t4_0 hX (show 0 ≤ d - 1 by omega) (show 0 ≤ w - (19 + 3) by omega) hc1 _ _ _ Qc hq) h (fun v9 m8 h => ?_)
  refine fT_ss 3 (pc' := 44) (L' := [some (.ref 12), some (.ref c1), some (.int x2), some (.int x3), some (.int v1), some (.int v3), some (.int v5), some (.int v7), some (.int v9), none]) (st' := [.int (nI 6), .int v3]) rfl ?_
  refine fO_ic 84 rfl rfl h (fun h => ?_) (fun h => ?_)
  · refine fT_ss 2 (pc' := 87) (L' := [some (.ref 12), some (.ref c1), none, some (.int x3), some (.int v1), some (.int v3), some (.int v5), some (.int v7), some (.int v9), none]) (st' := [.int (nI 5), .int v3]) rfl ?_
    refine fO_ic 113 rfl rfl h (fun h => ?_) (fun h => ?_)
    · exact fT_mk rfl rfl (t59_113 hX hd hw hc1 _ _ _ _ _ _ Q h)
    · refine fT_ss 1 (pc' := 91) (L' := [some (.ref 12), some (.ref c1), none, some (.int x3), some (.int v1), some (.int v3), some (.int v5), some (.int v7), some (.int v9), none]) (st' := [.int x3]) rfl ?_
      refine fO_if 113 rfl rfl h (fun h => ?_) (fun h => ?_)
      · exact fT_mk rfl rfl (t59_113 hX hd hw hc1 _ _ _ _ _ _ Q h)
      · refine fT_ss 4 (pc' := 100) (L' := [some (.ref 12), some (.ref c1), none, none, some (.int v1), none, none, none, some (.int v9), none]) (st' := [.ref 12, .int (nI 6), .int v1, .ref c1]) rfl ?_
        refine fT_gr (q := 13) rfl rfl rfl ?_
        refine fT_ss 1 (pc' := 105) (L' := [some (.ref 12), some (.ref c1), none, none, some (.int v1), none, none, none, some (.int v9), none]) (st' := [.int v9, .ref 13, .int (nI 6), .int v1, .ref c1]) rfl ?_
        refine fO_ia rfl rfl rfl h (fun v12 h => ?_)
        refine fT_ss 2 (pc' := 108) (L' := [some (.ref 12), some (.ref c1), none, none, some (.int v1), none, none, none, some (.int v9), none]) (st' := [.int (nI 0), .int (nI 0), .int v12, .int (nI 6), .int v1, .ref c1]) rfl ?_
        refine fO_qv1 (r' := ai_r6) (k := c1) (As := [.int v1, .int (nI 6), .int v12, .int (nI 0), .int (nI 0)]) (rest := []) rfl rfl rfl rfl hc1.1 rfl (by omega) (show 19 + 7 ≤ w by omega) (Nat.le_of_ble_eq_true rfl) (Nat.le_of_ble_eq_true rfl) (all_c rfl (all_c (kl_c hc1.2.2.1) rfl)) rfl (fun Qc hq => t6_0 hX (show 1 ≤ d - 1 by omega) (show 21 ≤ w - (19 + 7) by omega) hc1 _ _ _ _ _ _ Qc hq) h (fun m13 h => ?_)
        refine fT_ss 1 (pc' := 112) (L' := [some (.ref 12), some (.ref c1), none, none, some (.int v1), none, none, none, some (.int v9), none]) (st' := [.int (nI 1)]) rfl ?_
        exact fT_r rfl rfl h
  · refine fT_ss 4 (pc' := 53) (L' := [some (.ref 12), some (.ref c1), none, none, some (.int v1), none, some (.int v5), some (.int v7), some (.int v9), none]) (st' := [.ref 12, .int (nI 6), .int v1, .ref c1]) rfl ?_
    refine fT_gr (q := 13) rfl rfl rfl ?_
    refine fT_ss 1 (pc' := 58) (L' := [some (.ref 12), some (.ref c1), none, none, some (.int v1), none, some (.int v5), some (.int v7), some (.int v9), none]) (st' := [.int v5, .ref 13, .int (nI 6), .int v1, .ref c1]) rfl ?_
    refine fO_ia rfl rfl rfl h (fun v14 h => ?_)
    refine fT_ss 2 (pc' := 63) (L' := [some (.ref 12), some (.ref c1), none, none, some (.int v1), none, some (.int v5), some (.int v7), some (.int v9), none]) (st' := [.int v9, .int v7, .int v14, .int (nI 6), .int v1, .ref c1]) rfl ?_
    refine fO_qv1 (r' := ai_r6) (k := c1) (As := [.int v1, .int (nI 6), .int v14, .int v7, .int v9]) (rest := []) rfl rfl rfl rfl hc1.1 rfl (by omega) (show 19 + 7 ≤ w by omega) (Nat.le_of_ble_eq_true rfl) (Nat.le_of_ble_eq_true rfl) (all_c rfl (all_c (kl_c hc1.2.2.1) rfl)) rfl (fun Qc hq => t6_0 hX (show 1 ≤ d - 1 by omega) (show 21 ≤ w - (19 + 7) by omega) hc1 _ _ _ _ _ _ Qc hq) h (fun m15 h => ?_)
    refine fT_ss 1 (pc' := 67) (L' := [some (.ref 12), some (.ref c1), none, none, some (.int v1), none, some (.int v5), some (.int v7), some (.int v9), none]) (st' := [.ref 12]) rfl ?_
    refine fT_gr (q := 13) rfl rfl rfl ?_
    refine fT_ss 1 (pc' := 72) (L' := [some (.ref 12), some (.ref c1), none, none, some (.int v1), none, some (.int v5), some (.int v7), some (.int v9), none]) (st' := [.int v5, .ref 13]) rfl ?_
    refine fO_ia rfl rfl rfl h (fun v16 h => ?_)
    refine fT_ss 1 (pc' := 75) (L' := [some (.ref 12), some (.ref c1), none, none, some (.int v1), none, some (.int v5), some (.int v7), some (.int v9), none]) (st' := [.int v5, .int v16]) rfl ?_
    refine fO_ic 82 rfl rfl h (fun h => ?_) (fun h => ?_)
    · refine fT_ss 1 (pc' := 83) (L' := [none, none, none, none, none, none, none, none, none, none]) (st' := [.int (nI 0)]) rfl ?_
      exact fT_r rfl rfl h
    · refine fT_ss 2 (pc' := 83) (L' := [none, none, none, none, none, none, none, none, none, none]) (st' := [.int (nI 1)]) rfl ?_
      exact fT_r rfl rfl h
noncomputable def g58_57 (c1 : Nat) (x4 : Int32) (m : fm) : Option ((Int32 × Int32 × fm) ⊕ (Int32 × fm)) :=
  some (.inl ((nI 1), (x4 + (nI 1)), m))
set_option maxHeartbeats 4000000 in
theorem t58_57 {X : ai_X} {d w : Nat} (hX : X[1]? = some (39, ai_sh)) (hd : 3 ≤ d) (hw : 76 ≤ w) {c1 : Nat} (hc1 : isC c1) (x4 : Int32) (m : fm) (Q : Option Value → fm → Prop) (h : ob (g58_57 c1 x4 m) (Sum.elim (fun s : Int32 × Int32 × fm => fT X d w ai_r58 5 [some (.ref 12), some (.ref c1), some (.ref 4), some (.int s.1), some (.int s.2.1), none] [] s.2.2 Q) (fun z : Int32 × fm => Q (some (.int z.1)) z.2))) : fT X d w ai_r58 57 [some (.ref 12), some (.ref c1), some (.ref 4), none, some (.int x4), none] [] m Q := by
  unfold g58_57 at h
  refine fT_ss 5 (pc' := 5) (L' := [some (.ref 12), some (.ref c1), some (.ref 4), some (.int (nI 1)), some (.int (x4 + (nI 1))), none]) (st' := []) rfl ?_
  replace h := ob_inl h
  exact fT_mk rfl rfl h
noncomputable def g58_47 (c1 : Nat) (x3 : Int32) (x4 : Int32) (y0 : Int32) (y1 : Int32) (cy2 : Nat) (m : fm) : Option ((Int32 × Int32 × fm) ⊕ (Int32 × fm)) :=
  cl2 (g59 cy2 y1 y0 m) fun v11 m10 =>
  bif ai_c .ne v11 0 then
    g58_57 c1 x4 m10
  else
    bif ai_c .eq x3 0 then
      some (.inl ((nI 0), (x4 + (nI 1)), m10))
    else
      g58_57 c1 x4 m10
set_option maxHeartbeats 4000000 in
theorem t58_47 {X : ai_X} {d w : Nat} (hX : X[1]? = some (39, ai_sh)) (hd : 3 ≤ d) (hw : 76 ≤ w) {c1 : Nat} (hc1 : isC c1) (x3 : Int32) (x4 : Int32) (y0 : Int32) (y1 : Int32) {cy2 : Nat} (hcy2 : isC cy2) (m : fm) (Q : Option Value → fm → Prop) (h : ob (g58_47 c1 x3 x4 y0 y1 cy2 m) (Sum.elim (fun s : Int32 × Int32 × fm => fT X d w ai_r58 5 [some (.ref 12), some (.ref c1), some (.ref 4), some (.int s.1), some (.int s.2.1), none] [] s.2.2 Q) (fun z : Int32 × fm => Q (some (.int z.1)) z.2))) : fT X d w ai_r58 47 [some (.ref 12), some (.ref c1), some (.ref 4), some (.int x3), some (.int x4), none] [.int y0, .int y1, .ref cy2, .ref 12] m Q := by
  unfold g58_47 at h
  refine fO_qv2 Value.int (r' := ai_r59) (k := 12) (As := [.ref cy2, .int y1, .int y0]) (rest := []) rfl rfl rfl rfl rfl rfl (by omega) (show 19 + 10 ≤ w by omega) (Nat.le_of_ble_eq_true rfl) (Nat.le_of_ble_eq_true rfl) (all_c rfl (all_c (kl_c hc1.2.2.1) rfl)) rfl (fun Qc hq => t59_0 hX (show 2 ≤ d - 1 by omega) (show 47 ≤ w - (19 + 10) by omega) hcy2 _ _ _ Qc hq) h (fun v11 m10 h => ?_)
  refine fO_if 57 rfl rfl h (fun h => ?_) (fun h => ?_)
  · exact fT_mk rfl rfl (t58_57 hX hd hw hc1 _ _ Q h)
  · refine fT_ss 1 (pc' := 54) (L' := [some (.ref 12), some (.ref c1), some (.ref 4), some (.int x3), some (.int x4), none]) (st' := [.int x3]) rfl ?_
    refine fO_if 61 rfl rfl h (fun h => ?_) (fun h => ?_)
    · refine fT_ss 4 (pc' := 5) (L' := [some (.ref 12), some (.ref c1), some (.ref 4), some (.int (nI 0)), some (.int (x4 + (nI 1))), none]) (st' := []) rfl ?_
      replace h := ob_inl h
      exact fT_mk rfl rfl h
    · exact fT_mk rfl rfl (t58_57 hX hd hw hc1 _ _ Q h)
noncomputable def s58_5 (c1 : Nat) (x3 : Int32) (x4 : Int32) (m : fm) : Option ((Int32 × Int32 × fm) ⊕ (Int32 × fm)) :=
  cl2 (g1 c1 m) fun v2 m1 =>
  bif ai_c .ge x4 v2 then
    ldI m1 13 25 (nI 24) fun v3 =>
    cl2 (g8 c1 v3 m1) fun v5 m4 =>
    bif ai_c .ne v5 v3 then
      some (.inr ((nI 1), m4))
    else
      bif ai_c .eq x3 0 then
        some (.inr ((nI 0), m4))
      else
        some (.inr ((nI 1), m4))
  else
    cl2 (g19 c1 x4 m1) fun v7 m6 =>
    cl2 (g57 v7 m6) fun v9 m8 =>
    bif ai_c .eq v9 0 then
      some (.inl (x3, (x4 + (nI 1)), m8))
    else
      bif ai_c .eq (v7 &&& (nI 2)) 0 then
        g58_47 c1 x3 x4 (nI 0) x4 c1 m8
      else
        g58_47 c1 x3 x4 (nI 1) x4 c1 m8
set_option maxHeartbeats 4000000 in
theorem b58_5 {X : ai_X} {d w : Nat} (hX : X[1]? = some (39, ai_sh)) (hd : 3 ≤ d) (hw : 76 ≤ w) {c1 : Nat} (hc1 : isC c1) (x3 : Int32) (x4 : Int32) (m : fm) (Q : Option Value → fm → Prop) (h : ob (s58_5 c1 x3 x4 m) (Sum.elim (fun s : Int32 × Int32 × fm => fT X d w ai_r58 5 [some (.ref 12), some (.ref c1), some (.ref 4), some (.int s.1), some (.int s.2.1), none] [] s.2.2 Q) (fun z : Int32 × fm => Q (some (.int z.1)) z.2))) : fT X d w ai_r58 5 [some (.ref 12), some (.ref c1), some (.ref 4), some (.int x3), some (.int x4), none] [] m Q := by
  unfold s58_5 at h
  refine fT_ss 2 (pc' := 8) (L' := [some (.ref 12), some (.ref c1), some (.ref 4), some (.int x3), some (.int x4), none]) (st' := [.ref c1, .int x4]) rfl ?_
  refine fO_qv2 Value.int (r' := ai_r1) (k := c1) (As := []) (rest := [.int x4]) rfl rfl rfl rfl hc1.1 rfl (by omega) (show 19 + 1 ≤ w by omega) (Nat.le_of_ble_eq_true rfl) (Nat.le_of_ble_eq_true rfl) (all_c rfl (all_c (kl_c hc1.2.2.1) rfl)) rfl (fun Qc hq => t1_0 hX (show 0 ≤ d - 1 by omega) (show 0 ≤ w - (19 + 1) by omega) hc1 _ Qc hq) h (fun v2 m1 h => ?_)
  refine fO_ic 69 rfl rfl h (fun h => ?_) (fun h => ?_)
  · refine fT_ss 1 (pc' := 70) (L' := [some (.ref 12), some (.ref c1), none, some (.int x3), none, none]) (st' := [.ref 12]) rfl ?_
    refine fT_gr (q := 13) rfl rfl rfl ?_
    refine fT_ss 1 (pc' := 75) (L' := [some (.ref 12), some (.ref c1), none, some (.int x3), none, none]) (st' := [.int (nI 24), .ref 13]) rfl ?_
    refine fO_ia rfl rfl rfl h (fun v3 h => ?_)
    refine fT_ss 3 (pc' := 81) (L' := [some (.ref 12), some (.ref c1), none, some (.int x3), some (.int v3), none]) (st' := [.int v3, .ref c1]) rfl ?_
    refine fO_qv2 Value.int (r' := ai_r8) (k := c1) (As := [.int v3]) (rest := []) rfl rfl rfl rfl hc1.1 rfl (by omega) (show 19 + 3 ≤ w by omega) (Nat.le_of_ble_eq_true rfl) (Nat.le_of_ble_eq_true rfl) (all_c rfl (all_c (kl_c hc1.2.2.1) rfl)) rfl (fun Qc hq => t8_0 hX (show 0 ≤ d - 1 by omega) (show 0 ≤ w - (19 + 3) by omega) hc1 _ _ Qc hq) h (fun v5 m4 h => ?_)
    refine fT_ss 1 (pc' := 86) (L' := [some (.ref 12), some (.ref c1), none, some (.int x3), some (.int v3), none]) (st' := [.int v3, .int v5]) rfl ?_
    refine fO_ic 93 rfl rfl h (fun h => ?_) (fun h => ?_)
    · refine fT_ss 2 (pc' := 98) (L' := [none, none, none, none, none, none]) (st' := [.int (nI 1)]) rfl ?_
      exact fT_r rfl rfl h
    · refine fT_ss 1 (pc' := 90) (L' := [none, none, none, some (.int x3), none, none]) (st' := [.int x3]) rfl ?_
      refine fO_if 97 rfl rfl h (fun h => ?_) (fun h => ?_)
      · refine fT_ss 1 (pc' := 98) (L' := [none, none, none, none, none, none]) (st' := [.int (nI 0)]) rfl ?_
        exact fT_r rfl rfl h
      · refine fT_ss 2 (pc' := 98) (L' := [none, none, none, none, none, none]) (st' := [.int (nI 1)]) rfl ?_
        exact fT_r rfl rfl h
  · refine fT_ss 3 (pc' := 18) (L' := [some (.ref 12), some (.ref c1), some (.ref 4), some (.int x3), some (.int x4), none]) (st' := [.int x4, .ref c1, .ref 4]) rfl ?_
    refine fO_qv2 Value.int (r' := ai_r19) (k := 4) (As := [.ref c1, .int x4]) (rest := []) rfl rfl rfl rfl rfl rfl (by omega) (show 19 + 3 ≤ w by omega) (Nat.le_of_ble_eq_true rfl) (Nat.le_of_ble_eq_true rfl) (all_c rfl (all_c (kl_c hc1.2.2.1) rfl)) rfl (fun Qc hq => t19_0 hX (show 2 ≤ d - 1 by omega) (show 49 ≤ w - (19 + 3) by omega) hc1 _ _ Qc hq) h (fun v7 m6 h => ?_)
    refine fT_ss 2 (pc' := 25) (L' := [some (.ref 12), some (.ref c1), some (.ref 4), some (.int x3), some (.int x4), some (.int v7)]) (st' := [.int v7]) rfl ?_
    refine fO_qs2 Value.int (r' := ai_r57) (As := [.int v7]) (rest := []) rfl rfl rfl rfl rfl rfl (by omega) (show 19 + 1 ≤ w by omega) (Nat.le_of_ble_eq_true rfl) (Nat.le_of_ble_eq_true rfl) (all_c rfl (all_c (kl_c hc1.2.2.1) rfl)) rfl (fun Qc hq => t57_0 hX (show 0 ≤ d - 1 by omega) (show 0 ≤ w - (19 + 1) by omega) _ _ Qc hq) h (fun v9 m8 h => ?_)
    refine fO_if 63 rfl rfl h (fun h => ?_) (fun h => ?_)
    · refine fT_ss 2 (pc' := 5) (L' := [some (.ref 12), some (.ref c1), some (.ref 4), some (.int x3), some (.int (x4 + (nI 1))), none]) (st' := []) rfl ?_
      replace h := ob_inl h
      exact fT_mk rfl rfl h
    · refine fT_ss 6 (pc' := 39) (L' := [some (.ref 12), some (.ref c1), some (.ref 4), some (.int x3), some (.int x4), some (.int v7)]) (st' := [.int (v7 &&& (nI 2)), .int x4, .ref c1, .ref 12]) rfl ?_
      refine fO_if 46 rfl rfl h (fun h => ?_) (fun h => ?_)
      · refine fT_ss 1 (pc' := 47) (L' := [some (.ref 12), some (.ref c1), some (.ref 4), some (.int x3), some (.int x4), none]) (st' := [.int (nI 0), .int x4, .ref c1, .ref 12]) rfl ?_
        exact fT_mk rfl rfl (t58_47 hX hd hw hc1 _ _ _ _ hc1 _ Q h)
      · refine fT_ss 2 (pc' := 47) (L' := [some (.ref 12), some (.ref c1), some (.ref 4), some (.int x3), some (.int x4), none]) (st' := [.int (nI 1), .int x4, .ref c1, .ref 12]) rfl ?_
        exact fT_mk rfl rfl (t58_47 hX hd hw hc1 _ _ _ _ hc1 _ Q h)
noncomputable def g58_5 (c1 : Nat) (x3 : Int32) (x4 : Int32) (m : fm) : Option (Int32 × fm) := wl (fun s : Int32 × Int32 × fm => s58_5 c1 s.1 s.2.1 s.2.2) lf (x3, x4, m)
theorem t58_5 {X : ai_X} {d w : Nat} (hX : X[1]? = some (39, ai_sh)) (hd : 3 ≤ d) (hw : 76 ≤ w) {c1 : Nat} (hc1 : isC c1) (x3 : Int32) (x4 : Int32) (m : fm) (Q : Option Value → fm → Prop) (h : ob (g58_5 c1 x3 x4 m) (fun z : Int32 × fm => Q (some (.int z.1)) z.2)) : fT X d w ai_r58 5 [some (.ref 12), some (.ref c1), some (.ref 4), some (.int x3), some (.int x4), none] [] m Q :=
  wl_ob (P := fun s : Int32 × Int32 × fm => fT X d w ai_r58 5 [some (.ref 12), some (.ref c1), some (.ref 4), some (.int s.1), some (.int s.2.1), none] [] s.2.2 Q) (fun s h => b58_5 hX hd hw hc1 s.1 s.2.1 s.2.2 Q h) lf (x3, x4, m) h
noncomputable def g58 (c1 : Nat) (m : fm) : Option (Int32 × fm) :=
  g58_5 c1 (nI 0) (nI 0) m
set_option maxHeartbeats 4000000 in
theorem t58_0 {X : ai_X} {d w : Nat} (hX : X[1]? = some (39, ai_sh)) (hd : 3 ≤ d) (hw : 76 ≤ w) {c1 : Nat} (hc1 : isC c1) (m : fm) (Q : Option Value → fm → Prop) (h : ob (g58 c1 m) (fun z : Int32 × fm => Q (some (.int z.1)) z.2)) : fT X d w ai_r58 0 [some (.ref 12), some (.ref c1), some (.ref 4), none, none, none] [] m Q := by
  unfold g58 at h
  refine fT_ss 4 (pc' := 5) (L' := [some (.ref 12), some (.ref c1), some (.ref 4), some (.int (nI 0)), some (.int (nI 0)), none]) (st' := []) rfl ?_
  exact fT_mk rfl rfl (t58_5 hX hd hw hc1 _ _ _ Q h)
noncomputable def s55_5 (c1 : Nat) (x3 : Int32) (x4 : Int32) (m : fm) : Option ((Int32 × Int32 × fm) ⊕ (fm)) :=
  bif ai_c .eq x3 0 then
    some (.inr m)
  else
    bif ai_c .ge x4 (nI 96) then
      some (.inr m)
    else
      cl1 (g25 c1 m) fun m1 =>
      cl1 (g32 c1 m1) fun m2 =>
      cl1 (g56 c1 m2) fun m3 =>
      cl2 (g58 c1 m3) fun v5 m4 =>
      some (.inl (v5, (x4 + (nI 1)), m4))
set_option maxHeartbeats 4000000 in
theorem b55_5 {X : ai_X} {d w : Nat} (hX : X[1]? = some (39, ai_sh)) (hd : 5 ≤ d) (hw : 119 ≤ w) {c1 : Nat} (hc1 : isC c1) (x3 : Int32) (x4 : Int32) (m : fm) (Q : Option Value → fm → Prop) (h : ob (s55_5 c1 x3 x4 m) (Sum.elim (fun s : Int32 × Int32 × fm => fT X d w ai_r55 5 [some (.ref 12), some (.ref c1), some (.ref 4), some (.int s.1), some (.int s.2.1)] [] s.2.2 Q) (fun z : fm => Q none z))) : fT X d w ai_r55 5 [some (.ref 12), some (.ref c1), some (.ref 4), some (.int x3), some (.int x4)] [] m Q := by
  unfold s55_5 at h
  refine fT_ss 1 (pc' := 6) (L' := [some (.ref 12), some (.ref c1), some (.ref 4), some (.int x3), some (.int x4)]) (st' := [.int x3]) rfl ?_
  refine fO_if 45 rfl rfl h (fun h => ?_) (fun h => ?_)
  · exact fT_r rfl rfl h
  · refine fT_ss 2 (pc' := 13) (L' := [some (.ref 12), some (.ref c1), some (.ref 4), none, some (.int x4)]) (st' := [.int (nI 96), .int x4]) rfl ?_
    refine fO_ic 45 rfl rfl h (fun h => ?_) (fun h => ?_)
    · exact fT_r rfl rfl h
    · refine fT_ss 2 (pc' := 18) (L' := [some (.ref 12), some (.ref c1), some (.ref 4), none, some (.int x4)]) (st' := [.ref c1, .ref 4]) rfl ?_
      refine fO_qv1 (r' := ai_r25) (k := 4) (As := [.ref c1]) (rest := []) rfl rfl rfl rfl rfl rfl (by omega) (show 19 + 5 ≤ w by omega) (Nat.le_of_ble_eq_true rfl) (Nat.le_of_ble_eq_true rfl) (all_c rfl (all_c (kl_c hc1.2.2.1) rfl)) rfl (fun Qc hq => t25_0 hX (show 4 ≤ d - 1 by omega) (show 94 ≤ w - (19 + 5) by omega) hc1 _ Qc hq) h (fun m1 h => ?_)
      refine fT_ss 2 (pc' := 23) (L' := [some (.ref 12), some (.ref c1), some (.ref 4), none, some (.int x4)]) (st' := [.ref c1, .ref 4]) rfl ?_
      refine fO_qv1 (r' := ai_r32) (k := 4) (As := [.ref c1]) (rest := []) rfl rfl rfl rfl rfl rfl (by omega) (show 19 + 6 ≤ w by omega) (Nat.le_of_ble_eq_true rfl) (Nat.le_of_ble_eq_true rfl) (all_c rfl (all_c (kl_c hc1.2.2.1) rfl)) rfl (fun Qc hq => t32_0 hX (show 4 ≤ d - 1 by omega) (show 94 ≤ w - (19 + 6) by omega) hc1 _ Qc hq) h (fun m2 h => ?_)
      refine fT_ss 3 (pc' := 29) (L' := [some (.ref 12), some (.ref c1), some (.ref 4), none, some (.int x4)]) (st' := [.ref 4, .ref c1, .ref 12]) rfl ?_
      refine fO_qv1 (r' := ai_r56) (k := 12) (As := [.ref c1, .ref 4]) (rest := []) rfl rfl rfl rfl rfl rfl (by omega) (show 19 + 5 ≤ w by omega) (Nat.le_of_ble_eq_true rfl) (Nat.le_of_ble_eq_true rfl) (all_c rfl (all_c (kl_c hc1.2.2.1) rfl)) rfl (fun Qc hq => t56_0 hX (show 3 ≤ d - 1 by omega) (show 71 ≤ w - (19 + 5) by omega) hc1 _ Qc hq) h (fun m3 h => ?_)
      refine fT_ss 3 (pc' := 35) (L' := [some (.ref 12), some (.ref c1), some (.ref 4), none, some (.int x4)]) (st' := [.ref 4, .ref c1, .ref 12]) rfl ?_
      refine fO_qv2 Value.int (r' := ai_r58) (k := 12) (As := [.ref c1, .ref 4]) (rest := []) rfl rfl rfl rfl rfl rfl (by omega) (show 19 + 6 ≤ w by omega) (Nat.le_of_ble_eq_true rfl) (Nat.le_of_ble_eq_true rfl) (all_c rfl (all_c (kl_c hc1.2.2.1) rfl)) rfl (fun Qc hq => t58_0 hX (show 3 ≤ d - 1 by omega) (show 76 ≤ w - (19 + 6) by omega) hc1 _ Qc hq) h (fun v5 m4 h => ?_)
      refine fT_ss 3 (pc' := 5) (L' := [some (.ref 12), some (.ref c1), some (.ref 4), some (.int v5), some (.int (x4 + (nI 1)))]) (st' := []) rfl ?_
      replace h := ob_inl h
      exact fT_mk rfl rfl h
noncomputable def g55_5 (c1 : Nat) (x3 : Int32) (x4 : Int32) (m : fm) : Option (fm) := wl (fun s : Int32 × Int32 × fm => s55_5 c1 s.1 s.2.1 s.2.2) lf (x3, x4, m)
theorem t55_5 {X : ai_X} {d w : Nat} (hX : X[1]? = some (39, ai_sh)) (hd : 5 ≤ d) (hw : 119 ≤ w) {c1 : Nat} (hc1 : isC c1) (x3 : Int32) (x4 : Int32) (m : fm) (Q : Option Value → fm → Prop) (h : ob (g55_5 c1 x3 x4 m) (fun z : fm => Q none z)) : fT X d w ai_r55 5 [some (.ref 12), some (.ref c1), some (.ref 4), some (.int x3), some (.int x4)] [] m Q :=
  wl_ob (P := fun s : Int32 × Int32 × fm => fT X d w ai_r55 5 [some (.ref 12), some (.ref c1), some (.ref 4), some (.int s.1), some (.int s.2.1)] [] s.2.2 Q) (fun s h => b55_5 hX hd hw hc1 s.1 s.2.1 s.2.2 Q h) lf (x3, x4, m) h
noncomputable def g55 (c1 : Nat) (m : fm) : Option (fm) :=
  g55_5 c1 (nI 1) (nI 0) m
set_option maxHeartbeats 4000000 in
theorem t55_0 {X : ai_X} {d w : Nat} (hX : X[1]? = some (39, ai_sh)) (hd : 5 ≤ d) (hw : 119 ≤ w) {c1 : Nat} (hc1 : isC c1) (m : fm) (Q : Option Value → fm → Prop) (h : ob (g55 c1 m) (fun z : fm => Q none z)) : fT X d w ai_r55 0 [some (.ref 12), some (.ref c1), some (.ref 4), none, none] [] m Q := by
  unfold g55 at h
  refine fT_ss 4 (pc' := 5) (L' := [some (.ref 12), some (.ref c1), some (.ref 4), some (.int (nI 1)), some (.int (nI 0))]) (st' := []) rfl ?_
  exact fT_mk rfl rfl (t55_5 hX hd hw hc1 _ _ _ Q h)
