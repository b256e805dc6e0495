noncomputable def g1 (c0 : Nat) (m : fm) : Option (Int32 × fm) :=
  gfI m c0 1 fun v1 =>
  some (v1, m)
set_option maxHeartbeats 4000000 in
theorem t1_0 {X : ai_X} {d w : Nat} (hX : X[1]? = some (39, ai_sh)) (hd : 0 ≤ d) (hw : 0 ≤ w) {c0 : Nat} (hc0 : isC c0) (m : fm) (Q : Option Value → fm → Prop) (h : ob (g1 c0 m) (fun z : Int32 × fm => Q (some (.int z.1)) z.2)) : fT X d w ai_r1 0 [some (.ref c0)] [] m Q := by
  unfold g1 at h
  refine fT_ss 1 (pc' := 1) (L' := [some (.ref c0)]) (st' := [.ref c0]) rfl ?_
  refine fO_gi rfl hc0.1 rfl h (fun v1 h => ?_)
  exact fT_r rfl rfl h
noncomputable def g2 (c0 : Nat) (x1 : Int32) (m : fm) : Option (Int32 × fm) :=
  bif ai_c .lt x1 0 then
    some ((nI 0), m)
  else
    gfI m c0 1 fun v1 =>
    bif ai_c .ge x1 v1 then
      some ((nI 0), m)
    else
      some ((nI 1), m)
set_option maxHeartbeats 4000000 in
theorem t2_0 {X : ai_X} {d w : Nat} (hX : X[1]? = some (39, ai_sh)) (hd : 0 ≤ d) (hw : 0 ≤ w) {c0 : Nat} (hc0 : isC c0) (x1 : Int32) (m : fm) (Q : Option Value → fm → Prop) (h : ob (g2 c0 x1 m) (fun z : Int32 × fm => Q (some (.int z.1)) z.2)) : fT X d w ai_r2 0 [some (.ref c0), some (.int x1)] [] m Q := by
  unfold g2 at h
  refine fT_ss 1 (pc' := 1) (L' := [some (.ref c0), some (.int x1)]) (st' := [.int x1]) rfl ?_
  refine fO_if 16 rfl rfl h (fun h => ?_) (fun h => ?_)
  · refine fT_ss 1 (pc' := 17) (L' := [none, none]) (st' := [.int (nI 0)]) rfl ?_
    exact fT_r rfl rfl h
  · refine fT_ss 2 (pc' := 6) (L' := [some (.ref c0), some (.int x1)]) (st' := [.ref c0, .int x1]) rfl ?_
    refine fO_gi rfl hc0.1 rfl h (fun v1 h => ?_)
    refine fO_ic 16 rfl rfl h (fun h => ?_) (fun h => ?_)
    · refine fT_ss 1 (pc' := 17) (L' := [none, none]) (st' := [.int (nI 0)]) rfl ?_
      exact fT_r rfl rfl h
    · refine fT_ss 2 (pc' := 17) (L' := [none, none]) (st' := [.int (nI 1)]) rfl ?_
      exact fT_r rfl rfl h
noncomputable def g3 (c0 : Nat) (m : fm) : Option (Int32 × fm) :=
  gfI m c0 1 fun v1 =>
  bif ai_c .lt v1 (nI 24) then
    some ((nI 0), m)
  else
    some ((nI 1), m)
set_option maxHeartbeats 4000000 in
theorem t3_0 {X : ai_X} {d w : Nat} (hX : X[1]? = some (39, ai_sh)) (hd : 0 ≤ d) (hw : 0 ≤ w) {c0 : Nat} (hc0 : isC c0) (m : fm) (Q : Option Value → fm → Prop) (h : ob (g3 c0 m) (fun z : Int32 × fm => Q (some (.int z.1)) z.2)) : fT X d w ai_r3 0 [some (.ref c0)] [] m Q := by
  unfold g3 at h
  refine fT_ss 1 (pc' := 1) (L' := [some (.ref c0)]) (st' := [.ref c0]) rfl ?_
  refine fO_gi rfl hc0.1 rfl h (fun v1 h => ?_)
  refine fT_ss 1 (pc' := 6) (L' := [some (.ref c0)]) (st' := [.int (nI 24), .int v1]) rfl ?_
  refine fO_ic 13 rfl rfl h (fun h => ?_) (fun h => ?_)
  · refine fT_ss 1 (pc' := 14) (L' := [none]) (st' := [.int (nI 0)]) rfl ?_
    exact fT_r rfl rfl h
  · refine fT_ss 2 (pc' := 14) (L' := [none]) (st' := [.int (nI 1)]) rfl ?_
    exact fT_r rfl rfl h
noncomputable def g4 (c0 : Nat) (x1 : Int32) (x2 : Int32) (m : fm) : Option (Int32 × fm) :=
  ldI m (c0 + 1) 96 ((x1 * (nI 4)) + x2) fun v1 =>
  some (v1, m)
set_option maxHeartbeats 4000000 in
theorem t4_0 {X : ai_X} {d w : Nat} (hX : X[1]? = some (39, ai_sh)) (hd : 0 ≤ d) (hw : 0 ≤ w) {c0 : Nat} (hc0 : isC c0) (x1 : Int32) (x2 : Int32) (m : fm) (Q : Option Value → fm → Prop) (h : ob (g4 c0 x1 x2 m) (fun z : Int32 × fm => Q (some (.int z.1)) z.2)) : fT X d w ai_r4 0 [some (.ref c0), some (.int x1), some (.int x2)] [] m Q := by
  unfold g4 at h
  refine fT_ss 1 (pc' := 1) (L' := [some (.ref c0), some (.int x1), some (.int x2)]) (st' := [.ref c0]) rfl ?_
  refine fT_gr rfl hc0.1 rfl ?_
  refine fT_ss 5 (pc' := 9) (L' := [some (.ref c0), some (.int x1), some (.int x2)]) (st' := [.int ((x1 * (nI 4)) + x2), .ref (c0 + 1)]) rfl ?_
  refine fO_ia rfl hc0.2.1 hc0.2.2.2.2 h (fun v1 h => ?_)
  exact fT_r rfl rfl h
noncomputable def g90 (x0 : Int32) (x1 : Int32) (m : fm) : Option (Int32 × fm) :=
  ldS (((x0 * (nI 3)) + x1) - (nI 1)) fun v1 =>
  some (v1, m)
set_option maxHeartbeats 4000000 in
theorem t90_0 {X : ai_X} {d w : Nat} (hX : X[1]? = some (39, ai_sh)) (hd : 0 ≤ d) (hw : 0 ≤ w) (x0 : Int32) (x1 : Int32) (m : fm) (Q : Option Value → fm → Prop) (h : ob (g90 x0 x1 m) (fun z : Int32 × fm => Q (some (.int z.1)) z.2)) : fT X d w ai_r90 0 [some (.int x0), some (.int x1)] [] m Q := by
  unfold g90 at h
  refine fT_gs rfl ?_
  refine fT_ss 7 (pc' := 10) (L' := [some (.int x0), some (.int x1)]) (st' := [.int (((x0 * (nI 3)) + x1) - (nI 1)), .ref (ai_B + 1)]) rfl ?_
  refine fO_sh hX rfl h (fun v1 h => ?_)
  exact fT_r rfl rfl h
noncomputable def g6_59 (c0 : Nat) (x2 : Int32) (x5 : Int32) (x6 : Int32) (y0 : Int32) (y1 : Int32) (cy2 : Nat) (m : fm) : Option (fm) :=
  stI m (cy2 + 1) 96 y1 y0 fun m7 =>
  cl2 (g90 x2 (nI 3) m7) fun v9 m8 =>
  bif ai_c .ne v9 0 then
    stI m8 (c0 + 1) 96 (x6 + (nI 3)) x5 fun m10 =>
    some m10
  else
    stI m8 (c0 + 1) 96 (x6 + (nI 3)) (nI 0) fun m11 =>
    some m11
set_option maxHeartbeats 4000000 in
theorem t6_59 {X : ai_X} {d w : Nat} (hX : X[1]? = some (39, ai_sh)) (hd : 1 ≤ d) (hw : 21 ≤ w) {c0 : Nat} (hc0 : isC c0) (x2 : Int32) (x5 : Int32) (x6 : Int32) (y0 : Int32) (y1 : Int32) {cy2 : Nat} (hcy2 : isC cy2) (m : fm) (Q : Option Value → fm → Prop) (h : ob (g6_59 c0 x2 x5 x6 y0 y1 cy2 m) (fun z : fm => Q none z)) : fT X d w ai_r6 59 [some (.ref c0), none, some (.int x2), none, none, some (.int x5), some (.int x6)] [.int y0, .int y1, .ref (cy2 + 1)] m Q := by
  unfold g6_59 at h
  refine fO_is rfl hcy2.2.1 h (fun m7 h => ?_)
  refine fT_ss 1 (pc' := 61) (L' := [some (.ref c0), none, some (.int x2), none, none, some (.int x5), some (.int x6)]) (st' := [.ref c0]) rfl ?_
  refine fT_gr rfl hc0.1 rfl ?_
  refine fT_ss 5 (pc' := 70) (L' := [some (.ref c0), none, some (.int x2), none, none, some (.int x5), some (.int x6)]) (st' := [.int (nI 3), .int x2, .int (x6 + (nI 3)), .ref (c0 + 1)]) rfl ?_
  refine fO_qs2 Value.int (r' := ai_r90) (As := [.int x2, .int (nI 3)]) (rest := [.int (x6 + (nI 3)), .ref (c0 + 1)]) rfl rfl rfl rfl rfl rfl (by omega) (show 19 + 2 ≤ w by omega) (Nat.le_of_ble_eq_true rfl) (Nat.le_of_ble_eq_true rfl) (all_c (kl_c hc0.2.2.1) rfl) (all_c rfl (all_c (k_c hc0.2.2.2.1) rfl)) (fun Qc hq => t90_0 hX (show 0 ≤ d - 1 by omega) (show 0 ≤ w - (19 + 2) by omega) _ _ _ Qc hq) h (fun v9 m8 h => ?_)
  refine fO_if 80 rfl rfl h (fun h => ?_) (fun h => ?_)
  · refine fT_ss 1 (pc' := 82) (L' := [none, none, none, none, none, some (.int x5), none]) (st' := [.int x5, .int (x6 + (nI 3)), .ref (c0 + 1)]) rfl ?_
    refine fO_is rfl hc0.2.1 h (fun m10 h => ?_)
    exact fT_r rfl rfl h
  · refine fT_ss 2 (pc' := 82) (L' := [none, none, none, none, none, none, none]) (st' := [.int (nI 0), .int (x6 + (nI 3)), .ref (c0 + 1)]) rfl ?_
    refine fO_is rfl hc0.2.1 h (fun m11 h => ?_)
    exact fT_r rfl rfl h
noncomputable def g6_36 (c0 : Nat) (x2 : Int32) (x4 : Int32) (x5 : Int32) (x6 : Int32) (y0 : Int32) (y1 : Int32) (cy2 : Nat) (m : fm) : Option (fm) :=
  stI m (cy2 + 1) 96 y1 y0 fun m4 =>
  cl2 (g90 x2 (nI 2) m4) fun v6 m5 =>
  bif ai_c .ne v6 0 then
    g6_59 c0 x2 x5 x6 x4 (x6 + (nI 2)) c0 m5
  else
    g6_59 c0 x2 x5 x6 (nI 0) (x6 + (nI 2)) c0 m5
set_option maxHeartbeats 4000000 in
theorem t6_36 {X : ai_X} {d w : Nat} (hX : X[1]? = some (39, ai_sh)) (hd : 1 ≤ d) (hw : 21 ≤ w) {c0 : Nat} (hc0 : isC c0) (x2 : Int32) (x4 : Int32) (x5 : Int32) (x6 : Int32) (y0 : Int32) (y1 : Int32) {cy2 : Nat} (hcy2 : isC cy2) (m : fm) (Q : Option Value → fm → Prop) (h : ob (g6_36 c0 x2 x4 x5 x6 y0 y1 cy2 m) (fun z : fm => Q none z)) : fT X d w ai_r6 36 [some (.ref c0), none, some (.int x2), none, some (.int x4), some (.int x5), some (.int x6)] [.int y0, .int y1, .ref (cy2 + 1)] m Q := by
  unfold g6_36 at h
  refine fO_is rfl hcy2.2.1 h (fun m4 h => ?_)
  refine fT_ss 1 (pc' := 38) (L' := [some (.ref c0), none, some (.int x2), none, some (.int x4), some (.int x5), some (.int x6)]) (st' := [.ref c0]) rfl ?_
  refine fT_gr rfl hc0.1 rfl ?_
  refine fT_ss 5 (pc' := 47) (L' := [some (.ref c0), none, some (.int x2), none, some (.int x4), some (.int x5), some (.int x6)]) (st' := [.int (nI 2), .int x2, .int (x6 + (nI 2)), .ref (c0 + 1)]) rfl ?_
  refine fO_qs2 Value.int (r' := ai_r90) (As := [.int x2, .int (nI 2)]) (rest := [.int (x6 + (nI 2)), .ref (c0 + 1)]) rfl rfl rfl rfl rfl rfl (by omega) (show 19 + 2 ≤ w by omega) (Nat.le_of_ble_eq_true rfl) (Nat.le_of_ble_eq_true rfl) (all_c (kl_c hc0.2.2.1) rfl) (all_c rfl (all_c (k_c hc0.2.2.2.1) rfl)) (fun Qc hq => t90_0 hX (show 0 ≤ d - 1 by omega) (show 0 ≤ w - (19 + 2) by omega) _ _ _ Qc hq) h (fun v6 m5 h => ?_)
  refine fO_if 57 rfl rfl h (fun h => ?_) (fun h => ?_)
  · refine fT_ss 1 (pc' := 59) (L' := [some (.ref c0), none, some (.int x2), none, some (.int x4), some (.int x5), some (.int x6)]) (st' := [.int x4, .int (x6 + (nI 2)), .ref (c0 + 1)]) rfl ?_
    exact fT_mk rfl rfl (t6_59 hX hd hw hc0 _ _ _ _ _ hc0 _ Q h)
  · refine fT_ss 2 (pc' := 59) (L' := [some (.ref c0), none, some (.int x2), none, none, some (.int x5), some (.int x6)]) (st' := [.int (nI 0), .int (x6 + (nI 2)), .ref (c0 + 1)]) rfl ?_
    exact fT_mk rfl rfl (t6_59 hX hd hw hc0 _ _ _ _ _ hc0 _ Q h)
noncomputable def g6 (c0 : Nat) (x1 : Int32) (x2 : Int32) (x3 : Int32) (x4 : Int32) (x5 : Int32) (m : fm) : Option (fm) :=
  stI m (c0 + 1) 96 ((x1 * (nI 4)) + (nI 0)) x2 fun m1 =>
  cl2 (g90 x2 (nI 1) m1) fun v3 m2 =>
  bif ai_c .ne v3 0 then
    g6_36 c0 x2 x4 x5 (x1 * (nI 4)) x3 ((x1 * (nI 4)) + (nI 1)) c0 m2
  else
    g6_36 c0 x2 x4 x5 (x1 * (nI 4)) (nI 0) ((x1 * (nI 4)) + (nI 1)) c0 m2
set_option maxHeartbeats 4000000 in
theorem t6_0 {X : ai_X} {d w : Nat} (hX : X[1]? = some (39, ai_sh)) (hd : 1 ≤ d) (hw : 21 ≤ w) {c0 : Nat} (hc0 : isC c0) (x1 : Int32) (x2 : Int32) (x3 : Int32) (x4 : Int32) (x5 : Int32) (m : fm) (Q : Option Value → fm → Prop) (h : ob (g6 c0 x1 x2 x3 x4 x5 m) (fun z : fm => Q none z)) : fT X d w ai_r6 0 [some (.ref c0), some (.int x1), some (.int x2), some (.int x3), some (.int x4), some (.int x5), none] [] m Q := by
  unfold g6 at h
  refine fT_ss 5 (pc' := 6) (L' := [some (.ref c0), some (.int x1), some (.int x2), some (.int x3), some (.int x4), some (.int x5), some (.int (x1 * (nI 4)))]) (st' := [.ref c0]) rfl ?_
  refine fT_gr rfl hc0.1 rfl ?_
  refine fT_ss 4 (pc' := 14) (L' := [some (.ref c0), some (.int x1), some (.int x2), some (.int x3), some (.int x4), some (.int x5), some (.int (x1 * (nI 4)))]) (st' := [.int x2, .int ((x1 * (nI 4)) + (nI 0)), .ref (c0 + 1)]) rfl ?_
  refine fO_is rfl hc0.2.1 h (fun m1 h => ?_)
  refine fT_ss 1 (pc' := 16) (L' := [some (.ref c0), some (.int x1), some (.int x2), some (.int x3), some (.int x4), some (.int x5), some (.int (x1 * (nI 4)))]) (st' := [.ref c0]) rfl ?_
  refine fT_gr rfl hc0.1 rfl ?_
  refine fT_ss 5 (pc' := 25) (L' := [some (.ref c0), some (.int x1), some (.int x2), some (.int x3), some (.int x4), some (.int x5), some (.int (x1 * (nI 4)))]) (st' := [.int (nI 1), .int x2, .int ((x1 * (nI 4)) + (nI 1)), .ref (c0 + 1)]) rfl ?_
  refine fO_qs2 Value.int (r' := ai_r90) (As := [.int x2, .int (nI 1)]) (rest := [.int ((x1 * (nI 4)) + (nI 1)), .ref (c0 + 1)]) rfl rfl rfl rfl rfl rfl (by omega) (show 19 + 2 ≤ w by omega) (Nat.le_of_ble_eq_true rfl) (Nat.le_of_ble_eq_true rfl) (all_c (kl_c hc0.2.2.1) rfl) (all_c rfl (all_c (k_c hc0.2.2.2.1) rfl)) (fun Qc hq => t90_0 hX (show 0 ≤ d - 1 by omega) (show 0 ≤ w - (19 + 2) by omega) _ _ _ Qc hq) h (fun v3 m2 h => ?_)
  refine fO_if 35 rfl rfl h (fun h => ?_) (fun h => ?_)
  · refine fT_ss 1 (pc' := 36) (L' := [some (.ref c0), none, some (.int x2), some (.int x3), some (.int x4), some (.int x5), some (.int (x1 * (nI 4)))]) (st' := [.int x3, .int ((x1 * (nI 4)) + (nI 1)), .ref (c0 + 1)]) rfl ?_
    exact fT_mk rfl rfl (t6_36 hX hd hw hc0 _ _ _ _ _ _ hc0 _ Q h)
  · refine fT_ss 2 (pc' := 36) (L' := [some (.ref c0), none, some (.int x2), none, some (.int x4), some (.int x5), some (.int (x1 * (nI 4)))]) (st' := [.int (nI 0), .int ((x1 * (nI 4)) + (nI 1)), .ref (c0 + 1)]) rfl ?_
    exact fT_mk rfl rfl (t6_36 hX hd hw hc0 _ _ _ _ _ _ hc0 _ Q h)
noncomputable def g5 (c0 : Nat) (x1 : Int32) (x2 : Int32) (x3 : Int32) (x4 : Int32) (m : fm) : Option (Int32 × fm) :=
  gfI m c0 1 fun v1 =>
  gfI m c0 1 fun v2 =>
  pfI m c0 1 (v2 + (nI 1)) fun m3 =>
  cl1 (g6 c0 v1 x1 x2 x3 x4 m3) fun m4 =>
  some (v1, m4)
set_option maxHeartbeats 4000000 in
theorem t5_0 {X : ai_X} {d w : Nat} (hX : X[1]? = some (39, ai_sh)) (hd : 2 ≤ d) (hw : 47 ≤ w) {c0 : Nat} (hc0 : isC c0) (x1 : Int32) (x2 : Int32) (x3 : Int32) (x4 : Int32) (m : fm) (Q : Option Value → fm → Prop) (h : ob (g5 c0 x1 x2 x3 x4 m) (fun z : Int32 × fm => Q (some (.int z.1)) z.2)) : fT X d w ai_r5 0 [some (.ref c0), some (.int x1), some (.int x2), some (.int x3), some (.int x4), none] [] m Q := by
  unfold g5 at h
  refine fT_ss 1 (pc' := 1) (L' := [some (.ref c0), some (.int x1), some (.int x2), some (.int x3), some (.int x4), none]) (st' := [.ref c0]) rfl ?_
  refine fO_gi rfl hc0.1 rfl h (fun v1 h => ?_)
  refine fT_ss 3 (pc' := 8) (L' := [some (.ref c0), some (.int x1), some (.int x2), some (.int x3), some (.int x4), some (.int v1)]) (st' := [.ref c0, .ref c0]) rfl ?_
  refine fO_gi rfl hc0.1 rfl h (fun v2 h => ?_)
  refine fT_ss 2 (pc' := 13) (L' := [some (.ref c0), some (.int x1), some (.int x2), some (.int x3), some (.int x4), some (.int v1)]) (st' := [.int (v2 + (nI 1)), .ref c0]) rfl ?_
  refine fO_pi rfl hc0.1 rfl rfl h (fun m3 h => ?_)
  refine fT_ss 6 (pc' := 24) (L' := [some (.ref c0), some (.int x1), some (.int x2), some (.int x3), some (.int x4), some (.int v1)]) (st' := [.int x4, .int x3, .int x2, .int x1, .int v1, .ref c0]) rfl ?_
  refine fO_qv1 (r' := ai_r6) (k := c0) (As := [.int v1, .int x1, .int x2, .int x3, .int x4]) (rest := []) rfl rfl rfl rfl hc0.1 rfl (by omega) (show 19 + 7 ≤ w by omega) (Nat.le_of_ble_eq_true rfl) (Nat.le_of_ble_eq_true rfl) (all_c (kl_c hc0.2.2.1) rfl) rfl (fun Qc hq => t6_0 hX (show 1 ≤ d - 1 by omega) (show 21 ≤ w - (19 + 7) by omega) hc0 _ _ _ _ _ _ Qc hq) h (fun m4 h => ?_)
  refine fT_ss 1 (pc' := 29) (L' := [some (.ref c0), some (.int x1), some (.int x2), some (.int x3), some (.int x4), some (.int v1)]) (st' := [.int v1]) rfl ?_
  exact fT_r rfl rfl h
noncomputable def g8 (c0 : Nat) (x1 : Int32) (m : fm) : Option (Int32 × fm) :=
  gfI m c0 1 fun v1 =>
  pfI m c0 1 x1 fun m2 =>
  some (v1, m2)
set_option maxHeartbeats 4000000 in
theorem t8_0 {X : ai_X} {d w : Nat} (hX : X[1]? = some (39, ai_sh)) (hd : 0 ≤ d) (hw : 0 ≤ w) {c0 : Nat} (hc0 : isC c0) (x1 : Int32) (m : fm) (Q : Option Value → fm → Prop) (h : ob (g8 c0 x1 m) (fun z : Int32 × fm => Q (some (.int z.1)) z.2)) : fT X d w ai_r8 0 [some (.ref c0), some (.int x1), none] [] m Q := by
  unfold g8 at h
  refine fT_ss 1 (pc' := 1) (L' := [some (.ref c0), some (.int x1), none]) (st' := [.ref c0]) rfl ?_
  refine fO_gi rfl hc0.1 rfl h (fun v1 h => ?_)
  refine fT_ss 3 (pc' := 7) (L' := [some (.ref c0), some (.int x1), some (.int v1)]) (st' := [.int x1, .ref c0]) rfl ?_
  refine fO_pi rfl hc0.1 rfl rfl h (fun m2 h => ?_)
  refine fT_ss 1 (pc' := 11) (L' := [some (.ref c0), some (.int x1), some (.int v1)]) (st' := [.int v1]) rfl ?_
  exact fT_r rfl rfl h
noncomputable def g7 (c0 : Nat) (m : fm) : Option (Int32 × fm) :=
  cl2 (g8 c0 (nI 0) m) fun v2 m1 =>
  some (v2, m1)
set_option maxHeartbeats 4000000 in
theorem t7_0 {X : ai_X} {d w : Nat} (hX : X[1]? = some (39, ai_sh)) (hd : 1 ≤ d) (hw : 22 ≤ w) {c0 : Nat} (hc0 : isC c0) (m : fm) (Q : Option Value → fm → Prop) (h : ob (g7 c0 m) (fun z : Int32 × fm => Q (some (.int z.1)) z.2)) : fT X d w ai_r7 0 [some (.ref c0)] [] m Q := by
  unfold g7 at h
  refine fT_ss 2 (pc' := 2) (L' := [some (.ref c0)]) (st' := [.int (nI 0), .ref c0]) rfl ?_
  refine fO_qv2 Value.int (r' := ai_r8) (k := c0) (As := [.int (nI 0)]) (rest := []) rfl rfl rfl rfl hc0.1 rfl (by omega) (show 19 + 3 ≤ w by omega) (Nat.le_of_ble_eq_true rfl) (Nat.le_of_ble_eq_true rfl) (all_c (kl_c hc0.2.2.1) rfl) rfl (fun Qc hq => t8_0 hX (show 0 ≤ d - 1 by omega) (show 0 ≤ w - (19 + 3) by omega) hc0 _ _ Qc hq) h (fun v2 m1 h => ?_)
  exact fT_r rfl rfl h
noncomputable def g9 (c0 : Nat) (c1 : Nat) (m : fm) : Option (fm) :=
  cpI m (c1 + 1) 96 (nI 0) (c0 + 1) 96 (nI 0) (nI 96) fun m1 =>
  gfI m1 c1 1 fun v2 =>
  pfI m1 c0 1 v2 fun m3 =>
  some m3
set_option maxHeartbeats 4000000 in
theorem t9_0 {X : ai_X} {d w : Nat} (hX : X[1]? = some (39, ai_sh)) (hd : 1 ≤ d) (hw : 32 ≤ w) {c0 : Nat} (hc0 : isC c0) {c1 : Nat} (hc1 : isC c1) (m : fm) (Q : Option Value → fm → Prop) (h : ob (g9 c0 c1 m) (fun z : fm => Q none z)) : fT X d w ai_r9 0 [some (.ref c0), some (.ref c1)] [] m Q := by
  unfold g9 at h
  refine fT_ss 1 (pc' := 1) (L' := [some (.ref c0), some (.ref c1)]) (st' := [.ref c1]) rfl ?_
  refine fT_gr rfl hc1.1 rfl ?_
  refine fT_ss 2 (pc' := 6) (L' := [some (.ref c0), some (.ref c1)]) (st' := [.ref c0, .int (nI 0), .ref (c1 + 1)]) rfl ?_
  refine fT_gr rfl hc0.1 rfl ?_
  refine fT_ss 2 (pc' := 11) (L' := [some (.ref c0), some (.ref c1)]) (st' := [.ref c0, .int (nI 0), .ref (c0 + 1), .int (nI 0), .ref (c1 + 1)]) rfl ?_
  refine fT_gr rfl hc0.1 rfl ?_
  refine fO_al rfl (len_c hc0) ?_
  refine fO_cpI rfl hc1.2.1 hc0.2.1 (Nat.le_of_ble_eq_true rfl) (by omega) (by omega) h (fun m1 h => ?_)
  refine fT_ss 2 (pc' := 20) (L' := [some (.ref c0), some (.ref c1)]) (st' := [.ref c1, .ref c0]) rfl ?_
  refine fO_gi rfl hc1.1 rfl h (fun v2 h => ?_)
  refine fO_pi rfl hc0.1 rfl rfl h (fun m3 h => ?_)
  exact fT_r rfl rfl h
noncomputable def g10_85 (c0 : Nat) (x1 : Int32) (m : fm) : Option (Int32 × fm) :=
  cl2 (g4 c0 x1 (nI 2) m) fun v8 m7 =>
  cl2 (g4 c0 x1 (nI 3) m7) fun v10 m9 =>
  some ((((nI 1) <<< (v8 &&& 31)) ||| ((nI 1) <<< (v10 &&& 31))), m9)
set_option maxHeartbeats 4000000 in
theorem t10_85 {X : ai_X} {d w : Nat} (hX : X[1]? = some (39, ai_sh)) (hd : 1 ≤ d) (hw : 22 ≤ w) {c0 : Nat} (hc0 : isC c0) (x1 : Int32) (m : fm) (Q : Option Value → fm → Prop) (h : ob (g10_85 c0 x1 m) (fun z : Int32 × fm => Q (some (.int z.1)) z.2)) : fT X d w ai_r10 85 [some (.ref c0), some (.int x1), none] [] m Q := by
  unfold g10_85 at h
  refine fT_ss 4 (pc' := 89) (L' := [some (.ref c0), some (.int x1), none]) (st' := [.int (nI 2), .int x1, .ref c0, .int (nI 1)]) rfl ?_
  refine fO_qv2 Value.int (r' := ai_r4) (k := c0) (As := [.int x1, .int (nI 2)]) (rest := [.int (nI 1)]) rfl rfl rfl rfl hc0.1 rfl (by omega) (show 19 + 3 ≤ w by omega) (Nat.le_of_ble_eq_true rfl) (Nat.le_of_ble_eq_true rfl) (all_c (kl_c hc0.2.2.1) rfl) rfl (fun Qc hq => t4_0 hX (show 0 ≤ d - 1 by omega) (show 0 ≤ w - (19 + 3) by omega) hc0 _ _ _ Qc hq) h (fun v8 m7 h => ?_)
  refine fT_ss 5 (pc' := 97) (L' := [some (.ref c0), some (.int x1), none]) (st' := [.int (nI 3), .int x1, .ref c0, .int (nI 1), .int ((nI 1) <<< (v8 &&& 31))]) rfl ?_
  refine fO_qv2 Value.int (r' := ai_r4) (k := c0) (As := [.int x1, .int (nI 3)]) (rest := [.int (nI 1), .int ((nI 1) <<< (v8 &&& 31))]) rfl rfl rfl rfl hc0.1 rfl (by omega) (show 19 + 3 ≤ w by omega) (Nat.le_of_ble_eq_true rfl) (Nat.le_of_ble_eq_true rfl) (all_c (kl_c hc0.2.2.1) rfl) rfl (fun Qc hq => t4_0 hX (show 0 ≤ d - 1 by omega) (show 0 ≤ w - (19 + 3) by omega) hc0 _ _ _ Qc hq) h (fun v10 m9 h => ?_)
  refine fT_ss 2 (pc' := 102) (L' := [some (.ref c0), some (.int x1), none]) (st' := [.int (((nI 1) <<< (v8 &&& 31)) ||| ((nI 1) <<< (v10 &&& 31)))]) rfl ?_
  exact fT_r rfl rfl h
noncomputable def g10 (c0 : Nat) (x1 : Int32) (m : fm) : Option (Int32 × fm) :=
  cl2 (g4 c0 x1 (nI 1) m) fun v2 m1 =>
  cl2 (g4 c0 x1 (nI 0) m1) fun v4 m3 =>
  bif decide (v4 = nI 1) then
    cl2 (g4 c0 x1 (nI 2) m3) fun v6 m5 =>
    some (((nI 1) <<< (v6 &&& 31)), m5)
  else bif decide (v4 = nI 2) then
    g10_85 c0 x1 m3
  else bif decide (v4 = nI 3) then
    g10_85 c0 x1 m3
  else bif decide (v4 = nI 4) then
    g10_85 c0 x1 m3
  else bif decide (v4 = nI 5) then
    cl2 (g4 c0 x1 (nI 2) m3) fun v12 m11 =>
    some ((((nI 1) <<< (v2 &&& 31)) ||| ((nI 1) <<< (v12 &&& 31))), m11)
  else bif decide (v4 = nI 6) then
    some ((nI 0), m3)
  else bif decide (v4 = nI 7) then
    some ((nI 0), m3)
  else bif decide (v4 = nI 8) then
    some (((nI 1) <<< (v2 &&& 31)), m3)
  else bif decide (v4 = nI 9) then
    some ((nI 3), m3)
  else bif decide (v4 = nI 10) then
    some (((nI 1) <<< (v2 &&& 31)), m3)
  else bif decide (v4 = nI 11) then
    some (((nI 1) <<< (v2 &&& 31)), m3)
  else bif decide (v4 = nI 12) then
    some (((nI 1) <<< (v2 &&& 31)), m3)
  else 
  some ((nI 0), m3)
set_option maxHeartbeats 4000000 in
theorem t10_0 {X : ai_X} {d w : Nat} (hX : X[1]? = some (39, ai_sh)) (hd : 1 ≤ d) (hw : 22 ≤ w) {c0 : Nat} (hc0 : isC c0) (x1 : Int32) (m : fm) (Q : Option Value → fm → Prop) (h : ob (g10 c0 x1 m) (fun z : Int32 × fm => Q (some (.int z.1)) z.2)) : fT X d w ai_r10 0 [some (.ref c0), some (.int x1), none] [] m Q := by
  unfold g10 at h
  refine fT_ss 4 (pc' := 4) (L' := [some (.ref c0), some (.int x1), none]) (st' := [.int (nI 1), .int x1, .ref c0, .int (nI 1)]) rfl ?_
  refine fO_qv2 Value.int (r' := ai_r4) (k := c0) (As := [.int x1, .int (nI 1)]) (rest := [.int (nI 1)]) rfl rfl rfl rfl hc0.1 rfl (by omega) (show 19 + 3 ≤ w by omega) (Nat.le_of_ble_eq_true rfl) (Nat.le_of_ble_eq_true rfl) (all_c (kl_c hc0.2.2.1) rfl) rfl (fun Qc hq => t4_0 hX (show 0 ≤ d - 1 by omega) (show 0 ≤ w - (19 + 3) by omega) hc0 _ _ _ Qc hq) h (fun v2 m1 h => ?_)
  refine fT_ss 5 (pc' := 12) (L' := [some (.ref c0), some (.int x1), some (.int ((nI 1) <<< (v2 &&& 31)))]) (st' := [.int (nI 0), .int x1, .ref c0]) rfl ?_
  refine fO_qv2 Value.int (r' := ai_r4) (k := c0) (As := [.int x1, .int (nI 0)]) (rest := []) rfl rfl rfl rfl hc0.1 rfl (by omega) (show 19 + 3 ≤ w by omega) (Nat.le_of_ble_eq_true rfl) (Nat.le_of_ble_eq_true rfl) (all_c (kl_c hc0.2.2.1) rfl) rfl (fun Qc hq => t4_0 hX (show 0 ≤ d - 1 by omega) (show 0 ≤ w - (19 + 3) by omega) hc0 _ _ _ Qc hq) h (fun v4 m3 h => ?_)
  by_cases e1 : v4 = nI 1
  · subst e1
    replace h := ob_eqT h
    refine fT_ss 1 (pc' := 76) (L' := [some (.ref c0), some (.int x1), some (.int ((nI 1) <<< (v2 &&& 31)))]) (st' := []) rfl ?_
    refine fT_ss 4 (pc' := 80) (L' := [some (.ref c0), some (.int x1), none]) (st' := [.int (nI 2), .int x1, .ref c0, .int (nI 1)]) rfl ?_
    refine fO_qv2 Value.int (r' := ai_r4) (k := c0) (As := [.int x1, .int (nI 2)]) (rest := [.int (nI 1)]) rfl rfl rfl rfl hc0.1 rfl (by omega) (show 19 + 3 ≤ w by omega) (Nat.le_of_ble_eq_true rfl) (Nat.le_of_ble_eq_true rfl) (all_c (kl_c hc0.2.2.1) rfl) rfl (fun Qc hq => t4_0 hX (show 0 ≤ d - 1 by omega) (show 0 ≤ w - (19 + 3) by omega) hc0 _ _ _ Qc hq) h (fun v6 m5 h => ?_)
    refine fT_ss 1 (pc' := 84) (L' := [some (.ref c0), some (.int x1), none]) (st' := [.int ((nI 1) <<< (v6 &&& 31))]) rfl ?_
    exact fT_r rfl rfl h
  replace h := ob_eqF e1 h
  by_cases e2 : v4 = nI 2
  · subst e2
    replace h := ob_eqT h
    refine fT_ss 1 (pc' := 85) (L' := [some (.ref c0), some (.int x1), some (.int ((nI 1) <<< (v2 &&& 31)))]) (st' := []) rfl ?_
    exact fT_mk rfl rfl (t10_85 hX hd hw hc0 _ _ Q h)
  replace h := ob_eqF e2 h
  by_cases e3 : v4 = nI 3
  · subst e3
    replace h := ob_eqT h
    refine fT_ss 1 (pc' := 85) (L' := [some (.ref c0), some (.int x1), some (.int ((nI 1) <<< (v2 &&& 31)))]) (st' := []) rfl ?_
    exact fT_mk rfl rfl (t10_85 hX hd hw hc0 _ _ Q h)
  replace h := ob_eqF e3 h
  by_cases e4 : v4 = nI 4
  · subst e4
    replace h := ob_eqT h
    refine fT_ss 1 (pc' := 85) (L' := [some (.ref c0), some (.int x1), some (.int ((nI 1) <<< (v2 &&& 31)))]) (st' := []) rfl ?_
    exact fT_mk rfl rfl (t10_85 hX hd hw hc0 _ _ Q h)
  replace h := ob_eqF e4 h
  by_cases e5 : v4 = nI 5
  · subst e5
    replace h := ob_eqT h
    refine fT_ss 1 (pc' := 103) (L' := [some (.ref c0), some (.int x1), some (.int ((nI 1) <<< (v2 &&& 31)))]) (st' := []) rfl ?_
    refine fT_ss 5 (pc' := 108) (L' := [some (.ref c0), some (.int x1), some (.int ((nI 1) <<< (v2 &&& 31)))]) (st' := [.int (nI 2), .int x1, .ref c0, .int (nI 1), .int ((nI 1) <<< (v2 &&& 31))]) rfl ?_
    refine fO_qv2 Value.int (r' := ai_r4) (k := c0) (As := [.int x1, .int (nI 2)]) (rest := [.int (nI 1), .int ((nI 1) <<< (v2 &&& 31))]) rfl rfl rfl rfl hc0.1 rfl (by omega) (show 19 + 3 ≤ w by omega) (Nat.le_of_ble_eq_true rfl) (Nat.le_of_ble_eq_true rfl) (all_c (kl_c hc0.2.2.1) rfl) rfl (fun Qc hq => t4_0 hX (show 0 ≤ d - 1 by omega) (show 0 ≤ w - (19 + 3) by omega) hc0 _ _ _ Qc hq) h (fun v12 m11 h => ?_)
    refine fT_ss 2 (pc' := 113) (L' := [some (.ref c0), some (.int x1), some (.int ((nI 1) <<< (v2 &&& 31)))]) (st' := [.int (((nI 1) <<< (v2 &&& 31)) ||| ((nI 1) <<< (v12 &&& 31)))]) rfl ?_
    exact fT_r rfl rfl h
  replace h := ob_eqF e5 h
  by_cases e6 : v4 = nI 6
  · subst e6
    replace h := ob_eqT h
    refine fT_ss 1 (pc' := 118) (L' := [some (.ref c0), some (.int x1), some (.int ((nI 1) <<< (v2 &&& 31)))]) (st' := []) rfl ?_
    refine fT_ss 1 (pc' := 119) (L' := [none, none, none]) (st' := [.int (nI 0)]) rfl ?_
    exact fT_r rfl rfl h
  replace h := ob_eqF e6 h
  by_cases e7 : v4 = nI 7
  · subst e7
    replace h := ob_eqT h
    refine fT_ss 1 (pc' := 118) (L' := [some (.ref c0), some (.int x1), some (.int ((nI 1) <<< (v2 &&& 31)))]) (st' := []) rfl ?_
    refine fT_ss 1 (pc' := 119) (L' := [none, none, none]) (st' := [.int (nI 0)]) rfl ?_
    exact fT_r rfl rfl h
  replace h := ob_eqF e7 h
  by_cases e8 : v4 = nI 8
  · subst e8
    replace h := ob_eqT h
    refine fT_ss 1 (pc' := 116) (L' := [some (.ref c0), some (.int x1), some (.int ((nI 1) <<< (v2 &&& 31)))]) (st' := []) rfl ?_
    refine fT_ss 1 (pc' := 117) (L' := [none, none, some (.int ((nI 1) <<< (v2 &&& 31)))]) (st' := [.int ((nI 1) <<< (v2 &&& 31))]) rfl ?_
    exact fT_r rfl rfl h
  replace h := ob_eqF e8 h
  by_cases e9 : v4 = nI 9
  · subst e9
    replace h := ob_eqT h
    refine fT_ss 1 (pc' := 114) (L' := [some (.ref c0), some (.int x1), some (.int ((nI 1) <<< (v2 &&& 31)))]) (st' := []) rfl ?_
    refine fT_ss 1 (pc' := 115) (L' := [none, none, none]) (st' := [.int (nI 3)]) rfl ?_
    exact fT_r rfl rfl h
  replace h := ob_eqF e9 h
  by_cases e10 : v4 = nI 10
  · subst e10
    replace h := ob_eqT h
    refine fT_ss 1 (pc' := 116) (L' := [some (.ref c0), some (.int x1), some (.int ((nI 1) <<< (v2 &&& 31)))]) (st' := []) rfl ?_
    refine fT_ss 1 (pc' := 117) (L' := [none, none, some (.int ((nI 1) <<< (v2 &&& 31)))]) (st' := [.int ((nI 1) <<< (v2 &&& 31))]) rfl ?_
    exact fT_r rfl rfl h
  replace h := ob_eqF e10 h
  by_cases e11 : v4 = nI 11
  · subst e11
    replace h := ob_eqT h
    refine fT_ss 1 (pc' := 116) (L' := [some (.ref c0), some (.int x1), some (.int ((nI 1) <<< (v2 &&& 31)))]) (st' := []) rfl ?_
    refine fT_ss 1 (pc' := 117) (L' := [none, none, some (.int ((nI 1) <<< (v2 &&& 31)))]) (st' := [.int ((nI 1) <<< (v2 &&& 31))]) rfl ?_
    exact fT_r rfl rfl h
  replace h := ob_eqF e11 h
  by_cases e12 : v4 = nI 12
  · subst e12
    replace h := ob_eqT h
    refine fT_ss 1 (pc' := 116) (L' := [some (.ref c0), some (.int x1), some (.int ((nI 1) <<< (v2 &&& 31)))]) (st' := []) rfl ?_
    refine fT_ss 1 (pc' := 117) (L' := [none, none, some (.int ((nI 1) <<< (v2 &&& 31)))]) (st' := [.int ((nI 1) <<< (v2 &&& 31))]) rfl ?_
    exact fT_r rfl rfl h
  replace h := ob_eqF e12 h
  refine fO_td 118 rfl rfl (by have := nt (k := 1) (by omega) e1; have := nt (k := 2) (by omega) e2; have := nt (k := 3) (by omega) e3; have := nt (k := 4) (by omega) e4; have := nt (k := 5) (by omega) e5; have := nt (k := 6) (by omega) e6; have := nt (k := 7) (by omega) e7; have := nt (k := 8) (by omega) e8; have := nt (k := 9) (by omega) e9; have := nt (k := 10) (by omega) e10; have := nt (k := 11) (by omega) e11; have := nt (k := 12) (by omega) e12; omega) ?_
  refine fT_ss 1 (pc' := 119) (L' := [none, none, none]) (st' := [.int (nI 0)]) rfl ?_
  exact fT_r rfl rfl h
noncomputable def g11_60 (c0 : Nat) (x1 : Int32) (m : fm) : Option (Int32 × fm) :=
  cl2 (g4 c0 x1 (nI 1) m) fun v4 m3 =>
  some (((nI 1) <<< (v4 &&& 31)), m3)
set_option maxHeartbeats 4000000 in
theorem t11_60 {X : ai_X} {d w : Nat} (hX : X[1]? = some (39, ai_sh)) (hd : 1 ≤ d) (hw : 22 ≤ w) {c0 : Nat} (hc0 : isC c0) (x1 : Int32) (m : fm) (Q : Option Value → fm → Prop) (h : ob (g11_60 c0 x1 m) (fun z : Int32 × fm => Q (some (.int z.1)) z.2)) : fT X d w ai_r11 60 [some (.ref c0), some (.int x1)] [] m Q := by
  unfold g11_60 at h
  refine fT_ss 4 (pc' := 64) (L' := [some (.ref c0), some (.int x1)]) (st' := [.int (nI 1), .int x1, .ref c0, .int (nI 1)]) rfl ?_
  refine fO_qv2 Value.int (r' := ai_r4) (k := c0) (As := [.int x1, .int (nI 1)]) (rest := [.int (nI 1)]) rfl rfl rfl rfl hc0.1 rfl (by omega) (show 19 + 3 ≤ w by omega) (Nat.le_of_ble_eq_true rfl) (Nat.le_of_ble_eq_true rfl) (all_c (kl_c hc0.2.2.1) rfl) rfl (fun Qc hq => t4_0 hX (show 0 ≤ d - 1 by omega) (show 0 ≤ w - (19 + 3) by omega) hc0 _ _ _ Qc hq) h (fun v4 m3 h => ?_)
  refine fT_ss 1 (pc' := 68) (L' := [some (.ref c0), some (.int x1)]) (st' := [.int ((nI 1) <<< (v4 &&& 31))]) rfl ?_
  exact fT_r rfl rfl h
noncomputable def g11 (c0 : Nat) (x1 : Int32) (m : fm) : Option (Int32 × fm) :=
  cl2 (g4 c0 x1 (nI 0) m) fun v2 m1 =>
  bif decide (v2 = nI 0) then
    g11_60 c0 x1 m1
  else bif decide (v2 = nI 1) then
    g11_60 c0 x1 m1
  else bif decide (v2 = nI 2) then
    g11_60 c0 x1 m1
  else bif decide (v2 = nI 3) then
    g11_60 c0 x1 m1
  else bif decide (v2 = nI 4) then
    g11_60 c0 x1 m1
  else bif decide (v2 = nI 5) then
    some ((nI 0), m1)
  else bif decide (v2 = nI 6) then
    some ((nI 0), m1)
  else bif decide (v2 = nI 7) then
    g11_60 c0 x1 m1
  else bif decide (v2 = nI 8) then
    some ((nI 0), m1)
  else bif decide (v2 = nI 9) then
    g11_60 c0 x1 m1
  else 
  some ((nI 0), m1)
set_option maxHeartbeats 4000000 in
theorem t11_0 {X : ai_X} {d w : Nat} (hX : X[1]? = some (39, ai_sh)) (hd : 1 ≤ d) (hw : 22 ≤ w) {c0 : Nat} (hc0 : isC c0) (x1 : Int32) (m : fm) (Q : Option Value → fm → Prop) (h : ob (g11 c0 x1 m) (fun z : Int32 × fm => Q (some (.int z.1)) z.2)) : fT X d w ai_r11 0 [some (.ref c0), some (.int x1)] [] m Q := by
  unfold g11 at h
  refine fT_ss 3 (pc' := 3) (L' := [some (.ref c0), some (.int x1)]) (st' := [.int (nI 0), .int x1, .ref c0]) rfl ?_
  refine fO_qv2 Value.int (r' := ai_r4) (k := c0) (As := [.int x1, .int (nI 0)]) (rest := []) rfl rfl rfl rfl hc0.1 rfl (by omega) (show 19 + 3 ≤ w by omega) (Nat.le_of_ble_eq_true rfl) (Nat.le_of_ble_eq_true rfl) (all_c (kl_c hc0.2.2.1) rfl) rfl (fun Qc hq => t4_0 hX (show 0 ≤ d - 1 by omega) (show 0 ≤ w - (19 + 3) by omega) hc0 _ _ _ Qc hq) h (fun v2 m1 h => ?_)
  by_cases e0 : v2 = nI 0
  · subst e0
    replace h := ob_eqT h
    refine fT_ss 1 (pc' := 60) (L' := [some (.ref c0), some (.int x1)]) (st' := []) rfl ?_
    exact fT_mk rfl rfl (t11_60 hX hd hw hc0 _ _ Q h)
  replace h := ob_eqF e0 h
  by_cases e1 : v2 = nI 1
  · subst e1
    replace h := ob_eqT h
    refine fT_ss 1 (pc' := 60) (L' := [some (.ref c0), some (.int x1)]) (st' := []) rfl ?_
    exact fT_mk rfl rfl (t11_60 hX hd hw hc0 _ _ Q h)
  replace h := ob_eqF e1 h
  by_cases e2 : v2 = nI 2
  · subst e2
    replace h := ob_eqT h
    refine fT_ss 1 (pc' := 60) (L' := [some (.ref c0), some (.int x1)]) (st' := []) rfl ?_
    exact fT_mk rfl rfl (t11_60 hX hd hw hc0 _ _ Q h)
  replace h := ob_eqF e2 h
  by_cases e3 : v2 = nI 3
  · subst e3
    replace h := ob_eqT h
    refine fT_ss 1 (pc' := 60) (L' := [some (.ref c0), some (.int x1)]) (st' := []) rfl ?_
    exact fT_mk rfl rfl (t11_60 hX hd hw hc0 _ _ Q h)
  replace h := ob_eqF e3 h
  by_cases e4 : v2 = nI 4
  · subst e4
    replace h := ob_eqT h
    refine fT_ss 1 (pc' := 60) (L' := [some (.ref c0), some (.int x1)]) (st' := []) rfl ?_
    exact fT_mk rfl rfl (t11_60 hX hd hw hc0 _ _ Q h)
  replace h := ob_eqF e4 h
  by_cases e5 : v2 = nI 5
  · subst e5
    replace h := ob_eqT h
    refine fT_ss 1 (pc' := 69) (L' := [some (.ref c0), some (.int x1)]) (st' := []) rfl ?_
    refine fT_ss 1 (pc' := 70) (L' := [none, none]) (st' := [.int (nI 0)]) rfl ?_
    exact fT_r rfl rfl h
  replace h := ob_eqF e5 h
  by_cases e6 : v2 = nI 6
  · subst e6
    replace h := ob_eqT h
    refine fT_ss 1 (pc' := 69) (L' := [some (.ref c0), some (.int x1)]) (st' := []) rfl ?_
    refine fT_ss 1 (pc' := 70) (L' := [none, none]) (st' := [.int (nI 0)]) rfl ?_
    exact fT_r rfl rfl h
  replace h := ob_eqF e6 h
  by_cases e7 : v2 = nI 7
  · subst e7
    replace h := ob_eqT h
    refine fT_ss 1 (pc' := 60) (L' := [some (.ref c0), some (.int x1)]) (st' := []) rfl ?_
    exact fT_mk rfl rfl (t11_60 hX hd hw hc0 _ _ Q h)
  replace h := ob_eqF e7 h
  by_cases e8 : v2 = nI 8
  · subst e8
    replace h := ob_eqT h
    refine fT_ss 1 (pc' := 69) (L' := [some (.ref c0), some (.int x1)]) (st' := []) rfl ?_
    refine fT_ss 1 (pc' := 70) (L' := [none, none]) (st' := [.int (nI 0)]) rfl ?_
    exact fT_r rfl rfl h
  replace h := ob_eqF e8 h
  by_cases e9 : v2 = nI 9
  · subst e9
    replace h := ob_eqT h
    refine fT_ss 1 (pc' := 60) (L' := [some (.ref c0), some (.int x1)]) (st' := []) rfl ?_
    exact fT_mk rfl rfl (t11_60 hX hd hw hc0 _ _ Q h)
  replace h := ob_eqF e9 h
  refine fO_td 69 rfl rfl (by have := nt (k := 0) (by omega) e0; have := nt (k := 1) (by omega) e1; have := nt (k := 2) (by omega) e2; have := nt (k := 3) (by omega) e3; have := nt (k := 4) (by omega) e4; have := nt (k := 5) (by omega) e5; have := nt (k := 6) (by omega) e6; have := nt (k := 7) (by omega) e7; have := nt (k := 8) (by omega) e8; have := nt (k := 9) (by omega) e9; omega) ?_
  refine fT_ss 1 (pc' := 70) (L' := [none, none]) (st' := [.int (nI 0)]) rfl ?_
  exact fT_r rfl rfl h
noncomputable def s14_12 (c0 : Nat) (x1 : Int32) (x2 : Int32) (m : fm) : Option ((Int32 × fm) ⊕ ((Int32 × fm) ⊕ (Int32 × fm))) :=
  bif ai_c .gt x2 (nI 3) then
    some (.inr (.inl ((x1 + (nI 1)), m)))
  else
    cl2 (g4 c0 x1 (nI 0) m) fun v3 m2 =>
    cl2 (g90 v3 x2 m2) fun v5 m4 =>
    bif ai_c .ne v5 (nI 2) then
      some (.inl ((x2 + (nI 1)), m4))
    else
      cl2 (g4 c0 x1 x2 m4) fun v7 m6 =>
      bif ai_c .lt v7 (nI 2) then
        some (.inl ((x2 + (nI 1)), m6))
      else
        cl2 (g4 c0 x1 x2 m6) fun v9 m8 =>
        bif ai_c .ne v9 (nI 3) then
          some (.inr (.inr ((nI 0), m8)))
        else
          some (.inr (.inr ((nI 1), m8)))
set_option maxHeartbeats 4000000 in
theorem b14_12 {X : ai_X} {d w : Nat} (hX : X[1]? = some (39, ai_sh)) (hd : 1 ≤ d) (hw : 22 ≤ w) {c0 : Nat} (hc0 : isC c0) (x1 : Int32) (x2 : Int32) (m : fm) (Q : Option Value → fm → Prop) (h : ob (s14_12 c0 x1 x2 m) (Sum.elim (fun s : Int32 × fm => fT X d w ai_r14 12 [some (.ref c0), some (.int x1), some (.int s.1)] [] s.2 Q) (Sum.elim (fun s : Int32 × fm => fT X d w ai_r14 2 [some (.ref c0), some (.int s.1), none] [] s.2 Q) (fun z : Int32 × fm => Q (some (.int z.1)) z.2)))) : fT X d w ai_r14 12 [some (.ref c0), some (.int x1), some (.int x2)] [] m Q := by
  unfold s14_12 at h
  refine fT_ss 2 (pc' := 14) (L' := [some (.ref c0), some (.int x1), some (.int x2)]) (st' := [.int (nI 3), .int x2]) rfl ?_
  refine fO_ic 63 rfl rfl h (fun h => ?_) (fun h => ?_)
  · refine fT_ss 2 (pc' := 2) (L' := [some (.ref c0), some (.int (x1 + (nI 1))), none]) (st' := []) rfl ?_
    replace h := ob_inr h
    replace h := ob_inl h
    exact fT_mk rfl rfl h
  · refine fT_ss 3 (pc' := 20) (L' := [some (.ref c0), some (.int x1), some (.int x2)]) (st' := [.int (nI 0), .int x1, .ref c0]) rfl ?_
    refine fO_qv2 Value.int (r' := ai_r4) (k := c0) (As := [.int x1, .int (nI 0)]) (rest := []) rfl rfl rfl rfl hc0.1 rfl (by omega) (show 19 + 3 ≤ w by omega) (Nat.le_of_ble_eq_true rfl) (Nat.le_of_ble_eq_true rfl) (all_c (kl_c hc0.2.2.1) rfl) rfl (fun Qc hq => t4_0 hX (show 0 ≤ d - 1 by omega) (show 0 ≤ w - (19 + 3) by omega) hc0 _ _ _ Qc hq) h (fun v3 m2 h => ?_)
    refine fT_ss 1 (pc' := 24) (L' := [some (.ref c0), some (.int x1), some (.int x2)]) (st' := [.int x2, .int v3]) rfl ?_
    refine fO_qs2 Value.int (r' := ai_r90) (As := [.int v3, .int x2]) (rest := []) rfl rfl rfl rfl rfl rfl (by omega) (show 19 + 2 ≤ w by omega) (Nat.le_of_ble_eq_true rfl) (Nat.le_of_ble_eq_true rfl) (all_c (kl_c hc0.2.2.1) rfl) rfl (fun Qc hq => t90_0 hX (show 0 ≤ d - 1 by omega) (show 0 ≤ w - (19 + 2) by omega) _ _ _ Qc hq) h (fun v5 m4 h => ?_)
    refine fT_ss 1 (pc' := 28) (L' := [some (.ref c0), some (.int x1), some (.int x2)]) (st' := [.int (nI 2), .int v5]) rfl ?_
    refine fO_ic 57 rfl rfl h (fun h => ?_) (fun h => ?_)
    · refine fT_ss 2 (pc' := 12) (L' := [some (.ref c0), some (.int x1), some (.int (x2 + (nI 1)))]) (st' := []) rfl ?_
      replace h := ob_inl h
      exact fT_mk rfl rfl h
    · refine fT_ss 3 (pc' := 34) (L' := [some (.ref c0), some (.int x1), some (.int x2)]) (st' := [.int x2, .int x1, .ref c0]) rfl ?_
      refine fO_qv2 Value.int (r' := ai_r4) (k := c0) (As := [.int x1, .int x2]) (rest := []) rfl rfl rfl rfl hc0.1 rfl (by omega) (show 19 + 3 ≤ w by omega) (Nat.le_of_ble_eq_true rfl) (Nat.le_of_ble_eq_true rfl) (all_c (kl_c hc0.2.2.1) rfl) rfl (fun Qc hq => t4_0 hX (show 0 ≤ d - 1 by omega) (show 0 ≤ w - (19 + 3) by omega) hc0 _ _ _ Qc hq) h (fun v7 m6 h => ?_)
      refine fT_ss 1 (pc' := 38) (L' := [some (.ref c0), some (.int x1), some (.int x2)]) (st' := [.int (nI 2), .int v7]) rfl ?_
      refine fO_ic 57 rfl rfl h (fun h => ?_) (fun h => ?_)
      · refine fT_ss 2 (pc' := 12) (L' := [some (.ref c0), some (.int x1), some (.int (x2 + (nI 1)))]) (st' := []) rfl ?_
        replace h := ob_inl h
        exact fT_mk rfl rfl h
      · refine fT_ss 3 (pc' := 44) (L' := [some (.ref c0), some (.int x1), some (.int x2)]) (st' := [.int x2, .int x1, .ref c0]) rfl ?_
        refine fO_qv2 Value.int (r' := ai_r4) (k := c0) (As := [.int x1, .int x2]) (rest := []) rfl rfl rfl rfl hc0.1 rfl (by omega) (show 19 + 3 ≤ w by omega) (Nat.le_of_ble_eq_true rfl) (Nat.le_of_ble_eq_true rfl) (all_c (kl_c hc0.2.2.1) rfl) rfl (fun Qc hq => t4_0 hX (show 0 ≤ d - 1 by omega) (show 0 ≤ w - (19 + 3) by omega) hc0 _ _ _ Qc hq) h (fun v9 m8 h => ?_)
        refine fT_ss 1 (pc' := 48) (L' := [some (.ref c0), some (.int x1), some (.int x2)]) (st' := [.int (nI 3), .int v9]) rfl ?_
        refine fO_ic 55 rfl rfl h (fun h => ?_) (fun h => ?_)
        · refine fT_ss 1 (pc' := 56) (L' := [none, none, none]) (st' := [.int (nI 0)]) rfl ?_
          exact fT_r rfl rfl h
        · refine fT_ss 2 (pc' := 56) (L' := [none, none, none]) (st' := [.int (nI 1)]) rfl ?_
          exact fT_r rfl rfl h
noncomputable def g14_12 (c0 : Nat) (x1 : Int32) (x2 : Int32) (m : fm) : Option ((Int32 × fm) ⊕ (Int32 × fm)) := wl (fun s : Int32 × fm => s14_12 c0 x1 s.1 s.2) lf (x2, m)
theorem t14_12 {X : ai_X} {d w : Nat} (hX : X[1]? = some (39, ai_sh)) (hd : 1 ≤ d) (hw : 22 ≤ w) {c0 : Nat} (hc0 : isC c0) (x1 : Int32) (x2 : Int32) (m : fm) (Q : Option Value → fm → Prop) (h : ob (g14_12 c0 x1 x2 m) (Sum.elim (fun s : Int32 × fm => fT X d w ai_r14 2 [some (.ref c0), some (.int s.1), none] [] s.2 Q) (fun z : Int32 × fm => Q (some (.int z.1)) z.2))) : fT X d w ai_r14 12 [some (.ref c0), some (.int x1), some (.int x2)] [] m Q :=
  wl_ob (P := fun s : Int32 × fm => fT X d w ai_r14 12 [some (.ref c0), some (.int x1), some (.int s.1)] [] s.2 Q) (fun s h => b14_12 hX hd hw hc0 x1 s.1 s.2 Q h) lf (x2, m) h
noncomputable def s14_2 (c0 : Nat) (x1 : Int32) (m : fm) : Option ((Int32 × fm) ⊕ (Int32 × fm)) :=
  gfI m c0 1 fun v1 =>
  bif ai_c .ge x1 v1 then
    some (.inr ((nI 0), m))
  else
    g14_12 c0 x1 (nI 1) m
set_option maxHeartbeats 4000000 in
theorem b14_2 {X : ai_X} {d w : Nat} (hX : X[1]? = some (39, ai_sh)) (hd : 1 ≤ d) (hw : 22 ≤ w) {c0 : Nat} (hc0 : isC c0) (x1 : Int32) (m : fm) (Q : Option Value → fm → Prop) (h : ob (s14_2 c0 x1 m) (Sum.elim (fun s : Int32 × fm => fT X d w ai_r14 2 [some (.ref c0), some (.int s.1), none] [] s.2 Q) (fun z : Int32 × fm => Q (some (.int z.1)) z.2))) : fT X d w ai_r14 2 [some (.ref c0), some (.int x1), none] [] m Q := by
  unfold s14_2 at h
  refine fT_ss 2 (pc' := 4) (L' := [some (.ref c0), some (.int x1), none]) (st' := [.ref c0, .int x1]) rfl ?_
  refine fO_gi rfl hc0.1 rfl h (fun v1 h => ?_)
  refine fO_ic 69 rfl rfl h (fun h => ?_) (fun h => ?_)
  · refine fT_ss 1 (pc' := 70) (L' := [none, none, none]) (st' := [.int (nI 0)]) rfl ?_
    exact fT_r rfl rfl h
  · refine fT_ss 2 (pc' := 12) (L' := [some (.ref c0), some (.int x1), some (.int (nI 1))]) (st' := []) rfl ?_
    exact fT_mk rfl rfl (t14_12 hX hd hw hc0 _ _ _ Q h)
noncomputable def g14_2 (c0 : Nat) (x1 : Int32) (m : fm) : Option (Int32 × fm) := wl (fun s : Int32 × fm => s14_2 c0 s.1 s.2) lf (x1, m)
theorem t14_2 {X : ai_X} {d w : Nat} (hX : X[1]? = some (39, ai_sh)) (hd : 1 ≤ d) (hw : 22 ≤ w) {c0 : Nat} (hc0 : isC c0) (x1 : Int32) (m : fm) (Q : Option Value → fm → Prop) (h : ob (g14_2 c0 x1 m) (fun z : Int32 × fm => Q (some (.int z.1)) z.2)) : fT X d w ai_r14 2 [some (.ref c0), some (.int x1), none] [] m Q :=
  wl_ob (P := fun s : Int32 × fm => fT X d w ai_r14 2 [some (.ref c0), some (.int s.1), none] [] s.2 Q) (fun s h => b14_2 hX hd hw hc0 s.1 s.2 Q h) lf (x1, m) h
noncomputable def g14 (c0 : Nat) (m : fm) : Option (Int32 × fm) :=
  g14_2 c0 (nI 0) m
set_option maxHeartbeats 4000000 in
theorem t14_0 {X : ai_X} {d w : Nat} (hX : X[1]? = some (39, ai_sh)) (hd : 1 ≤ d) (hw : 22 ≤ w) {c0 : Nat} (hc0 : isC c0) (m : fm) (Q : Option Value → fm → Prop) (h : ob (g14 c0 m) (fun z : Int32 × fm => Q (some (.int z.1)) z.2)) : fT X d w ai_r14 0 [some (.ref c0), none, none] [] m Q := by
  unfold g14 at h
  refine fT_ss 2 (pc' := 2) (L' := [some (.ref c0), some (.int (nI 0)), none]) (st' := []) rfl ?_
  exact fT_mk rfl rfl (t14_2 hX hd hw hc0 _ _ Q h)
noncomputable def g13_64 (c0 : Nat) (c1 : Nat) (x2 : Int32) (x3 : Int32) (x4 : Int32) (y0 : Int32) (m : fm) : Option ((Int32 × fm) ⊕ (Int32 × fm)) :=
  cl2 (g4 c1 x2 x4 m) fun v4 m3 =>
  bif ai_c .eq y0 v4 then
    some (.inl ((x4 + (nI 1)), m3))
  else
    some (.inr ((nI 0), m3))
set_option maxHeartbeats 4000000 in
theorem t13_64 {X : ai_X} {d w : Nat} (hX : X[1]? = some (39, ai_sh)) (hd : 1 ≤ d) (hw : 22 ≤ w) {c0 : Nat} (hc0 : isC c0) {c1 : Nat} (hc1 : isC c1) (x2 : Int32) (x3 : Int32) (x4 : Int32) (y0 : Int32) (m : fm) (Q : Option Value → fm → Prop) (h : ob (g13_64 c0 c1 x2 x3 x4 y0 m) (Sum.elim (fun s : Int32 × fm => fT X d w ai_r13 3 [some (.ref c0), some (.ref c1), some (.int x2), some (.int x3), some (.int s.1), none, none] [] s.2 Q) (fun z : Int32 × fm => Q (some (.int z.1)) z.2))) : fT X d w ai_r13 64 [some (.ref c0), some (.ref c1), some (.int x2), some (.int x3), some (.int x4), none, none] [.int y0] m Q := by
  unfold g13_64 at h
  refine fT_ss 3 (pc' := 68) (L' := [some (.ref c0), some (.ref c1), some (.int x2), some (.int x3), some (.int x4), none, none]) (st' := [.int x4, .int x2, .ref c1, .int y0]) rfl ?_
  refine fO_qv2 Value.int (r' := ai_r4) (k := c1) (As := [.int x2, .int x4]) (rest := [.int y0]) rfl rfl rfl rfl hc1.1 rfl (by omega) (show 19 + 3 ≤ w by omega) (Nat.le_of_ble_eq_true rfl) (Nat.le_of_ble_eq_true rfl) (all_c (kl_c hc0.2.2.1) (all_c (kl_c hc1.2.2.1) rfl)) rfl (fun Qc hq => t4_0 hX (show 0 ≤ d - 1 by omega) (show 0 ≤ w - (19 + 3) by omega) hc1 _ _ _ Qc hq) h (fun v4 m3 h => ?_)
  refine fO_ic 76 rfl rfl h (fun h => ?_) (fun h => ?_)
  · refine fT_ss 2 (pc' := 3) (L' := [some (.ref c0), some (.ref c1), some (.int x2), some (.int x3), some (.int (x4 + (nI 1))), none, none]) (st' := []) rfl ?_
    replace h := ob_inl h
    exact fT_mk rfl rfl h
  · refine fT_ss 1 (pc' := 75) (L' := [none, none, none, none, none, none, none]) (st' := [.int (nI 0)]) rfl ?_
    exact fT_r rfl rfl h
noncomputable def g13_48 (c0 : Nat) (c1 : Nat) (x2 : Int32) (x3 : Int32) (x4 : Int32) (x5 : Int32) (y0 : Int32) (m : fm) : Option ((Int32 × fm) ⊕ (Int32 × fm)) :=
  bif ai_c .eq y0 0 then
    g13_64 c0 c1 x2 x3 x4 x5 m
  else
    g13_64 c0 c1 x2 x3 x4 ((nI 5) - x5) m
set_option maxHeartbeats 4000000 in
theorem t13_48 {X : ai_X} {d w : Nat} (hX : X[1]? = some (39, ai_sh)) (hd : 1 ≤ d) (hw : 22 ≤ w) {c0 : Nat} (hc0 : isC c0) {c1 : Nat} (hc1 : isC c1) (x2 : Int32) (x3 : Int32) (x4 : Int32) (x5 : Int32) (y0 : Int32) (m : fm) (Q : Option Value → fm → Prop) (h : ob (g13_48 c0 c1 x2 x3 x4 x5 y0 m) (Sum.elim (fun s : Int32 × fm => fT X d w ai_r13 3 [some (.ref c0), some (.ref c1), some (.int x2), some (.int x3), some (.int s.1), none, none] [] s.2 Q) (fun z : Int32 × fm => Q (some (.int z.1)) z.2))) : fT X d w ai_r13 48 [some (.ref c0), some (.ref c1), some (.int x2), some (.int x3), some (.int x4), some (.int x5), none] [.int y0] m Q := by
  unfold g13_48 at h
  refine fT_ss 2 (pc' := 52) (L' := [some (.ref c0), some (.ref c1), some (.int x2), some (.int x3), some (.int x4), some (.int x5), some (.int y0)]) (st' := [.int y0]) rfl ?_
  refine fO_if 62 rfl rfl h (fun h => ?_) (fun h => ?_)
  · refine fT_ss 1 (pc' := 64) (L' := [some (.ref c0), some (.ref c1), some (.int x2), some (.int x3), some (.int x4), some (.int x5), none]) (st' := [.int x5]) rfl ?_
    exact fT_mk rfl rfl (t13_64 hX hd hw hc0 hc1 _ _ _ _ _ Q h)
  · refine fT_ss 4 (pc' := 64) (L' := [some (.ref c0), some (.ref c1), some (.int x2), some (.int x3), some (.int x4), some (.int x5), none]) (st' := [.int ((nI 5) - x5)]) rfl ?_
    exact fT_mk rfl rfl (t13_64 hX hd hw hc0 hc1 _ _ _ _ _ Q h)
noncomputable def s13_3 (c0 : Nat) (c1 : Nat) (x2 : Int32) (x3 : Int32) (x4 : Int32) (m : fm) : Option ((Int32 × fm) ⊕ (Int32 × fm)) :=
  bif ai_c .gt x4 (nI 3) then
    some (.inr ((nI 1), m))
  else
    cl2 (g4 c0 x2 x4 m) fun v2 m1 =>
    bif ai_c .eq x3 0 then
      g13_48 c0 c1 x2 x3 x4 v2 (nI 0) m1
    else
      bif ai_c .lt v2 (nI 2) then
        g13_48 c0 c1 x2 x3 x4 v2 (nI 0) m1
      else
        cl2 (g4 c0 x2 (nI 0) m1) fun v6 m5 =>
        cl2 (g90 v6 x4 m5) fun v8 m7 =>
        bif ai_c .ne v8 (nI 2) then
          g13_48 c0 c1 x2 x3 x4 v2 (nI 0) m7
        else
          g13_48 c0 c1 x2 x3 x4 v2 (nI 1) m7
set_option maxHeartbeats 4000000 in
theorem b13_3 {X : ai_X} {d w : Nat} (hX : X[1]? = some (39, ai_sh)) (hd : 1 ≤ d) (hw : 22 ≤ w) {c0 : Nat} (hc0 : isC c0) {c1 : Nat} (hc1 : isC c1) (x2 : Int32) (x3 : Int32) (x4 : Int32) (m : fm) (Q : Option Value → fm → Prop) (h : ob (s13_3 c0 c1 x2 x3 x4 m) (Sum.elim (fun s : Int32 × fm => fT X d w ai_r13 3 [some (.ref c0), some (.ref c1), some (.int x2), some (.int x3), some (.int s.1), none, none] [] s.2 Q) (fun z : Int32 × fm => Q (some (.int z.1)) z.2))) : fT X d w ai_r13 3 [some (.ref c0), some (.ref c1), some (.int x2), some (.int x3), some (.int x4), none, none] [] m Q := by
  unfold s13_3 at h
  refine fT_ss 2 (pc' := 6) (L' := [some (.ref c0), some (.ref c1), some (.int x2), some (.int x3), some (.int x4), none, none]) (st' := [.int (nI 3), .int x4]) rfl ?_
  refine fO_ic 82 rfl rfl h (fun h => ?_) (fun h => ?_)
  · refine fT_ss 1 (pc' := 83) (L' := [none, none, none, none, none, none, none]) (st' := [.int (nI 1)]) rfl ?_
    exact fT_r rfl rfl h
  · refine fT_ss 3 (pc' := 13) (L' := [some (.ref c0), some (.ref c1), some (.int x2), some (.int x3), some (.int x4), none, none]) (st' := [.int x4, .int x2, .ref c0]) rfl ?_
    refine fO_qv2 Value.int (r' := ai_r4) (k := c0) (As := [.int x2, .int x4]) (rest := []) rfl rfl rfl rfl hc0.1 rfl (by omega) (show 19 + 3 ≤ w by omega) (Nat.le_of_ble_eq_true rfl) (Nat.le_of_ble_eq_true rfl) (all_c (kl_c hc0.2.2.1) (all_c (kl_c hc1.2.2.1) rfl)) rfl (fun Qc hq => t4_0 hX (show 0 ≤ d - 1 by omega) (show 0 ≤ w - (19 + 3) by omega) hc0 _ _ _ Qc hq) h (fun v2 m1 h => ?_)
    refine fT_ss 2 (pc' := 19) (L' := [some (.ref c0), some (.ref c1), some (.int x2), some (.int x3), some (.int x4), some (.int v2), none]) (st' := [.int x3]) rfl ?_
    refine fO_if 47 rfl rfl h (fun h => ?_) (fun h => ?_)
    · refine fT_ss 1 (pc' := 48) (L' := [some (.ref c0), some (.ref c1), some (.int x2), some (.int x3), some (.int x4), some (.int v2), none]) (st' := [.int (nI 0)]) rfl ?_
      exact fT_mk rfl rfl (t13_48 hX hd hw hc0 hc1 _ _ _ _ _ _ Q h)
    · refine fT_ss 2 (pc' := 25) (L' := [some (.ref c0), some (.ref c1), some (.int x2), some (.int x3), some (.int x4), some (.int v2), none]) (st' := [.int (nI 2), .int v2]) rfl ?_
      refine fO_ic 47 rfl rfl h (fun h => ?_) (fun h => ?_)
      · refine fT_ss 1 (pc' := 48) (L' := [some (.ref c0), some (.ref c1), some (.int x2), some (.int x3), some (.int x4), some (.int v2), none]) (st' := [.int (nI 0)]) rfl ?_
        exact fT_mk rfl rfl (t13_48 hX hd hw hc0 hc1 _ _ _ _ _ _ Q h)
      · refine fT_ss 3 (pc' := 31) (L' := [some (.ref c0), some (.ref c1), some (.int x2), some (.int x3), some (.int x4), some (.int v2), none]) (st' := [.int (nI 0), .int x2, .ref c0]) rfl ?_
        refine fO_qv2 Value.int (r' := ai_r4) (k := c0) (As := [.int x2, .int (nI 0)]) (rest := []) rfl rfl rfl rfl hc0.1 rfl (by omega) (show 19 + 3 ≤ w by omega) (Nat.le_of_ble_eq_true rfl) (Nat.le_of_ble_eq_true rfl) (all_c (kl_c hc0.2.2.1) (all_c (kl_c hc1.2.2.1) rfl)) rfl (fun Qc hq => t4_0 hX (show 0 ≤ d - 1 by omega) (show 0 ≤ w - (19 + 3) by omega) hc0 _ _ _ Qc hq) h (fun v6 m5 h => ?_)
        refine fT_ss 1 (pc' := 36) (L' := [some (.ref c0), some (.ref c1), some (.int x2), some (.int x3), some (.int x4), some (.int v2), none]) (st' := [.int x4, .int v6]) rfl ?_
        refine fO_qs2 Value.int (r' := ai_r90) (As := [.int v6, .int x4]) (rest := []) rfl rfl rfl rfl rfl rfl (by omega) (show 19 + 2 ≤ w by omega) (Nat.le_of_ble_eq_true rfl) (Nat.le_of_ble_eq_true rfl) (all_c (kl_c hc0.2.2.1) (all_c (kl_c hc1.2.2.1) rfl)) rfl (fun Qc hq => t90_0 hX (show 0 ≤ d - 1 by omega) (show 0 ≤ w - (19 + 2) by omega) _ _ _ Qc hq) h (fun v8 m7 h => ?_)
        refine fT_ss 1 (pc' := 40) (L' := [some (.ref c0), some (.ref c1), some (.int x2), some (.int x3), some (.int x4), some (.int v2), none]) (st' := [.int (nI 2), .int v8]) rfl ?_
        refine fO_ic 47 rfl rfl h (fun h => ?_) (fun h => ?_)
        · refine fT_ss 1 (pc' := 48) (L' := [some (.ref c0), some (.ref c1), some (.int x2), some (.int x3), some (.int x4), some (.int v2), none]) (st' := [.int (nI 0)]) rfl ?_
          exact fT_mk rfl rfl (t13_48 hX hd hw hc0 hc1 _ _ _ _ _ _ Q h)
        · refine fT_ss 2 (pc' := 48) (L' := [some (.ref c0), some (.ref c1), some (.int x2), some (.int x3), some (.int x4), some (.int v2), none]) (st' := [.int (nI 1)]) rfl ?_
          exact fT_mk rfl rfl (t13_48 hX hd hw hc0 hc1 _ _ _ _ _ _ Q h)
noncomputable def g13_3 (c0 : Nat) (c1 : Nat) (x2 : Int32) (x3 : Int32) (x4 : Int32) (m : fm) : Option (Int32 × fm) := wl (fun s : Int32 × fm => s13_3 c0 c1 x2 x3 s.1 s.2) lf (x4, m)
theorem t13_3 {X : ai_X} {d w : Nat} (hX : X[1]? = some (39, ai_sh)) (hd : 1 ≤ d) (hw : 22 ≤ w) {c0 : Nat} (hc0 : isC c0) {c1 : Nat} (hc1 : isC c1) (x2 : Int32) (x3 : Int32) (x4 : Int32) (m : fm) (Q : Option Value → fm → Prop) (h : ob (g13_3 c0 c1 x2 x3 x4 m) (fun z : Int32 × fm => Q (some (.int z.1)) z.2)) : fT X d w ai_r13 3 [some (.ref c0), some (.ref c1), some (.int x2), some (.int x3), some (.int x4), none, none] [] m Q :=
  wl_ob (P := fun s : Int32 × fm => fT X d w ai_r13 3 [some (.ref c0), some (.ref c1), some (.int x2), some (.int x3), some (.int s.1), none, none] [] s.2 Q) (fun s h => b13_3 hX hd hw hc0 hc1 x2 x3 s.1 s.2 Q h) lf (x4, m) h
noncomputable def g13 (c0 : Nat) (c1 : Nat) (x2 : Int32) (x3 : Int32) (m : fm) : Option (Int32 × fm) :=
  g13_3 c0 c1 x2 x3 (nI 1) m
set_option maxHeartbeats 4000000 in
theorem t13_0 {X : ai_X} {d w : Nat} (hX : X[1]? = some (39, ai_sh)) (hd : 1 ≤ d) (hw : 22 ≤ w) {c0 : Nat} (hc0 : isC c0) {c1 : Nat} (hc1 : isC c1) (x2 : Int32) (x3 : Int32) (m : fm) (Q : Option Value → fm → Prop) (h : ob (g13 c0 c1 x2 x3 m) (fun z : Int32 × fm => Q (some (.int z.1)) z.2)) : fT X d w ai_r13 0 [some (.ref c0), some (.ref c1), some (.int x2), some (.int x3), none, none, none] [] m Q := by
  unfold g13 at h
  refine fT_ss 2 (pc' := 3) (L' := [some (.ref c0), some (.ref c1), some (.int x2), some (.int x3), some (.int (nI 1)), none, none]) (st' := []) rfl ?_
  exact fT_mk rfl rfl (t13_3 hX hd hw hc0 hc1 _ _ _ _ Q h)
noncomputable def s12_32 (c0 : Nat) (c1 : Nat) (x2 : Int32) (x3 : Int32) (m : fm) : Option ((Int32 × fm) ⊕ (Int32 × fm)) :=
  gfI m c0 1 fun v7 =>
  bif ai_c .ge x3 v7 then
    some (.inr ((nI 1), m))
  else
    cl2 (g4 c0 x3 (nI 0) m) fun v9 m8 =>
    cl2 (g4 c1 x3 (nI 0) m8) fun v11 m10 =>
    bif ai_c .ne v9 v11 then
      some (.inr ((nI 0), m10))
    else
      cl2 (g13 c0 c1 x3 x2 m10) fun v13 m12 =>
      bif ai_c .ne v13 0 then
        some (.inl ((x3 + (nI 1)), m12))
      else
        some (.inr ((nI 0), m12))
set_option maxHeartbeats 4000000 in
theorem b12_32 {X : ai_X} {d w : Nat} (hX : X[1]? = some (39, ai_sh)) (hd : 2 ≤ d) (hw : 48 ≤ w) {c0 : Nat} (hc0 : isC c0) {c1 : Nat} (hc1 : isC c1) (x2 : Int32) (x3 : Int32) (m : fm) (Q : Option Value → fm → Prop) (h : ob (s12_32 c0 c1 x2 x3 m) (Sum.elim (fun s : Int32 × fm => fT X d w ai_r12 32 [some (.ref c0), some (.ref c1), some (.int x2), some (.int s.1)] [] s.2 Q) (fun z : Int32 × fm => Q (some (.int z.1)) z.2))) : fT X d w ai_r12 32 [some (.ref c0), some (.ref c1), some (.int x2), some (.int x3)] [] m Q := by
  unfold s12_32 at h
  refine fT_ss 2 (pc' := 34) (L' := [some (.ref c0), some (.ref c1), some (.int x2), some (.int x3)]) (st' := [.ref c0, .int x3]) rfl ?_
  refine fO_gi rfl hc0.1 rfl h (fun v7 h => ?_)
  refine fO_ic 73 rfl rfl h (fun h => ?_) (fun h => ?_)
  · refine fT_ss 1 (pc' := 74) (L' := [none, none, none, none]) (st' := [.int (nI 1)]) rfl ?_
    exact fT_r rfl rfl h
  · refine fT_ss 3 (pc' := 43) (L' := [some (.ref c0), some (.ref c1), some (.int x2), some (.int x3)]) (st' := [.int (nI 0), .int x3, .ref c0]) rfl ?_
    refine fO_qv2 Value.int (r' := ai_r4) (k := c0) (As := [.int x3, .int (nI 0)]) (rest := []) rfl rfl rfl rfl hc0.1 rfl (by omega) (show 19 + 3 ≤ w by omega) (Nat.le_of_ble_eq_true rfl) (Nat.le_of_ble_eq_true rfl) (all_c (kl_c hc0.2.2.1) (all_c (kl_c hc1.2.2.1) rfl)) rfl (fun Qc hq => t4_0 hX (show 0 ≤ d - 1 by omega) (show 0 ≤ w - (19 + 3) by omega) hc0 _ _ _ Qc hq) h (fun v9 m8 h => ?_)
    refine fT_ss 3 (pc' := 49) (L' := [some (.ref c0), some (.ref c1), some (.int x2), some (.int x3)]) (st' := [.int (nI 0), .int x3, .ref c1, .int v9]) rfl ?_
    refine fO_qv2 Value.int (r' := ai_r4) (k := c1) (As := [.int x3, .int (nI 0)]) (rest := [.int v9]) rfl rfl rfl rfl hc1.1 rfl (by omega) (show 19 + 3 ≤ w by omega) (Nat.le_of_ble_eq_true rfl) (Nat.le_of_ble_eq_true rfl) (all_c (kl_c hc0.2.2.1) (all_c (kl_c hc1.2.2.1) rfl)) rfl (fun Qc hq => t4_0 hX (show 0 ≤ d - 1 by omega) (show 0 ≤ w - (19 + 3) by omega) hc1 _ _ _ Qc hq) h (fun v11 m10 h => ?_)
    refine fO_ic 65 rfl rfl h (fun h => ?_) (fun h => ?_)
    · refine fT_ss 1 (pc' := 66) (L' := [none, none, none, none]) (st' := [.int (nI 0)]) rfl ?_
      exact fT_r rfl rfl h
    · refine fT_ss 4 (pc' := 59) (L' := [some (.ref c0), some (.ref c1), some (.int x2), some (.int x3)]) (st' := [.int x2, .int x3, .ref c1, .ref c0]) rfl ?_
      refine fO_qv2 Value.int (r' := ai_r13) (k := c0) (As := [.ref c1, .int x3, .int x2]) (rest := []) rfl rfl rfl rfl hc0.1 rfl (by omega) (show 19 + 7 ≤ w by omega) (Nat.le_of_ble_eq_true rfl) (Nat.le_of_ble_eq_true rfl) (all_c (kl_c hc0.2.2.1) (all_c (kl_c hc1.2.2.1) rfl)) rfl (fun Qc hq => t13_0 hX (show 1 ≤ d - 1 by omega) (show 22 ≤ w - (19 + 7) by omega) hc0 hc1 _ _ _ Qc hq) h (fun v13 m12 h => ?_)
      refine fO_if 67 rfl rfl h (fun h => ?_) (fun h => ?_)
      · refine fT_ss 2 (pc' := 32) (L' := [some (.ref c0), some (.ref c1), some (.int x2), some (.int (x3 + (nI 1)))]) (st' := []) rfl ?_
        replace h := ob_inl h
        exact fT_mk rfl rfl h
      · refine fT_ss 1 (pc' := 66) (L' := [none, none, none, none]) (st' := [.int (nI 0)]) rfl ?_
        exact fT_r rfl rfl h
noncomputable def g12_32 (c0 : Nat) (c1 : Nat) (x2 : Int32) (x3 : Int32) (m : fm) : Option (Int32 × fm) := wl (fun s : Int32 × fm => s12_32 c0 c1 x2 s.1 s.2) lf (x3, m)
theorem t12_32 {X : ai_X} {d w : Nat} (hX : X[1]? = some (39, ai_sh)) (hd : 2 ≤ d) (hw : 48 ≤ w) {c0 : Nat} (hc0 : isC c0) {c1 : Nat} (hc1 : isC c1) (x2 : Int32) (x3 : Int32) (m : fm) (Q : Option Value → fm → Prop) (h : ob (g12_32 c0 c1 x2 x3 m) (fun z : Int32 × fm => Q (some (.int z.1)) z.2)) : fT X d w ai_r12 32 [some (.ref c0), some (.ref c1), some (.int x2), some (.int x3)] [] m Q :=
  wl_ob (P := fun s : Int32 × fm => fT X d w ai_r12 32 [some (.ref c0), some (.ref c1), some (.int x2), some (.int s.1)] [] s.2 Q) (fun s h => b12_32 hX hd hw hc0 hc1 x2 s.1 s.2 Q h) lf (x3, m) h
noncomputable def g12 (c0 : Nat) (c1 : Nat) (m : fm) : Option (Int32 × fm) :=
  gfI m c0 1 fun v1 =>
  gfI m c1 1 fun v2 =>
  bif ai_c .eq v1 v2 then
    cl2 (g14 c0 m) fun v4 m3 =>
    cl2 (g14 c1 m3) fun v6 m5 =>
    bif ai_c .eq v4 v6 then
      g12_32 c0 c1 (nI 0) (nI 0) m5
    else
      g12_32 c0 c1 (nI 1) (nI 0) m5
  else
    some ((nI 0), m)
set_option maxHeartbeats 4000000 in
theorem t12_0 {X : ai_X} {d w : Nat} (hX : X[1]? = some (39, ai_sh)) (hd : 2 ≤ d) (hw : 48 ≤ w) {c0 : Nat} (hc0 : isC c0) {c1 : Nat} (hc1 : isC c1) (m : fm) (Q : Option Value → fm → Prop) (h : ob (g12 c0 c1 m) (fun z : Int32 × fm => Q (some (.int z.1)) z.2)) : fT X d w ai_r12 0 [some (.ref c0), some (.ref c1), none, none] [] m Q := by
  unfold g12 at h
  refine fT_ss 1 (pc' := 1) (L' := [some (.ref c0), some (.ref c1), none, none]) (st' := [.ref c0]) rfl ?_
  refine fO_gi rfl hc0.1 rfl h (fun v1 h => ?_)
  refine fT_ss 1 (pc' := 5) (L' := [some (.ref c0), some (.ref c1), none, none]) (st' := [.ref c1, .int v1]) rfl ?_
  refine fO_gi rfl hc1.1 rfl h (fun v2 h => ?_)
  refine fO_ic 13 rfl rfl h (fun h => ?_) (fun h => ?_)
  · refine fT_ss 1 (pc' := 14) (L' := [some (.ref c0), some (.ref c1), none, none]) (st' := [.ref c0]) rfl ?_
    refine fO_qv2 Value.int (r' := ai_r14) (k := c0) (As := []) (rest := []) rfl rfl rfl rfl hc0.1 rfl (by omega) (show 19 + 3 ≤ w by omega) (Nat.le_of_ble_eq_true rfl) (Nat.le_of_ble_eq_true rfl) (all_c (kl_c hc0.2.2.1) (all_c (kl_c hc1.2.2.1) rfl)) rfl (fun Qc hq => t14_0 hX (show 1 ≤ d - 1 by omega) (show 22 ≤ w - (19 + 3) by omega) hc0 _ Qc hq) h (fun v4 m3 h => ?_)
    refine fT_ss 1 (pc' := 18) (L' := [some (.ref c0), some (.ref c1), none, none]) (st' := [.ref c1, .int v4]) rfl ?_
    refine fO_qv2 Value.int (r' := ai_r14) (k := c1) (As := []) (rest := [.int v4]) rfl rfl rfl rfl hc1.1 rfl (by omega) (show 19 + 3 ≤ w by omega) (Nat.le_of_ble_eq_true rfl) (Nat.le_of_ble_eq_true rfl) (all_c (kl_c hc0.2.2.1) (all_c (kl_c hc1.2.2.1) rfl)) rfl (fun Qc hq => t14_0 hX (show 1 ≤ d - 1 by omega) (show 22 ≤ w - (19 + 3) by omega) hc1 _ Qc hq) h (fun v6 m5 h => ?_)
    refine fO_ic 28 rfl rfl h (fun h => ?_) (fun h => ?_)
    · refine fT_ss 4 (pc' := 32) (L' := [some (.ref c0), some (.ref c1), some (.int (nI 0)), some (.int (nI 0))]) (st' := []) rfl ?_
      exact fT_mk rfl rfl (t12_32 hX hd hw hc0 hc1 _ _ _ Q h)
    · refine fT_ss 5 (pc' := 32) (L' := [some (.ref c0), some (.ref c1), some (.int (nI 1)), some (.int (nI 0))]) (st' := []) rfl ?_
      exact fT_mk rfl rfl (t12_32 hX hd hw hc0 hc1 _ _ _ Q h)
  · refine fT_ss 1 (pc' := 12) (L' := [none, none, none, none]) (st' := [.int (nI 0)]) rfl ?_
    exact fT_r rfl rfl h
noncomputable def g17 (x1 : Int32) (x2 : Int32) (m : fm) : Option (Int64 × fm) :=
  ldL m 5 96 ((x1 * (nI 4)) + x2) fun v1 =>
  some (v1, m)
set_option maxHeartbeats 4000000 in
theorem t17_0 {X : ai_X} {d w : Nat} (hX : X[1]? = some (39, ai_sh)) (hd : 0 ≤ d) (hw : 0 ≤ w) (x1 : Int32) (x2 : Int32) (m : fm) (Q : Option Value → fm → Prop) (h : ob (g17 x1 x2 m) (fun z : Int64 × fm => Q (some (.long z.1)) z.2)) : fT X d w ai_r17 0 [some (.ref 4), some (.int x1), some (.int x2)] [] m Q := by
  unfold g17 at h
  refine fT_ss 1 (pc' := 1) (L' := [some (.ref 4), some (.int x1), some (.int x2)]) (st' := [.ref 4]) rfl ?_
  refine fT_gr (q := 5) rfl rfl rfl ?_
  refine fT_ss 5 (pc' := 9) (L' := [some (.ref 4), some (.int x1), some (.int x2)]) (st' := [.int ((x1 * (nI 4)) + x2), .ref 5]) rfl ?_
  refine fO_la rfl rfl h (fun v1 h => ?_)
  exact fT_r rfl rfl h
noncomputable def g16 (x1 : Int32) (m : fm) : Option (Int32 × fm) :=
  cl2 (g17 x1 (nI 0) m) fun v2 m1 =>
  bif ai_c .eq (lg_cmp v2 (Int64.ofNat 2000000000000)) 0 then
    some ((nI 0), m1)
  else
    some ((nI 1), m1)
set_option maxHeartbeats 4000000 in
theorem t16_0 {X : ai_X} {d w : Nat} (hX : X[1]? = some (39, ai_sh)) (hd : 1 ≤ d) (hw : 22 ≤ w) (x1 : Int32) (m : fm) (Q : Option Value → fm → Prop) (h : ob (g16 x1 m) (fun z : Int32 × fm => Q (some (.int z.1)) z.2)) : fT X d w ai_r16 0 [some (.ref 4), some (.int x1)] [] m Q := by
  unfold g16 at h
  refine fT_ss 3 (pc' := 3) (L' := [some (.ref 4), some (.int x1)]) (st' := [.int (nI 0), .int x1, .ref 4]) rfl ?_
  refine fO_qv2 Value.long (r' := ai_r17) (k := 4) (As := [.int x1, .int (nI 0)]) (rest := []) rfl rfl rfl rfl rfl rfl (by omega) (show 19 + 3 ≤ w by omega) (Nat.le_of_ble_eq_true rfl) (Nat.le_of_ble_eq_true rfl) rfl rfl (fun Qc hq => t17_0 hX (show 0 ≤ d - 1 by omega) (show 0 ≤ w - (19 + 3) by omega) _ _ _ Qc hq) h (fun v2 m1 h => ?_)
  refine fT_lc rfl ?_
  refine fT_ss 1 (pc' := 10) (L' := [some (.ref 4), some (.int x1)]) (st' := [.int (lg_cmp v2 (Int64.ofNat 2000000000000))]) rfl ?_
  refine fO_if 17 rfl rfl h (fun h => ?_) (fun h => ?_)
  · refine fT_ss 1 (pc' := 18) (L' := [none, none]) (st' := [.int (nI 0)]) rfl ?_
    exact fT_r rfl rfl h
  · refine fT_ss 2 (pc' := 18) (L' := [none, none]) (st' := [.int (nI 1)]) rfl ?_
    exact fT_r rfl rfl h
noncomputable def g18 (x1 : Int32) (x2 : Int32) (m : fm) : Option (Int32 × fm) :=
  ldI m 6 24 x1 fun v1 =>
  bif ai_c .eq (v1 &&& ((nI 1) <<< (x2 &&& 31))) 0 then
    some ((nI 0), m)
  else
    some ((nI 1), m)
set_option maxHeartbeats 4000000 in
theorem t18_0 {X : ai_X} {d w : Nat} (hX : X[1]? = some (39, ai_sh)) (hd : 0 ≤ d) (hw : 0 ≤ w) (x1 : Int32) (x2 : Int32) (m : fm) (Q : Option Value → fm → Prop) (h : ob (g18 x1 x2 m) (fun z : Int32 × fm => Q (some (.int z.1)) z.2)) : fT X d w ai_r18 0 [some (.ref 4), some (.int x1), some (.int x2)] [] m Q := by
  unfold g18 at h
  refine fT_ss 1 (pc' := 1) (L' := [some (.ref 4), some (.int x1), some (.int x2)]) (st' := [.ref 4]) rfl ?_
  refine fT_gr (q := 6) rfl rfl rfl ?_
  refine fT_ss 1 (pc' := 5) (L' := [some (.ref 4), some (.int x1), some (.int x2)]) (st' := [.int x1, .ref 6]) rfl ?_
  refine fO_ia rfl rfl rfl h (fun v1 h => ?_)
  refine fT_ss 4 (pc' := 10) (L' := [some (.ref 4), some (.int x1), some (.int x2)]) (st' := [.int (v1 &&& ((nI 1) <<< (x2 &&& 31)))]) rfl ?_
  refine fO_if 17 rfl rfl h (fun h => ?_) (fun h => ?_)
  · refine fT_ss 1 (pc' := 18) (L' := [none, none, none]) (st' := [.int (nI 0)]) rfl ?_
    exact fT_r rfl rfl h
  · refine fT_ss 2 (pc' := 18) (L' := [none, none, none]) (st' := [.int (nI 1)]) rfl ?_
    exact fT_r rfl rfl h
noncomputable def g24 (c1 : Nat) (x2 : Int32) (x3 : Int32) (m : fm) : Option (Int64 × fm) :=
  ldI m (c1 + 1) 96 ((x2 * (nI 4)) + x3) fun v1 =>
  ldL m 5 96 ((x2 * (nI 4)) + v1) fun v2 =>
  some (v2, m)
set_option maxHeartbeats 4000000 in
theorem t24_0 {X : ai_X} {d w : Nat} (hX : X[1]? = some (39, ai_sh)) (hd : 0 ≤ d) (hw : 0 ≤ w) {c1 : Nat} (hc1 : isC c1) (x2 : Int32) (x3 : Int32) (m : fm) (Q : Option Value → fm → Prop) (h : ob (g24 c1 x2 x3 m) (fun z : Int64 × fm => Q (some (.long z.1)) z.2)) : fT X d w ai_r24 0 [some (.ref 4), some (.ref c1), some (.int x2), some (.int x3)] [] m Q := by
  unfold g24 at h
  refine fT_ss 1 (pc' := 1) (L' := [some (.ref 4), some (.ref c1), some (.int x2), some (.int x3)]) (st' := [.ref 4]) rfl ?_
  refine fT_gr (q := 5) rfl rfl rfl ?_
  refine fT_ss 4 (pc' := 8) (L' := [some (.ref 4), some (.ref c1), some (.int x2), some (.int x3)]) (st' := [.ref c1, .int (x2 * (nI 4)), .ref 5]) rfl ?_
  refine fT_gr rfl hc1.1 rfl ?_
  refine fT_ss 5 (pc' := 16) (L' := [some (.ref 4), some (.ref c1), some (.int x2), some (.int x3)]) (st' := [.int ((x2 * (nI 4)) + x3), .ref (c1 + 1), .int (x2 * (nI 4)), .ref 5]) rfl ?_
  refine fO_ia rfl hc1.2.1 hc1.2.2.2.2 h (fun v1 h => ?_)
  refine fT_ss 1 (pc' := 18) (L' := [some (.ref 4), some (.ref c1), some (.int x2), some (.int x3)]) (st' := [.int ((x2 * (nI 4)) + v1), .ref 5]) rfl ?_
  refine fO_la rfl rfl h (fun v2 h => ?_)
  exact fT_r rfl rfl h
noncomputable def g23 (c1 : Nat) (x2 : Int32) (m : fm) : Option (Int32 × fm) :=
  cl2 (g24 c1 x2 (nI 1) m) fun v2 m1 =>
  cl2 (g24 c1 x2 (nI 2) m1) fun v4 m3 =>
  bif ai_c .eq (lg_cmp v2 (Int64.ofNat 1000000000000)) 0 then
    some ((nI 0), m3)
  else
    bif ai_c .ne (lg_cmp v4 (Int64.ofNat 1000000000000)) 0 then
      bif ai_c .ge (lg_cmp v2 v4) 0 then
        some ((nI 4), m3)
      else
        some ((nI 2), m3)
    else
      some ((nI 0), m3)
set_option maxHeartbeats 4000000 in
theorem t23_0 {X : ai_X} {d w : Nat} (hX : X[1]? = some (39, ai_sh)) (hd : 1 ≤ d) (hw : 23 ≤ w) {c1 : Nat} (hc1 : isC c1) (x2 : Int32) (m : fm) (Q : Option Value → fm → Prop) (h : ob (g23 c1 x2 m) (fun z : Int32 × fm => Q (some (.int z.1)) z.2)) : fT X d w ai_r23 0 [some (.ref 4), some (.ref c1), some (.int x2), none, none, none, none] [] m Q := by
  unfold g23 at h
  refine fT_ss 4 (pc' := 4) (L' := [some (.ref 4), some (.ref c1), some (.int x2), none, none, none, none]) (st' := [.int (nI 1), .int x2, .ref c1, .ref 4]) rfl ?_
  refine fO_qv2 Value.long (r' := ai_r24) (k := 4) (As := [.ref c1, .int x2, .int (nI 1)]) (rest := []) rfl rfl rfl rfl rfl rfl (by omega) (show 19 + 4 ≤ w by omega) (Nat.le_of_ble_eq_true rfl) (Nat.le_of_ble_eq_true rfl) (all_c rfl (all_c (kl_c hc1.2.2.1) rfl)) rfl (fun Qc hq => t24_0 hX (show 0 ≤ d - 1 by omega) (show 0 ≤ w - (19 + 4) by omega) hc1 _ _ _ Qc hq) h (fun v2 m1 h => ?_)
  refine fT_ss 5 (pc' := 12) (L' := [some (.ref 4), some (.ref c1), some (.int x2), some (.long v2), none, none, none]) (st' := [.int (nI 2), .int x2, .ref c1, .ref 4]) rfl ?_
  refine fO_qv2 Value.long (r' := ai_r24) (k := 4) (As := [.ref c1, .int x2, .int (nI 2)]) (rest := []) rfl rfl rfl rfl rfl rfl (by omega) (show 19 + 4 ≤ w by omega) (Nat.le_of_ble_eq_true rfl) (Nat.le_of_ble_eq_true rfl) (all_c rfl (all_c (kl_c hc1.2.2.1) rfl)) rfl (fun Qc hq => t24_0 hX (show 0 ≤ d - 1 by omega) (show 0 ≤ w - (19 + 4) by omega) hc1 _ _ _ Qc hq) h (fun v4 m3 h => ?_)
  refine fT_ss 2 (pc' := 18) (L' := [some (.ref 4), some (.ref c1), some (.int x2), some (.long v2), none, some (.long v4), none]) (st' := [.long v2]) rfl ?_
  refine fT_lc rfl ?_
  refine fT_ss 1 (pc' := 22) (L' := [some (.ref 4), some (.ref c1), some (.int x2), some (.long v2), none, some (.long v4), none]) (st' := [.int (lg_cmp v2 (Int64.ofNat 1000000000000))]) rfl ?_
  refine fO_if 34 rfl rfl h (fun h => ?_) (fun h => ?_)
  · refine fT_ss 1 (pc' := 35) (L' := [none, none, none, none, none, none, none]) (st' := [.int (nI 0)]) rfl ?_
    exact fT_r rfl rfl h
  · refine fT_ss 1 (pc' := 27) (L' := [none, none, none, some (.long v2), none, some (.long v4), none]) (st' := [.long v4]) rfl ?_
    refine fT_lc rfl ?_
    refine fT_ss 1 (pc' := 31) (L' := [none, none, none, some (.long v2), none, some (.long v4), none]) (st' := [.int (lg_cmp v4 (Int64.ofNat 1000000000000))]) rfl ?_
    refine fO_if 36 rfl rfl h (fun h => ?_) (fun h => ?_)
    · refine fT_ss 3 (pc' := 40) (L' := [none, none, none, some (.long v2), none, some (.long v4), none]) (st' := [.int (lg_cmp v2 v4)]) rfl ?_
      refine fO_if 47 rfl rfl h (fun h => ?_) (fun h => ?_)
      · refine fT_ss 1 (pc' := 48) (L' := [none, none, none, none, none, none, none]) (st' := [.int (nI 4)]) rfl ?_
        exact fT_r rfl rfl h
      · refine fT_ss 2 (pc' := 48) (L' := [none, none, none, none, none, none, none]) (st' := [.int (nI 2)]) rfl ?_
        exact fT_r rfl rfl h
    · refine fT_ss 1 (pc' := 35) (L' := [none, none, none, none, none, none, none]) (st' := [.int (nI 0)]) rfl ?_
      exact fT_r rfl rfl h
noncomputable def g21 (c1 : Nat) (x2 : Int32) (m : fm) : Option (Int32 × fm) :=
  cl2 (g24 c1 x2 (nI 1) m) fun v2 m1 =>
  bif ai_c .eq (lg_cmp v2 (Int64.ofNat 1000000000000)) 0 then
    some ((nI 1), m1)
  else
    bif ai_c .ne (lg_cmp v2 (Int64.ofNat 0)) 0 then
      some ((nI 0), m1)
    else
      some ((nI 1), m1)
set_option maxHeartbeats 4000000 in
theorem t21_0 {X : ai_X} {d w : Nat} (hX : X[1]? = some (39, ai_sh)) (hd : 1 ≤ d) (hw : 23 ≤ w) {c1 : Nat} (hc1 : isC c1) (x2 : Int32) (m : fm) (Q : Option Value → fm → Prop) (h : ob (g21 c1 x2 m) (fun z : Int32 × fm => Q (some (.int z.1)) z.2)) : fT X d w ai_r21 0 [some (.ref 4), some (.ref c1), some (.int x2), none, none] [] m Q := by
  unfold g21 at h
  refine fT_ss 4 (pc' := 4) (L' := [some (.ref 4), some (.ref c1), some (.int x2), none, none]) (st' := [.int (nI 1), .int x2, .ref c1, .ref 4]) rfl ?_
  refine fO_qv2 Value.long (r' := ai_r24) (k := 4) (As := [.ref c1, .int x2, .int (nI 1)]) (rest := []) rfl rfl rfl rfl rfl rfl (by omega) (show 19 + 4 ≤ w by omega) (Nat.le_of_ble_eq_true rfl) (Nat.le_of_ble_eq_true rfl) (all_c rfl (all_c (kl_c hc1.2.2.1) rfl)) rfl (fun Qc hq => t24_0 hX (show 0 ≤ d - 1 by omega) (show 0 ≤ w - (19 + 4) by omega) hc1 _ _ _ Qc hq) h (fun v2 m1 h => ?_)
  refine fT_ss 2 (pc' := 9) (L' := [some (.ref 4), some (.ref c1), some (.int x2), some (.long v2), none]) (st' := [.long v2]) rfl ?_
  refine fT_lc rfl ?_
  refine fT_ss 1 (pc' := 13) (L' := [some (.ref 4), some (.ref c1), some (.int x2), some (.long v2), none]) (st' := [.int (lg_cmp v2 (Int64.ofNat 1000000000000))]) rfl ?_
  refine fO_if 22 rfl rfl h (fun h => ?_) (fun h => ?_)
  · refine fT_ss 2 (pc' := 27) (L' := [none, none, none, none, none]) (st' := [.int (nI 1)]) rfl ?_
    exact fT_r rfl rfl h
  · refine fT_ss 3 (pc' := 19) (L' := [none, none, none, some (.long v2), none]) (st' := [.int (lg_cmp v2 (Int64.ofNat 0))]) rfl ?_
    refine fO_if 26 rfl rfl h (fun h => ?_) (fun h => ?_)
    · refine fT_ss 1 (pc' := 27) (L' := [none, none, none, none, none]) (st' := [.int (nI 0)]) rfl ?_
      exact fT_r rfl rfl h
    · refine fT_ss 2 (pc' := 27) (L' := [none, none, none, none, none]) (st' := [.int (nI 1)]) rfl ?_
      exact fT_r rfl rfl h
noncomputable def g20 (c1 : Nat) (x2 : Int32) (m : fm) : Option (Int32 × fm) :=
  cl2 (g4 c1 x2 (nI 1) m) fun v2 m1 =>
  cl2 (g18 x2 v2 m1) fun v4 m3 =>
  bif ai_c .eq v4 0 then
    some ((nI 9), m3)
  else
    some ((nI 1), m3)
set_option maxHeartbeats 4000000 in
theorem t20_0 {X : ai_X} {d w : Nat} (hX : X[1]? = some (39, ai_sh)) (hd : 1 ≤ d) (hw : 22 ≤ w) {c1 : Nat} (hc1 : isC c1) (x2 : Int32) (m : fm) (Q : Option Value → fm → Prop) (h : ob (g20 c1 x2 m) (fun z : Int32 × fm => Q (some (.int z.1)) z.2)) : fT X d w ai_r20 0 [some (.ref 4), some (.ref c1), some (.int x2)] [] m Q := by
  unfold g20 at h
  refine fT_ss 5 (pc' := 5) (L' := [some (.ref 4), some (.ref c1), some (.int x2)]) (st' := [.int (nI 1), .int x2, .ref c1, .int x2, .ref 4]) rfl ?_
  refine fO_qv2 Value.int (r' := ai_r4) (k := c1) (As := [.int x2, .int (nI 1)]) (rest := [.int x2, .ref 4]) rfl rfl rfl rfl hc1.1 rfl (by omega) (show 19 + 3 ≤ w by omega) (Nat.le_of_ble_eq_true rfl) (Nat.le_of_ble_eq_true rfl) (all_c rfl (all_c (kl_c hc1.2.2.1) rfl)) rfl (fun Qc hq => t4_0 hX (show 0 ≤ d - 1 by omega) (show 0 ≤ w - (19 + 3) by omega) hc1 _ _ _ Qc hq) h (fun v2 m1 h => ?_)
  refine fO_qv2 Value.int (r' := ai_r18) (k := 4) (As := [.int x2, .int v2]) (rest := []) rfl rfl rfl rfl rfl rfl (by omega) (show 19 + 3 ≤ w by omega) (Nat.le_of_ble_eq_true rfl) (Nat.le_of_ble_eq_true rfl) (all_c rfl (all_c (kl_c hc1.2.2.1) rfl)) rfl (fun Qc hq => t18_0 hX (show 0 ≤ d - 1 by omega) (show 0 ≤ w - (19 + 3) by omega) _ _ _ Qc hq) h (fun v4 m3 h => ?_)
  refine fO_if 18 rfl rfl h (fun h => ?_) (fun h => ?_)
  · refine fT_ss 1 (pc' := 20) (L' := [none, none, none]) (st' := [.int (nI 9)]) rfl ?_
    exact fT_r rfl rfl h
  · refine fT_ss 2 (pc' := 20) (L' := [none, none, none]) (st' := [.int (nI 1)]) rfl ?_
    exact fT_r rfl rfl h
noncomputable def g22 (c1 : Nat) (x2 : Int32) (m : fm) : Option (Int32 × fm) :=
  cl2 (g24 c1 x2 (nI 3) m) fun v2 m1 =>
  bif ai_c .eq (lg_cmp v2 (Int64.ofNat 1000000000000)) 0 then
    some ((nI 0), m1)
  else
    bif ai_c .eq (lg_cmp v2 (Int64.ofNat 0)) 0 then
      some ((nI 0), m1)
    else
      some ((nI 1), m1)
set_option maxHeartbeats 4000000 in
theorem t22_0 {X : ai_X} {d w : Nat} (hX : X[1]? = some (39, ai_sh)) (hd : 1 ≤ d) (hw : 23 ≤ w) {c1 : Nat} (hc1 : isC c1) (x2 : Int32) (m : fm) (Q : Option Value → fm → Prop) (h : ob (g22 c1 x2 m) (fun z : Int32 × fm => Q (some (.int z.1)) z.2)) : fT X d w ai_r22 0 [some (.ref 4), some (.ref c1), some (.int x2), none, none] [] m Q := by
  unfold g22 at h
  refine fT_ss 4 (pc' := 4) (L' := [some (.ref 4), some (.ref c1), some (.int x2), none, none]) (st' := [.int (nI 3), .int x2, .ref c1, .ref 4]) rfl ?_
  refine fO_qv2 Value.long (r' := ai_r24) (k := 4) (As := [.ref c1, .int x2, .int (nI 3)]) (rest := []) rfl rfl rfl rfl rfl rfl (by omega) (show 19 + 4 ≤ w by omega) (Nat.le_of_ble_eq_true rfl) (Nat.le_of_ble_eq_true rfl) (all_c rfl (all_c (kl_c hc1.2.2.1) rfl)) rfl (fun Qc hq => t24_0 hX (show 0 ≤ d - 1 by omega) (show 0 ≤ w - (19 + 4) by omega) hc1 _ _ _ Qc hq) h (fun v2 m1 h => ?_)
  refine fT_ss 2 (pc' := 9) (L' := [some (.ref 4), some (.ref c1), some (.int x2), some (.long v2), none]) (st' := [.long v2]) rfl ?_
  refine fT_lc rfl ?_
  refine fT_ss 1 (pc' := 13) (L' := [some (.ref 4), some (.ref c1), some (.int x2), some (.long v2), none]) (st' := [.int (lg_cmp v2 (Int64.ofNat 1000000000000))]) rfl ?_
  refine fO_if 26 rfl rfl h (fun h => ?_) (fun h => ?_)
  · refine fT_ss 1 (pc' := 27) (L' := [none, none, none, none, none]) (st' := [.int (nI 0)]) rfl ?_
    exact fT_r rfl rfl h
  · refine fT_ss 3 (pc' := 19) (L' := [none, none, none, some (.long v2), none]) (st' := [.int (lg_cmp v2 (Int64.ofNat 0))]) rfl ?_
    refine fO_if 26 rfl rfl h (fun h => ?_) (fun h => ?_)
    · refine fT_ss 1 (pc' := 27) (L' := [none, none, none, none, none]) (st' := [.int (nI 0)]) rfl ?_
      exact fT_r rfl rfl h
    · refine fT_ss 2 (pc' := 27) (L' := [none, none, none, none, none]) (st' := [.int (nI 1)]) rfl ?_
      exact fT_r rfl rfl h
noncomputable def g19 (c1 : Nat) (x2 : Int32) (m : fm) : Option (Int32 × fm) :=
  cl2 (g16 x2 m) fun v2 m1 =>
  bif ai_c .ne v2 0 then
    cl2 (g4 c1 x2 (nI 0) m1) fun v4 m3 =>
    bif decide (v4 = nI 0) then
      cl2 (g20 c1 x2 m3) fun v6 m5 =>
      some (v6, m5)
    else bif decide (v4 = nI 1) then
      cl2 (g20 c1 x2 m3) fun v8 m7 =>
      some (v8, m7)
    else bif decide (v4 = nI 2) then
      cl2 (g20 c1 x2 m3) fun v10 m9 =>
      some (v10, m9)
    else bif decide (v4 = nI 3) then
      cl2 (g20 c1 x2 m3) fun v12 m11 =>
      some (v12, m11)
    else bif decide (v4 = nI 4) then
      cl2 (g22 c1 x2 m3) fun v14 m13 =>
      bif ai_c .eq v14 0 then
        some ((nI 1), m13)
      else
        cl2 (g20 c1 x2 m13) fun v16 m15 =>
        some (v16, m15)
    else bif decide (v4 = nI 5) then
      cl2 (g23 c1 x2 m3) fun v18 m17 =>
      some (((nI 1) ||| v18), m17)
    else bif decide (v4 = nI 6) then
      some ((nI 1), m3)
    else bif decide (v4 = nI 7) then
      cl2 (g20 c1 x2 m3) fun v20 m19 =>
      some (v20, m19)
    else bif decide (v4 = nI 8) then
      some ((nI 1), m3)
    else bif decide (v4 = nI 9) then
      some ((nI 1), m3)
    else bif decide (v4 = nI 10) then
      some ((nI 1), m3)
    else bif decide (v4 = nI 11) then
      cl2 (g21 c1 x2 m3) fun v22 m21 =>
      bif ai_c .eq v22 0 then
        some ((nI 17), m21)
      else
        some ((nI 1), m21)
    else 
    some ((nI 1), m3)
  else
    some ((nI 0), m1)
set_option maxHeartbeats 4000000 in
theorem t19_0 {X : ai_X} {d w : Nat} (hX : X[1]? = some (39, ai_sh)) (hd : 2 ≤ d) (hw : 49 ≤ w) {c1 : Nat} (hc1 : isC c1) (x2 : Int32) (m : fm) (Q : Option Value → fm → Prop) (h : ob (g19 c1 x2 m) (fun z : Int32 × fm => Q (some (.int z.1)) z.2)) : fT X d w ai_r19 0 [some (.ref 4), some (.ref c1), some (.int x2)] [] m Q := by
  unfold g19 at h
  refine fT_ss 2 (pc' := 2) (L' := [some (.ref 4), some (.ref c1), some (.int x2)]) (st' := [.int x2, .ref 4]) rfl ?_
  refine fO_qv2 Value.int (r' := ai_r16) (k := 4) (As := [.int x2]) (rest := []) rfl rfl rfl rfl rfl rfl (by omega) (show 19 + 2 ≤ w by omega) (Nat.le_of_ble_eq_true rfl) (Nat.le_of_ble_eq_true rfl) (all_c rfl (all_c (kl_c hc1.2.2.1) rfl)) rfl (fun Qc hq => t16_0 hX (show 1 ≤ d - 1 by omega) (show 22 ≤ w - (19 + 2) by omega) _ _ Qc hq) h (fun v2 m1 h => ?_)
  refine fO_if 10 rfl rfl h (fun h => ?_) (fun h => ?_)
  · refine fT_ss 3 (pc' := 13) (L' := [some (.ref 4), some (.ref c1), some (.int x2)]) (st' := [.int (nI 0), .int x2, .ref c1]) rfl ?_
    refine fO_qv2 Value.int (r' := ai_r4) (k := c1) (As := [.int x2, .int (nI 0)]) (rest := []) rfl rfl rfl rfl hc1.1 rfl (by omega) (show 19 + 3 ≤ w by omega) (Nat.le_of_ble_eq_true rfl) (Nat.le_of_ble_eq_true rfl) (all_c rfl (all_c (kl_c hc1.2.2.1) rfl)) rfl (fun Qc hq => t4_0 hX (show 0 ≤ d - 1 by omega) (show 0 ≤ w - (19 + 3) by omega) hc1 _ _ _ Qc hq) h (fun v4 m3 h => ?_)
    by_cases e0 : v4 = nI 0
    · subst e0
      replace h := ob_eqT h
      refine fT_ss 1 (pc' := 105) (L' := [some (.ref 4), some (.ref c1), some (.int x2)]) (st' := []) rfl ?_
      refine fT_ss 3 (pc' := 108) (L' := [some (.ref 4), some (.ref c1), some (.int x2)]) (st' := [.int x2, .ref c1, .ref 4]) rfl ?_
      refine fO_qv2 Value.int (r' := ai_r20) (k := 4) (As := [.ref c1, .int x2]) (rest := []) rfl rfl rfl rfl rfl rfl (by omega) (show 19 + 3 ≤ w by omega) (Nat.le_of_ble_eq_true rfl) (Nat.le_of_ble_eq_true rfl) (all_c rfl (all_c (kl_c hc1.2.2.1) rfl)) rfl (fun Qc hq => t20_0 hX (show 1 ≤ d - 1 by omega) (show 22 ≤ w - (19 + 3) by omega) hc1 _ _ Qc hq) h (fun v6 m5 h => ?_)
      exact fT_r rfl rfl h
    replace h := ob_eqF e0 h
    by_cases e1 : v4 = nI 1
    · subst e1
      replace h := ob_eqT h
      refine fT_ss 1 (pc' := 105) (L' := [some (.ref 4), some (.ref c1), some (.int x2)]) (st' := []) rfl ?_
      refine fT_ss 3 (pc' := 108) (L' := [some (.ref 4), some (.ref c1), some (.int x2)]) (st' := [.int x2, .ref c1, .ref 4]) rfl ?_
      refine fO_qv2 Value.int (r' := ai_r20) (k := 4) (As := [.ref c1, .int x2]) (rest := []) rfl rfl rfl rfl rfl rfl (by omega) (show 19 + 3 ≤ w by omega) (Nat.le_of_ble_eq_true rfl) (Nat.le_of_ble_eq_true rfl) (all_c rfl (all_c (kl_c hc1.2.2.1) rfl)) rfl (fun Qc hq => t20_0 hX (show 1 ≤ d - 1 by omega) (show 22 ≤ w - (19 + 3) by omega) hc1 _ _ Qc hq) h (fun v8 m7 h => ?_)
      exact fT_r rfl rfl h
    replace h := ob_eqF e1 h
    by_cases e2 : v4 = nI 2
    · subst e2
      replace h := ob_eqT h
      refine fT_ss 1 (pc' := 105) (L' := [some (.ref 4), some (.ref c1), some (.int x2)]) (st' := []) rfl ?_
      refine fT_ss 3 (pc' := 108) (L' := [some (.ref 4), some (.ref c1), some (.int x2)]) (st' := [.int x2, .ref c1, .ref 4]) rfl ?_
      refine fO_qv2 Value.int (r' := ai_r20) (k := 4) (As := [.ref c1, .int x2]) (rest := []) rfl rfl rfl rfl rfl rfl (by omega) (show 19 + 3 ≤ w by omega) (Nat.le_of_ble_eq_true rfl) (Nat.le_of_ble_eq_true rfl) (all_c rfl (all_c (kl_c hc1.2.2.1) rfl)) rfl (fun Qc hq => t20_0 hX (show 1 ≤ d - 1 by omega) (show 22 ≤ w - (19 + 3) by omega) hc1 _ _ Qc hq) h (fun v10 m9 h => ?_)
      exact fT_r rfl rfl h
    replace h := ob_eqF e2 h
    by_cases e3 : v4 = nI 3
    · subst e3
      replace h := ob_eqT h
      refine fT_ss 1 (pc' := 105) (L' := [some (.ref 4), some (.ref c1), some (.int x2)]) (st' := []) rfl ?_
      refine fT_ss 3 (pc' := 108) (L' := [some (.ref 4), some (.ref c1), some (.int x2)]) (st' := [.int x2, .ref c1, .ref 4]) rfl ?_
      refine fO_qv2 Value.int (r' := ai_r20) (k := 4) (As := [.ref c1, .int x2]) (rest := []) rfl rfl rfl rfl rfl rfl (by omega) (show 19 + 3 ≤ w by omega) (Nat.le_of_ble_eq_true rfl) (Nat.le_of_ble_eq_true rfl) (all_c rfl (all_c (kl_c hc1.2.2.1) rfl)) rfl (fun Qc hq => t20_0 hX (show 1 ≤ d - 1 by omega) (show 22 ≤ w - (19 + 3) by omega) hc1 _ _ Qc hq) h (fun v12 m11 h => ?_)
      exact fT_r rfl rfl h
    replace h := ob_eqF e3 h
    by_cases e4 : v4 = nI 4
    · subst e4
      replace h := ob_eqT h
      refine fT_ss 1 (pc' := 112) (L' := [some (.ref 4), some (.ref c1), some (.int x2)]) (st' := []) rfl ?_
      refine fT_ss 3 (pc' := 115) (L' := [some (.ref 4), some (.ref c1), some (.int x2)]) (st' := [.int x2, .ref c1, .ref 4]) rfl ?_
      refine fO_qv2 Value.int (r' := ai_r22) (k := 4) (As := [.ref c1, .int x2]) (rest := []) rfl rfl rfl rfl rfl rfl (by omega) (show 19 + 5 ≤ w by omega) (Nat.le_of_ble_eq_true rfl) (Nat.le_of_ble_eq_true rfl) (all_c rfl (all_c (kl_c hc1.2.2.1) rfl)) rfl (fun Qc hq => t22_0 hX (show 1 ≤ d - 1 by omega) (show 23 ≤ w - (19 + 5) by omega) hc1 _ _ Qc hq) h (fun v14 m13 h => ?_)
      refine fO_if 130 rfl rfl h (fun h => ?_) (fun h => ?_)
      · refine fT_ss 1 (pc' := 131) (L' := [none, none, none]) (st' := [.int (nI 1)]) rfl ?_
        exact fT_r rfl rfl h
      · refine fT_ss 3 (pc' := 124) (L' := [some (.ref 4), some (.ref c1), some (.int x2)]) (st' := [.int x2, .ref c1, .ref 4]) rfl ?_
        refine fO_qv2 Value.int (r' := ai_r20) (k := 4) (As := [.ref c1, .int x2]) (rest := []) rfl rfl rfl rfl rfl rfl (by omega) (show 19 + 3 ≤ w by omega) (Nat.le_of_ble_eq_true rfl) (Nat.le_of_ble_eq_true rfl) (all_c rfl (all_c (kl_c hc1.2.2.1) rfl)) rfl (fun Qc hq => t20_0 hX (show 1 ≤ d - 1 by omega) (show 22 ≤ w - (19 + 3) by omega) hc1 _ _ Qc hq) h (fun v16 m15 h => ?_)
        refine fT_ss 1 (pc' := 131) (L' := [some (.ref 4), some (.ref c1), some (.int x2)]) (st' := [.int v16]) rfl ?_
        exact fT_r rfl rfl h
    replace h := ob_eqF e4 h
    by_cases e5 : v4 = nI 5
    · subst e5
      replace h := ob_eqT h
      refine fT_ss 1 (pc' := 80) (L' := [some (.ref 4), some (.ref c1), some (.int x2)]) (st' := []) rfl ?_
      refine fT_ss 4 (pc' := 84) (L' := [some (.ref 4), some (.ref c1), some (.int x2)]) (st' := [.int x2, .ref c1, .ref 4, .int (nI 1)]) rfl ?_
      refine fO_qv2 Value.int (r' := ai_r23) (k := 4) (As := [.ref c1, .int x2]) (rest := [.int (nI 1)]) rfl rfl rfl rfl rfl rfl (by omega) (show 19 + 7 ≤ w by omega) (Nat.le_of_ble_eq_true rfl) (Nat.le_of_ble_eq_true rfl) (all_c rfl (all_c (kl_c hc1.2.2.1) rfl)) rfl (fun Qc hq => t23_0 hX (show 1 ≤ d - 1 by omega) (show 23 ≤ w - (19 + 7) by omega) hc1 _ _ Qc hq) h (fun v18 m17 h => ?_)
      refine fT_ss 1 (pc' := 88) (L' := [some (.ref 4), some (.ref c1), some (.int x2)]) (st' := [.int ((nI 1) ||| v18)]) rfl ?_
      exact fT_r rfl rfl h
    replace h := ob_eqF e5 h
    by_cases e6 : v4 = nI 6
    · subst e6
      replace h := ob_eqT h
      refine fT_ss 1 (pc' := 132) (L' := [some (.ref 4), some (.ref c1), some (.int x2)]) (st' := []) rfl ?_
      refine fT_ss 1 (pc' := 133) (L' := [none, none, none]) (st' := [.int (nI 1)]) rfl ?_
      exact fT_r rfl rfl h
    replace h := ob_eqF e6 h
    by_cases e7 : v4 = nI 7
    · subst e7
      replace h := ob_eqT h
      refine fT_ss 1 (pc' := 105) (L' := [some (.ref 4), some (.ref c1), some (.int x2)]) (st' := []) rfl ?_
      refine fT_ss 3 (pc' := 108) (L' := [some (.ref 4), some (.ref c1), some (.int x2)]) (st' := [.int x2, .ref c1, .ref 4]) rfl ?_
      refine fO_qv2 Value.int (r' := ai_r20) (k := 4) (As := [.ref c1, .int x2]) (rest := []) rfl rfl rfl rfl rfl rfl (by omega) (show 19 + 3 ≤ w by omega) (Nat.le_of_ble_eq_true rfl) (Nat.le_of_ble_eq_true rfl) (all_c rfl (all_c (kl_c hc1.2.2.1) rfl)) rfl (fun Qc hq => t20_0 hX (show 1 ≤ d - 1 by omega) (show 22 ≤ w - (19 + 3) by omega) hc1 _ _ Qc hq) h (fun v20 m19 h => ?_)
      exact fT_r rfl rfl h
    replace h := ob_eqF e7 h
    by_cases e8 : v4 = nI 8
    · subst e8
      replace h := ob_eqT h
      refine fT_ss 1 (pc' := 132) (L' := [some (.ref 4), some (.ref c1), some (.int x2)]) (st' := []) rfl ?_
      refine fT_ss 1 (pc' := 133) (L' := [none, none, none]) (st' := [.int (nI 1)]) rfl ?_
      exact fT_r rfl rfl h
    replace h := ob_eqF e8 h
    by_cases e9 : v4 = nI 9
    · subst e9
      replace h := ob_eqT h
      refine fT_ss 1 (pc' := 132) (L' := [some (.ref 4), some (.ref c1), some (.int x2)]) (st' := []) rfl ?_
      refine fT_ss 1 (pc' := 133) (L' := [none, none, none]) (st' := [.int (nI 1)]) rfl ?_
      exact fT_r rfl rfl h
    replace h := ob_eqF e9 h
    by_cases e10 : v4 = nI 10
    · subst e10
      replace h := ob_eqT h
      refine fT_ss 1 (pc' := 132) (L' := [some (.ref 4), some (.ref c1), some (.int x2)]) (st' := []) rfl ?_
      refine fT_ss 1 (pc' := 133) (L' := [none, none, none]) (st' := [.int (nI 1)]) rfl ?_
      exact fT_r rfl rfl h
    replace h := ob_eqF e10 h
    by_cases e11 : v4 = nI 11
    · subst e11
      replace h := ob_eqT h
      refine fT_ss 1 (pc' := 89) (L' := [some (.ref 4), some (.ref c1), some (.int x2)]) (st' := []) rfl ?_
      refine fT_ss 3 (pc' := 92) (L' := [some (.ref 4), some (.ref c1), some (.int x2)]) (st' := [.int x2, .ref c1, .ref 4]) rfl ?_
      refine fO_qv2 Value.int (r' := ai_r21) (k := 4) (As := [.ref c1, .int x2]) (rest := []) rfl rfl rfl rfl rfl rfl (by omega) (show 19 + 5 ≤ w by omega) (Nat.le_of_ble_eq_true rfl) (Nat.le_of_ble_eq_true rfl) (all_c rfl (all_c (kl_c hc1.2.2.1) rfl)) rfl (fun Qc hq => t21_0 hX (show 1 ≤ d - 1 by omega) (show 23 ≤ w - (19 + 5) by omega) hc1 _ _ Qc hq) h (fun v22 m21 h => ?_)
      refine fO_if 102 rfl rfl h (fun h => ?_) (fun h => ?_)
      · refine fT_ss 1 (pc' := 104) (L' := [none, none, none]) (st' := [.int (nI 17)]) rfl ?_
        exact fT_r rfl rfl h
      · refine fT_ss 2 (pc' := 104) (L' := [none, none, none]) (st' := [.int (nI 1)]) rfl ?_
        exact fT_r rfl rfl h
    replace h := ob_eqF e11 h
    refine fO_td 132 rfl rfl (by have := nt (k := 0) (by omega) e0; have := nt (k := 1) (by omega) e1; have := nt (k := 2) (by omega) e2; have := nt (k := 3) (by omega) e3; have := nt (k := 4) (by omega) e4; have := nt (k := 5) (by omega) e5; have := nt (k := 6) (by omega) e6; have := nt (k := 7) (by omega) e7; have := nt (k := 8) (by omega) e8; have := nt (k := 9) (by omega) e9; have := nt (k := 10) (by omega) e10; have := nt (k := 11) (by omega) e11; omega) ?_
    refine fT_ss 1 (pc' := 133) (L' := [none, none, none]) (st' := [.int (nI 1)]) rfl ?_
    exact fT_r rfl rfl h
  · refine fT_ss 1 (pc' := 9) (L' := [none, none, none]) (st' := [.int (nI 0)]) rfl ?_
    exact fT_r rfl rfl h
noncomputable def g27_98 (x2 : Int32) (x4 : Int32) (x5 : Int32) (x6 : Int64) (y0 : Int32) (m : fm) : Option ((Int32 × Int32 × fm) ⊕ (Int32 × fm)) :=
  stL m 5 96 x5 x6 fun m5 =>
  some (.inl (y0, (x4 + (nI 1)), m5))
set_option maxHeartbeats 4000000 in
theorem t27_98 {X : ai_X} {d w : Nat} (hX : X[1]? = some (39, ai_sh)) (hd : 1 ≤ d) (hw : 21 ≤ w) (x2 : Int32) (x4 : Int32) (x5 : Int32) (x6 : Int64) (y0 : Int32) (m : fm) (Q : Option Value → fm → Prop) (h : ob (g27_98 x2 x4 x5 x6 y0 m) (Sum.elim (fun s : Int32 × Int32 × fm => fT X d w ai_r27 15 [some (.ref 4), none, some (.int x2), some (.int s.1), some (.int s.2.1), none, none, none] [] s.2.2 Q) (fun z : Int32 × fm => Q (some (.int z.1)) z.2))) : fT X d w ai_r27 98 [some (.ref 4), none, some (.int x2), none, some (.int x4), some (.int x5), some (.long x6), none] [.int y0] m Q := by
  unfold g27_98 at h
  refine fT_ss 2 (pc' := 100) (L' := [some (.ref 4), none, some (.int x2), some (.int y0), some (.int x4), some (.int x5), some (.long x6), none]) (st' := [.ref 4]) rfl ?_
  refine fT_gr (q := 5) rfl rfl rfl ?_
  refine fT_ss 2 (pc' := 107) (L' := [some (.ref 4), none, some (.int x2), some (.int y0), some (.int x4), some (.int x5), some (.long x6), none]) (st' := [.long x6, .int x5, .ref 5]) rfl ?_
  refine fO_ls rfl rfl h (fun m5 h => ?_)
  refine fT_ss 2 (pc' := 15) (L' := [some (.ref 4), none, some (.int x2), some (.int y0), some (.int (x4 + (nI 1))), some (.int x5), some (.long x6), none]) (st' := []) rfl ?_
  replace h := ob_inl h
  exact fT_mk rfl rfl h
noncomputable def g27_74 (x2 : Int32) (x3 : Int32) (x4 : Int32) (x5 : Int32) (y0 : Int64) (m : fm) : Option ((Int32 × Int32 × fm) ⊕ (Int32 × fm)) :=
  bif ai_c .ne x3 0 then
    g27_98 x2 x4 x5 y0 (nI 1) m
  else
    ldL m 5 96 x5 fun v6 =>
    bif ai_c .eq (lg_cmp y0 v6) 0 then
      g27_98 x2 x4 x5 y0 (nI 0) m
    else
      g27_98 x2 x4 x5 y0 (nI 1) m
set_option maxHeartbeats 4000000 in
theorem t27_74 {X : ai_X} {d w : Nat} (hX : X[1]? = some (39, ai_sh)) (hd : 1 ≤ d) (hw : 21 ≤ w) (x2 : Int32) (x3 : Int32) (x4 : Int32) (x5 : Int32) (y0 : Int64) (m : fm) (Q : Option Value → fm → Prop) (h : ob (g27_74 x2 x3 x4 x5 y0 m) (Sum.elim (fun s : Int32 × Int32 × fm => fT X d w ai_r27 15 [some (.ref 4), none, some (.int x2), some (.int s.1), some (.int s.2.1), none, none, none] [] s.2.2 Q) (fun z : Int32 × fm => Q (some (.int z.1)) z.2))) : fT X d w ai_r27 74 [some (.ref 4), none, some (.int x2), some (.int x3), some (.int x4), some (.int x5), none, none] [.long y0] m Q := by
  unfold g27_74 at h
  refine fT_ss 2 (pc' := 77) (L' := [some (.ref 4), none, some (.int x2), some (.int x3), some (.int x4), some (.int x5), some (.long y0), none]) (st' := [.int x3]) rfl ?_
  refine fO_if 93 rfl rfl h (fun h => ?_) (fun h => ?_)
  · refine fT_ss 2 (pc' := 98) (L' := [some (.ref 4), none, some (.int x2), none, some (.int x4), some (.int x5), some (.long y0), none]) (st' := [.int (nI 1)]) rfl ?_
    exact fT_mk rfl rfl (t27_98 hX hd hw _ _ _ _ _ _ Q h)
  · refine fT_ss 2 (pc' := 83) (L' := [some (.ref 4), none, some (.int x2), none, some (.int x4), some (.int x5), some (.long y0), none]) (st' := [.ref 4, .long y0]) rfl ?_
    refine fT_gr (q := 5) rfl rfl rfl ?_
    refine fT_ss 1 (pc' := 88) (L' := [some (.ref 4), none, some (.int x2), none, some (.int x4), some (.int x5), some (.long y0), none]) (st' := [.int x5, .ref 5, .long y0]) rfl ?_
    refine fO_la rfl rfl h (fun v6 h => ?_)
    refine fT_ss 1 (pc' := 90) (L' := [some (.ref 4), none, some (.int x2), none, some (.int x4), some (.int x5), some (.long y0), none]) (st' := [.int (lg_cmp y0 v6)]) rfl ?_
    refine fO_if 97 rfl rfl h (fun h => ?_) (fun h => ?_)
    · refine fT_ss 1 (pc' := 98) (L' := [some (.ref 4), none, some (.int x2), none, some (.int x4), some (.int x5), some (.long y0), none]) (st' := [.int (nI 0)]) rfl ?_
      exact fT_mk rfl rfl (t27_98 hX hd hw _ _ _ _ _ _ Q h)
    · refine fT_ss 2 (pc' := 98) (L' := [some (.ref 4), none, some (.int x2), none, some (.int x4), some (.int x5), some (.long y0), none]) (st' := [.int (nI 1)]) rfl ?_
      exact fT_mk rfl rfl (t27_98 hX hd hw _ _ _ _ _ _ Q h)
noncomputable def g27_61 (x2 : Int32) (x3 : Int32) (x4 : Int32) (x5 : Int32) (m : fm) : Option ((Int32 × Int32 × fm) ⊕ (Int32 × fm)) :=
  ldL m 7 4 x4 fun v4 =>
  g27_74 x2 x3 x4 x5 v4 m
set_option maxHeartbeats 4000000 in
theorem t27_61 {X : ai_X} {d w : Nat} (hX : X[1]? = some (39, ai_sh)) (hd : 1 ≤ d) (hw : 21 ≤ w) (x2 : Int32) (x3 : Int32) (x4 : Int32) (x5 : Int32) (m : fm) (Q : Option Value → fm → Prop) (h : ob (g27_61 x2 x3 x4 x5 m) (Sum.elim (fun s : Int32 × Int32 × fm => fT X d w ai_r27 15 [some (.ref 4), none, some (.int x2), some (.int s.1), some (.int s.2.1), none, none, none] [] s.2.2 Q) (fun z : Int32 × fm => Q (some (.int z.1)) z.2))) : fT X d w ai_r27 61 [some (.ref 4), none, some (.int x2), some (.int x3), some (.int x4), some (.int x5), none, none] [] m Q := by
  unfold g27_61 at h
  refine fT_ss 1 (pc' := 62) (L' := [some (.ref 4), none, some (.int x2), some (.int x3), some (.int x4), some (.int x5), none, none]) (st' := [.ref 4]) rfl ?_
  refine fT_gr (q := 7) rfl rfl rfl ?_
  refine fT_ss 1 (pc' := 67) (L' := [some (.ref 4), none, some (.int x2), some (.int x3), some (.int x4), some (.int x5), none, none]) (st' := [.int x4, .ref 7]) rfl ?_
  refine fO_la rfl rfl h (fun v4 h => ?_)
  refine fT_ss 1 (pc' := 74) (L' := [some (.ref 4), none, some (.int x2), some (.int x3), some (.int x4), some (.int x5), none, none]) (st' := [.long v4]) rfl ?_
  exact fT_mk rfl rfl (t27_74 hX hd hw _ _ _ _ _ _ Q h)
noncomputable def s27_15 (x2 : Int32) (x3 : Int32) (x4 : Int32) (m : fm) : Option ((Int32 × Int32 × fm) ⊕ (Int32 × fm)) :=
  bif ai_c .ge x4 (nI 4) then
    rtB x3 (some (.inr (x3, m)))
  else
    ldL m 5 96 ((x2 * (nI 4)) + x4) fun v3 =>
    bif ai_c .eq (lg_cmp v3 (Int64.ofNat 2000000000000)) 0 then
      g27_61 x2 x3 x4 ((x2 * (nI 4)) + x4) m
    else
      ldL m 5 96 ((x2 * (nI 4)) + x4) fun v7 =>
      ldL m 7 4 x4 fun v8 =>
      bif ai_c .ne (lg_cmp v7 v8) 0 then
        g27_74 x2 x3 x4 ((x2 * (nI 4)) + x4) (Int64.ofNat 1000000000000) m
      else
        g27_61 x2 x3 x4 ((x2 * (nI 4)) + x4) m
set_option maxHeartbeats 4000000 in
theorem b27_15 {X : ai_X} {d w : Nat} (hX : X[1]? = some (39, ai_sh)) (hd : 1 ≤ d) (hw : 21 ≤ w) (x2 : Int32) (x3 : Int32) (x4 : Int32) (m : fm) (Q : Option Value → fm → Prop) (h : ob (s27_15 x2 x3 x4 m) (Sum.elim (fun s : Int32 × Int32 × fm => fT X d w ai_r27 15 [some (.ref 4), none, some (.int x2), some (.int s.1), some (.int s.2.1), none, none, none] [] s.2.2 Q) (fun z : Int32 × fm => Q (some (.int z.1)) z.2))) : fT X d w ai_r27 15 [some (.ref 4), none, some (.int x2), some (.int x3), some (.int x4), none, none, none] [] m Q := by
  unfold s27_15 at h
  refine fT_ss 2 (pc' := 18) (L' := [some (.ref 4), none, some (.int x2), some (.int x3), some (.int x4), none, none, none]) (st' := [.int (nI 4), .int x4]) rfl ?_
  refine fO_ic 114 rfl rfl h (fun h => ?_) (fun h => ?_)
  · refine fT_ss 1 (pc' := 115) (L' := [none, none, none, some (.int x3), none, none, none, none]) (st' := [.int x3]) rfl ?_
    exact fO_rb rfl rfl h (fun h => h)
  · refine fT_ss 7 (pc' := 30) (L' := [some (.ref 4), none, some (.int x2), some (.int x3), some (.int x4), some (.int ((x2 * (nI 4)) + x4)), none, none]) (st' := [.ref 4]) rfl ?_
    refine fT_gr (q := 5) rfl rfl rfl ?_
    refine fT_ss 1 (pc' := 35) (L' := [some (.ref 4), none, some (.int x2), some (.int x3), some (.int x4), some (.int ((x2 * (nI 4)) + x4)), none, none]) (st' := [.int ((x2 * (nI 4)) + x4), .ref 5]) rfl ?_
    refine fO_la rfl rfl h (fun v3 h => ?_)
    refine fT_lc rfl ?_
    refine fT_ss 1 (pc' := 40) (L' := [some (.ref 4), none, some (.int x2), some (.int x3), some (.int x4), some (.int ((x2 * (nI 4)) + x4)), none, none]) (st' := [.int (lg_cmp v3 (Int64.ofNat 2000000000000))]) rfl ?_
    refine fO_if 61 rfl rfl h (fun h => ?_) (fun h => ?_)
    · exact fT_mk rfl rfl (t27_61 hX hd hw _ _ _ _ _ Q h)
    · refine fT_ss 1 (pc' := 44) (L' := [some (.ref 4), none, some (.int x2), some (.int x3), some (.int x4), some (.int ((x2 * (nI 4)) + x4)), none, none]) (st' := [.ref 4]) rfl ?_
      refine fT_gr (q := 5) rfl rfl rfl ?_
      refine fT_ss 1 (pc' := 49) (L' := [some (.ref 4), none, some (.int x2), some (.int x3), some (.int x4), some (.int ((x2 * (nI 4)) + x4)), none, none]) (st' := [.int ((x2 * (nI 4)) + x4), .ref 5]) rfl ?_
      refine fO_la rfl rfl h (fun v7 h => ?_)
      refine fT_ss 1 (pc' := 51) (L' := [some (.ref 4), none, some (.int x2), some (.int x3), some (.int x4), some (.int ((x2 * (nI 4)) + x4)), none, none]) (st' := [.ref 4, .long v7]) rfl ?_
      refine fT_gr (q := 7) rfl rfl rfl ?_
      refine fT_ss 1 (pc' := 56) (L' := [some (.ref 4), none, some (.int x2), some (.int x3), some (.int x4), some (.int ((x2 * (nI 4)) + x4)), none, none]) (st' := [.int x4, .ref 7, .long v7]) rfl ?_
      refine fO_la rfl rfl h (fun v8 h => ?_)
      refine fT_ss 1 (pc' := 58) (L' := [some (.ref 4), none, some (.int x2), some (.int x3), some (.int x4), some (.int ((x2 * (nI 4)) + x4)), none, none]) (st' := [.int (lg_cmp v7 v8)]) rfl ?_
      refine fO_if 71 rfl rfl h (fun h => ?_) (fun h => ?_)
      · refine fT_lc rfl ?_
        exact fT_mk rfl rfl (t27_74 hX hd hw _ _ _ _ _ _ Q h)
      · exact fT_mk rfl rfl (t27_61 hX hd hw _ _ _ _ _ Q h)
noncomputable def g27_15 (x2 : Int32) (x3 : Int32) (x4 : Int32) (m : fm) : Option (Int32 × fm) := wl (fun s : Int32 × Int32 × fm => s27_15 x2 s.1 s.2.1 s.2.2) lf (x3, x4, m)
theorem t27_15 {X : ai_X} {d w : Nat} (hX : X[1]? = some (39, ai_sh)) (hd : 1 ≤ d) (hw : 21 ≤ w) (x2 : Int32) (x3 : Int32) (x4 : Int32) (m : fm) (Q : Option Value → fm → Prop) (h : ob (g27_15 x2 x3 x4 m) (fun z : Int32 × fm => Q (some (.int z.1)) z.2)) : fT X d w ai_r27 15 [some (.ref 4), none, some (.int x2), some (.int x3), some (.int x4), none, none, none] [] m Q :=
  wl_ob (P := fun s : Int32 × Int32 × fm => fT X d w ai_r27 15 [some (.ref 4), none, some (.int x2), some (.int s.1), some (.int s.2.1), none, none, none] [] s.2.2 Q) (fun s h => b27_15 hX hd hw x2 s.1 s.2.1 s.2.2 Q h) lf (x3, x4, m) h
noncomputable def g27 (c1 : Nat) (x2 : Int32) (m : fm) : Option (Int32 × fm) :=
  cl2 (g2 c1 x2 m) fun v2 m1 =>
  bif ai_c .ne v2 0 then
    g27_15 x2 (nI 0) (nI 0) m1
  else
    some ((nI 0), m1)
set_option maxHeartbeats 4000000 in
theorem t27_0 {X : ai_X} {d w : Nat} (hX : X[1]? = some (39, ai_sh)) (hd : 1 ≤ d) (hw : 21 ≤ w) {c1 : Nat} (hc1 : isC c1) (x2 : Int32) (m : fm) (Q : Option Value → fm → Prop) (h : ob (g27 c1 x2 m) (fun z : Int32 × fm => Q (some (.int z.1)) z.2)) : fT X d w ai_r27 0 [some (.ref 4), some (.ref c1), some (.int x2), none, none, none, none, none] [] m Q := by
  unfold g27 at h
  refine fT_ss 2 (pc' := 2) (L' := [some (.ref 4), some (.ref c1), some (.int x2), none, none, none, none, none]) (st' := [.int x2, .ref c1]) rfl ?_
  refine fO_qv2 Value.int (r' := ai_r2) (k := c1) (As := [.int x2]) (rest := []) rfl rfl rfl rfl hc1.1 rfl (by omega) (show 19 + 2 ≤ w by omega) (Nat.le_of_ble_eq_true rfl) (Nat.le_of_ble_eq_true rfl) (all_c rfl (all_c (kl_c hc1.2.2.1) rfl)) rfl (fun Qc hq => t2_0 hX (show 0 ≤ d - 1 by omega) (show 0 ≤ w - (19 + 2) by omega) hc1 _ _ Qc hq) h (fun v2 m1 h => ?_)
  refine fO_if 10 rfl rfl h (fun h => ?_) (fun h => ?_)
  · refine fT_ss 4 (pc' := 15) (L' := [some (.ref 4), none, some (.int x2), some (.int (nI 0)), some (.int (nI 0)), none, none, none]) (st' := []) rfl ?_
    exact fT_mk rfl rfl (t27_15 hX hd hw _ _ _ _ Q h)
  · refine fT_ss 1 (pc' := 9) (L' := [none, none, none, none, none, none, none, none]) (st' := [.int (nI 0)]) rfl ?_
    exact fT_r rfl rfl h
