noncomputable def g77 (x1 : Int32) (x2 : Int32) (x3 : Int32) (m : fm) : Option (Int32 × fm) :=
  cl2 (g86 x1 x2 m) fun v2 m1 =>
  bif ai_c .eq v2 0 then
    some ((-101), m1)
  else
    cl2 (g88 x3 m1) fun v4 m3 =>
    bif ai_c .ne v4 0 then
      ldA 20 x1 fun c5 =>
      cl1 (g25 c5 m3) fun m6 =>
      ldA 20 x1 fun c7 =>
      cl1 (g32 c7 m6) fun m8 =>
      cl2 (g18 x2 x3 m8) fun v10 m9 =>
      bif ai_c .eq v10 0 then
        some ((nI 0), m9)
      else
        some ((nI 1), m9)
    else
      some ((-101), m3)
set_option maxHeartbeats 4000000 in
theorem t77_0 {X : ai_X} {d w : Nat} (hX : X[1]? = some (39, ai_sh)) (hd : 5 ≤ d) (hw : 119 ≤ w) (x1 : Int32) (x2 : Int32) (x3 : Int32) (m : fm) (Q : Option Value → fm → Prop) (h : ob (g77 x1 x2 x3 m) (fun z : Int32 × fm => Q (some (.int z.1)) z.2)) : fT X d w ai_r77 0 [some (.ref 0), some (.int x1), some (.int x2), some (.int x3)] [] m Q := by
  unfold g77 at h
  refine fT_ss 3 (pc' := 3) (L' := [some (.ref 0), some (.int x1), some (.int x2), some (.int x3)]) (st' := [.int x2, .int x1, .ref 0]) rfl ?_
  refine fO_qv2 Value.int (r' := ai_r86) (k := 0) (As := [.int x1, .int x2]) (rest := []) rfl rfl rfl rfl rfl rfl (by omega) (show 19 + 3 ≤ w by omega) (Nat.le_of_ble_eq_true rfl) (Nat.le_of_ble_eq_true rfl) rfl rfl (fun Qc hq => t86_0 hX (show 1 ≤ d - 1 by omega) (show 21 ≤ w - (19 + 3) by omega) _ _ _ Qc hq) h (fun v2 m1 h => ?_)
  refine fO_if 16 rfl rfl h (fun h => ?_) (fun h => ?_)
  · refine fT_ss 1 (pc' := 18) (L' := [none, none, none, none]) (st' := [.int (-101)]) rfl ?_
    exact fT_r rfl rfl h
  · refine fT_ss 1 (pc' := 10) (L' := [some (.ref 0), some (.int x1), some (.int x2), some (.int x3)]) (st' := [.int x3]) rfl ?_
    refine fO_qs2 Value.int (r' := ai_r88) (As := [.int x3]) (rest := []) rfl rfl rfl rfl rfl rfl (by omega) (show 19 + 1 ≤ w by omega) (Nat.le_of_ble_eq_true rfl) (Nat.le_of_ble_eq_true rfl) rfl rfl (fun Qc hq => t88_0 hX (show 0 ≤ d - 1 by omega) (show 0 ≤ w - (19 + 1) by omega) _ _ Qc hq) h (fun v4 m3 h => ?_)
    refine fO_if 19 rfl rfl h (fun h => ?_) (fun h => ?_)
    · refine fT_ss 1 (pc' := 20) (L' := [some (.ref 0), some (.int x1), some (.int x2), some (.int x3)]) (st' := [.ref 0]) rfl ?_
      refine fT_gr (q := 4) rfl rfl rfl ?_
      refine fT_ss 1 (pc' := 24) (L' := [some (.ref 0), some (.int x1), some (.int x2), some (.int x3)]) (st' := [.ref 0, .ref 4]) rfl ?_
      refine fT_gr (q := 1) rfl rfl rfl ?_
      refine fT_ss 1 (pc' := 28) (L' := [some (.ref 0), some (.int x1), some (.int x2), some (.int x3)]) (st' := [.int x1, .ref 1, .ref 4]) rfl ?_
      refine fO_aa rfl isP_1 h (fun c5 hc5 h => ?_)
      refine fO_qv1 (r' := ai_r25) (k := 4) (As := [.ref c5]) (rest := []) rfl rfl rfl rfl rfl rfl (by omega) (show 19 + 5 ≤ w by omega) (Nat.le_of_ble_eq_true rfl) (Nat.le_of_ble_eq_true rfl) rfl rfl (fun Qc hq => t25_0 hX (show 4 ≤ d - 1 by omega) (show 94 ≤ w - (19 + 5) by omega) hc5 _ Qc hq) h (fun m6 h => ?_)
      refine fT_ss 1 (pc' := 33) (L' := [some (.ref 0), some (.int x1), some (.int x2), some (.int x3)]) (st' := [.ref 0]) rfl ?_
      refine fT_gr (q := 4) rfl rfl rfl ?_
      refine fT_ss 1 (pc' := 37) (L' := [some (.ref 0), some (.int x1), some (.int x2), some (.int x3)]) (st' := [.ref 0, .ref 4]) rfl ?_
      refine fT_gr (q := 1) rfl rfl rfl ?_
      refine fT_ss 1 (pc' := 41) (L' := [some (.ref 0), some (.int x1), some (.int x2), some (.int x3)]) (st' := [.int x1, .ref 1, .ref 4]) rfl ?_
      refine fO_aa rfl isP_1 h (fun c7 hc7 h => ?_)
      refine fO_qv1 (r' := ai_r32) (k := 4) (As := [.ref c7]) (rest := []) rfl rfl rfl rfl rfl rfl (by omega) (show 19 + 6 ≤ w by omega) (Nat.le_of_ble_eq_true rfl) (Nat.le_of_ble_eq_true rfl) rfl rfl (fun Qc hq => t32_0 hX (show 4 ≤ d - 1 by omega) (show 94 ≤ w - (19 + 6) by omega) hc7 _ Qc hq) h (fun m8 h => ?_)
      refine fT_ss 1 (pc' := 46) (L' := [some (.ref 0), some (.int x1), some (.int x2), some (.int x3)]) (st' := [.ref 0]) rfl ?_
      refine fT_gr (q := 4) rfl rfl rfl ?_
      refine fT_ss 2 (pc' := 51) (L' := [some (.ref 0), some (.int x1), some (.int x2), some (.int x3)]) (st' := [.int x3, .int x2, .ref 4]) rfl ?_
      refine fO_qv2 Value.int (r' := ai_r18) (k := 4) (As := [.int x2, .int x3]) (rest := []) rfl rfl rfl rfl rfl rfl (by omega) (show 19 + 3 ≤ w by omega) (Nat.le_of_ble_eq_true rfl) (Nat.le_of_ble_eq_true rfl) rfl rfl (fun Qc hq => t18_0 hX (show 0 ≤ d - 1 by omega) (show 0 ≤ w - (19 + 3) by omega) _ _ _ Qc hq) h (fun v10 m9 h => ?_)
      refine fO_if 61 rfl rfl h (fun h => ?_) (fun h => ?_)
      · refine fT_ss 1 (pc' := 62) (L' := [none, none, none, none]) (st' := [.int (nI 0)]) rfl ?_
        exact fT_r rfl rfl h
      · refine fT_ss 2 (pc' := 62) (L' := [none, none, none, none]) (st' := [.int (nI 1)]) rfl ?_
        exact fT_r rfl rfl h
    · refine fT_ss 1 (pc' := 18) (L' := [none, none, none, none]) (st' := [.int (-101)]) rfl ?_
      exact fT_r rfl rfl h
noncomputable def g78 (x1 : Int32) (m : fm) : Option (Int32 × fm) :=
  cl2 (g87 x1 m) fun v2 m1 =>
  bif ai_c .ne v2 0 then
    cl1 (g63  m1) fun m3 =>
    cl2 (g61 x1 m3) fun v5 m4 =>
    bif ai_c .eq v5 0 then
      some ((nI 0), m4)
    else
      some ((nI 1), m4)
  else
    some ((-101), m1)
set_option maxHeartbeats 4000000 in
theorem t78_0 {X : ai_X} {d w : Nat} (hX : X[1]? = some (39, ai_sh)) (hd : 6 ≤ d) (hw : 143 ≤ w) (x1 : Int32) (m : fm) (Q : Option Value → fm → Prop) (h : ob (g78 x1 m) (fun z : Int32 × fm => Q (some (.int z.1)) z.2)) : fT X d w ai_r78 0 [some (.ref 0), some (.int x1)] [] m Q := by
  unfold g78 at h
  refine fT_ss 1 (pc' := 1) (L' := [some (.ref 0), some (.int x1)]) (st' := [.int x1]) rfl ?_
  refine fO_qs2 Value.int (r' := ai_r87) (As := [.int x1]) (rest := []) rfl rfl rfl rfl rfl rfl (by omega) (show 19 + 1 ≤ w by omega) (Nat.le_of_ble_eq_true rfl) (Nat.le_of_ble_eq_true rfl) rfl rfl (fun Qc hq => t87_0 hX (show 0 ≤ d - 1 by omega) (show 0 ≤ w - (19 + 1) by omega) _ _ Qc hq) h (fun v2 m1 h => ?_)
  refine fO_if 10 rfl rfl h (fun h => ?_) (fun h => ?_)
  · refine fT_ss 1 (pc' := 11) (L' := [some (.ref 0), some (.int x1)]) (st' := [.ref 0]) rfl ?_
    refine fT_gr (q := 8) rfl rfl rfl ?_
    refine fT_ss 1 (pc' := 15) (L' := [some (.ref 0), some (.int x1)]) (st' := [.ref 0, .ref 8]) rfl ?_
    refine fT_gr (q := 1) rfl rfl rfl ?_
    refine fT_ss 1 (pc' := 19) (L' := [some (.ref 0), some (.int x1)]) (st' := [.ref 0, .ref 1, .ref 8]) rfl ?_
    refine fT_gr (q := 3) rfl rfl rfl ?_
    refine fT_ss 1 (pc' := 23) (L' := [some (.ref 0), some (.int x1)]) (st' := [.ref 0, .ref 3, .ref 1, .ref 8]) rfl ?_
    refine fT_gr (q := 4) rfl rfl rfl ?_
    refine fO_qv1 (r' := ai_r63) (k := 8) (As := [.ref 1, .ref 3, .ref 4]) (rest := []) rfl rfl rfl rfl rfl rfl (by omega) (show 19 + 6 ≤ w by omega) (Nat.le_of_ble_eq_true rfl) (Nat.le_of_ble_eq_true rfl) rfl rfl (fun Qc hq => t63_0 hX (show 5 ≤ d - 1 by omega) (show 118 ≤ w - (19 + 6) by omega)  _ Qc hq) h (fun m3 h => ?_)
    refine fT_ss 1 (pc' := 30) (L' := [some (.ref 0), some (.int x1)]) (st' := [.ref 0]) rfl ?_
    refine fT_gr (q := 8) rfl rfl rfl ?_
    refine fT_ss 1 (pc' := 34) (L' := [some (.ref 0), some (.int x1)]) (st' := [.int x1, .ref 8]) rfl ?_
    refine fO_qv2 Value.int (r' := ai_r61) (k := 8) (As := [.int x1]) (rest := []) rfl rfl rfl rfl rfl rfl (by omega) (show 19 + 2 ≤ w by omega) (Nat.le_of_ble_eq_true rfl) (Nat.le_of_ble_eq_true rfl) rfl rfl (fun Qc hq => t61_0 hX (show 0 ≤ d - 1 by omega) (show 0 ≤ w - (19 + 2) by omega) _ _ Qc hq) h (fun v5 m4 h => ?_)
    refine fO_if 44 rfl rfl h (fun h => ?_) (fun h => ?_)
    · refine fT_ss 1 (pc' := 45) (L' := [none, none]) (st' := [.int (nI 0)]) rfl ?_
      exact fT_r rfl rfl h
    · refine fT_ss 2 (pc' := 45) (L' := [none, none]) (st' := [.int (nI 1)]) rfl ?_
      exact fT_r rfl rfl h
  · refine fT_ss 1 (pc' := 9) (L' := [none, none]) (st' := [.int (-101)]) rfl ?_
    exact fT_r rfl rfl h
noncomputable def g79 (x1 : Int32) (m : fm) : Option (Int32 × fm) :=
  cl2 (g89 x1 m) fun v2 m1 =>
  bif ai_c .ne v2 0 then
    cl1 (g63  m1) fun m3 =>
    cl2 (g62 x1 m3) fun v5 m4 =>
    some (v5, m4)
  else
    some ((-101), m1)
set_option maxHeartbeats 4000000 in
theorem t79_0 {X : ai_X} {d w : Nat} (hX : X[1]? = some (39, ai_sh)) (hd : 6 ≤ d) (hw : 143 ≤ w) (x1 : Int32) (m : fm) (Q : Option Value → fm → Prop) (h : ob (g79 x1 m) (fun z : Int32 × fm => Q (some (.int z.1)) z.2)) : fT X d w ai_r79 0 [some (.ref 0), some (.int x1)] [] m Q := by
  unfold g79 at h
  refine fT_ss 1 (pc' := 1) (L' := [some (.ref 0), some (.int x1)]) (st' := [.int x1]) rfl ?_
  refine fO_qs2 Value.int (r' := ai_r89) (As := [.int x1]) (rest := []) rfl rfl rfl rfl rfl rfl (by omega) (show 19 + 1 ≤ w by omega) (Nat.le_of_ble_eq_true rfl) (Nat.le_of_ble_eq_true rfl) rfl rfl (fun Qc hq => t89_0 hX (show 0 ≤ d - 1 by omega) (show 0 ≤ w - (19 + 1) by omega) _ _ Qc hq) h (fun v2 m1 h => ?_)
  refine fO_if 10 rfl rfl h (fun h => ?_) (fun h => ?_)
  · refine fT_ss 1 (pc' := 11) (L' := [some (.ref 0), some (.int x1)]) (st' := [.ref 0]) rfl ?_
    refine fT_gr (q := 8) rfl rfl rfl ?_
    refine fT_ss 1 (pc' := 15) (L' := [some (.ref 0), some (.int x1)]) (st' := [.ref 0, .ref 8]) rfl ?_
    refine fT_gr (q := 1) rfl rfl rfl ?_
    refine fT_ss 1 (pc' := 19) (L' := [some (.ref 0), some (.int x1)]) (st' := [.ref 0, .ref 1, .ref 8]) rfl ?_
    refine fT_gr (q := 3) rfl rfl rfl ?_
    refine fT_ss 1 (pc' := 23) (L' := [some (.ref 0), some (.int x1)]) (st' := [.ref 0, .ref 3, .ref 1, .ref 8]) rfl ?_
    refine fT_gr (q := 4) rfl rfl rfl ?_
    refine fO_qv1 (r' := ai_r63) (k := 8) (As := [.ref 1, .ref 3, .ref 4]) (rest := []) rfl rfl rfl rfl rfl rfl (by omega) (show 19 + 6 ≤ w by omega) (Nat.le_of_ble_eq_true rfl) (Nat.le_of_ble_eq_true rfl) rfl rfl (fun Qc hq => t63_0 hX (show 5 ≤ d - 1 by omega) (show 118 ≤ w - (19 + 6) by omega)  _ Qc hq) h (fun m3 h => ?_)
    refine fT_ss 1 (pc' := 30) (L' := [some (.ref 0), some (.int x1)]) (st' := [.ref 0]) rfl ?_
    refine fT_gr (q := 8) rfl rfl rfl ?_
    refine fT_ss 1 (pc' := 34) (L' := [some (.ref 0), some (.int x1)]) (st' := [.int x1, .ref 8]) rfl ?_
    refine fO_qv2 Value.int (r' := ai_r62) (k := 8) (As := [.int x1]) (rest := []) rfl rfl rfl rfl rfl rfl (by omega) (show 19 + 2 ≤ w by omega) (Nat.le_of_ble_eq_true rfl) (Nat.le_of_ble_eq_true rfl) rfl rfl (fun Qc hq => t62_0 hX (show 0 ≤ d - 1 by omega) (show 0 ≤ w - (19 + 2) by omega) _ _ Qc hq) h (fun v5 m4 h => ?_)
    exact fT_r rfl rfl h
  · refine fT_ss 1 (pc' := 9) (L' := [none, none]) (st' := [.int (-101)]) rfl ?_
    exact fT_r rfl rfl h
noncomputable def s80_12 (x1 : Int32) (x2 : Int32) (m : fm) : Option ((Int32 × fm) ⊕ (Int32 × fm)) :=
  bif ai_c .ge x2 x1 then
    some (.inr (x1, m))
  else
    ldA 20 x2 fun c3 =>
    ldA 20 x1 fun c4 =>
    cl2 (g12 c3 c4 m) fun v6 m5 =>
    bif ai_c .eq v6 0 then
      some (.inl ((x2 + (nI 1)), m5))
    else
      some (.inr (x2, m5))
set_option maxHeartbeats 4000000 in
theorem b80_12 {X : ai_X} {d w : Nat} (hX : X[1]? = some (39, ai_sh)) (hd : 3 ≤ d) (hw : 71 ≤ w) (x1 : Int32) (x2 : Int32) (m : fm) (Q : Option Value → fm → Prop) (h : ob (s80_12 x1 x2 m) (Sum.elim (fun s : Int32 × fm => fT X d w ai_r80 12 [some (.ref 0), some (.int x1), some (.int s.1)] [] s.2 Q) (fun z : Int32 × fm => Q (some (.int z.1)) z.2))) : fT X d w ai_r80 12 [some (.ref 0), some (.int x1), some (.int x2)] [] m Q := by
  unfold s80_12 at h
  refine fT_ss 2 (pc' := 14) (L' := [some (.ref 0), some (.int x1), some (.int x2)]) (st' := [.int x1, .int x2]) rfl ?_
  refine fO_ic 43 rfl rfl h (fun h => ?_) (fun h => ?_)
  · refine fT_ss 1 (pc' := 44) (L' := [none, some (.int x1), none]) (st' := [.int x1]) rfl ?_
    exact fT_r rfl rfl h
  · refine fT_ss 1 (pc' := 18) (L' := [some (.ref 0), some (.int x1), some (.int x2)]) (st' := [.ref 0]) rfl ?_
    refine fT_gr (q := 1) rfl rfl rfl ?_
    refine fT_ss 1 (pc' := 22) (L' := [some (.ref 0), some (.int x1), some (.int x2)]) (st' := [.int x2, .ref 1]) rfl ?_
    refine fO_aa rfl isP_1 h (fun c3 hc3 h => ?_)
    refine fT_ss 1 (pc' := 24) (L' := [some (.ref 0), some (.int x1), some (.int x2)]) (st' := [.ref 0, .ref c3]) rfl ?_
    refine fT_gr (q := 1) rfl rfl rfl ?_
    refine fT_ss 1 (pc' := 28) (L' := [some (.ref 0), some (.int x1), some (.int x2)]) (st' := [.int x1, .ref 1, .ref c3]) rfl ?_
    refine fO_aa rfl isP_1 h (fun c4 hc4 h => ?_)
    refine fO_qv2 Value.int (r' := ai_r12) (k := c3) (As := [.ref c4]) (rest := []) rfl rfl rfl rfl hc3.1 rfl (by omega) (show 19 + 4 ≤ w by omega) (Nat.le_of_ble_eq_true rfl) (Nat.le_of_ble_eq_true rfl) rfl rfl (fun Qc hq => t12_0 hX (show 2 ≤ d - 1 by omega) (show 48 ≤ w - (19 + 4) by omega) hc3 hc4 _ Qc hq) h (fun v6 m5 h => ?_)
    refine fO_if 37 rfl rfl h (fun h => ?_) (fun h => ?_)
    · refine fT_ss 2 (pc' := 12) (L' := [some (.ref 0), some (.int x1), some (.int (x2 + (nI 1)))]) (st' := []) rfl ?_
      replace h := ob_inl h
      exact fT_mk rfl rfl h
    · refine fT_ss 1 (pc' := 36) (L' := [none, none, some (.int x2)]) (st' := [.int x2]) rfl ?_
      exact fT_r rfl rfl h
noncomputable def g80_12 (x1 : Int32) (x2 : Int32) (m : fm) : Option (Int32 × fm) := wl (fun s : Int32 × fm => s80_12 x1 s.1 s.2) lf (x2, m)
theorem t80_12 {X : ai_X} {d w : Nat} (hX : X[1]? = some (39, ai_sh)) (hd : 3 ≤ d) (hw : 71 ≤ w) (x1 : Int32) (x2 : Int32) (m : fm) (Q : Option Value → fm → Prop) (h : ob (g80_12 x1 x2 m) (fun z : Int32 × fm => Q (some (.int z.1)) z.2)) : fT X d w ai_r80 12 [some (.ref 0), some (.int x1), some (.int x2)] [] m Q :=
  wl_ob (P := fun s : Int32 × fm => fT X d w ai_r80 12 [some (.ref 0), some (.int x1), some (.int s.1)] [] s.2 Q) (fun s h => b80_12 hX hd hw x1 s.1 s.2 Q h) lf (x2, m) h
noncomputable def g80 (x1 : Int32) (m : fm) : Option (Int32 × fm) :=
  cl2 (g87 x1 m) fun v2 m1 =>
  bif ai_c .ne v2 0 then
    g80_12 x1 (nI 0) m1
  else
    some ((-101), m1)
set_option maxHeartbeats 4000000 in
theorem t80_0 {X : ai_X} {d w : Nat} (hX : X[1]? = some (39, ai_sh)) (hd : 3 ≤ d) (hw : 71 ≤ w) (x1 : Int32) (m : fm) (Q : Option Value → fm → Prop) (h : ob (g80 x1 m) (fun z : Int32 × fm => Q (some (.int z.1)) z.2)) : fT X d w ai_r80 0 [some (.ref 0), some (.int x1), none] [] m Q := by
  unfold g80 at h
  refine fT_ss 1 (pc' := 1) (L' := [some (.ref 0), some (.int x1), none]) (st' := [.int x1]) rfl ?_
  refine fO_qs2 Value.int (r' := ai_r87) (As := [.int x1]) (rest := []) rfl rfl rfl rfl rfl rfl (by omega) (show 19 + 1 ≤ w by omega) (Nat.le_of_ble_eq_true rfl) (Nat.le_of_ble_eq_true rfl) rfl rfl (fun Qc hq => t87_0 hX (show 0 ≤ d - 1 by omega) (show 0 ≤ w - (19 + 1) by omega) _ _ Qc hq) h (fun v2 m1 h => ?_)
  refine fO_if 10 rfl rfl h (fun h => ?_) (fun h => ?_)
  · refine fT_ss 2 (pc' := 12) (L' := [some (.ref 0), some (.int x1), some (.int (nI 0))]) (st' := []) rfl ?_
    exact fT_mk rfl rfl (t80_12 hX hd hw _ _ _ Q h)
  · refine fT_ss 1 (pc' := 9) (L' := [none, none, none]) (st' := [.int (-101)]) rfl ?_
    exact fT_r rfl rfl h
noncomputable def g81 (x1 : Int32) (x2 : Int32) (m : fm) : Option (Int32 × fm) :=
  cl2 (g84 x1 x2 m) fun v2 m1 =>
  bif ai_c .ge v2 0 then
    plk x1 fun b3 =>
    ldA b3 x2 fun c4 =>
    cl2 (g1 c4 m1) fun v6 m5 =>
    some (v6, m5)
  else
    some (v2, m1)
set_option maxHeartbeats 4000000 in
theorem t81_0 {X : ai_X} {d w : Nat} (hX : X[1]? = some (39, ai_sh)) (hd : 2 ≤ d) (hw : 42 ≤ w) (x1 : Int32) (x2 : Int32) (m : fm) (Q : Option Value → fm → Prop) (h : ob (g81 x1 x2 m) (fun z : Int32 × fm => Q (some (.int z.1)) z.2)) : fT X d w ai_r81 0 [some (.ref 0), some (.int x1), some (.int x2), none] [] m Q := by
  unfold g81 at h
  refine fT_ss 3 (pc' := 3) (L' := [some (.ref 0), some (.int x1), some (.int x2), none]) (st' := [.int x2, .int x1, .ref 0]) rfl ?_
  refine fO_qv2 Value.int (r' := ai_r84) (k := 0) (As := [.int x1, .int x2]) (rest := []) rfl rfl rfl rfl rfl rfl (by omega) (show 19 + 3 ≤ w by omega) (Nat.le_of_ble_eq_true rfl) (Nat.le_of_ble_eq_true rfl) rfl rfl (fun Qc hq => t84_0 hX (show 1 ≤ d - 1 by omega) (show 20 ≤ w - (19 + 3) by omega) _ _ _ Qc hq) h (fun v2 m1 h => ?_)
  refine fT_ss 2 (pc' := 8) (L' := [some (.ref 0), some (.int x1), some (.int x2), some (.int v2)]) (st' := [.int v2]) rfl ?_
  refine fO_if 15 rfl rfl h (fun h => ?_) (fun h => ?_)
  · refine fT_ss 2 (pc' := 17) (L' := [some (.ref 0), some (.int x1), some (.int x2), none]) (st' := [.int x1, .ref 0]) rfl ?_
    refine fO_pl rfl (by omega) (by omega) (Nat.le_of_ble_eq_true rfl) rfl rfl h (fun p3 b3 hp3 h => ?_)
    refine fT_ss 1 (pc' := 21) (L' := [some (.ref 0), some (.int x1), some (.int x2), none]) (st' := [.int x2, .ref p3]) rfl ?_
    refine fO_aa rfl hp3 h (fun c4 hc4 h => ?_)
    refine fO_qv2 Value.int (r' := ai_r1) (k := c4) (As := []) (rest := []) rfl rfl rfl rfl hc4.1 rfl (by omega) (show 19 + 1 ≤ w by omega) (Nat.le_of_ble_eq_true rfl) (Nat.le_of_ble_eq_true rfl) rfl rfl (fun Qc hq => t1_0 hX (show 0 ≤ d - 1 by omega) (show 0 ≤ w - (19 + 1) by omega) hc4 _ Qc hq) h (fun v6 m5 h => ?_)
    exact fT_r rfl rfl h
  · refine fT_ss 2 (pc' := 25) (L' := [none, none, none, some (.int v2)]) (st' := [.int v2]) rfl ?_
    exact fT_r rfl rfl h
noncomputable def g82_22 (x1 : Int32) (x2 : Int32) (x3 : Int32) (x4 : Int32) (m : fm) : Option (Int64 × fm) :=
  cl2 (g84 x1 x2 m) fun v4 m3 =>
  bif ai_c .ge v4 0 then
    plk x1 fun b5 =>
    ldA b5 x2 fun c6 =>
    cl2 (g2 c6 x3 m3) fun v8 m7 =>
    bif ai_c .eq v8 0 then
      some ((Int64.ofNat 18446744073709551515), m7)
    else
      cl2 (g4 c6 x3 x4 m7) fun v10 m9 =>
      some (((v10).toInt64), m9)
  else
    some (((v4).toInt64), m3)
set_option maxHeartbeats 4000000 in
theorem t82_22 {X : ai_X} {d w : Nat} (hX : X[1]? = some (39, ai_sh)) (hd : 2 ≤ d) (hw : 42 ≤ w) (x1 : Int32) (x2 : Int32) (x3 : Int32) (x4 : Int32) (m : fm) (Q : Option Value → fm → Prop) (h : ob (g82_22 x1 x2 x3 x4 m) (fun z : Int64 × fm => Q (some (.long z.1)) z.2)) : fT X d w ai_r82 22 [some (.ref 0), some (.int x1), some (.int x2), some (.int x3), some (.int x4), none, none] [] m Q := by
  unfold g82_22 at h
  refine fT_ss 3 (pc' := 25) (L' := [some (.ref 0), some (.int x1), some (.int x2), some (.int x3), some (.int x4), none, none]) (st' := [.int x2, .int x1, .ref 0]) rfl ?_
  refine fO_qv2 Value.int (r' := ai_r84) (k := 0) (As := [.int x1, .int x2]) (rest := []) rfl rfl rfl rfl rfl rfl (by omega) (show 19 + 3 ≤ w by omega) (Nat.le_of_ble_eq_true rfl) (Nat.le_of_ble_eq_true rfl) rfl rfl (fun Qc hq => t84_0 hX (show 1 ≤ d - 1 by omega) (show 20 ≤ w - (19 + 3) by omega) _ _ _ Qc hq) h (fun v4 m3 h => ?_)
  refine fT_ss 2 (pc' := 32) (L' := [some (.ref 0), some (.int x1), some (.int x2), some (.int x3), some (.int x4), some (.int v4), none]) (st' := [.int v4]) rfl ?_
  refine fO_if 39 rfl rfl h (fun h => ?_) (fun h => ?_)
  · refine fT_ss 2 (pc' := 41) (L' := [some (.ref 0), some (.int x1), some (.int x2), some (.int x3), some (.int x4), none, none]) (st' := [.int x1, .ref 0]) rfl ?_
    refine fO_pl rfl (by omega) (by omega) (Nat.le_of_ble_eq_true rfl) rfl rfl h (fun p5 b5 hp5 h => ?_)
    refine fT_ss 1 (pc' := 45) (L' := [some (.ref 0), some (.int x1), some (.int x2), some (.int x3), some (.int x4), none, none]) (st' := [.int x2, .ref p5]) rfl ?_
    refine fO_aa rfl hp5 h (fun c6 hc6 h => ?_)
    refine fT_ss 3 (pc' := 51) (L' := [some (.ref 0), some (.int x1), some (.int x2), some (.int x3), some (.int x4), none, some (.ref c6)]) (st' := [.int x3, .ref c6]) rfl ?_
    refine fO_qv2 Value.int (r' := ai_r2) (k := c6) (As := [.int x3]) (rest := []) rfl rfl rfl rfl hc6.1 rfl (by omega) (show 19 + 2 ≤ w by omega) (Nat.le_of_ble_eq_true rfl) (Nat.le_of_ble_eq_true rfl) (all_c rfl (all_c rfl (all_c rfl (all_c rfl (all_c rfl (all_c rfl (all_c (kl_c hc6.2.2.1) rfl))))))) rfl (fun Qc hq => t2_0 hX (show 0 ≤ d - 1 by omega) (show 0 ≤ w - (19 + 2) by omega) hc6 _ _ Qc hq) h (fun v8 m7 h => ?_)
    refine fO_if 69 rfl rfl h (fun h => ?_) (fun h => ?_)
    · refine fT_lc rfl ?_
      exact fT_r rfl rfl h
    · refine fT_ss 3 (pc' := 62) (L' := [none, none, none, some (.int x3), some (.int x4), none, some (.ref c6)]) (st' := [.int x4, .int x3, .ref c6]) rfl ?_
      refine fO_qv2 Value.int (r' := ai_r4) (k := c6) (As := [.int x3, .int x4]) (rest := []) rfl rfl rfl rfl hc6.1 rfl (by omega) (show 19 + 3 ≤ w by omega) (Nat.le_of_ble_eq_true rfl) (Nat.le_of_ble_eq_true rfl) (all_c rfl (all_c rfl (all_c rfl (all_c rfl (all_c rfl (all_c rfl (all_c (kl_c hc6.2.2.1) rfl))))))) rfl (fun Qc hq => t4_0 hX (show 0 ≤ d - 1 by omega) (show 0 ≤ w - (19 + 3) by omega) hc6 _ _ _ Qc hq) h (fun v10 m9 h => ?_)
      refine fT_ss 2 (pc' := 72) (L' := [none, none, none, some (.int x3), some (.int x4), none, some (.ref c6)]) (st' := [.long ((v10).toInt64)]) rfl ?_
      exact fT_r rfl rfl h
  · refine fT_ss 2 (pc' := 38) (L' := [none, none, none, none, none, some (.int v4), none]) (st' := [.long ((v4).toInt64)]) rfl ?_
    exact fT_r rfl rfl h
noncomputable def g82 (x1 : Int32) (x2 : Int32) (x3 : Int32) (x4 : Int32) (m : fm) : Option (Int64 × fm) :=
  cl2 (g87 x2 m) fun v2 m1 =>
  bif ai_c .eq v2 0 then
    g82_22 x1 x2 x3 x4 m1
  else
    bif ai_c .lt x4 0 then
      some ((Int64.ofNat 18446744073709551514), m1)
    else
      bif ai_c .lt x4 (nI 4) then
        g82_22 x1 x2 x3 x4 m1
      else
        some ((Int64.ofNat 18446744073709551514), m1)
set_option maxHeartbeats 4000000 in
theorem t82_0 {X : ai_X} {d w : Nat} (hX : X[1]? = some (39, ai_sh)) (hd : 2 ≤ d) (hw : 42 ≤ w) (x1 : Int32) (x2 : Int32) (x3 : Int32) (x4 : Int32) (m : fm) (Q : Option Value → fm → Prop) (h : ob (g82 x1 x2 x3 x4 m) (fun z : Int64 × fm => Q (some (.long z.1)) z.2)) : fT X d w ai_r82 0 [some (.ref 0), some (.int x1), some (.int x2), some (.int x3), some (.int x4), none, none] [] m Q := by
  unfold g82 at h
  refine fT_ss 1 (pc' := 1) (L' := [some (.ref 0), some (.int x1), some (.int x2), some (.int x3), some (.int x4), none, none]) (st' := [.int x2]) rfl ?_
  refine fO_qs2 Value.int (r' := ai_r87) (As := [.int x2]) (rest := []) rfl rfl rfl rfl rfl rfl (by omega) (show 19 + 1 ≤ w by omega) (Nat.le_of_ble_eq_true rfl) (Nat.le_of_ble_eq_true rfl) rfl rfl (fun Qc hq => t87_0 hX (show 0 ≤ d - 1 by omega) (show 0 ≤ w - (19 + 1) by omega) _ _ Qc hq) h (fun v2 m1 h => ?_)
  refine fO_if 22 rfl rfl h (fun h => ?_) (fun h => ?_)
  · exact fT_mk rfl rfl (t82_22 hX hd hw _ _ _ _ _ Q h)
  · refine fT_ss 1 (pc' := 9) (L' := [some (.ref 0), some (.int x1), some (.int x2), some (.int x3), some (.int x4), none, none]) (st' := [.int x4]) rfl ?_
    refine fO_if 18 rfl rfl h (fun h => ?_) (fun h => ?_)
    · refine fT_lc rfl ?_
      exact fT_r rfl rfl h
    · refine fT_ss 2 (pc' := 15) (L' := [some (.ref 0), some (.int x1), some (.int x2), some (.int x3), some (.int x4), none, none]) (st' := [.int (nI 4), .int x4]) rfl ?_
      refine fO_ic 22 rfl rfl h (fun h => ?_) (fun h => ?_)
      · exact fT_mk rfl rfl (t82_22 hX hd hw _ _ _ _ _ Q h)
      · refine fT_lc rfl ?_
        exact fT_r rfl rfl h
noncomputable def s83_4 (x1 : Int32) (x2 : Int32) (m : fm) : Option ((Int32 × Int32 × fm) ⊕ (Int32 × fm)) :=
  bif ai_c .ge x2 (nI 8) then
    pfB m 0 7 (nI 0) fun m1 =>
    cl1 (g41  m1) fun m2 =>
    some (.inr (x1, m2))
  else
    ldA 20 x2 fun c3 =>
    cl2 (g7 c3 m) fun v5 m4 =>
    stB m4 3 8 x2 (nI 0) fun m6 =>
    some (.inl ((x1 + v5), (x2 + (nI 1)), m6))
set_option maxHeartbeats 4000000 in
theorem b83_4 {X : ai_X} {d w : Nat} (hX : X[1]? = some (39, ai_sh)) (hd : 2 ≤ d) (hw : 42 ≤ w) (x1 : Int32) (x2 : Int32) (m : fm) (Q : Option Value → fm → Prop) (h : ob (s83_4 x1 x2 m) (Sum.elim (fun s : Int32 × Int32 × fm => fT X d w ai_r83 4 [some (.ref 0), some (.int s.1), some (.int s.2.1)] [] s.2.2 Q) (fun z : Int32 × fm => Q (some (.int z.1)) z.2))) : fT X d w ai_r83 4 [some (.ref 0), some (.int x1), some (.int x2)] [] m Q := by
  unfold s83_4 at h
  refine fT_ss 2 (pc' := 7) (L' := [some (.ref 0), some (.int x1), some (.int x2)]) (st' := [.int (nI 8), .int x2]) rfl ?_
  refine fO_ic 35 rfl rfl h (fun h => ?_) (fun h => ?_)
  · refine fT_ss 2 (pc' := 37) (L' := [some (.ref 0), some (.int x1), none]) (st' := [.int (nI 0), .ref 0]) rfl ?_
    refine fO_pb rfl rfl rfl rfl h (fun m1 h => ?_)
    refine fT_ss 1 (pc' := 41) (L' := [some (.ref 0), some (.int x1), none]) (st' := [.ref 0]) rfl ?_
    refine fT_gr (q := 14) rfl rfl rfl ?_
    refine fO_qv1 (r' := ai_r41) (k := 14) (As := []) (rest := []) rfl rfl rfl rfl rfl rfl (by omega) (show 19 + 2 ≤ w by omega) (Nat.le_of_ble_eq_true rfl) (Nat.le_of_ble_eq_true rfl) rfl rfl (fun Qc hq => t41_0 hX (show 0 ≤ d - 1 by omega) (show 0 ≤ w - (19 + 2) by omega)  _ Qc hq) h (fun m2 h => ?_)
    refine fT_ss 1 (pc' := 48) (L' := [some (.ref 0), some (.int x1), none]) (st' := [.int x1]) rfl ?_
    exact fT_r rfl rfl h
  · refine fT_ss 2 (pc' := 12) (L' := [some (.ref 0), some (.int x1), some (.int x2)]) (st' := [.ref 0, .int x1]) rfl ?_
    refine fT_gr (q := 1) rfl rfl rfl ?_
    refine fT_ss 1 (pc' := 16) (L' := [some (.ref 0), some (.int x1), some (.int x2)]) (st' := [.int x2, .ref 1, .int x1]) rfl ?_
    refine fO_aa rfl isP_1 h (fun c3 hc3 h => ?_)
    refine fO_qv2 Value.int (r' := ai_r7) (k := c3) (As := []) (rest := [.int x1]) rfl rfl rfl rfl hc3.1 rfl (by omega) (show 19 + 1 ≤ w by omega) (Nat.le_of_ble_eq_true rfl) (Nat.le_of_ble_eq_true rfl) rfl rfl (fun Qc hq => t7_0 hX (show 1 ≤ d - 1 by omega) (show 22 ≤ w - (19 + 1) by omega) hc3 _ Qc hq) h (fun v5 m4 h => ?_)
    refine fT_ss 3 (pc' := 23) (L' := [some (.ref 0), some (.int (x1 + v5)), some (.int x2)]) (st' := [.ref 0]) rfl ?_
    refine fT_gr (q := 3) rfl rfl rfl ?_
    refine fT_ss 2 (pc' := 28) (L' := [some (.ref 0), some (.int (x1 + v5)), some (.int x2)]) (st' := [.int (nI 0), .int x2, .ref 3]) rfl ?_
    refine fO_bs rfl rfl h (fun m6 h => ?_)
    refine fT_ss 2 (pc' := 4) (L' := [some (.ref 0), some (.int (x1 + v5)), some (.int (x2 + (nI 1)))]) (st' := []) rfl ?_
    replace h := ob_inl h
    exact fT_mk rfl rfl h
noncomputable def g83_4 (x1 : Int32) (x2 : Int32) (m : fm) : Option (Int32 × fm) := wl (fun s : Int32 × Int32 × fm => s83_4 s.1 s.2.1 s.2.2) lf (x1, x2, m)
theorem t83_4 {X : ai_X} {d w : Nat} (hX : X[1]? = some (39, ai_sh)) (hd : 2 ≤ d) (hw : 42 ≤ w) (x1 : Int32) (x2 : Int32) (m : fm) (Q : Option Value → fm → Prop) (h : ob (g83_4 x1 x2 m) (fun z : Int32 × fm => Q (some (.int z.1)) z.2)) : fT X d w ai_r83 4 [some (.ref 0), some (.int x1), some (.int x2)] [] m Q :=
  wl_ob (P := fun s : Int32 × Int32 × fm => fT X d w ai_r83 4 [some (.ref 0), some (.int s.1), some (.int s.2.1)] [] s.2.2 Q) (fun s h => b83_4 hX hd hw s.1 s.2.1 s.2.2 Q h) lf (x1, x2, m) h
noncomputable def g83  (m : fm) : Option (Int32 × fm) :=
  g83_4 (nI 0) (nI 0) m
set_option maxHeartbeats 4000000 in
theorem t83_0 {X : ai_X} {d w : Nat} (hX : X[1]? = some (39, ai_sh)) (hd : 2 ≤ d) (hw : 42 ≤ w)  (m : fm) (Q : Option Value → fm → Prop) (h : ob (g83  m) (fun z : Int32 × fm => Q (some (.int z.1)) z.2)) : fT X d w ai_r83 0 [some (.ref 0), none, none] [] m Q := by
  unfold g83 at h
  refine fT_ss 4 (pc' := 4) (L' := [some (.ref 0), some (.int (nI 0)), some (.int (nI 0))]) (st' := []) rfl ?_
  exact fT_mk rfl rfl (t83_4 hX hd hw _ _ _ Q h)
noncomputable def g95 (x0 : Int32) (x1 : Int32) (x2 : Int32) (m : fm) : Option (Int32 × fm) :=
  bif ai_c .lt x0 x1 then
    some ((nI 0), m)
  else
    bif ai_c .gt x0 x2 then
      some ((nI 0), m)
    else
      some ((nI 1), m)
set_option maxHeartbeats 4000000 in
theorem t95_0 {X : ai_X} {d w : Nat} (hX : X[1]? = some (39, ai_sh)) (hd : 0 ≤ d) (hw : 0 ≤ w) (x0 : Int32) (x1 : Int32) (x2 : Int32) (m : fm) (Q : Option Value → fm → Prop) (h : ob (g95 x0 x1 x2 m) (fun z : Int32 × fm => Q (some (.int z.1)) z.2)) : fT X d w ai_r95 0 [some (.int x0), some (.int x1), some (.int x2)] [] m Q := by
  unfold g95 at h
  refine fT_ss 2 (pc' := 2) (L' := [some (.int x0), some (.int x1), some (.int x2)]) (st' := [.int x1, .int x0]) rfl ?_
  refine fO_ic 14 rfl rfl h (fun h => ?_) (fun h => ?_)
  · refine fT_ss 1 (pc' := 15) (L' := [none, none, none]) (st' := [.int (nI 0)]) rfl ?_
    exact fT_r rfl rfl h
  · refine fT_ss 2 (pc' := 7) (L' := [some (.int x0), none, some (.int x2)]) (st' := [.int x2, .int x0]) rfl ?_
    refine fO_ic 14 rfl rfl h (fun h => ?_) (fun h => ?_)
    · refine fT_ss 1 (pc' := 15) (L' := [none, none, none]) (st' := [.int (nI 0)]) rfl ?_
      exact fT_r rfl rfl h
    · refine fT_ss 2 (pc' := 15) (L' := [none, none, none]) (st' := [.int (nI 1)]) rfl ?_
      exact fT_r rfl rfl h
noncomputable def g96 (x0 : Int32) (m : fm) : Option (Int32 × fm) :=
  cl2 (g95 x0 (nI 0) (nI 7) m) fun v2 m1 =>
  rtB v2 (some (v2, m1))
set_option maxHeartbeats 4000000 in
theorem t96_0 {X : ai_X} {d w : Nat} (hX : X[1]? = some (39, ai_sh)) (hd : 1 ≤ d) (hw : 22 ≤ w) (x0 : Int32) (m : fm) (Q : Option Value → fm → Prop) (h : ob (g96 x0 m) (fun z : Int32 × fm => Q (some (.int z.1)) z.2)) : fT X d w ai_r96 0 [some (.int x0)] [] m Q := by
  unfold g96 at h
  refine fT_ss 3 (pc' := 4) (L' := [some (.int x0)]) (st' := [.int (nI 7), .int (nI 0), .int x0]) rfl ?_
  refine fO_qs2 Value.int (r' := ai_r95) (As := [.int x0, .int (nI 0), .int (nI 7)]) (rest := []) rfl rfl rfl rfl rfl rfl (by omega) (show 19 + 3 ≤ w by omega) (Nat.le_of_ble_eq_true rfl) (Nat.le_of_ble_eq_true rfl) rfl rfl (fun Qc hq => t95_0 hX (show 0 ≤ d - 1 by omega) (show 0 ≤ w - (19 + 3) by omega) _ _ _ _ Qc hq) h (fun v2 m1 h => ?_)
  exact fO_rb rfl rfl h (fun h => h)
noncomputable def g97 (x0 : Int32) (m : fm) : Option (Int32 × fm) :=
  cl2 (g95 x0 (nI 0) (nI 3) m) fun v2 m1 =>
  rtB v2 (some (v2, m1))
set_option maxHeartbeats 4000000 in
theorem t97_0 {X : ai_X} {d w : Nat} (hX : X[1]? = some (39, ai_sh)) (hd : 1 ≤ d) (hw : 22 ≤ w) (x0 : Int32) (m : fm) (Q : Option Value → fm → Prop) (h : ob (g97 x0 m) (fun z : Int32 × fm => Q (some (.int z.1)) z.2)) : fT X d w ai_r97 0 [some (.int x0)] [] m Q := by
  unfold g97 at h
  refine fT_ss 3 (pc' := 3) (L' := [some (.int x0)]) (st' := [.int (nI 3), .int (nI 0), .int x0]) rfl ?_
  refine fO_qs2 Value.int (r' := ai_r95) (As := [.int x0, .int (nI 0), .int (nI 3)]) (rest := []) rfl rfl rfl rfl rfl rfl (by omega) (show 19 + 3 ≤ w by omega) (Nat.le_of_ble_eq_true rfl) (Nat.le_of_ble_eq_true rfl) rfl rfl (fun Qc hq => t95_0 hX (show 0 ≤ d - 1 by omega) (show 0 ≤ w - (19 + 3) by omega) _ _ _ _ Qc hq) h (fun v2 m1 h => ?_)
  exact fO_rb rfl rfl h (fun h => h)
noncomputable def g98 (x0 : Int32) (x1 : Int32) (x2 : Int32) (m : fm) : Option (Int32 × fm) :=
  some ((((nI 24) * (((nI 8) * x0) + x1)) + x2), m)
set_option maxHeartbeats 4000000 in
theorem t98_0 {X : ai_X} {d w : Nat} (hX : X[1]? = some (39, ai_sh)) (hd : 0 ≤ d) (hw : 0 ≤ w) (x0 : Int32) (x1 : Int32) (x2 : Int32) (m : fm) (Q : Option Value → fm → Prop) (h : ob (g98 x0 x1 x2 m) (fun z : Int32 × fm => Q (some (.int z.1)) z.2)) : fT X d w ai_r98 0 [some (.int x0), some (.int x1), some (.int x2)] [] m Q := by
  unfold g98 at h
  refine fT_ss 9 (pc' := 11) (L' := [some (.int x0), some (.int x1), some (.int x2)]) (st' := [.int (((nI 24) * (((nI 8) * x0) + x1)) + x2)]) rfl ?_
  exact fT_r rfl rfl h
noncomputable def g99 (x0 : Int32) (m : fm) : Option (Int32 × fm) :=
  bif decide (x0 = nI 0) then
    some ((nI 120), m)
  else bif decide (x0 = nI 1) then
    some ((nI 110), m)
  else bif decide (x0 = nI 2) then
    some ((nI 111), m)
  else bif decide (x0 = nI 3) then
    some ((nI 111), m)
  else bif decide (x0 = nI 4) then
    some ((nI 111), m)
  else bif decide (x0 = nI 5) then
    some ((nI 113), m)
  else bif decide (x0 = nI 6) then
    some ((nI 300), m)
  else bif decide (x0 = nI 7) then
    some ((nI 140), m)
  else bif decide (x0 = nI 8) then
    some ((nI 140), m)
  else bif decide (x0 = nI 9) then
    some ((nI 150), m)
  else 
  some ((nI 100), m)
set_option maxHeartbeats 4000000 in
theorem t99_0 {X : ai_X} {d w : Nat} (hX : X[1]? = some (39, ai_sh)) (hd : 0 ≤ d) (hw : 0 ≤ w) (x0 : Int32) (m : fm) (Q : Option Value → fm → Prop) (h : ob (g99 x0 m) (fun z : Int32 × fm => Q (some (.int z.1)) z.2)) : fT X d w ai_r99 0 [some (.int x0)] [] m Q := by
  unfold g99 at h
  refine fT_ss 1 (pc' := 1) (L' := [some (.int x0)]) (st' := [.int x0]) rfl ?_
  by_cases e0 : x0 = nI 0
  · subst e0
    replace h := ob_eqT h
    refine fT_ss 1 (pc' := 56) (L' := [some (.int (nI 0))]) (st' := []) rfl ?_
    refine fT_ss 1 (pc' := 58) (L' := [none]) (st' := [.int (nI 120)]) rfl ?_
    exact fT_r rfl rfl h
  replace h := ob_eqF e0 h
  by_cases e1 : x0 = nI 1
  · subst e1
    replace h := ob_eqT h
    refine fT_ss 1 (pc' := 59) (L' := [some (.int (nI 1))]) (st' := []) rfl ?_
    refine fT_ss 1 (pc' := 61) (L' := [none]) (st' := [.int (nI 110)]) rfl ?_
    exact fT_r rfl rfl h
  replace h := ob_eqF e1 h
  by_cases e2 : x0 = nI 2
  · subst e2
    replace h := ob_eqT h
    refine fT_ss 1 (pc' := 62) (L' := [some (.int (nI 2))]) (st' := []) rfl ?_
    refine fT_ss 1 (pc' := 64) (L' := [none]) (st' := [.int (nI 111)]) rfl ?_
    exact fT_r rfl rfl h
  replace h := ob_eqF e2 h
  by_cases e3 : x0 = nI 3
  · subst e3
    replace h := ob_eqT h
    refine fT_ss 1 (pc' := 62) (L' := [some (.int (nI 3))]) (st' := []) rfl ?_
    refine fT_ss 1 (pc' := 64) (L' := [none]) (st' := [.int (nI 111)]) rfl ?_
    exact fT_r rfl rfl h
  replace h := ob_eqF e3 h
  by_cases e4 : x0 = nI 4
  · subst e4
    replace h := ob_eqT h
    refine fT_ss 1 (pc' := 62) (L' := [some (.int (nI 4))]) (st' := []) rfl ?_
    refine fT_ss 1 (pc' := 64) (L' := [none]) (st' := [.int (nI 111)]) rfl ?_
    exact fT_r rfl rfl h
  replace h := ob_eqF e4 h
  by_cases e5 : x0 = nI 5
  · subst e5
    replace h := ob_eqT h
    refine fT_ss 1 (pc' := 65) (L' := [some (.int (nI 5))]) (st' := []) rfl ?_
    refine fT_ss 1 (pc' := 67) (L' := [none]) (st' := [.int (nI 113)]) rfl ?_
    exact fT_r rfl rfl h
  replace h := ob_eqF e5 h
  by_cases e6 : x0 = nI 6
  · subst e6
    replace h := ob_eqT h
    refine fT_ss 1 (pc' := 68) (L' := [some (.int (nI 6))]) (st' := []) rfl ?_
    refine fT_ss 1 (pc' := 71) (L' := [none]) (st' := [.int (nI 300)]) rfl ?_
    exact fT_r rfl rfl h
  replace h := ob_eqF e6 h
  by_cases e7 : x0 = nI 7
  · subst e7
    replace h := ob_eqT h
    refine fT_ss 1 (pc' := 72) (L' := [some (.int (nI 7))]) (st' := []) rfl ?_
    refine fT_ss 1 (pc' := 75) (L' := [none]) (st' := [.int (nI 140)]) rfl ?_
    exact fT_r rfl rfl h
  replace h := ob_eqF e7 h
  by_cases e8 : x0 = nI 8
  · subst e8
    replace h := ob_eqT h
    refine fT_ss 1 (pc' := 72) (L' := [some (.int (nI 8))]) (st' := []) rfl ?_
    refine fT_ss 1 (pc' := 75) (L' := [none]) (st' := [.int (nI 140)]) rfl ?_
    exact fT_r rfl rfl h
  replace h := ob_eqF e8 h
  by_cases e9 : x0 = nI 9
  · subst e9
    replace h := ob_eqT h
    refine fT_ss 1 (pc' := 76) (L' := [some (.int (nI 9))]) (st' := []) rfl ?_
    refine fT_ss 1 (pc' := 79) (L' := [none]) (st' := [.int (nI 150)]) rfl ?_
    exact fT_r rfl rfl h
  replace h := ob_eqF e9 h
  refine fO_td 80 rfl rfl (by have := nt (k := 0) (by omega) e0; have := nt (k := 1) (by omega) e1; have := nt (k := 2) (by omega) e2; have := nt (k := 3) (by omega) e3; have := nt (k := 4) (by omega) e4; have := nt (k := 5) (by omega) e5; have := nt (k := 6) (by omega) e6; have := nt (k := 7) (by omega) e7; have := nt (k := 8) (by omega) e8; have := nt (k := 9) (by omega) e9; omega) ?_
  refine fT_ss 1 (pc' := 82) (L' := [none]) (st' := [.int (nI 100)]) rfl ?_
  exact fT_r rfl rfl h
noncomputable def g100 (x0 : Int32) (x1 : Int32) (m : fm) : Option (Int32 × fm) :=
  cl2 (g99 x0 m) fun v2 m1 =>
  bif ai_c .ne x1 0 then
    bif ai_c .ne x1 (nI 1) then
      rmI v2 (nI 10) fun v3 =>
      some (v3, m1)
    else
      dvI v2 (nI 10) fun v4 =>
      rmI v4 (nI 10) fun v5 =>
      some (v5, m1)
  else
    dvI v2 (nI 100) fun v6 =>
    some (v6, m1)
set_option maxHeartbeats 4000000 in
theorem t100_0 {X : ai_X} {d w : Nat} (hX : X[1]? = some (39, ai_sh)) (hd : 1 ≤ d) (hw : 20 ≤ w) (x0 : Int32) (x1 : Int32) (m : fm) (Q : Option Value → fm → Prop) (h : ob (g100 x0 x1 m) (fun z : Int32 × fm => Q (some (.int z.1)) z.2)) : fT X d w ai_r100 0 [some (.int x0), some (.int x1), none] [] m Q := by
  unfold g100 at h
  refine fT_ss 1 (pc' := 1) (L' := [some (.int x0), some (.int x1), none]) (st' := [.int x0]) rfl ?_
  refine fO_qs2 Value.int (r' := ai_r99) (As := [.int x0]) (rest := []) rfl rfl rfl rfl rfl rfl (by omega) (show 19 + 1 ≤ w by omega) (Nat.le_of_ble_eq_true rfl) (Nat.le_of_ble_eq_true rfl) rfl rfl (fun Qc hq => t99_0 hX (show 0 ≤ d - 1 by omega) (show 0 ≤ w - (19 + 1) by omega) _ _ Qc hq) h (fun v2 m1 h => ?_)
  refine fT_ss 2 (pc' := 6) (L' := [some (.int x0), some (.int x1), some (.int v2)]) (st' := [.int x1]) rfl ?_
  refine fO_if 16 rfl rfl h (fun h => ?_) (fun h => ?_)
  · refine fT_ss 2 (pc' := 18) (L' := [none, some (.int x1), some (.int v2)]) (st' := [.int (nI 1), .int x1]) rfl ?_
    refine fO_ic 31 rfl rfl h (fun h => ?_) (fun h => ?_)
    · refine fT_ss 2 (pc' := 34) (L' := [none, none, some (.int v2)]) (st' := [.int (nI 10), .int v2]) rfl ?_
      refine fO_rm rfl h (fun v3 h => ?_)
      exact fT_r rfl rfl h
    · refine fT_ss 2 (pc' := 24) (L' := [none, none, some (.int v2)]) (st' := [.int (nI 10), .int v2]) rfl ?_
      refine fO_dv rfl h (fun v4 h => ?_)
      refine fT_ss 1 (pc' := 27) (L' := [none, none, some (.int v2)]) (st' := [.int (nI 10), .int v4]) rfl ?_
      refine fO_rm rfl h (fun v5 h => ?_)
      refine fT_ss 1 (pc' := 35) (L' := [none, none, some (.int v2)]) (st' := [.int v5]) rfl ?_
      exact fT_r rfl rfl h
  · refine fT_ss 2 (pc' := 12) (L' := [none, none, some (.int v2)]) (st' := [.int (nI 100), .int v2]) rfl ?_
    refine fO_dv rfl h (fun v6 h => ?_)
    refine fT_ss 1 (pc' := 35) (L' := [none, none, some (.int v2)]) (st' := [.int v6]) rfl ?_
    exact fT_r rfl rfl h
noncomputable def g101 (x0 : Int32) (x1 : Int32) (m : fm) : Option (Int32 × fm) :=
  bif ai_c .eq x0 0 then
    some ((nI 1), m)
  else
    bif ai_c .eq x0 (nI 2) then
      some ((nI 1), m)
    else
      bif ai_c .eq x0 (nI 3) then
        some ((nI 1), m)
      else
        bif ai_c .ne x0 (nI 5) then
          cl2 (g97 x1 m) fun v2 m1 =>
          bif ai_c .eq v2 0 then
            some ((nI 0), m1)
          else
            some ((nI 1), m1)
        else
          cl2 (g96 x1 m) fun v4 m3 =>
          bif ai_c .eq v4 0 then
            some ((nI 0), m3)
          else
            some ((nI 1), m3)
set_option maxHeartbeats 4000000 in
theorem t101_0 {X : ai_X} {d w : Nat} (hX : X[1]? = some (39, ai_sh)) (hd : 2 ≤ d) (hw : 42 ≤ w) (x0 : Int32) (x1 : Int32) (m : fm) (Q : Option Value → fm → Prop) (h : ob (g101 x0 x1 m) (fun z : Int32 × fm => Q (some (.int z.1)) z.2)) : fT X d w ai_r101 0 [some (.int x0), some (.int x1)] [] m Q := by
  unfold g101 at h
  refine fT_ss 1 (pc' := 1) (L' := [some (.int x0), some (.int x1)]) (st' := [.int x0]) rfl ?_
  refine fO_if 36 rfl rfl h (fun h => ?_) (fun h => ?_)
  · refine fT_ss 2 (pc' := 41) (L' := [none, none]) (st' := [.int (nI 1)]) rfl ?_
    exact fT_r rfl rfl h
  · refine fT_ss 2 (pc' := 6) (L' := [some (.int x0), some (.int x1)]) (st' := [.int (nI 2), .int x0]) rfl ?_
    refine fO_ic 36 rfl rfl h (fun h => ?_) (fun h => ?_)
    · refine fT_ss 2 (pc' := 41) (L' := [none, none]) (st' := [.int (nI 1)]) rfl ?_
      exact fT_r rfl rfl h
    · refine fT_ss 2 (pc' := 11) (L' := [some (.int x0), some (.int x1)]) (st' := [.int (nI 3), .int x0]) rfl ?_
      refine fO_ic 36 rfl rfl h (fun h => ?_) (fun h => ?_)
      · refine fT_ss 2 (pc' := 41) (L' := [none, none]) (st' := [.int (nI 1)]) rfl ?_
        exact fT_r rfl rfl h
      · refine fT_ss 2 (pc' := 16) (L' := [some (.int x0), some (.int x1)]) (st' := [.int (nI 5), .int x0]) rfl ?_
        refine fO_ic 29 rfl rfl h (fun h => ?_) (fun h => ?_)
        · refine fT_ss 1 (pc' := 30) (L' := [none, some (.int x1)]) (st' := [.int x1]) rfl ?_
          refine fO_qs2 Value.int (r' := ai_r97) (As := [.int x1]) (rest := []) rfl rfl rfl rfl rfl rfl (by omega) (show 19 + 1 ≤ w by omega) (Nat.le_of_ble_eq_true rfl) (Nat.le_of_ble_eq_true rfl) rfl rfl (fun Qc hq => t97_0 hX (show 1 ≤ d - 1 by omega) (show 22 ≤ w - (19 + 1) by omega) _ _ Qc hq) h (fun v2 m1 h => ?_)
          refine fO_if 40 rfl rfl h (fun h => ?_) (fun h => ?_)
          · refine fT_ss 1 (pc' := 41) (L' := [none, none]) (st' := [.int (nI 0)]) rfl ?_
            exact fT_r rfl rfl h
          · refine fT_ss 2 (pc' := 41) (L' := [none, none]) (st' := [.int (nI 1)]) rfl ?_
            exact fT_r rfl rfl h
        · refine fT_ss 1 (pc' := 20) (L' := [none, some (.int x1)]) (st' := [.int x1]) rfl ?_
          refine fO_qs2 Value.int (r' := ai_r96) (As := [.int x1]) (rest := []) rfl rfl rfl rfl rfl rfl (by omega) (show 19 + 1 ≤ w by omega) (Nat.le_of_ble_eq_true rfl) (Nat.le_of_ble_eq_true rfl) rfl rfl (fun Qc hq => t96_0 hX (show 1 ≤ d - 1 by omega) (show 22 ≤ w - (19 + 1) by omega) _ _ Qc hq) h (fun v4 m3 h => ?_)
          refine fO_if 40 rfl rfl h (fun h => ?_) (fun h => ?_)
          · refine fT_ss 1 (pc' := 41) (L' := [none, none]) (st' := [.int (nI 0)]) rfl ?_
            exact fT_r rfl rfl h
          · refine fT_ss 3 (pc' := 41) (L' := [none, none]) (st' := [.int (nI 1)]) rfl ?_
            exact fT_r rfl rfl h
noncomputable def g102 (x0 : Int32) (x1 : Int32) (m : fm) : Option (Int32 × fm) :=
  bif ai_c .ne x0 (nI 3) then
    some ((nI 0), m)
  else
    cl2 (g95 x1 (nI 0) (nI 24) m) fun v2 m1 =>
    bif ai_c .ne v2 0 then
      some ((nI 0), m1)
    else
      some ((nI 1), m1)
set_option maxHeartbeats 4000000 in
theorem t102_0 {X : ai_X} {d w : Nat} (hX : X[1]? = some (39, ai_sh)) (hd : 1 ≤ d) (hw : 22 ≤ w) (x0 : Int32) (x1 : Int32) (m : fm) (Q : Option Value → fm → Prop) (h : ob (g102 x0 x1 m) (fun z : Int32 × fm => Q (some (.int z.1)) z.2)) : fT X d w ai_r102 0 [some (.int x0), some (.int x1)] [] m Q := by
  unfold g102 at h
  refine fT_ss 2 (pc' := 2) (L' := [some (.int x0), some (.int x1)]) (st' := [.int (nI 3), .int x0]) rfl ?_
  refine fO_ic 19 rfl rfl h (fun h => ?_) (fun h => ?_)
  · refine fT_ss 1 (pc' := 20) (L' := [none, none]) (st' := [.int (nI 0)]) rfl ?_
    exact fT_r rfl rfl h
  · refine fT_ss 3 (pc' := 9) (L' := [none, some (.int x1)]) (st' := [.int (nI 24), .int (nI 0), .int x1]) rfl ?_
    refine fO_qs2 Value.int (r' := ai_r95) (As := [.int x1, .int (nI 0), .int (nI 24)]) (rest := []) rfl rfl rfl rfl rfl rfl (by omega) (show 19 + 3 ≤ w by omega) (Nat.le_of_ble_eq_true rfl) (Nat.le_of_ble_eq_true rfl) rfl rfl (fun Qc hq => t95_0 hX (show 0 ≤ d - 1 by omega) (show 0 ≤ w - (19 + 3) by omega) _ _ _ _ Qc hq) h (fun v2 m1 h => ?_)
    refine fO_if 19 rfl rfl h (fun h => ?_) (fun h => ?_)
    · refine fT_ss 1 (pc' := 20) (L' := [none, none]) (st' := [.int (nI 0)]) rfl ?_
      exact fT_r rfl rfl h
    · refine fT_ss 2 (pc' := 20) (L' := [none, none]) (st' := [.int (nI 1)]) rfl ?_
      exact fT_r rfl rfl h
noncomputable def g103_192 (x1 : Int32) (y0 : Int32) (y1 : Int32) (m : fm) : Option (Int32 × fm) :=
  stI m 56 384 y1 y0 fun m30 =>
  ldI m30 57 16 x1 fun v31 =>
  stI m30 57 16 x1 (v31 + (nI 1)) fun m32 =>
  ldI m32 57 16 x1 fun v33 =>
  some ((v33 - (nI 1)), m32)
set_option maxHeartbeats 4000000 in
theorem t103_192 {X : ai_X} {d w : Nat} (hX : X[1]? = some (39, ai_sh)) (hd : 3 ≤ d) (hw : 63 ≤ w) (x1 : Int32) (y0 : Int32) (y1 : Int32) (m : fm) (Q : Option Value → fm → Prop) (h : ob (g103_192 x1 y0 y1 m) (fun z : Int32 × fm => Q (some (.int z.1)) z.2)) : fT X d w ai_r103 192 [some (.ref 52), some (.int x1), none, none, none, none, none, none, none, none] [.int y0, .int y1, .ref 56] m Q := by
  unfold g103_192 at h
  refine fO_is rfl rfl h (fun m30 h => ?_)
  refine fT_ss 1 (pc' := 194) (L' := [some (.ref 52), some (.int x1), none, none, none, none, none, none, none, none]) (st' := [.ref 52]) rfl ?_
  refine fT_gr (q := 57) rfl rfl rfl ?_
  refine fT_ss 2 (pc' := 199) (L' := [some (.ref 52), some (.int x1), none, none, none, none, none, none, none, none]) (st' := [.int x1, .ref 57, .int x1, .ref 57]) rfl ?_
  refine fO_ia rfl rfl rfl h (fun v31 h => ?_)
  refine fT_ss 2 (pc' := 202) (L' := [some (.ref 52), some (.int x1), none, none, none, none, none, none, none, none]) (st' := [.int (v31 + (nI 1)), .int x1, .ref 57]) rfl ?_
  refine fO_is rfl rfl h (fun m32 h => ?_)
  refine fT_ss 1 (pc' := 204) (L' := [some (.ref 52), some (.int x1), none, none, none, none, none, none, none, none]) (st' := [.ref 52]) rfl ?_
  refine fT_gr (q := 57) rfl rfl rfl ?_
  refine fT_ss 1 (pc' := 208) (L' := [some (.ref 52), some (.int x1), none, none, none, none, none, none, none, none]) (st' := [.int x1, .ref 57]) rfl ?_
  refine fO_ia rfl rfl rfl h (fun v33 h => ?_)
  refine fT_ss 2 (pc' := 211) (L' := [some (.ref 52), some (.int x1), none, none, none, none, none, none, none, none]) (st' := [.int (v33 - (nI 1))]) rfl ?_
  exact fT_r rfl rfl h
noncomputable def g103_174 (x1 : Int32) (x5 : Int32) (x8 : Int32) (x9 : Int32) (y0 : Int32) (y1 : Int32) (m : fm) : Option (Int32 × fm) :=
  stI m 55 384 y1 y0 fun m29 =>
  bif ai_c .ne x8 0 then
    g103_192 x1 x5 x9 m29
  else
    g103_192 x1 (nI 0) x9 m29
set_option maxHeartbeats 4000000 in
theorem t103_174 {X : ai_X} {d w : Nat} (hX : X[1]? = some (39, ai_sh)) (hd : 3 ≤ d) (hw : 63 ≤ w) (x1 : Int32) (x5 : Int32) (x8 : Int32) (x9 : Int32) (y0 : Int32) (y1 : Int32) (m : fm) (Q : Option Value → fm → Prop) (h : ob (g103_174 x1 x5 x8 x9 y0 y1 m) (fun z : Int32 × fm => Q (some (.int z.1)) z.2)) : fT X d w ai_r103 174 [some (.ref 52), some (.int x1), none, none, none, some (.int x5), none, none, some (.int x8), some (.int x9)] [.int y0, .int y1, .ref 55] m Q := by
  unfold g103_174 at h
  refine fO_is rfl rfl h (fun m29 h => ?_)
  refine fT_ss 1 (pc' := 176) (L' := [some (.ref 52), some (.int x1), none, none, none, some (.int x5), none, none, some (.int x8), some (.int x9)]) (st' := [.ref 52]) rfl ?_
  refine fT_gr (q := 56) rfl rfl rfl ?_
  refine fT_ss 2 (pc' := 183) (L' := [some (.ref 52), some (.int x1), none, none, none, some (.int x5), none, none, some (.int x8), some (.int x9)]) (st' := [.int x8, .int x9, .ref 56]) rfl ?_
  refine fO_if 190 rfl rfl h (fun h => ?_) (fun h => ?_)
  · refine fT_ss 1 (pc' := 192) (L' := [some (.ref 52), some (.int x1), none, none, none, some (.int x5), none, none, none, none]) (st' := [.int x5, .int x9, .ref 56]) rfl ?_
    exact fT_mk rfl rfl (t103_192 hX hd hw _ _ _ _ Q h)
  · refine fT_ss 2 (pc' := 192) (L' := [some (.ref 52), some (.int x1), none, none, none, none, none, none, none, none]) (st' := [.int (nI 0), .int x9, .ref 56]) rfl ?_
    exact fT_mk rfl rfl (t103_192 hX hd hw _ _ _ _ Q h)
noncomputable def g103_156 (x1 : Int32) (x4 : Int32) (x5 : Int32) (x7 : Int32) (x8 : Int32) (x9 : Int32) (y0 : Int32) (y1 : Int32) (m : fm) : Option (Int32 × fm) :=
  stI m 54 384 y1 y0 fun m28 =>
  bif ai_c .ne x7 0 then
    g103_174 x1 x5 x8 x9 x4 x9 m28
  else
    g103_174 x1 x5 x8 x9 (nI 0) x9 m28
set_option maxHeartbeats 4000000 in
theorem t103_156 {X : ai_X} {d w : Nat} (hX : X[1]? = some (39, ai_sh)) (hd : 3 ≤ d) (hw : 63 ≤ w) (x1 : Int32) (x4 : Int32) (x5 : Int32) (x7 : Int32) (x8 : Int32) (x9 : Int32) (y0 : Int32) (y1 : Int32) (m : fm) (Q : Option Value → fm → Prop) (h : ob (g103_156 x1 x4 x5 x7 x8 x9 y0 y1 m) (fun z : Int32 × fm => Q (some (.int z.1)) z.2)) : fT X d w ai_r103 156 [some (.ref 52), some (.int x1), none, none, some (.int x4), some (.int x5), none, some (.int x7), some (.int x8), some (.int x9)] [.int y0, .int y1, .ref 54] m Q := by
  unfold g103_156 at h
  refine fO_is rfl rfl h (fun m28 h => ?_)
  refine fT_ss 1 (pc' := 158) (L' := [some (.ref 52), some (.int x1), none, none, some (.int x4), some (.int x5), none, some (.int x7), some (.int x8), some (.int x9)]) (st' := [.ref 52]) rfl ?_
  refine fT_gr (q := 55) rfl rfl rfl ?_
  refine fT_ss 2 (pc' := 165) (L' := [some (.ref 52), some (.int x1), none, none, some (.int x4), some (.int x5), none, some (.int x7), some (.int x8), some (.int x9)]) (st' := [.int x7, .int x9, .ref 55]) rfl ?_
  refine fO_if 172 rfl rfl h (fun h => ?_) (fun h => ?_)
  · refine fT_ss 1 (pc' := 174) (L' := [some (.ref 52), some (.int x1), none, none, some (.int x4), some (.int x5), none, none, some (.int x8), some (.int x9)]) (st' := [.int x4, .int x9, .ref 55]) rfl ?_
    exact fT_mk rfl rfl (t103_174 hX hd hw _ _ _ _ _ _ _ Q h)
  · refine fT_ss 2 (pc' := 174) (L' := [some (.ref 52), some (.int x1), none, none, none, some (.int x5), none, none, some (.int x8), some (.int x9)]) (st' := [.int (nI 0), .int x9, .ref 55]) rfl ?_
    exact fT_mk rfl rfl (t103_174 hX hd hw _ _ _ _ _ _ _ Q h)
noncomputable def g103 (x1 : Int32) (x2 : Int32) (x3 : Int32) (x4 : Int32) (x5 : Int32) (m : fm) : Option (Int32 × fm) :=
  cl2 (g96 x1 m) fun v2 m1 =>
  bif ai_c .eq v2 0 then
    some ((-101), m1)
  else
    cl2 (g95 x2 (nI 0) (nI 12) m1) fun v4 m3 =>
    bif ai_c .ne v4 0 then
      cl2 (g100 x2 (nI 0) m3) fun v6 m5 =>
      cl2 (g100 x2 (nI 1) m5) fun v8 m7 =>
      cl2 (g100 x2 (nI 2) m7) fun v10 m9 =>
      cl2 (g101 v6 x3 m9) fun v12 m11 =>
      bif ai_c .eq v12 0 then
        some ((-101), m11)
      else
        cl2 (g101 v8 x4 m11) fun v14 m13 =>
        bif ai_c .eq v14 0 then
          some ((-101), m13)
        else
          cl2 (g101 v10 x5 m13) fun v16 m15 =>
          bif ai_c .ne v16 0 then
            cl2 (g102 v6 x3 m15) fun v18 m17 =>
            bif ai_c .ne v18 0 then
              some ((-102), m17)
            else
              cl2 (g102 v8 x4 m17) fun v20 m19 =>
              bif ai_c .ne v20 0 then
                some ((-102), m19)
              else
                cl2 (g102 v10 x5 m19) fun v22 m21 =>
                bif ai_c .eq v22 0 then
                  ldI m21 57 16 x1 fun v23 =>
                  bif ai_c .ne v23 (nI 24) then
                    ldI m21 57 16 x1 fun v24 =>
                    cl2 (g98 (nI 0) x1 v24 m21) fun v26 m25 =>
                    stI m25 53 384 v26 x2 fun m27 =>
                    bif ai_c .ne v6 0 then
                      g103_156 x1 x4 x5 v8 v10 v26 x3 v26 m27
                    else
                      g103_156 x1 x4 x5 v8 v10 v26 (nI 0) v26 m27
                  else
                    some ((-104), m21)
                else
                  some ((-102), m21)
          else
            some ((-101), m15)
    else
      some ((-101), m3)
set_option maxHeartbeats 4000000 in
theorem t103_0 {X : ai_X} {d w : Nat} (hX : X[1]? = some (39, ai_sh)) (hd : 3 ≤ d) (hw : 63 ≤ w) (x1 : Int32) (x2 : Int32) (x3 : Int32) (x4 : Int32) (x5 : Int32) (m : fm) (Q : Option Value → fm → Prop) (h : ob (g103 x1 x2 x3 x4 x5 m) (fun z : Int32 × fm => Q (some (.int z.1)) z.2)) : fT X d w ai_r103 0 [some (.ref 52), some (.int x1), some (.int x2), some (.int x3), some (.int x4), some (.int x5), none, none, none, none] [] m Q := by
  unfold g103 at h
  refine fT_ss 1 (pc' := 1) (L' := [some (.ref 52), some (.int x1), some (.int x2), some (.int x3), some (.int x4), some (.int x5), none, none, none, none]) (st' := [.int x1]) rfl ?_
  refine fO_qs2 Value.int (r' := ai_r96) (As := [.int x1]) (rest := []) rfl rfl rfl rfl rfl rfl (by omega) (show 19 + 1 ≤ w by omega) (Nat.le_of_ble_eq_true rfl) (Nat.le_of_ble_eq_true rfl) rfl rfl (fun Qc hq => t96_0 hX (show 1 ≤ d - 1 by omega) (show 22 ≤ w - (19 + 1) by omega) _ _ Qc hq) h (fun v2 m1 h => ?_)
  refine fO_if 17 rfl rfl h (fun h => ?_) (fun h => ?_)
  · refine fT_ss 1 (pc' := 19) (L' := [none, none, none, none, none, none, none, none, none, none]) (st' := [.int (-101)]) rfl ?_
    exact fT_r rfl rfl h
  · refine fT_ss 3 (pc' := 11) (L' := [some (.ref 52), some (.int x1), some (.int x2), some (.int x3), some (.int x4), some (.int x5), none, none, none, none]) (st' := [.int (nI 12), .int (nI 0), .int x2]) rfl ?_
    refine fO_qs2 Value.int (r' := ai_r95) (As := [.int x2, .int (nI 0), .int (nI 12)]) (rest := []) rfl rfl rfl rfl rfl rfl (by omega) (show 19 + 3 ≤ w by omega) (Nat.le_of_ble_eq_true rfl) (Nat.le_of_ble_eq_true rfl) rfl rfl (fun Qc hq => t95_0 hX (show 0 ≤ d - 1 by omega) (show 0 ≤ w - (19 + 3) by omega) _ _ _ _ Qc hq) h (fun v4 m3 h => ?_)
    refine fO_if 20 rfl rfl h (fun h => ?_) (fun h => ?_)
    · refine fT_ss 2 (pc' := 22) (L' := [some (.ref 52), some (.int x1), some (.int x2), some (.int x3), some (.int x4), some (.int x5), none, none, none, none]) (st' := [.int (nI 0), .int x2]) rfl ?_
      refine fO_qs2 Value.int (r' := ai_r100) (As := [.int x2, .int (nI 0)]) (rest := []) rfl rfl rfl rfl rfl rfl (by omega) (show 19 + 3 ≤ w by omega) (Nat.le_of_ble_eq_true rfl) (Nat.le_of_ble_eq_true rfl) rfl rfl (fun Qc hq => t100_0 hX (show 1 ≤ d - 1 by omega) (show 20 ≤ w - (19 + 3) by omega) _ _ _ Qc hq) h (fun v6 m5 h => ?_)
      refine fT_ss 3 (pc' := 29) (L' := [some (.ref 52), some (.int x1), some (.int x2), some (.int x3), some (.int x4), some (.int x5), some (.int v6), none, none, none]) (st' := [.int (nI 1), .int x2]) rfl ?_
      refine fO_qs2 Value.int (r' := ai_r100) (As := [.int x2, .int (nI 1)]) (rest := []) rfl rfl rfl rfl rfl rfl (by omega) (show 19 + 3 ≤ w by omega) (Nat.le_of_ble_eq_true rfl) (Nat.le_of_ble_eq_true rfl) rfl rfl (fun Qc hq => t100_0 hX (show 1 ≤ d - 1 by omega) (show 20 ≤ w - (19 + 3) by omega) _ _ _ Qc hq) h (fun v8 m7 h => ?_)
      refine fT_ss 3 (pc' := 36) (L' := [some (.ref 52), some (.int x1), some (.int x2), some (.int x3), some (.int x4), some (.int x5), some (.int v6), some (.int v8), none, none]) (st' := [.int (nI 2), .int x2]) rfl ?_
      refine fO_qs2 Value.int (r' := ai_r100) (As := [.int x2, .int (nI 2)]) (rest := []) rfl rfl rfl rfl rfl rfl (by omega) (show 19 + 3 ≤ w by omega) (Nat.le_of_ble_eq_true rfl) (Nat.le_of_ble_eq_true rfl) rfl rfl (fun Qc hq => t100_0 hX (show 1 ≤ d - 1 by omega) (show 20 ≤ w - (19 + 3) by omega) _ _ _ Qc hq) h (fun v10 m9 h => ?_)
      refine fT_ss 3 (pc' := 44) (L' := [some (.ref 52), some (.int x1), some (.int x2), some (.int x3), some (.int x4), some (.int x5), some (.int v6), some (.int v8), some (.int v10), none]) (st' := [.int x3, .int v6]) rfl ?_
      refine fO_qs2 Value.int (r' := ai_r101) (As := [.int v6, .int x3]) (rest := []) rfl rfl rfl rfl rfl rfl (by omega) (show 19 + 2 ≤ w by omega) (Nat.le_of_ble_eq_true rfl) (Nat.le_of_ble_eq_true rfl) rfl rfl (fun Qc hq => t101_0 hX (show 2 ≤ d - 1 by omega) (show 42 ≤ w - (19 + 2) by omega) _ _ _ Qc hq) h (fun v12 m11 h => ?_)
      refine fO_if 70 rfl rfl h (fun h => ?_) (fun h => ?_)
      · refine fT_ss 1 (pc' := 72) (L' := [none, none, none, none, none, none, none, none, none, none]) (st' := [.int (-101)]) rfl ?_
        exact fT_r rfl rfl h
      · refine fT_ss 2 (pc' := 54) (L' := [some (.ref 52), some (.int x1), some (.int x2), some (.int x3), some (.int x4), some (.int x5), some (.int v6), some (.int v8), some (.int v10), none]) (st' := [.int x4, .int v8]) rfl ?_
        refine fO_qs2 Value.int (r' := ai_r101) (As := [.int v8, .int x4]) (rest := []) rfl rfl rfl rfl rfl rfl (by omega) (show 19 + 2 ≤ w by omega) (Nat.le_of_ble_eq_true rfl) (Nat.le_of_ble_eq_true rfl) rfl rfl (fun Qc hq => t101_0 hX (show 2 ≤ d - 1 by omega) (show 42 ≤ w - (19 + 2) by omega) _ _ _ Qc hq) h (fun v14 m13 h => ?_)
        refine fO_if 70 rfl rfl h (fun h => ?_) (fun h => ?_)
        · refine fT_ss 1 (pc' := 72) (L' := [none, none, none, none, none, none, none, none, none, none]) (st' := [.int (-101)]) rfl ?_
          exact fT_r rfl rfl h
        · refine fT_ss 2 (pc' := 64) (L' := [some (.ref 52), some (.int x1), some (.int x2), some (.int x3), some (.int x4), some (.int x5), some (.int v6), some (.int v8), some (.int v10), none]) (st' := [.int x5, .int v10]) rfl ?_
          refine fO_qs2 Value.int (r' := ai_r101) (As := [.int v10, .int x5]) (rest := []) rfl rfl rfl rfl rfl rfl (by omega) (show 19 + 2 ≤ w by omega) (Nat.le_of_ble_eq_true rfl) (Nat.le_of_ble_eq_true rfl) rfl rfl (fun Qc hq => t101_0 hX (show 2 ≤ d - 1 by omega) (show 42 ≤ w - (19 + 2) by omega) _ _ _ Qc hq) h (fun v16 m15 h => ?_)
          refine fO_if 73 rfl rfl h (fun h => ?_) (fun h => ?_)
          · refine fT_ss 2 (pc' := 76) (L' := [some (.ref 52), some (.int x1), some (.int x2), some (.int x3), some (.int x4), some (.int x5), some (.int v6), some (.int v8), some (.int v10), none]) (st' := [.int x3, .int v6]) rfl ?_
            refine fO_qs2 Value.int (r' := ai_r102) (As := [.int v6, .int x3]) (rest := []) rfl rfl rfl rfl rfl rfl (by omega) (show 19 + 2 ≤ w by omega) (Nat.le_of_ble_eq_true rfl) (Nat.le_of_ble_eq_true rfl) rfl rfl (fun Qc hq => t102_0 hX (show 1 ≤ d - 1 by omega) (show 22 ≤ w - (19 + 2) by omega) _ _ _ Qc hq) h (fun v18 m17 h => ?_)
            refine fO_if 102 rfl rfl h (fun h => ?_) (fun h => ?_)
            · refine fT_ss 1 (pc' := 104) (L' := [none, none, none, none, none, none, none, none, none, none]) (st' := [.int (-102)]) rfl ?_
              exact fT_r rfl rfl h
            · refine fT_ss 2 (pc' := 86) (L' := [some (.ref 52), some (.int x1), some (.int x2), some (.int x3), some (.int x4), some (.int x5), some (.int v6), some (.int v8), some (.int v10), none]) (st' := [.int x4, .int v8]) rfl ?_
              refine fO_qs2 Value.int (r' := ai_r102) (As := [.int v8, .int x4]) (rest := []) rfl rfl rfl rfl rfl rfl (by omega) (show 19 + 2 ≤ w by omega) (Nat.le_of_ble_eq_true rfl) (Nat.le_of_ble_eq_true rfl) rfl rfl (fun Qc hq => t102_0 hX (show 1 ≤ d - 1 by omega) (show 22 ≤ w - (19 + 2) by omega) _ _ _ Qc hq) h (fun v20 m19 h => ?_)
              refine fO_if 102 rfl rfl h (fun h => ?_) (fun h => ?_)
              · refine fT_ss 1 (pc' := 104) (L' := [none, none, none, none, none, none, none, none, none, none]) (st' := [.int (-102)]) rfl ?_
                exact fT_r rfl rfl h
              · refine fT_ss 2 (pc' := 96) (L' := [some (.ref 52), some (.int x1), some (.int x2), some (.int x3), some (.int x4), some (.int x5), some (.int v6), some (.int v8), some (.int v10), none]) (st' := [.int x5, .int v10]) rfl ?_
                refine fO_qs2 Value.int (r' := ai_r102) (As := [.int v10, .int x5]) (rest := []) rfl rfl rfl rfl rfl rfl (by omega) (show 19 + 2 ≤ w by omega) (Nat.le_of_ble_eq_true rfl) (Nat.le_of_ble_eq_true rfl) rfl rfl (fun Qc hq => t102_0 hX (show 1 ≤ d - 1 by omega) (show 22 ≤ w - (19 + 2) by omega) _ _ _ Qc hq) h (fun v22 m21 h => ?_)
                refine fO_if 105 rfl rfl h (fun h => ?_) (fun h => ?_)
                · refine fT_ss 1 (pc' := 106) (L' := [some (.ref 52), some (.int x1), some (.int x2), some (.int x3), some (.int x4), some (.int x5), some (.int v6), some (.int v8), some (.int v10), none]) (st' := [.ref 52]) rfl ?_
                  refine fT_gr (q := 57) rfl rfl rfl ?_
                  refine fT_ss 1 (pc' := 110) (L' := [some (.ref 52), some (.int x1), some (.int x2), some (.int x3), some (.int x4), some (.int x5), some (.int v6), some (.int v8), some (.int v10), none]) (st' := [.int x1, .ref 57]) rfl ?_
                  refine fO_ia rfl rfl rfl h (fun v23 h => ?_)
                  refine fT_ss 1 (pc' := 113) (L' := [some (.ref 52), some (.int x1), some (.int x2), some (.int x3), some (.int x4), some (.int x5), some (.int v6), some (.int v8), some (.int v10), none]) (st' := [.int (nI 24), .int v23]) rfl ?_
                  refine fO_ic 119 rfl rfl h (fun h => ?_) (fun h => ?_)
                  · refine fT_ss 3 (pc' := 122) (L' := [some (.ref 52), some (.int x1), some (.int x2), some (.int x3), some (.int x4), some (.int x5), some (.int v6), some (.int v8), some (.int v10), none]) (st' := [.ref 52, .int x1, .int (nI 0)]) rfl ?_
                    refine fT_gr (q := 57) rfl rfl rfl ?_
                    refine fT_ss 1 (pc' := 126) (L' := [some (.ref 52), some (.int x1), some (.int x2), some (.int x3), some (.int x4), some (.int x5), some (.int v6), some (.int v8), some (.int v10), none]) (st' := [.int x1, .ref 57, .int x1, .int (nI 0)]) rfl ?_
                    refine fO_ia rfl rfl rfl h (fun v24 h => ?_)
                    refine fO_qs2 Value.int (r' := ai_r98) (As := [.int (nI 0), .int x1, .int v24]) (rest := []) rfl rfl rfl rfl rfl rfl (by omega) (show 19 + 3 ≤ w by omega) (Nat.le_of_ble_eq_true rfl) (Nat.le_of_ble_eq_true rfl) rfl rfl (fun Qc hq => t98_0 hX (show 0 ≤ d - 1 by omega) (show 0 ≤ w - (19 + 3) by omega) _ _ _ _ Qc hq) h (fun v26 m25 h => ?_)
                    refine fT_ss 2 (pc' := 133) (L' := [some (.ref 52), some (.int x1), some (.int x2), some (.int x3), some (.int x4), some (.int x5), some (.int v6), some (.int v8), some (.int v10), some (.int v26)]) (st' := [.ref 52]) rfl ?_
                    refine fT_gr (q := 53) rfl rfl rfl ?_
                    refine fT_ss 2 (pc' := 139) (L' := [some (.ref 52), some (.int x1), some (.int x2), some (.int x3), some (.int x4), some (.int x5), some (.int v6), some (.int v8), some (.int v10), some (.int v26)]) (st' := [.int x2, .int v26, .ref 53]) rfl ?_
                    refine fO_is rfl rfl h (fun m27 h => ?_)
                    refine fT_ss 1 (pc' := 141) (L' := [some (.ref 52), some (.int x1), some (.int x2), some (.int x3), some (.int x4), some (.int x5), some (.int v6), some (.int v8), some (.int v10), some (.int v26)]) (st' := [.ref 52]) rfl ?_
                    refine fT_gr (q := 54) rfl rfl rfl ?_
                    refine fT_ss 2 (pc' := 148) (L' := [some (.ref 52), some (.int x1), some (.int x2), some (.int x3), some (.int x4), some (.int x5), some (.int v6), some (.int v8), some (.int v10), some (.int v26)]) (st' := [.int v6, .int v26, .ref 54]) rfl ?_
                    refine fO_if 155 rfl rfl h (fun h => ?_) (fun h => ?_)
                    · refine fT_ss 1 (pc' := 156) (L' := [some (.ref 52), some (.int x1), none, some (.int x3), some (.int x4), some (.int x5), none, some (.int v8), some (.int v10), some (.int v26)]) (st' := [.int x3, .int v26, .ref 54]) rfl ?_
                      exact fT_mk rfl rfl (t103_156 hX hd hw _ _ _ _ _ _ _ _ _ Q h)
                    · refine fT_ss 2 (pc' := 156) (L' := [some (.ref 52), some (.int x1), none, none, some (.int x4), some (.int x5), none, some (.int v8), some (.int v10), some (.int v26)]) (st' := [.int (nI 0), .int v26, .ref 54]) rfl ?_
                      exact fT_mk rfl rfl (t103_156 hX hd hw _ _ _ _ _ _ _ _ _ Q h)
                  · refine fT_ss 1 (pc' := 118) (L' := [none, none, none, none, none, none, none, none, none, none]) (st' := [.int (-104)]) rfl ?_
                    exact fT_r rfl rfl h
                · refine fT_ss 1 (pc' := 104) (L' := [none, none, none, none, none, none, none, none, none, none]) (st' := [.int (-102)]) rfl ?_
                  exact fT_r rfl rfl h
          · refine fT_ss 1 (pc' := 72) (L' := [none, none, none, none, none, none, none, none, none, none]) (st' := [.int (-101)]) rfl ?_
            exact fT_r rfl rfl h
    · refine fT_ss 1 (pc' := 19) (L' := [none, none, none, none, none, none, none, none, none, none]) (st' := [.int (-101)]) rfl ?_
      exact fT_r rfl rfl h
noncomputable def g104 (x1 : Int32) (m : fm) : Option (Int32 × fm) :=
  cl2 (g96 x1 m) fun v2 m1 =>
  bif ai_c .ne v2 0 then
    ldI m1 57 16 x1 fun v3 =>
    stI m1 57 16 x1 (nI 0) fun m4 =>
    some (v3, m4)
  else
    some ((-101), m1)
set_option maxHeartbeats 4000000 in
theorem t104_0 {X : ai_X} {d w : Nat} (hX : X[1]? = some (39, ai_sh)) (hd : 2 ≤ d) (hw : 42 ≤ w) (x1 : Int32) (m : fm) (Q : Option Value → fm → Prop) (h : ob (g104 x1 m) (fun z : Int32 × fm => Q (some (.int z.1)) z.2)) : fT X d w ai_r104 0 [some (.ref 52), some (.int x1), none] [] m Q := by
  unfold g104 at h
  refine fT_ss 1 (pc' := 1) (L' := [some (.ref 52), some (.int x1), none]) (st' := [.int x1]) rfl ?_
  refine fO_qs2 Value.int (r' := ai_r96) (As := [.int x1]) (rest := []) rfl rfl rfl rfl rfl rfl (by omega) (show 19 + 1 ≤ w by omega) (Nat.le_of_ble_eq_true rfl) (Nat.le_of_ble_eq_true rfl) rfl rfl (fun Qc hq => t96_0 hX (show 1 ≤ d - 1 by omega) (show 22 ≤ w - (19 + 1) by omega) _ _ Qc hq) h (fun v2 m1 h => ?_)
  refine fO_if 10 rfl rfl h (fun h => ?_) (fun h => ?_)
  · refine fT_ss 1 (pc' := 11) (L' := [some (.ref 52), some (.int x1), none]) (st' := [.ref 52]) rfl ?_
    refine fT_gr (q := 57) rfl rfl rfl ?_
    refine fT_ss 1 (pc' := 15) (L' := [some (.ref 52), some (.int x1), none]) (st' := [.int x1, .ref 57]) rfl ?_
    refine fO_ia rfl rfl rfl h (fun v3 h => ?_)
    refine fT_ss 2 (pc' := 18) (L' := [some (.ref 52), some (.int x1), some (.int v3)]) (st' := [.ref 52]) rfl ?_
    refine fT_gr (q := 57) rfl rfl rfl ?_
    refine fT_ss 2 (pc' := 23) (L' := [some (.ref 52), some (.int x1), some (.int v3)]) (st' := [.int (nI 0), .int x1, .ref 57]) rfl ?_
    refine fO_is rfl rfl h (fun m4 h => ?_)
    refine fT_ss 1 (pc' := 25) (L' := [some (.ref 52), some (.int x1), some (.int v3)]) (st' := [.int v3]) rfl ?_
    exact fT_r rfl rfl h
  · refine fT_ss 1 (pc' := 9) (L' := [none, none, none]) (st' := [.int (-101)]) rfl ?_
    exact fT_r rfl rfl h
noncomputable def g105_25 (x1 : Int32) (x2 : Int32) (y0 : Int32) (m : fm) : Option (Int32 × fm) :=
  stB m 58 8 x1 x2 fun m4 =>
  some (y0, m4)
set_option maxHeartbeats 4000000 in
theorem t105_25 {X : ai_X} {d w : Nat} (hX : X[1]? = some (39, ai_sh)) (hd : 2 ≤ d) (hw : 42 ≤ w) (x1 : Int32) (x2 : Int32) (y0 : Int32) (m : fm) (Q : Option Value → fm → Prop) (h : ob (g105_25 x1 x2 y0 m) (fun z : Int32 × fm => Q (some (.int z.1)) z.2)) : fT X d w ai_r105 25 [some (.ref 52), some (.int x1), some (.int x2), none] [.int y0] m Q := by
  unfold g105_25 at h
  refine fT_ss 2 (pc' := 27) (L' := [some (.ref 52), some (.int x1), some (.int x2), some (.int y0)]) (st' := [.ref 52]) rfl ?_
  refine fT_gr (q := 58) rfl rfl rfl ?_
  refine fT_ss 2 (pc' := 32) (L' := [some (.ref 52), some (.int x1), some (.int x2), some (.int y0)]) (st' := [.int x2, .int x1, .ref 58]) rfl ?_
  refine fO_bs rfl rfl h (fun m4 h => ?_)
  refine fT_ss 1 (pc' := 34) (L' := [some (.ref 52), some (.int x1), some (.int x2), some (.int y0)]) (st' := [.int y0]) rfl ?_
  exact fT_r rfl rfl h
noncomputable def g105 (x1 : Int32) (x2 : Int32) (m : fm) : Option (Int32 × fm) :=
  cl2 (g96 x1 m) fun v2 m1 =>
  bif ai_c .ne v2 0 then
    ldI m1 58 8 x1 fun v3 =>
    bif ai_c .ne v3 x2 then
      g105_25 x1 x2 (nI 1) m1
    else
      g105_25 x1 x2 (nI 0) m1
  else
    some ((-101), m1)
set_option maxHeartbeats 4000000 in
theorem t105_0 {X : ai_X} {d w : Nat} (hX : X[1]? = some (39, ai_sh)) (hd : 2 ≤ d) (hw : 42 ≤ w) (x1 : Int32) (x2 : Int32) (m : fm) (Q : Option Value → fm → Prop) (h : ob (g105 x1 x2 m) (fun z : Int32 × fm => Q (some (.int z.1)) z.2)) : fT X d w ai_r105 0 [some (.ref 52), some (.int x1), some (.int x2), none] [] m Q := by
  unfold g105 at h
  refine fT_ss 1 (pc' := 1) (L' := [some (.ref 52), some (.int x1), some (.int x2), none]) (st' := [.int x1]) rfl ?_
  refine fO_qs2 Value.int (r' := ai_r96) (As := [.int x1]) (rest := []) rfl rfl rfl rfl rfl rfl (by omega) (show 19 + 1 ≤ w by omega) (Nat.le_of_ble_eq_true rfl) (Nat.le_of_ble_eq_true rfl) rfl rfl (fun Qc hq => t96_0 hX (show 1 ≤ d - 1 by omega) (show 22 ≤ w - (19 + 1) by omega) _ _ Qc hq) h (fun v2 m1 h => ?_)
  refine fO_if 10 rfl rfl h (fun h => ?_) (fun h => ?_)
  · refine fT_ss 1 (pc' := 11) (L' := [some (.ref 52), some (.int x1), some (.int x2), none]) (st' := [.ref 52]) rfl ?_
    refine fT_gr (q := 58) rfl rfl rfl ?_
    refine fT_ss 1 (pc' := 15) (L' := [some (.ref 52), some (.int x1), some (.int x2), none]) (st' := [.int x1, .ref 58]) rfl ?_
    refine fO_ba rfl rfl h (fun v3 h => ?_)
    refine fT_ss 1 (pc' := 17) (L' := [some (.ref 52), some (.int x1), some (.int x2), none]) (st' := [.int x2, .int v3]) rfl ?_
    refine fO_ic 24 rfl rfl h (fun h => ?_) (fun h => ?_)
    · refine fT_ss 1 (pc' := 25) (L' := [some (.ref 52), some (.int x1), some (.int x2), none]) (st' := [.int (nI 1)]) rfl ?_
      exact fT_mk rfl rfl (t105_25 hX hd hw _ _ _ _ Q h)
    · refine fT_ss 2 (pc' := 25) (L' := [some (.ref 52), some (.int x1), some (.int x2), none]) (st' := [.int (nI 0)]) rfl ?_
      exact fT_mk rfl rfl (t105_25 hX hd hw _ _ _ _ Q h)
  · refine fT_ss 1 (pc' := 9) (L' := [none, none, none, none]) (st' := [.int (-101)]) rfl ?_
    exact fT_r rfl rfl h
noncomputable def g106_104 (x1 : Int32) (x2 : Int32) (x3 : Int64) (y0 : Int32) (m : fm) : Option ((Int32 × fm) ⊕ (fm)) :=
  pfB m 52 11 y0 fun m7 =>
  stL m7 60 100 (((nI 4) * x1) + x2) x3 fun m8 =>
  some (.inl ((x2 + (nI 1)), m8))
set_option maxHeartbeats 4000000 in
theorem t106_104 {X : ai_X} {d w : Nat} (hX : X[1]? = some (39, ai_sh)) (hd : 0 ≤ d) (hw : 0 ≤ w) (x1 : Int32) (x2 : Int32) (x3 : Int64) (y0 : Int32) (m : fm) (Q : Option Value → fm → Prop) (h : ob (g106_104 x1 x2 x3 y0 m) (Sum.elim (fun s : Int32 × fm => fT X d w ai_r106 11 [some (.ref 52), some (.int x1), some (.int s.1), none, none] [] s.2 Q) (fun z : fm => Q none z))) : fT X d w ai_r106 104 [some (.ref 52), some (.int x1), some (.int x2), some (.long x3), none] [.int y0, .ref 52] m Q := by
  unfold g106_104 at h
  refine fO_pb rfl rfl rfl rfl h (fun m7 h => ?_)
  refine fT_ss 1 (pc' := 108) (L' := [some (.ref 52), some (.int x1), some (.int x2), some (.long x3), none]) (st' := [.ref 52]) rfl ?_
  refine fT_gr (q := 60) rfl rfl rfl ?_
  refine fT_ss 6 (pc' := 117) (L' := [some (.ref 52), some (.int x1), some (.int x2), some (.long x3), none]) (st' := [.long x3, .int (((nI 4) * x1) + x2), .ref 60]) rfl ?_
  refine fO_ls rfl rfl h (fun m8 h => ?_)
  refine fT_ss 2 (pc' := 11) (L' := [some (.ref 52), some (.int x1), some (.int (x2 + (nI 1))), some (.long x3), none]) (st' := []) rfl ?_
  replace h := ob_inl h
  exact fT_mk rfl rfl h
noncomputable def g106_66 (x1 : Int32) (x2 : Int32) (y0 : Int64) (m : fm) : Option ((Int32 × fm) ⊕ (fm)) :=
  gfI m 52 11 fun v6 =>
  bif ai_c .ne v6 0 then
    g106_104 x1 x2 y0 (nI 1) m
  else
    ldI m 59 25 x1 fun v9 =>
    bif ai_c .eq v9 0 then
      g106_104 x1 x2 y0 (nI 1) m
    else
      ldL m 60 100 (((nI 4) * x1) + x2) fun v10 =>
      bif ai_c .eq (lg_cmp y0 v10) 0 then
        g106_104 x1 x2 y0 (nI 0) m
      else
        g106_104 x1 x2 y0 (nI 1) m
set_option maxHeartbeats 4000000 in
theorem t106_66 {X : ai_X} {d w : Nat} (hX : X[1]? = some (39, ai_sh)) (hd : 0 ≤ d) (hw : 0 ≤ w) (x1 : Int32) (x2 : Int32) (y0 : Int64) (m : fm) (Q : Option Value → fm → Prop) (h : ob (g106_66 x1 x2 y0 m) (Sum.elim (fun s : Int32 × fm => fT X d w ai_r106 11 [some (.ref 52), some (.int x1), some (.int s.1), none, none] [] s.2 Q) (fun z : fm => Q none z))) : fT X d w ai_r106 66 [some (.ref 52), some (.int x1), some (.int x2), none, none] [.long y0] m Q := by
  unfold g106_66 at h
  refine fT_ss 3 (pc' := 69) (L' := [some (.ref 52), some (.int x1), some (.int x2), some (.long y0), none]) (st' := [.ref 52, .ref 52]) rfl ?_
  refine fO_gi rfl rfl rfl h (fun v6 h => ?_)
  refine fO_if 99 rfl rfl h (fun h => ?_) (fun h => ?_)
  · refine fT_ss 2 (pc' := 104) (L' := [some (.ref 52), some (.int x1), some (.int x2), some (.long y0), none]) (st' := [.int (nI 1), .ref 52]) rfl ?_
    exact fT_mk rfl rfl (t106_104 hX hd hw _ _ _ _ _ Q h)
  · refine fT_ss 1 (pc' := 76) (L' := [some (.ref 52), some (.int x1), some (.int x2), some (.long y0), none]) (st' := [.ref 52, .ref 52]) rfl ?_
    refine fT_gr (q := 59) rfl rfl rfl ?_
    refine fT_ss 1 (pc' := 80) (L' := [some (.ref 52), some (.int x1), some (.int x2), some (.long y0), none]) (st' := [.int x1, .ref 59, .ref 52]) rfl ?_
    refine fO_ba rfl rfl h (fun v9 h => ?_)
    refine fO_if 99 rfl rfl h (fun h => ?_) (fun h => ?_)
    · refine fT_ss 2 (pc' := 104) (L' := [some (.ref 52), some (.int x1), some (.int x2), some (.long y0), none]) (st' := [.int (nI 1), .ref 52]) rfl ?_
      exact fT_mk rfl rfl (t106_104 hX hd hw _ _ _ _ _ Q h)
    · refine fT_ss 2 (pc' := 86) (L' := [some (.ref 52), some (.int x1), some (.int x2), some (.long y0), none]) (st' := [.ref 52, .long y0, .ref 52]) rfl ?_
      refine fT_gr (q := 60) rfl rfl rfl ?_
      refine fT_ss 5 (pc' := 94) (L' := [some (.ref 52), some (.int x1), some (.int x2), some (.long y0), none]) (st' := [.int (((nI 4) * x1) + x2), .ref 60, .long y0, .ref 52]) rfl ?_
      refine fO_la rfl rfl h (fun v10 h => ?_)
      refine fT_ss 1 (pc' := 96) (L' := [some (.ref 52), some (.int x1), some (.int x2), some (.long y0), none]) (st' := [.int (lg_cmp y0 v10), .ref 52]) rfl ?_
      refine fO_if 103 rfl rfl h (fun h => ?_) (fun h => ?_)
      · refine fT_ss 1 (pc' := 104) (L' := [some (.ref 52), some (.int x1), some (.int x2), some (.long y0), none]) (st' := [.int (nI 0), .ref 52]) rfl ?_
        exact fT_mk rfl rfl (t106_104 hX hd hw _ _ _ _ _ Q h)
      · refine fT_ss 2 (pc' := 104) (L' := [some (.ref 52), some (.int x1), some (.int x2), some (.long y0), none]) (st' := [.int (nI 1), .ref 52]) rfl ?_
        exact fT_mk rfl rfl (t106_104 hX hd hw _ _ _ _ _ Q h)
noncomputable def s106_11 (x1 : Int32) (x2 : Int32) (m : fm) : Option ((Int32 × fm) ⊕ (fm)) :=
  bif ai_c .ge x2 (nI 4) then
    stB m 59 25 x1 (nI 1) fun m2 =>
    some (.inr m2)
  else
    ldI m 59 25 x1 fun v3 =>
    bif ai_c .ne v3 0 then
      ldL m 60 100 (((nI 4) * x1) + x2) fun v4 =>
      ldL m 61 4 x2 fun v5 =>
      bif ai_c .ne (lg_cmp v4 v5) 0 then
        g106_66 x1 x2 (Int64.ofNat 1000000000000) m
      else
        ldL m 61 4 x2 fun v11 =>
        g106_66 x1 x2 v11 m
    else
      ldL m 61 4 x2 fun v12 =>
      g106_66 x1 x2 v12 m
set_option maxHeartbeats 4000000 in
theorem b106_11 {X : ai_X} {d w : Nat} (hX : X[1]? = some (39, ai_sh)) (hd : 0 ≤ d) (hw : 0 ≤ w) (x1 : Int32) (x2 : Int32) (m : fm) (Q : Option Value → fm → Prop) (h : ob (s106_11 x1 x2 m) (Sum.elim (fun s : Int32 × fm => fT X d w ai_r106 11 [some (.ref 52), some (.int x1), some (.int s.1), none, none] [] s.2 Q) (fun z : fm => Q none z))) : fT X d w ai_r106 11 [some (.ref 52), some (.int x1), some (.int x2), none, none] [] m Q := by
  unfold s106_11 at h
  refine fT_ss 2 (pc' := 13) (L' := [some (.ref 52), some (.int x1), some (.int x2), none, none]) (st' := [.int (nI 4), .int x2]) rfl ?_
  refine fO_ic 124 rfl rfl h (fun h => ?_) (fun h => ?_)
  · refine fT_ss 1 (pc' := 125) (L' := [some (.ref 52), some (.int x1), none, none, none]) (st' := [.ref 52]) rfl ?_
    refine fT_gr (q := 59) rfl rfl rfl ?_
    refine fT_ss 2 (pc' := 130) (L' := [some (.ref 52), some (.int x1), none, none, none]) (st' := [.int (nI 1), .int x1, .ref 59]) rfl ?_
    refine fO_bs rfl rfl h (fun m2 h => ?_)
    exact fT_r rfl rfl h
  · refine fT_ss 1 (pc' := 17) (L' := [some (.ref 52), some (.int x1), some (.int x2), none, none]) (st' := [.ref 52]) rfl ?_
    refine fT_gr (q := 59) rfl rfl rfl ?_
    refine fT_ss 1 (pc' := 21) (L' := [some (.ref 52), some (.int x1), some (.int x2), none, none]) (st' := [.int x1, .ref 59]) rfl ?_
    refine fO_ba rfl rfl h (fun v3 h => ?_)
    refine fO_if 34 rfl rfl h (fun h => ?_) (fun h => ?_)
    · refine fT_ss 1 (pc' := 35) (L' := [some (.ref 52), some (.int x1), some (.int x2), none, none]) (st' := [.ref 52]) rfl ?_
      refine fT_gr (q := 60) rfl rfl rfl ?_
      refine fT_ss 5 (pc' := 43) (L' := [some (.ref 52), some (.int x1), some (.int x2), none, none]) (st' := [.int (((nI 4) * x1) + x2), .ref 60]) rfl ?_
      refine fO_la rfl rfl h (fun v4 h => ?_)
      refine fT_ss 1 (pc' := 45) (L' := [some (.ref 52), some (.int x1), some (.int x2), none, none]) (st' := [.ref 52, .long v4]) rfl ?_
      refine fT_gr (q := 61) rfl rfl rfl ?_
      refine fT_ss 1 (pc' := 49) (L' := [some (.ref 52), some (.int x1), some (.int x2), none, none]) (st' := [.int x2, .ref 61, .long v4]) rfl ?_
      refine fO_la rfl rfl h (fun v5 h => ?_)
      refine fT_ss 1 (pc' := 51) (L' := [some (.ref 52), some (.int x1), some (.int x2), none, none]) (st' := [.int (lg_cmp v4 v5)]) rfl ?_
      refine fO_if 63 rfl rfl h (fun h => ?_) (fun h => ?_)
      · refine fT_lc rfl ?_
        exact fT_mk rfl rfl (t106_66 hX hd hw _ _ _ _ Q h)
      · refine fT_ss 1 (pc' := 55) (L' := [some (.ref 52), some (.int x1), some (.int x2), none, none]) (st' := [.ref 52]) rfl ?_
        refine fT_gr (q := 61) rfl rfl rfl ?_
        refine fT_ss 1 (pc' := 59) (L' := [some (.ref 52), some (.int x1), some (.int x2), none, none]) (st' := [.int x2, .ref 61]) rfl ?_
        refine fO_la rfl rfl h (fun v11 h => ?_)
        refine fT_ss 1 (pc' := 66) (L' := [some (.ref 52), some (.int x1), some (.int x2), none, none]) (st' := [.long v11]) rfl ?_
        exact fT_mk rfl rfl (t106_66 hX hd hw _ _ _ _ Q h)
    · refine fT_ss 1 (pc' := 26) (L' := [some (.ref 52), some (.int x1), some (.int x2), none, none]) (st' := [.ref 52]) rfl ?_
      refine fT_gr (q := 61) rfl rfl rfl ?_
      refine fT_ss 1 (pc' := 30) (L' := [some (.ref 52), some (.int x1), some (.int x2), none, none]) (st' := [.int x2, .ref 61]) rfl ?_
      refine fO_la rfl rfl h (fun v12 h => ?_)
      refine fT_ss 1 (pc' := 66) (L' := [some (.ref 52), some (.int x1), some (.int x2), none, none]) (st' := [.long v12]) rfl ?_
      exact fT_mk rfl rfl (t106_66 hX hd hw _ _ _ _ Q h)
noncomputable def g106_11 (x1 : Int32) (x2 : Int32) (m : fm) : Option (fm) := wl (fun s : Int32 × fm => s106_11 x1 s.1 s.2) lf (x2, m)
theorem t106_11 {X : ai_X} {d w : Nat} (hX : X[1]? = some (39, ai_sh)) (hd : 0 ≤ d) (hw : 0 ≤ w) (x1 : Int32) (x2 : Int32) (m : fm) (Q : Option Value → fm → Prop) (h : ob (g106_11 x1 x2 m) (fun z : fm => Q none z)) : fT X d w ai_r106 11 [some (.ref 52), some (.int x1), some (.int x2), none, none] [] m Q :=
  wl_ob (P := fun s : Int32 × fm => fT X d w ai_r106 11 [some (.ref 52), some (.int x1), some (.int s.1), none, none] [] s.2 Q) (fun s h => b106_11 hX hd hw x1 s.1 s.2 Q h) lf (x2, m) h
noncomputable def g106 (x1 : Int32) (m : fm) : Option (fm) :=
  gfI m 52 7 fun v1 =>
  bif ai_c .lt x1 v1 then
    g106_11 x1 (nI 0) m
  else
    some m
set_option maxHeartbeats 4000000 in
theorem t106_0 {X : ai_X} {d w : Nat} (hX : X[1]? = some (39, ai_sh)) (hd : 0 ≤ d) (hw : 0 ≤ w) (x1 : Int32) (m : fm) (Q : Option Value → fm → Prop) (h : ob (g106 x1 m) (fun z : fm => Q none z)) : fT X d w ai_r106 0 [some (.ref 52), some (.int x1), none, none, none] [] m Q := by
  unfold g106 at h
  refine fT_ss 2 (pc' := 2) (L' := [some (.ref 52), some (.int x1), none, none, none]) (st' := [.ref 52, .int x1]) rfl ?_
  refine fO_gi rfl rfl rfl h (fun v1 h => ?_)
  refine fO_ic 9 rfl rfl h (fun h => ?_) (fun h => ?_)
  · refine fT_ss 2 (pc' := 11) (L' := [some (.ref 52), some (.int x1), some (.int (nI 0)), none, none]) (st' := []) rfl ?_
    exact fT_mk rfl rfl (t106_11 hX hd hw _ _ _ Q h)
  · exact fT_r rfl rfl h
