noncomputable def g143_240 (N : Nat) (xs : Nat → Int32) (x3 : Int32) (y0 : Int32) (y1 : Int32) (m : fm) : Option ((Int32 × fm) ⊕ (Int32 × fm)) :=
  cl2 (g105 y1 y0 m) fun v30 m29 =>
  some (.inl ((x3 + (nI 6)), m29))
set_option maxHeartbeats 4000000 in
theorem t143_240 {X : ai_X} {d w : Nat} (hX : X[1]? = some (39, ai_sh)) {N : Nat} {xs : Nat → Int32} (hN : X[0]? = some (N, xs)) (hd : 7 ≤ d) (hw : 173 ≤ w) (x3 : Int32) (y0 : Int32) (y1 : Int32) (m : fm) (Q : Option Value → fm → Prop) (h : ob (g143_240 N xs x3 y0 y1 m) (Sum.elim (fun s : Int32 × fm => fT X d w ai_r143 18 [some (.ref ai_B), some (.ref 0), some (.ref 52), some (.int s.1)] [] s.2 Q) (fun z : Int32 × fm => Q (some (.int z.1)) z.2))) : fT X d w ai_r143 240 [some (.ref ai_B), some (.ref 0), some (.ref 52), some (.int x3)] [.int y0, .int y1, .ref 52] m Q := by
  unfold g143_240 at h
  refine fO_qv2 Value.int (r' := ai_r105) (k := 52) (As := [.int y1, .int y0]) (rest := []) rfl rfl rfl rfl rfl rfl (by omega) (show 19 + 4 ≤ w by omega) (Nat.le_of_ble_eq_true rfl) (Nat.le_of_ble_eq_true rfl) rfl rfl (fun Qc hq => t105_0 hX (show 2 ≤ d - 1 by omega) (show 42 ≤ w - (19 + 4) by omega) _ _ _ Qc hq) h (fun v30 m29 h => ?_)
  refine fT_ss 4 (pc' := 18) (L' := [some (.ref ai_B), some (.ref 0), some (.ref 52), some (.int (x3 + (nI 6)))]) (st' := []) rfl ?_
  replace h := ob_inl h
  exact fT_mk rfl rfl h
noncomputable def g143_217 (N : Nat) (xs : Nat → Int32) (x3 : Int32) (y0 : Int32) (y1 : Int32) (m : fm) : Option ((Int32 × fm) ⊕ (Int32 × fm)) :=
  cl2 (g70 y1 y0 m) fun v26 m25 =>
  ldX N xs (x3 + (nI 1)) fun v27 =>
  ldX N xs (x3 + (nI 2)) fun v28 =>
  bif ai_c .eq v28 0 then
    g143_240 N xs x3 (nI 0) v27 m25
  else
    g143_240 N xs x3 (nI 1) v27 m25
set_option maxHeartbeats 4000000 in
theorem t143_217 {X : ai_X} {d w : Nat} (hX : X[1]? = some (39, ai_sh)) {N : Nat} {xs : Nat → Int32} (hN : X[0]? = some (N, xs)) (hd : 7 ≤ d) (hw : 173 ≤ w) (x3 : Int32) (y0 : Int32) (y1 : Int32) (m : fm) (Q : Option Value → fm → Prop) (h : ob (g143_217 N xs x3 y0 y1 m) (Sum.elim (fun s : Int32 × fm => fT X d w ai_r143 18 [some (.ref ai_B), some (.ref 0), some (.ref 52), some (.int s.1)] [] s.2 Q) (fun z : Int32 × fm => Q (some (.int z.1)) z.2))) : fT X d w ai_r143 217 [some (.ref ai_B), some (.ref 0), some (.ref 52), some (.int x3)] [.int y0, .int y1, .ref 0] m Q := by
  unfold g143_217 at h
  refine fO_qv2 Value.int (r' := ai_r70) (k := 0) (As := [.int y1, .int y0]) (rest := []) rfl rfl rfl rfl rfl rfl (by omega) (show 19 + 4 ≤ w by omega) (Nat.le_of_ble_eq_true rfl) (Nat.le_of_ble_eq_true rfl) rfl rfl (fun Qc hq => t70_0 hX (show 1 ≤ d - 1 by omega) (show 20 ≤ w - (19 + 4) by omega) _ _ _ Qc hq) h (fun v26 m25 h => ?_)
  refine fT_ss 6 (pc' := 226) (L' := [some (.ref ai_B), some (.ref 0), some (.ref 52), some (.int x3)]) (st' := [.int (x3 + (nI 1)), .ref ai_B, .ref 52]) rfl ?_
  refine fO_xa hN rfl h (fun v27 h => ?_)
  refine fT_ss 4 (pc' := 231) (L' := [some (.ref ai_B), some (.ref 0), some (.ref 52), some (.int x3)]) (st' := [.int (x3 + (nI 2)), .ref ai_B, .int v27, .ref 52]) rfl ?_
  refine fO_xa hN rfl h (fun v28 h => ?_)
  refine fO_if 239 rfl rfl h (fun h => ?_) (fun h => ?_)
  · refine fT_ss 1 (pc' := 240) (L' := [some (.ref ai_B), some (.ref 0), some (.ref 52), some (.int x3)]) (st' := [.int (nI 0), .int v27, .ref 52]) rfl ?_
    exact fT_mk rfl rfl (t143_240 hX hN hd hw _ _ _ _ Q h)
  · refine fT_ss 2 (pc' := 240) (L' := [some (.ref ai_B), some (.ref 0), some (.ref 52), some (.int x3)]) (st' := [.int (nI 1), .int v27, .ref 52]) rfl ?_
    exact fT_mk rfl rfl (t143_240 hX hN hd hw _ _ _ _ Q h)
noncomputable def s143_18 (N : Nat) (xs : Nat → Int32) (x3 : Int32) (m : fm) : Option ((Int32 × fm) ⊕ (Int32 × fm)) :=
  bif ai_c .gt x3 ((nI N) - (nI 6)) then
    some (.inr ((nI 1), m))
  else
    ldX N xs x3 fun v1 =>
    vl (v1 &&& (nI 15)) fun v2 =>
    bif decide (v2 = nI 0) then
      ldX N xs (x3 + (nI 1)) fun v3 =>
      ldX N xs (x3 + (nI 2)) fun v4 =>
      ldX N xs (x3 + (nI 3)) fun v5 =>
      ldX N xs (x3 + (nI 4)) fun v6 =>
      ldX N xs (x3 + (nI 5)) fun v7 =>
      cl2 (g68 v3 v4 v5 v6 v7 m) fun v9 m8 =>
      ldX N xs (x3 + (nI 1)) fun v10 =>
      ldX N xs (x3 + (nI 2)) fun v11 =>
      ldX N xs (x3 + (nI 3)) fun v12 =>
      ldX N xs (x3 + (nI 4)) fun v13 =>
      ldX N xs (x3 + (nI 5)) fun v14 =>
      cl2 (g103 v10 v11 v12 v13 v14 m8) fun v16 m15 =>
      some (.inl ((x3 + (nI 6)), m15))
    else bif decide (v2 = nI 1) then
      ldX N xs (x3 + (nI 1)) fun v17 =>
      cl2 (g69 v17 m) fun v19 m18 =>
      ldX N xs (x3 + (nI 1)) fun v20 =>
      cl2 (g104 v20 m18) fun v22 m21 =>
      some (.inl ((x3 + (nI 6)), m21))
    else bif decide (v2 = nI 2) then
      ldX N xs (x3 + (nI 1)) fun v23 =>
      ldX N xs (x3 + (nI 2)) fun v24 =>
      bif ai_c .eq v24 0 then
        g143_217 N xs x3 (nI 0) v23 m
      else
        g143_217 N xs x3 (nI 1) v23 m
    else bif decide (v2 = nI 3) then
      cl2 (g71  m) fun v32 m31 =>
      cl2 (g133  m31) fun v34 m33 =>
      some (.inl ((x3 + (nI 6)), m33))
    else bif decide (v2 = nI 4) then
      ldX N xs (x3 + (nI 1)) fun v35 =>
      ldX N xs (x3 + (nI 2)) fun v36 =>
      ldX N xs (x3 + (nI 3)) fun v37 =>
      ldX N xs (x3 + (nI 4)) fun v38 =>
      cl2 (g72 v35 v36 v37 v38 m) fun v40 m39 =>
      ldX N xs (x3 + (nI 1)) fun v41 =>
      ldX N xs (x3 + (nI 2)) fun v42 =>
      ldX N xs (x3 + (nI 3)) fun v43 =>
      ldX N xs (x3 + (nI 4)) fun v44 =>
      cl2 (g137 v41 v42 v43 v44 m39) fun v46 m45 =>
      some (.inl ((x3 + (nI 6)), m45))
    else bif decide (v2 = nI 5) then
      ldX N xs (x3 + (nI 1)) fun v47 =>
      cl2 (g73 v47 m) fun v49 m48 =>
      ldX N xs (x3 + (nI 1)) fun v50 =>
      cl2 (g138 v50 m48) fun v52 m51 =>
      some (.inl ((x3 + (nI 6)), m51))
    else bif decide (v2 = nI 6) then
      ldX N xs (x3 + (nI 1)) fun v53 =>
      cl2 (g74 v53 m) fun v55 m54 =>
      ldX N xs (x3 + (nI 1)) fun v56 =>
      cl2 (g139 v56 m54) fun v58 m57 =>
      bif ai_c .eq v55 v58 then
        some (.inl ((x3 + (nI 6)), m57))
      else
        some (.inr ((nI 0), m57))
    else bif decide (v2 = nI 7) then
      ldX N xs (x3 + (nI 1)) fun v59 =>
      ldX N xs (x3 + (nI 2)) fun v60 =>
      cl2 (g75 v59 v60 m) fun v62 m61 =>
      ldX N xs (x3 + (nI 1)) fun v63 =>
      ldX N xs (x3 + (nI 2)) fun v64 =>
      cl2 (g120 v63 v64 m61) fun v66 m65 =>
      some (.inl ((x3 + (nI 6)), m65))
    else bif decide (v2 = nI 8) then
      ldX N xs (x3 + (nI 1)) fun v67 =>
      ldX N xs (x3 + (nI 2)) fun v68 =>
      ldX N xs (x3 + (nI 3)) fun v69 =>
      cl2 (g76 v67 v68 v69 m) fun v71 m70 =>
      ldX N xs (x3 + (nI 1)) fun v72 =>
      ldX N xs (x3 + (nI 2)) fun v73 =>
      ldX N xs (x3 + (nI 3)) fun v74 =>
      cl2 (g121 v72 v73 v74 m70) fun v76 m75 =>
      some (.inl ((x3 + (nI 6)), m75))
    else bif decide (v2 = nI 9) then
      ldX N xs (x3 + (nI 1)) fun v77 =>
      ldX N xs (x3 + (nI 2)) fun v78 =>
      ldX N xs (x3 + (nI 3)) fun v79 =>
      cl2 (g77 v77 v78 v79 m) fun v81 m80 =>
      ldX N xs (x3 + (nI 1)) fun v82 =>
      ldX N xs (x3 + (nI 2)) fun v83 =>
      ldX N xs (x3 + (nI 3)) fun v84 =>
      cl2 (g122 v82 v83 v84 m80) fun v86 m85 =>
      some (.inl ((x3 + (nI 6)), m85))
    else bif decide (v2 = nI 10) then
      ldX N xs (x3 + (nI 1)) fun v87 =>
      cl2 (g78 v87 m) fun v89 m88 =>
      ldX N xs (x3 + (nI 1)) fun v90 =>
      cl2 (g124 v90 m88) fun v92 m91 =>
      some (.inl ((x3 + (nI 6)), m91))
    else bif decide (v2 = nI 11) then
      ldX N xs (x3 + (nI 1)) fun v93 =>
      cl2 (g79 v93 m) fun v95 m94 =>
      ldX N xs (x3 + (nI 1)) fun v96 =>
      cl2 (g125 v96 m94) fun v98 m97 =>
      some (.inl ((x3 + (nI 6)), m97))
    else bif decide (v2 = nI 12) then
      ldX N xs (x3 + (nI 1)) fun v99 =>
      cl2 (g80 v99 m) fun v101 m100 =>
      ldX N xs (x3 + (nI 1)) fun v102 =>
      cl2 (g130 v102 m100) fun v104 m103 =>
      some (.inl ((x3 + (nI 6)), m103))
    else bif decide (v2 = nI 13) then
      ldX N xs (x3 + (nI 1)) fun v105 =>
      ldX N xs (x3 + (nI 2)) fun v106 =>
      cl2 (g81 v105 v106 m) fun v108 m107 =>
      ldX N xs (x3 + (nI 1)) fun v109 =>
      ldX N xs (x3 + (nI 2)) fun v110 =>
      cl2 (g140 v109 v110 m107) fun v112 m111 =>
      some (.inl ((x3 + (nI 6)), m111))
    else bif decide (v2 = nI 14) then
      ldX N xs (x3 + (nI 1)) fun v113 =>
      ldX N xs (x3 + (nI 2)) fun v114 =>
      ldX N xs (x3 + (nI 3)) fun v115 =>
      ldX N xs (x3 + (nI 4)) fun v116 =>
      cl2 (g82 v113 v114 v115 v116 m) fun v118 m117 =>
      ldX N xs (x3 + (nI 1)) fun v119 =>
      ldX N xs (x3 + (nI 2)) fun v120 =>
      ldX N xs (x3 + (nI 3)) fun v121 =>
      ldX N xs (x3 + (nI 4)) fun v122 =>
      cl2 (g141 v119 v120 v121 v122 m117) fun v124 m123 =>
      some (.inl ((x3 + (nI 6)), m123))
    else bif decide (v2 = nI 15) then
      cl2 (g83  m) fun v126 m125 =>
      cl2 (g142  m125) fun v128 m127 =>
      some (.inl ((x3 + (nI 6)), m127))
    else 
    some (.inl ((x3 + (nI 6)), m))
set_option maxHeartbeats 4000000 in
theorem b143_18 {X : ai_X} {d w : Nat} (hX : X[1]? = some (39, ai_sh)) {N : Nat} {xs : Nat → Int32} (hN : X[0]? = some (N, xs)) (hd : 7 ≤ d) (hw : 173 ≤ w) (x3 : Int32) (m : fm) (Q : Option Value → fm → Prop) (h : ob (s143_18 N xs x3 m) (Sum.elim (fun s : Int32 × fm => fT X d w ai_r143 18 [some (.ref ai_B), some (.ref 0), some (.ref 52), some (.int s.1)] [] s.2 Q) (fun z : Int32 × fm => Q (some (.int z.1)) z.2))) : fT X d w ai_r143 18 [some (.ref ai_B), some (.ref 0), some (.ref 52), some (.int x3)] [] m Q := by
  unfold s143_18 at h
  refine fT_ss 2 (pc' := 20) (L' := [some (.ref ai_B), some (.ref 0), some (.ref 52), some (.int x3)]) (st' := [.ref ai_B, .int x3]) rfl ?_
  refine fO_al rfl (len_x hN) ?_
  refine fT_ss 2 (pc' := 24) (L' := [some (.ref ai_B), some (.ref 0), some (.ref 52), some (.int x3)]) (st' := [.int ((nI N) - (nI 6)), .int x3]) rfl ?_
  refine fO_ic 652 rfl rfl h (fun h => ?_) (fun h => ?_)
  · refine fT_ss 1 (pc' := 653) (L' := [none, none, none, none]) (st' := [.int (nI 1)]) rfl ?_
    exact fT_r rfl rfl h
  · refine fT_ss 2 (pc' := 29) (L' := [some (.ref ai_B), some (.ref 0), some (.ref 52), some (.int x3)]) (st' := [.int x3, .ref ai_B]) rfl ?_
    refine fO_xa hN rfl h (fun v1 h => ?_)
    refine fT_ss 2 (pc' := 33) (L' := [some (.ref ai_B), some (.ref 0), some (.ref 52), some (.int x3)]) (st' := [.int (v1 &&& (nI 15))]) rfl ?_
    refine fO_vl h (fun v2 h => ?_)
    by_cases e0 : v2 = nI 0
    · subst e0
      replace h := ob_eqT h
      refine fT_ss 1 (pc' := 112) (L' := [some (.ref ai_B), some (.ref 0), some (.ref 52), some (.int x3)]) (st' := []) rfl ?_
      refine fT_ss 5 (pc' := 117) (L' := [some (.ref ai_B), some (.ref 0), some (.ref 52), some (.int x3)]) (st' := [.int (x3 + (nI 1)), .ref ai_B, .ref 0]) rfl ?_
      refine fO_xa hN rfl h (fun v3 h => ?_)
      refine fT_ss 4 (pc' := 122) (L' := [some (.ref ai_B), some (.ref 0), some (.ref 52), some (.int x3)]) (st' := [.int (x3 + (nI 2)), .ref ai_B, .int v3, .ref 0]) rfl ?_
      refine fO_xa hN rfl h (fun v4 h => ?_)
      refine fT_ss 4 (pc' := 127) (L' := [some (.ref ai_B), some (.ref 0), some (.ref 52), some (.int x3)]) (st' := [.int (x3 + (nI 3)), .ref ai_B, .int v4, .int v3, .ref 0]) rfl ?_
      refine fO_xa hN rfl h (fun v5 h => ?_)
      refine fT_ss 4 (pc' := 132) (L' := [some (.ref ai_B), some (.ref 0), some (.ref 52), some (.int x3)]) (st' := [.int (x3 + (nI 4)), .ref ai_B, .int v5, .int v4, .int v3, .ref 0]) rfl ?_
      refine fO_xa hN rfl h (fun v6 h => ?_)
      refine fT_ss 4 (pc' := 137) (L' := [some (.ref ai_B), some (.ref 0), some (.ref 52), some (.int x3)]) (st' := [.int (x3 + (nI 5)), .ref ai_B, .int v6, .int v5, .int v4, .int v3, .ref 0]) rfl ?_
      refine fO_xa hN rfl h (fun v7 h => ?_)
      refine fO_qv2 Value.int (r' := ai_r68) (k := 0) (As := [.int v3, .int v4, .int v5, .int v6, .int v7]) (rest := []) rfl rfl rfl rfl rfl rfl (by omega) (show 19 + 6 ≤ w by omega) (Nat.le_of_ble_eq_true rfl) (Nat.le_of_ble_eq_true rfl) rfl rfl (fun Qc hq => t68_0 hX (show 3 ≤ d - 1 by omega) (show 72 ≤ w - (19 + 6) by omega) _ _ _ _ _ _ Qc hq) h (fun v9 m8 h => ?_)
      refine fT_ss 6 (pc' := 147) (L' := [some (.ref ai_B), some (.ref 0), some (.ref 52), some (.int x3)]) (st' := [.int (x3 + (nI 1)), .ref ai_B, .ref 52]) rfl ?_
      refine fO_xa hN rfl h (fun v10 h => ?_)
      refine fT_ss 4 (pc' := 152) (L' := [some (.ref ai_B), some (.ref 0), some (.ref 52), some (.int x3)]) (st' := [.int (x3 + (nI 2)), .ref ai_B, .int v10, .ref 52]) rfl ?_
      refine fO_xa hN rfl h (fun v11 h => ?_)
      refine fT_ss 4 (pc' := 157) (L' := [some (.ref ai_B), some (.ref 0), some (.ref 52), some (.int x3)]) (st' := [.int (x3 + (nI 3)), .ref ai_B, .int v11, .int v10, .ref 52]) rfl ?_
      refine fO_xa hN rfl h (fun v12 h => ?_)
      refine fT_ss 4 (pc' := 162) (L' := [some (.ref ai_B), some (.ref 0), some (.ref 52), some (.int x3)]) (st' := [.int (x3 + (nI 4)), .ref ai_B, .int v12, .int v11, .int v10, .ref 52]) rfl ?_
      refine fO_xa hN rfl h (fun v13 h => ?_)
      refine fT_ss 4 (pc' := 167) (L' := [some (.ref ai_B), some (.ref 0), some (.ref 52), some (.int x3)]) (st' := [.int (x3 + (nI 5)), .ref ai_B, .int v13, .int v12, .int v11, .int v10, .ref 52]) rfl ?_
      refine fO_xa hN rfl h (fun v14 h => ?_)
      refine fO_qv2 Value.int (r' := ai_r103) (k := 52) (As := [.int v10, .int v11, .int v12, .int v13, .int v14]) (rest := []) rfl rfl rfl rfl rfl rfl (by omega) (show 19 + 10 ≤ w by omega) (Nat.le_of_ble_eq_true rfl) (Nat.le_of_ble_eq_true rfl) rfl rfl (fun Qc hq => t103_0 hX (show 3 ≤ d - 1 by omega) (show 63 ≤ w - (19 + 10) by omega) _ _ _ _ _ _ Qc hq) h (fun v16 m15 h => ?_)
      refine fT_ss 4 (pc' := 18) (L' := [some (.ref ai_B), some (.ref 0), some (.ref 52), some (.int (x3 + (nI 6)))]) (st' := []) rfl ?_
      replace h := ob_inl h
      exact fT_mk rfl rfl h
    replace h := ob_eqF e0 h
    by_cases e1 : v2 = nI 1
    · subst e1
      replace h := ob_eqT h
      refine fT_ss 1 (pc' := 175) (L' := [some (.ref ai_B), some (.ref 0), some (.ref 52), some (.int x3)]) (st' := []) rfl ?_
      refine fT_ss 5 (pc' := 180) (L' := [some (.ref ai_B), some (.ref 0), some (.ref 52), some (.int x3)]) (st' := [.int (x3 + (nI 1)), .ref ai_B, .ref 0]) rfl ?_
      refine fO_xa hN rfl h (fun v17 h => ?_)
      refine fO_qv2 Value.int (r' := ai_r69) (k := 0) (As := [.int v17]) (rest := []) rfl rfl rfl rfl rfl rfl (by omega) (show 19 + 2 ≤ w by omega) (Nat.le_of_ble_eq_true rfl) (Nat.le_of_ble_eq_true rfl) rfl rfl (fun Qc hq => t69_0 hX (show 2 ≤ d - 1 by omega) (show 42 ≤ w - (19 + 2) by omega) _ _ Qc hq) h (fun v19 m18 h => ?_)
      refine fT_ss 6 (pc' := 190) (L' := [some (.ref ai_B), some (.ref 0), some (.ref 52), some (.int x3)]) (st' := [.int (x3 + (nI 1)), .ref ai_B, .ref 52]) rfl ?_
      refine fO_xa hN rfl h (fun v20 h => ?_)
      refine fO_qv2 Value.int (r' := ai_r104) (k := 52) (As := [.int v20]) (rest := []) rfl rfl rfl rfl rfl rfl (by omega) (show 19 + 3 ≤ w by omega) (Nat.le_of_ble_eq_true rfl) (Nat.le_of_ble_eq_true rfl) rfl rfl (fun Qc hq => t104_0 hX (show 2 ≤ d - 1 by omega) (show 42 ≤ w - (19 + 3) by omega) _ _ Qc hq) h (fun v22 m21 h => ?_)
      refine fT_ss 4 (pc' := 18) (L' := [some (.ref ai_B), some (.ref 0), some (.ref 52), some (.int (x3 + (nI 6)))]) (st' := []) rfl ?_
      replace h := ob_inl h
      exact fT_mk rfl rfl h
    replace h := ob_eqF e1 h
    by_cases e2 : v2 = nI 2
    · subst e2
      replace h := ob_eqT h
      refine fT_ss 1 (pc' := 198) (L' := [some (.ref ai_B), some (.ref 0), some (.ref 52), some (.int x3)]) (st' := []) rfl ?_
      refine fT_ss 5 (pc' := 203) (L' := [some (.ref ai_B), some (.ref 0), some (.ref 52), some (.int x3)]) (st' := [.int (x3 + (nI 1)), .ref ai_B, .ref 0]) rfl ?_
      refine fO_xa hN rfl h (fun v23 h => ?_)
      refine fT_ss 4 (pc' := 208) (L' := [some (.ref ai_B), some (.ref 0), some (.ref 52), some (.int x3)]) (st' := [.int (x3 + (nI 2)), .ref ai_B, .int v23, .ref 0]) rfl ?_
      refine fO_xa hN rfl h (fun v24 h => ?_)
      refine fO_if 216 rfl rfl h (fun h => ?_) (fun h => ?_)
      · refine fT_ss 1 (pc' := 217) (L' := [some (.ref ai_B), some (.ref 0), some (.ref 52), some (.int x3)]) (st' := [.int (nI 0), .int v23, .ref 0]) rfl ?_
        exact fT_mk rfl rfl (t143_217 hX hN hd hw _ _ _ _ Q h)
      · refine fT_ss 2 (pc' := 217) (L' := [some (.ref ai_B), some (.ref 0), some (.ref 52), some (.int x3)]) (st' := [.int (nI 1), .int v23, .ref 0]) rfl ?_
        exact fT_mk rfl rfl (t143_217 hX hN hd hw _ _ _ _ Q h)
    replace h := ob_eqF e2 h
    by_cases e3 : v2 = nI 3
    · subst e3
      replace h := ob_eqT h
      refine fT_ss 1 (pc' := 247) (L' := [some (.ref ai_B), some (.ref 0), some (.ref 52), some (.int x3)]) (st' := []) rfl ?_
      refine fT_ss 1 (pc' := 248) (L' := [some (.ref ai_B), some (.ref 0), some (.ref 52), some (.int x3)]) (st' := [.ref 0]) rfl ?_
      refine fO_qv2 Value.int (r' := ai_r71) (k := 0) (As := []) (rest := []) rfl rfl rfl rfl rfl rfl (by omega) (show 19 + 3 ≤ w by omega) (Nat.le_of_ble_eq_true rfl) (Nat.le_of_ble_eq_true rfl) rfl rfl (fun Qc hq => t71_0 hX (show 6 ≤ d - 1 by omega) (show 143 ≤ w - (19 + 3) by omega)  _ Qc hq) h (fun v32 m31 h => ?_)
      refine fT_ss 2 (pc' := 253) (L' := [some (.ref ai_B), some (.ref 0), some (.ref 52), some (.int x3)]) (st' := [.ref 52]) rfl ?_
      refine fO_qv2 Value.int (r' := ai_r133) (k := 52) (As := []) (rest := []) rfl rfl rfl rfl rfl rfl (by omega) (show 19 + 6 ≤ w by omega) (Nat.le_of_ble_eq_true rfl) (Nat.le_of_ble_eq_true rfl) rfl rfl (fun Qc hq => t133_0 hX (show 6 ≤ d - 1 by omega) (show 148 ≤ w - (19 + 6) by omega)  _ Qc hq) h (fun v34 m33 h => ?_)
      refine fT_ss 4 (pc' := 18) (L' := [some (.ref ai_B), some (.ref 0), some (.ref 52), some (.int (x3 + (nI 6)))]) (st' := []) rfl ?_
      replace h := ob_inl h
      exact fT_mk rfl rfl h
    replace h := ob_eqF e3 h
    by_cases e4 : v2 = nI 4
    · subst e4
      replace h := ob_eqT h
      refine fT_ss 1 (pc' := 260) (L' := [some (.ref ai_B), some (.ref 0), some (.ref 52), some (.int x3)]) (st' := []) rfl ?_
      refine fT_ss 5 (pc' := 265) (L' := [some (.ref ai_B), some (.ref 0), some (.ref 52), some (.int x3)]) (st' := [.int (x3 + (nI 1)), .ref ai_B, .ref 0]) rfl ?_
      refine fO_xa hN rfl h (fun v35 h => ?_)
      refine fT_ss 4 (pc' := 270) (L' := [some (.ref ai_B), some (.ref 0), some (.ref 52), some (.int x3)]) (st' := [.int (x3 + (nI 2)), .ref ai_B, .int v35, .ref 0]) rfl ?_
      refine fO_xa hN rfl h (fun v36 h => ?_)
      refine fT_ss 4 (pc' := 275) (L' := [some (.ref ai_B), some (.ref 0), some (.ref 52), some (.int x3)]) (st' := [.int (x3 + (nI 3)), .ref ai_B, .int v36, .int v35, .ref 0]) rfl ?_
      refine fO_xa hN rfl h (fun v37 h => ?_)
      refine fT_ss 4 (pc' := 280) (L' := [some (.ref ai_B), some (.ref 0), some (.ref 52), some (.int x3)]) (st' := [.int (x3 + (nI 4)), .ref ai_B, .int v37, .int v36, .int v35, .ref 0]) rfl ?_
      refine fO_xa hN rfl h (fun v38 h => ?_)
      refine fO_qv2 Value.int (r' := ai_r72) (k := 0) (As := [.int v35, .int v36, .int v37, .int v38]) (rest := []) rfl rfl rfl rfl rfl rfl (by omega) (show 19 + 6 ≤ w by omega) (Nat.le_of_ble_eq_true rfl) (Nat.le_of_ble_eq_true rfl) rfl rfl (fun Qc hq => t72_0 hX (show 6 ≤ d - 1 by omega) (show 142 ≤ w - (19 + 6) by omega) _ _ _ _ _ Qc hq) h (fun v40 m39 h => ?_)
      refine fT_ss 6 (pc' := 290) (L' := [some (.ref ai_B), some (.ref 0), some (.ref 52), some (.int x3)]) (st' := [.int (x3 + (nI 1)), .ref ai_B, .ref 52]) rfl ?_
      refine fO_xa hN rfl h (fun v41 h => ?_)
      refine fT_ss 4 (pc' := 295) (L' := [some (.ref ai_B), some (.ref 0), some (.ref 52), some (.int x3)]) (st' := [.int (x3 + (nI 2)), .ref ai_B, .int v41, .ref 52]) rfl ?_
      refine fO_xa hN rfl h (fun v42 h => ?_)
      refine fT_ss 4 (pc' := 300) (L' := [some (.ref ai_B), some (.ref 0), some (.ref 52), some (.int x3)]) (st' := [.int (x3 + (nI 3)), .ref ai_B, .int v42, .int v41, .ref 52]) rfl ?_
      refine fO_xa hN rfl h (fun v43 h => ?_)
      refine fT_ss 4 (pc' := 305) (L' := [some (.ref ai_B), some (.ref 0), some (.ref 52), some (.int x3)]) (st' := [.int (x3 + (nI 4)), .ref ai_B, .int v43, .int v42, .int v41, .ref 52]) rfl ?_
      refine fO_xa hN rfl h (fun v44 h => ?_)
      refine fO_qv2 Value.int (r' := ai_r137) (k := 52) (As := [.int v41, .int v42, .int v43, .int v44]) (rest := []) rfl rfl rfl rfl rfl rfl (by omega) (show 19 + 7 ≤ w by omega) (Nat.le_of_ble_eq_true rfl) (Nat.le_of_ble_eq_true rfl) rfl rfl (fun Qc hq => t137_0 hX (show 2 ≤ d - 1 by omega) (show 50 ≤ w - (19 + 7) by omega) _ _ _ _ _ Qc hq) h (fun v46 m45 h => ?_)
      refine fT_ss 4 (pc' := 18) (L' := [some (.ref ai_B), some (.ref 0), some (.ref 52), some (.int (x3 + (nI 6)))]) (st' := []) rfl ?_
      replace h := ob_inl h
      exact fT_mk rfl rfl h
    replace h := ob_eqF e4 h
    by_cases e5 : v2 = nI 5
    · subst e5
      replace h := ob_eqT h
      refine fT_ss 1 (pc' := 313) (L' := [some (.ref ai_B), some (.ref 0), some (.ref 52), some (.int x3)]) (st' := []) rfl ?_
      refine fT_ss 5 (pc' := 318) (L' := [some (.ref ai_B), some (.ref 0), some (.ref 52), some (.int x3)]) (st' := [.int (x3 + (nI 1)), .ref ai_B, .ref 0]) rfl ?_
      refine fO_xa hN rfl h (fun v47 h => ?_)
      refine fO_qv2 Value.long (r' := ai_r73) (k := 0) (As := [.int v47]) (rest := []) rfl rfl rfl rfl rfl rfl (by omega) (show 19 + 2 ≤ w by omega) (Nat.le_of_ble_eq_true rfl) (Nat.le_of_ble_eq_true rfl) rfl rfl (fun Qc hq => t73_0 hX (show 1 ≤ d - 1 by omega) (show 21 ≤ w - (19 + 2) by omega) _ _ Qc hq) h (fun v49 m48 h => ?_)
      refine fT_ss 6 (pc' := 328) (L' := [some (.ref ai_B), some (.ref 0), some (.ref 52), some (.int x3)]) (st' := [.int (x3 + (nI 1)), .ref ai_B, .ref 52]) rfl ?_
      refine fO_xa hN rfl h (fun v50 h => ?_)
      refine fO_qv2 Value.long (r' := ai_r138) (k := 52) (As := [.int v50]) (rest := []) rfl rfl rfl rfl rfl rfl (by omega) (show 19 + 2 ≤ w by omega) (Nat.le_of_ble_eq_true rfl) (Nat.le_of_ble_eq_true rfl) rfl rfl (fun Qc hq => t138_0 hX (show 1 ≤ d - 1 by omega) (show 22 ≤ w - (19 + 2) by omega) _ _ Qc hq) h (fun v52 m51 h => ?_)
      refine fT_ss 4 (pc' := 18) (L' := [some (.ref ai_B), some (.ref 0), some (.ref 52), some (.int (x3 + (nI 6)))]) (st' := []) rfl ?_
      replace h := ob_inl h
      exact fT_mk rfl rfl h
    replace h := ob_eqF e5 h
    by_cases e6 : v2 = nI 6
    · subst e6
      replace h := ob_eqT h
      refine fT_ss 1 (pc' := 336) (L' := [some (.ref ai_B), some (.ref 0), some (.ref 52), some (.int x3)]) (st' := []) rfl ?_
      refine fT_ss 5 (pc' := 341) (L' := [some (.ref ai_B), some (.ref 0), some (.ref 52), some (.int x3)]) (st' := [.int (x3 + (nI 1)), .ref ai_B, .ref 0]) rfl ?_
      refine fO_xa hN rfl h (fun v53 h => ?_)
      refine fO_qv2 Value.int (r' := ai_r74) (k := 0) (As := [.int v53]) (rest := []) rfl rfl rfl rfl rfl rfl (by omega) (show 19 + 2 ≤ w by omega) (Nat.le_of_ble_eq_true rfl) (Nat.le_of_ble_eq_true rfl) rfl rfl (fun Qc hq => t74_0 hX (show 1 ≤ d - 1 by omega) (show 21 ≤ w - (19 + 2) by omega) _ _ Qc hq) h (fun v55 m54 h => ?_)
      refine fT_ss 5 (pc' := 350) (L' := [some (.ref ai_B), some (.ref 0), some (.ref 52), some (.int x3)]) (st' := [.int (x3 + (nI 1)), .ref ai_B, .ref 52, .int v55]) rfl ?_
      refine fO_xa hN rfl h (fun v56 h => ?_)
      refine fO_qv2 Value.int (r' := ai_r139) (k := 52) (As := [.int v56]) (rest := [.int v55]) rfl rfl rfl rfl rfl rfl (by omega) (show 19 + 2 ≤ w by omega) (Nat.le_of_ble_eq_true rfl) (Nat.le_of_ble_eq_true rfl) rfl rfl (fun Qc hq => t139_0 hX (show 1 ≤ d - 1 by omega) (show 22 ≤ w - (19 + 2) by omega) _ _ Qc hq) h (fun v58 m57 h => ?_)
      refine fO_ic 646 rfl rfl h (fun h => ?_) (fun h => ?_)
      · refine fT_ss 2 (pc' := 18) (L' := [some (.ref ai_B), some (.ref 0), some (.ref 52), some (.int (x3 + (nI 6)))]) (st' := []) rfl ?_
        replace h := ob_inl h
        exact fT_mk rfl rfl h
      · refine fT_ss 1 (pc' := 358) (L' := [none, none, none, none]) (st' := [.int (nI 0)]) rfl ?_
        exact fT_r rfl rfl h
    replace h := ob_eqF e6 h
    by_cases e7 : v2 = nI 7
    · subst e7
      replace h := ob_eqT h
      refine fT_ss 1 (pc' := 359) (L' := [some (.ref ai_B), some (.ref 0), some (.ref 52), some (.int x3)]) (st' := []) rfl ?_
      refine fT_ss 5 (pc' := 364) (L' := [some (.ref ai_B), some (.ref 0), some (.ref 52), some (.int x3)]) (st' := [.int (x3 + (nI 1)), .ref ai_B, .ref 0]) rfl ?_
      refine fO_xa hN rfl h (fun v59 h => ?_)
      refine fT_ss 4 (pc' := 369) (L' := [some (.ref ai_B), some (.ref 0), some (.ref 52), some (.int x3)]) (st' := [.int (x3 + (nI 2)), .ref ai_B, .int v59, .ref 0]) rfl ?_
      refine fO_xa hN rfl h (fun v60 h => ?_)
      refine fO_qv2 Value.int (r' := ai_r75) (k := 0) (As := [.int v59, .int v60]) (rest := []) rfl rfl rfl rfl rfl rfl (by omega) (show 19 + 3 ≤ w by omega) (Nat.le_of_ble_eq_true rfl) (Nat.le_of_ble_eq_true rfl) rfl rfl (fun Qc hq => t75_0 hX (show 5 ≤ d - 1 by omega) (show 119 ≤ w - (19 + 3) by omega) _ _ _ Qc hq) h (fun v62 m61 h => ?_)
      refine fT_ss 6 (pc' := 379) (L' := [some (.ref ai_B), some (.ref 0), some (.ref 52), some (.int x3)]) (st' := [.int (x3 + (nI 1)), .ref ai_B, .ref 52]) rfl ?_
      refine fO_xa hN rfl h (fun v63 h => ?_)
      refine fT_ss 4 (pc' := 384) (L' := [some (.ref ai_B), some (.ref 0), some (.ref 52), some (.int x3)]) (st' := [.int (x3 + (nI 2)), .ref ai_B, .int v63, .ref 52]) rfl ?_
      refine fO_xa hN rfl h (fun v64 h => ?_)
      refine fO_qv2 Value.int (r' := ai_r120) (k := 52) (As := [.int v63, .int v64]) (rest := []) rfl rfl rfl rfl rfl rfl (by omega) (show 19 + 3 ≤ w by omega) (Nat.le_of_ble_eq_true rfl) (Nat.le_of_ble_eq_true rfl) rfl rfl (fun Qc hq => t120_0 hX (show 5 ≤ d - 1 by omega) (show 121 ≤ w - (19 + 3) by omega) _ _ _ Qc hq) h (fun v66 m65 h => ?_)
      refine fT_ss 4 (pc' := 18) (L' := [some (.ref ai_B), some (.ref 0), some (.ref 52), some (.int (x3 + (nI 6)))]) (st' := []) rfl ?_
      replace h := ob_inl h
      exact fT_mk rfl rfl h
    replace h := ob_eqF e7 h
    by_cases e8 : v2 = nI 8
    · subst e8
      replace h := ob_eqT h
      refine fT_ss 1 (pc' := 392) (L' := [some (.ref ai_B), some (.ref 0), some (.ref 52), some (.int x3)]) (st' := []) rfl ?_
      refine fT_ss 5 (pc' := 397) (L' := [some (.ref ai_B), some (.ref 0), some (.ref 52), some (.int x3)]) (st' := [.int (x3 + (nI 1)), .ref ai_B, .ref 0]) rfl ?_
      refine fO_xa hN rfl h (fun v67 h => ?_)
      refine fT_ss 4 (pc' := 402) (L' := [some (.ref ai_B), some (.ref 0), some (.ref 52), some (.int x3)]) (st' := [.int (x3 + (nI 2)), .ref ai_B, .int v67, .ref 0]) rfl ?_
      refine fO_xa hN rfl h (fun v68 h => ?_)
      refine fT_ss 4 (pc' := 407) (L' := [some (.ref ai_B), some (.ref 0), some (.ref 52), some (.int x3)]) (st' := [.int (x3 + (nI 3)), .ref ai_B, .int v68, .int v67, .ref 0]) rfl ?_
      refine fO_xa hN rfl h (fun v69 h => ?_)
      refine fO_qv2 Value.long (r' := ai_r76) (k := 0) (As := [.int v67, .int v68, .int v69]) (rest := []) rfl rfl rfl rfl rfl rfl (by omega) (show 19 + 4 ≤ w by omega) (Nat.le_of_ble_eq_true rfl) (Nat.le_of_ble_eq_true rfl) rfl rfl (fun Qc hq => t76_0 hX (show 5 ≤ d - 1 by omega) (show 118 ≤ w - (19 + 4) by omega) _ _ _ _ Qc hq) h (fun v71 m70 h => ?_)
      refine fT_ss 6 (pc' := 417) (L' := [some (.ref ai_B), some (.ref 0), some (.ref 52), some (.int x3)]) (st' := [.int (x3 + (nI 1)), .ref ai_B, .ref 52]) rfl ?_
      refine fO_xa hN rfl h (fun v72 h => ?_)
      refine fT_ss 4 (pc' := 422) (L' := [some (.ref ai_B), some (.ref 0), some (.ref 52), some (.int x3)]) (st' := [.int (x3 + (nI 2)), .ref ai_B, .int v72, .ref 52]) rfl ?_
      refine fO_xa hN rfl h (fun v73 h => ?_)
      refine fT_ss 4 (pc' := 427) (L' := [some (.ref ai_B), some (.ref 0), some (.ref 52), some (.int x3)]) (st' := [.int (x3 + (nI 3)), .ref ai_B, .int v73, .int v72, .ref 52]) rfl ?_
      refine fO_xa hN rfl h (fun v74 h => ?_)
      refine fO_qv2 Value.long (r' := ai_r121) (k := 52) (As := [.int v72, .int v73, .int v74]) (rest := []) rfl rfl rfl rfl rfl rfl (by omega) (show 19 + 4 ≤ w by omega) (Nat.le_of_ble_eq_true rfl) (Nat.le_of_ble_eq_true rfl) rfl rfl (fun Qc hq => t121_0 hX (show 4 ≤ d - 1 by omega) (show 94 ≤ w - (19 + 4) by omega) _ _ _ _ Qc hq) h (fun v76 m75 h => ?_)
      refine fT_ss 4 (pc' := 18) (L' := [some (.ref ai_B), some (.ref 0), some (.ref 52), some (.int (x3 + (nI 6)))]) (st' := []) rfl ?_
      replace h := ob_inl h
      exact fT_mk rfl rfl h
    replace h := ob_eqF e8 h
    by_cases e9 : v2 = nI 9
    · subst e9
      replace h := ob_eqT h
      refine fT_ss 1 (pc' := 435) (L' := [some (.ref ai_B), some (.ref 0), some (.ref 52), some (.int x3)]) (st' := []) rfl ?_
      refine fT_ss 5 (pc' := 440) (L' := [some (.ref ai_B), some (.ref 0), some (.ref 52), some (.int x3)]) (st' := [.int (x3 + (nI 1)), .ref ai_B, .ref 0]) rfl ?_
      refine fO_xa hN rfl h (fun v77 h => ?_)
      refine fT_ss 4 (pc' := 445) (L' := [some (.ref ai_B), some (.ref 0), some (.ref 52), some (.int x3)]) (st' := [.int (x3 + (nI 2)), .ref ai_B, .int v77, .ref 0]) rfl ?_
      refine fO_xa hN rfl h (fun v78 h => ?_)
      refine fT_ss 4 (pc' := 450) (L' := [some (.ref ai_B), some (.ref 0), some (.ref 52), some (.int x3)]) (st' := [.int (x3 + (nI 3)), .ref ai_B, .int v78, .int v77, .ref 0]) rfl ?_
      refine fO_xa hN rfl h (fun v79 h => ?_)
      refine fO_qv2 Value.int (r' := ai_r77) (k := 0) (As := [.int v77, .int v78, .int v79]) (rest := []) rfl rfl rfl rfl rfl rfl (by omega) (show 19 + 4 ≤ w by omega) (Nat.le_of_ble_eq_true rfl) (Nat.le_of_ble_eq_true rfl) rfl rfl (fun Qc hq => t77_0 hX (show 5 ≤ d - 1 by omega) (show 119 ≤ w - (19 + 4) by omega) _ _ _ _ Qc hq) h (fun v81 m80 h => ?_)
      refine fT_ss 6 (pc' := 460) (L' := [some (.ref ai_B), some (.ref 0), some (.ref 52), some (.int x3)]) (st' := [.int (x3 + (nI 1)), .ref ai_B, .ref 52]) rfl ?_
      refine fO_xa hN rfl h (fun v82 h => ?_)
      refine fT_ss 4 (pc' := 465) (L' := [some (.ref ai_B), some (.ref 0), some (.ref 52), some (.int x3)]) (st' := [.int (x3 + (nI 2)), .ref ai_B, .int v82, .ref 52]) rfl ?_
      refine fO_xa hN rfl h (fun v83 h => ?_)
      refine fT_ss 4 (pc' := 470) (L' := [some (.ref ai_B), some (.ref 0), some (.ref 52), some (.int x3)]) (st' := [.int (x3 + (nI 3)), .ref ai_B, .int v83, .int v82, .ref 52]) rfl ?_
      refine fO_xa hN rfl h (fun v84 h => ?_)
      refine fO_qv2 Value.int (r' := ai_r122) (k := 52) (As := [.int v82, .int v83, .int v84]) (rest := []) rfl rfl rfl rfl rfl rfl (by omega) (show 19 + 4 ≤ w by omega) (Nat.le_of_ble_eq_true rfl) (Nat.le_of_ble_eq_true rfl) rfl rfl (fun Qc hq => t122_0 hX (show 5 ≤ d - 1 by omega) (show 121 ≤ w - (19 + 4) by omega) _ _ _ _ Qc hq) h (fun v86 m85 h => ?_)
      refine fT_ss 4 (pc' := 18) (L' := [some (.ref ai_B), some (.ref 0), some (.ref 52), some (.int (x3 + (nI 6)))]) (st' := []) rfl ?_
      replace h := ob_inl h
      exact fT_mk rfl rfl h
    replace h := ob_eqF e9 h
    by_cases e10 : v2 = nI 10
    · subst e10
      replace h := ob_eqT h
      refine fT_ss 1 (pc' := 478) (L' := [some (.ref ai_B), some (.ref 0), some (.ref 52), some (.int x3)]) (st' := []) rfl ?_
      refine fT_ss 5 (pc' := 483) (L' := [some (.ref ai_B), some (.ref 0), some (.ref 52), some (.int x3)]) (st' := [.int (x3 + (nI 1)), .ref ai_B, .ref 0]) rfl ?_
      refine fO_xa hN rfl h (fun v87 h => ?_)
      refine fO_qv2 Value.int (r' := ai_r78) (k := 0) (As := [.int v87]) (rest := []) rfl rfl rfl rfl rfl rfl (by omega) (show 19 + 2 ≤ w by omega) (Nat.le_of_ble_eq_true rfl) (Nat.le_of_ble_eq_true rfl) rfl rfl (fun Qc hq => t78_0 hX (show 6 ≤ d - 1 by omega) (show 143 ≤ w - (19 + 2) by omega) _ _ Qc hq) h (fun v89 m88 h => ?_)
      refine fT_ss 6 (pc' := 493) (L' := [some (.ref ai_B), some (.ref 0), some (.ref 52), some (.int x3)]) (st' := [.int (x3 + (nI 1)), .ref ai_B, .ref 52]) rfl ?_
      refine fO_xa hN rfl h (fun v90 h => ?_)
      refine fO_qv2 Value.int (r' := ai_r124) (k := 52) (As := [.int v90]) (rest := []) rfl rfl rfl rfl rfl rfl (by omega) (show 19 + 2 ≤ w by omega) (Nat.le_of_ble_eq_true rfl) (Nat.le_of_ble_eq_true rfl) rfl rfl (fun Qc hq => t124_0 hX (show 5 ≤ d - 1 by omega) (show 117 ≤ w - (19 + 2) by omega) _ _ Qc hq) h (fun v92 m91 h => ?_)
      refine fT_ss 4 (pc' := 18) (L' := [some (.ref ai_B), some (.ref 0), some (.ref 52), some (.int (x3 + (nI 6)))]) (st' := []) rfl ?_
      replace h := ob_inl h
      exact fT_mk rfl rfl h
    replace h := ob_eqF e10 h
    by_cases e11 : v2 = nI 11
    · subst e11
      replace h := ob_eqT h
      refine fT_ss 1 (pc' := 501) (L' := [some (.ref ai_B), some (.ref 0), some (.ref 52), some (.int x3)]) (st' := []) rfl ?_
      refine fT_ss 5 (pc' := 506) (L' := [some (.ref ai_B), some (.ref 0), some (.ref 52), some (.int x3)]) (st' := [.int (x3 + (nI 1)), .ref ai_B, .ref 0]) rfl ?_
      refine fO_xa hN rfl h (fun v93 h => ?_)
      refine fO_qv2 Value.int (r' := ai_r79) (k := 0) (As := [.int v93]) (rest := []) rfl rfl rfl rfl rfl rfl (by omega) (show 19 + 2 ≤ w by omega) (Nat.le_of_ble_eq_true rfl) (Nat.le_of_ble_eq_true rfl) rfl rfl (fun Qc hq => t79_0 hX (show 6 ≤ d - 1 by omega) (show 143 ≤ w - (19 + 2) by omega) _ _ Qc hq) h (fun v95 m94 h => ?_)
      refine fT_ss 6 (pc' := 516) (L' := [some (.ref ai_B), some (.ref 0), some (.ref 52), some (.int x3)]) (st' := [.int (x3 + (nI 1)), .ref ai_B, .ref 52]) rfl ?_
      refine fO_xa hN rfl h (fun v96 h => ?_)
      refine fO_qv2 Value.int (r' := ai_r125) (k := 52) (As := [.int v96]) (rest := []) rfl rfl rfl rfl rfl rfl (by omega) (show 19 + 7 ≤ w by omega) (Nat.le_of_ble_eq_true rfl) (Nat.le_of_ble_eq_true rfl) rfl rfl (fun Qc hq => t125_0 hX (show 5 ≤ d - 1 by omega) (show 117 ≤ w - (19 + 7) by omega) _ _ Qc hq) h (fun v98 m97 h => ?_)
      refine fT_ss 4 (pc' := 18) (L' := [some (.ref ai_B), some (.ref 0), some (.ref 52), some (.int (x3 + (nI 6)))]) (st' := []) rfl ?_
      replace h := ob_inl h
      exact fT_mk rfl rfl h
    replace h := ob_eqF e11 h
    by_cases e12 : v2 = nI 12
    · subst e12
      replace h := ob_eqT h
      refine fT_ss 1 (pc' := 524) (L' := [some (.ref ai_B), some (.ref 0), some (.ref 52), some (.int x3)]) (st' := []) rfl ?_
      refine fT_ss 5 (pc' := 529) (L' := [some (.ref ai_B), some (.ref 0), some (.ref 52), some (.int x3)]) (st' := [.int (x3 + (nI 1)), .ref ai_B, .ref 0]) rfl ?_
      refine fO_xa hN rfl h (fun v99 h => ?_)
      refine fO_qv2 Value.int (r' := ai_r80) (k := 0) (As := [.int v99]) (rest := []) rfl rfl rfl rfl rfl rfl (by omega) (show 19 + 3 ≤ w by omega) (Nat.le_of_ble_eq_true rfl) (Nat.le_of_ble_eq_true rfl) rfl rfl (fun Qc hq => t80_0 hX (show 3 ≤ d - 1 by omega) (show 71 ≤ w - (19 + 3) by omega) _ _ Qc hq) h (fun v101 m100 h => ?_)
      refine fT_ss 6 (pc' := 539) (L' := [some (.ref ai_B), some (.ref 0), some (.ref 52), some (.int x3)]) (st' := [.int (x3 + (nI 1)), .ref ai_B, .ref 52]) rfl ?_
      refine fO_xa hN rfl h (fun v102 h => ?_)
      refine fO_qv2 Value.int (r' := ai_r130) (k := 52) (As := [.int v102]) (rest := []) rfl rfl rfl rfl rfl rfl (by omega) (show 19 + 3 ≤ w by omega) (Nat.le_of_ble_eq_true rfl) (Nat.le_of_ble_eq_true rfl) rfl rfl (fun Qc hq => t130_0 hX (show 4 ≤ d - 1 by omega) (show 96 ≤ w - (19 + 3) by omega) _ _ Qc hq) h (fun v104 m103 h => ?_)
      refine fT_ss 4 (pc' := 18) (L' := [some (.ref ai_B), some (.ref 0), some (.ref 52), some (.int (x3 + (nI 6)))]) (st' := []) rfl ?_
      replace h := ob_inl h
      exact fT_mk rfl rfl h
    replace h := ob_eqF e12 h
    by_cases e13 : v2 = nI 13
    · subst e13
      replace h := ob_eqT h
      refine fT_ss 1 (pc' := 547) (L' := [some (.ref ai_B), some (.ref 0), some (.ref 52), some (.int x3)]) (st' := []) rfl ?_
      refine fT_ss 5 (pc' := 552) (L' := [some (.ref ai_B), some (.ref 0), some (.ref 52), some (.int x3)]) (st' := [.int (x3 + (nI 1)), .ref ai_B, .ref 0]) rfl ?_
      refine fO_xa hN rfl h (fun v105 h => ?_)
      refine fT_ss 4 (pc' := 557) (L' := [some (.ref ai_B), some (.ref 0), some (.ref 52), some (.int x3)]) (st' := [.int (x3 + (nI 2)), .ref ai_B, .int v105, .ref 0]) rfl ?_
      refine fO_xa hN rfl h (fun v106 h => ?_)
      refine fO_qv2 Value.int (r' := ai_r81) (k := 0) (As := [.int v105, .int v106]) (rest := []) rfl rfl rfl rfl rfl rfl (by omega) (show 19 + 4 ≤ w by omega) (Nat.le_of_ble_eq_true rfl) (Nat.le_of_ble_eq_true rfl) rfl rfl (fun Qc hq => t81_0 hX (show 2 ≤ d - 1 by omega) (show 42 ≤ w - (19 + 4) by omega) _ _ _ Qc hq) h (fun v108 m107 h => ?_)
      refine fT_ss 6 (pc' := 567) (L' := [some (.ref ai_B), some (.ref 0), some (.ref 52), some (.int x3)]) (st' := [.int (x3 + (nI 1)), .ref ai_B, .ref 52]) rfl ?_
      refine fO_xa hN rfl h (fun v109 h => ?_)
      refine fT_ss 4 (pc' := 572) (L' := [some (.ref ai_B), some (.ref 0), some (.ref 52), some (.int x3)]) (st' := [.int (x3 + (nI 2)), .ref ai_B, .int v109, .ref 52]) rfl ?_
      refine fO_xa hN rfl h (fun v110 h => ?_)
      refine fO_qv2 Value.int (r' := ai_r140) (k := 52) (As := [.int v109, .int v110]) (rest := []) rfl rfl rfl rfl rfl rfl (by omega) (show 19 + 3 ≤ w by omega) (Nat.le_of_ble_eq_true rfl) (Nat.le_of_ble_eq_true rfl) rfl rfl (fun Qc hq => t140_0 hX (show 2 ≤ d - 1 by omega) (show 42 ≤ w - (19 + 3) by omega) _ _ _ Qc hq) h (fun v112 m111 h => ?_)
      refine fT_ss 4 (pc' := 18) (L' := [some (.ref ai_B), some (.ref 0), some (.ref 52), some (.int (x3 + (nI 6)))]) (st' := []) rfl ?_
      replace h := ob_inl h
      exact fT_mk rfl rfl h
    replace h := ob_eqF e13 h
    by_cases e14 : v2 = nI 14
    · subst e14
      replace h := ob_eqT h
      refine fT_ss 1 (pc' := 580) (L' := [some (.ref ai_B), some (.ref 0), some (.ref 52), some (.int x3)]) (st' := []) rfl ?_
      refine fT_ss 5 (pc' := 585) (L' := [some (.ref ai_B), some (.ref 0), some (.ref 52), some (.int x3)]) (st' := [.int (x3 + (nI 1)), .ref ai_B, .ref 0]) rfl ?_
      refine fO_xa hN rfl h (fun v113 h => ?_)
      refine fT_ss 4 (pc' := 590) (L' := [some (.ref ai_B), some (.ref 0), some (.ref 52), some (.int x3)]) (st' := [.int (x3 + (nI 2)), .ref ai_B, .int v113, .ref 0]) rfl ?_
      refine fO_xa hN rfl h (fun v114 h => ?_)
      refine fT_ss 4 (pc' := 595) (L' := [some (.ref ai_B), some (.ref 0), some (.ref 52), some (.int x3)]) (st' := [.int (x3 + (nI 3)), .ref ai_B, .int v114, .int v113, .ref 0]) rfl ?_
      refine fO_xa hN rfl h (fun v115 h => ?_)
      refine fT_ss 4 (pc' := 600) (L' := [some (.ref ai_B), some (.ref 0), some (.ref 52), some (.int x3)]) (st' := [.int (x3 + (nI 4)), .ref ai_B, .int v115, .int v114, .int v113, .ref 0]) rfl ?_
      refine fO_xa hN rfl h (fun v116 h => ?_)
      refine fO_qv2 Value.long (r' := ai_r82) (k := 0) (As := [.int v113, .int v114, .int v115, .int v116]) (rest := []) rfl rfl rfl rfl rfl rfl (by omega) (show 19 + 7 ≤ w by omega) (Nat.le_of_ble_eq_true rfl) (Nat.le_of_ble_eq_true rfl) rfl rfl (fun Qc hq => t82_0 hX (show 2 ≤ d - 1 by omega) (show 42 ≤ w - (19 + 7) by omega) _ _ _ _ _ Qc hq) h (fun v118 m117 h => ?_)
      refine fT_ss 6 (pc' := 610) (L' := [some (.ref ai_B), some (.ref 0), some (.ref 52), some (.int x3)]) (st' := [.int (x3 + (nI 1)), .ref ai_B, .ref 52]) rfl ?_
      refine fO_xa hN rfl h (fun v119 h => ?_)
      refine fT_ss 4 (pc' := 615) (L' := [some (.ref ai_B), some (.ref 0), some (.ref 52), some (.int x3)]) (st' := [.int (x3 + (nI 2)), .ref ai_B, .int v119, .ref 52]) rfl ?_
      refine fO_xa hN rfl h (fun v120 h => ?_)
      refine fT_ss 4 (pc' := 620) (L' := [some (.ref ai_B), some (.ref 0), some (.ref 52), some (.int x3)]) (st' := [.int (x3 + (nI 3)), .ref ai_B, .int v120, .int v119, .ref 52]) rfl ?_
      refine fO_xa hN rfl h (fun v121 h => ?_)
      refine fT_ss 4 (pc' := 625) (L' := [some (.ref ai_B), some (.ref 0), some (.ref 52), some (.int x3)]) (st' := [.int (x3 + (nI 4)), .ref ai_B, .int v121, .int v120, .int v119, .ref 52]) rfl ?_
      refine fO_xa hN rfl h (fun v122 h => ?_)
      refine fO_qv2 Value.long (r' := ai_r141) (k := 52) (As := [.int v119, .int v120, .int v121, .int v122]) (rest := []) rfl rfl rfl rfl rfl rfl (by omega) (show 19 + 6 ≤ w by omega) (Nat.le_of_ble_eq_true rfl) (Nat.le_of_ble_eq_true rfl) rfl rfl (fun Qc hq => t141_0 hX (show 2 ≤ d - 1 by omega) (show 42 ≤ w - (19 + 6) by omega) _ _ _ _ _ Qc hq) h (fun v124 m123 h => ?_)
      refine fT_ss 4 (pc' := 18) (L' := [some (.ref ai_B), some (.ref 0), some (.ref 52), some (.int (x3 + (nI 6)))]) (st' := []) rfl ?_
      replace h := ob_inl h
      exact fT_mk rfl rfl h
    replace h := ob_eqF e14 h
    by_cases e15 : v2 = nI 15
    · subst e15
      replace h := ob_eqT h
      refine fT_ss 1 (pc' := 633) (L' := [some (.ref ai_B), some (.ref 0), some (.ref 52), some (.int x3)]) (st' := []) rfl ?_
      refine fT_ss 1 (pc' := 634) (L' := [some (.ref ai_B), some (.ref 0), some (.ref 52), some (.int x3)]) (st' := [.ref 0]) rfl ?_
      refine fO_qv2 Value.int (r' := ai_r83) (k := 0) (As := []) (rest := []) rfl rfl rfl rfl rfl rfl (by omega) (show 19 + 3 ≤ w by omega) (Nat.le_of_ble_eq_true rfl) (Nat.le_of_ble_eq_true rfl) rfl rfl (fun Qc hq => t83_0 hX (show 2 ≤ d - 1 by omega) (show 42 ≤ w - (19 + 3) by omega)  _ Qc hq) h (fun v126 m125 h => ?_)
      refine fT_ss 2 (pc' := 639) (L' := [some (.ref ai_B), some (.ref 0), some (.ref 52), some (.int x3)]) (st' := [.ref 52]) rfl ?_
      refine fO_qv2 Value.int (r' := ai_r142) (k := 52) (As := []) (rest := []) rfl rfl rfl rfl rfl rfl (by omega) (show 19 + 3 ≤ w by omega) (Nat.le_of_ble_eq_true rfl) (Nat.le_of_ble_eq_true rfl) rfl rfl (fun Qc hq => t142_0 hX (show 0 ≤ d - 1 by omega) (show 0 ≤ w - (19 + 3) by omega)  _ Qc hq) h (fun v128 m127 h => ?_)
      refine fT_ss 4 (pc' := 18) (L' := [some (.ref ai_B), some (.ref 0), some (.ref 52), some (.int (x3 + (nI 6)))]) (st' := []) rfl ?_
      replace h := ob_inl h
      exact fT_mk rfl rfl h
    replace h := ob_eqF e15 h
    refine fO_td 646 rfl rfl (by have := nt (k := 0) (by omega) e0; have := nt (k := 1) (by omega) e1; have := nt (k := 2) (by omega) e2; have := nt (k := 3) (by omega) e3; have := nt (k := 4) (by omega) e4; have := nt (k := 5) (by omega) e5; have := nt (k := 6) (by omega) e6; have := nt (k := 7) (by omega) e7; have := nt (k := 8) (by omega) e8; have := nt (k := 9) (by omega) e9; have := nt (k := 10) (by omega) e10; have := nt (k := 11) (by omega) e11; have := nt (k := 12) (by omega) e12; have := nt (k := 13) (by omega) e13; have := nt (k := 14) (by omega) e14; have := nt (k := 15) (by omega) e15; omega) ?_
    refine fT_ss 2 (pc' := 18) (L' := [some (.ref ai_B), some (.ref 0), some (.ref 52), some (.int (x3 + (nI 6)))]) (st' := []) rfl ?_
    replace h := ob_inl h
    exact fT_mk rfl rfl h
noncomputable def g143_18 (N : Nat) (xs : Nat → Int32) (x3 : Int32) (m : fm) : Option (Int32 × fm) := wl (fun s : Int32 × fm => s143_18 N xs s.1 s.2) lf (x3, m)
theorem t143_18 {X : ai_X} {d w : Nat} (hX : X[1]? = some (39, ai_sh)) {N : Nat} {xs : Nat → Int32} (hN : X[0]? = some (N, xs)) (hd : 7 ≤ d) (hw : 173 ≤ w) (x3 : Int32) (m : fm) (Q : Option Value → fm → Prop) (h : ob (g143_18 N xs x3 m) (fun z : Int32 × fm => Q (some (.int z.1)) z.2)) : fT X d w ai_r143 18 [some (.ref ai_B), some (.ref 0), some (.ref 52), some (.int x3)] [] m Q :=
  wl_ob (P := fun s : Int32 × fm => fT X d w ai_r143 18 [some (.ref ai_B), some (.ref 0), some (.ref 52), some (.int s.1)] [] s.2 Q) (fun s h => b143_18 hX hN hd hw s.1 s.2 Q h) lf (x3, m) h
noncomputable def g143 (N : Nat) (xs : Nat → Int32)  (m : fm) : Option (Int32 × fm) :=
  g143_18 N xs (nI 0) m
set_option maxHeartbeats 4000000 in
theorem t143_16 {X : ai_X} {d w : Nat} (hX : X[1]? = some (39, ai_sh)) {N : Nat} {xs : Nat → Int32} (hN : X[0]? = some (N, xs)) (hd : 7 ≤ d) (hw : 173 ≤ w)  (m : fm) (Q : Option Value → fm → Prop) (h : ob (g143 N xs  m) (fun z : Int32 × fm => Q (some (.int z.1)) z.2)) : fT X d w ai_r143 16 [some (.ref ai_B), some (.ref 0), some (.ref 52), none] [] m Q := by
  unfold g143 at h
  refine fT_ss 2 (pc' := 18) (L' := [some (.ref ai_B), some (.ref 0), some (.ref 52), some (.int (nI 0))]) (st' := []) rfl ?_
  exact fT_mk rfl rfl (t143_18 hX hN hd hw _ _ Q h)
