noncomputable def g135 (x1 : Int32) (m : fm) : Option (fm) :=
  gfI m 52 23 fun v1 =>
  pfI m 52 23 (v1 - (nI 1)) fun m2 =>
  gfI m2 52 23 fun v3 =>
  bif ai_c .ne v3 0 then
    gfI m2 52 23 fun v4 =>
    gfI m2 52 23 fun v5 =>
    ldI m2 70 9 v5 fun v6 =>
    stI m2 71 36 (((nI 4) * (v4 - (nI 1))) + v6) x1 fun m7 =>
    some m7
  else
    pfI m2 52 22 x1 fun m8 =>
    pfI m8 52 24 (nI 0) fun m9 =>
    some m9
set_option maxHeartbeats 4000000 in
theorem t135_0 {X : ai_X} {d w : Nat} (hX : X[1]? = some (39, ai_sh)) (hd : 0 ≤ d) (hw : 0 ≤ w) (x1 : Int32) (m : fm) (Q : Option Value → fm → Prop) (h : ob (g135 x1 m) (fun z : fm => Q none z)) : fT X d w ai_r135 0 [some (.ref 52), some (.int x1)] [] m Q := by
  unfold g135 at h
  refine fT_ss 2 (pc' := 2) (L' := [some (.ref 52), some (.int x1)]) (st' := [.ref 52, .ref 52]) rfl ?_
  refine fO_gi rfl rfl rfl h (fun v1 h => ?_)
  refine fT_ss 2 (pc' := 7) (L' := [some (.ref 52), some (.int x1)]) (st' := [.int (v1 - (nI 1)), .ref 52]) rfl ?_
  refine fO_pi rfl rfl rfl rfl h (fun m2 h => ?_)
  refine fT_ss 1 (pc' := 11) (L' := [some (.ref 52), some (.int x1)]) (st' := [.ref 52]) rfl ?_
  refine fO_gi rfl rfl rfl h (fun v3 h => ?_)
  refine fO_if 30 rfl rfl h (fun h => ?_) (fun h => ?_)
  · refine fT_ss 1 (pc' := 31) (L' := [some (.ref 52), some (.int x1)]) (st' := [.ref 52]) rfl ?_
    refine fT_gr (q := 71) rfl rfl rfl ?_
    refine fT_ss 2 (pc' := 36) (L' := [some (.ref 52), some (.int x1)]) (st' := [.ref 52, .int (nI 4), .ref 71]) rfl ?_
    refine fO_gi rfl rfl rfl h (fun v4 h => ?_)
    refine fT_ss 4 (pc' := 43) (L' := [some (.ref 52), some (.int x1)]) (st' := [.ref 52, .int ((nI 4) * (v4 - (nI 1))), .ref 71]) rfl ?_
    refine fT_gr (q := 70) rfl rfl rfl ?_
    refine fT_ss 1 (pc' := 47) (L' := [some (.ref 52), some (.int x1)]) (st' := [.ref 52, .ref 70, .int ((nI 4) * (v4 - (nI 1))), .ref 71]) rfl ?_
    refine fO_gi rfl rfl rfl h (fun v5 h => ?_)
    refine fO_ia rfl rfl rfl h (fun v6 h => ?_)
    refine fT_ss 2 (pc' := 53) (L' := [some (.ref 52), some (.int x1)]) (st' := [.int x1, .int (((nI 4) * (v4 - (nI 1))) + v6), .ref 71]) rfl ?_
    refine fO_is rfl rfl h (fun m7 h => ?_)
    exact fT_r rfl rfl h
  · refine fT_ss 2 (pc' := 19) (L' := [some (.ref 52), some (.int x1)]) (st' := [.int x1, .ref 52]) rfl ?_
    refine fO_pi rfl rfl rfl rfl h (fun m8 h => ?_)
    refine fT_ss 2 (pc' := 24) (L' := [some (.ref 52), some (.int x1)]) (st' := [.int (nI 0), .ref 52]) rfl ?_
    refine fO_pi rfl rfl rfl rfl h (fun m9 h => ?_)
    refine fT_ss 1 (pc' := 54) (L' := [some (.ref 52), some (.int x1)]) (st' := []) rfl ?_
    exact fT_r rfl rfl h
noncomputable def g136_462  (m : fm) : Option (fm) :=
  gfI m 52 20 fun v45 =>
  pfI m 52 20 (v45 + (nI 1)) fun m46 =>
  some m46
set_option maxHeartbeats 4000000 in
theorem t136_462 {X : ai_X} {d w : Nat} (hX : X[1]? = some (39, ai_sh)) (hd : 1 ≤ d) (hw : 24 ≤ w)  (m : fm) (Q : Option Value → fm → Prop) (h : ob (g136_462  m) (fun z : fm => Q none z)) : fT X d w ai_r136 462 [some (.ref 52), none, none, none, none, none, none] [] m Q := by
  unfold g136_462 at h
  refine fT_ss 2 (pc' := 464) (L' := [some (.ref 52), none, none, none, none, none, none]) (st' := [.ref 52, .ref 52]) rfl ?_
  refine fO_gi rfl rfl rfl h (fun v45 h => ?_)
  refine fT_ss 2 (pc' := 469) (L' := [some (.ref 52), none, none, none, none, none, none]) (st' := [.int (v45 + (nI 1)), .ref 52]) rfl ?_
  refine fO_pi rfl rfl rfl rfl h (fun m46 h => ?_)
  exact fT_r rfl rfl h
noncomputable def g136 (x1 : Int32) (m : fm) : Option (fm) :=
  gfI m 52 23 fun v1 =>
  ldI m 54 384 x1 fun v2 =>
  ldI m 55 384 x1 fun v3 =>
  ldI m 56 384 x1 fun v4 =>
  ldI m 69 9 (v1 - (nI 1)) fun v5 =>
  stI m 69 9 (v1 - (nI 1)) (v5 + (nI 1)) fun m6 =>
  ldI m6 53 384 x1 fun v7 =>
  bif decide (v7 = nI 0) then
    stI m6 71 36 (((nI 4) * (v1 - (nI 1))) + v2) v3 fun m8 =>
    some m8
  else bif decide (v7 = nI 1) then
    ldI m6 71 36 (((nI 4) * (v1 - (nI 1))) + v3) fun v9 =>
    stI m6 71 36 (((nI 4) * (v1 - (nI 1))) + v2) v9 fun m10 =>
    some m10
  else bif decide (v7 = nI 2) then
    ldI m6 71 36 (((nI 4) * (v1 - (nI 1))) + v3) fun v11 =>
    ldI m6 71 36 (((nI 4) * (v1 - (nI 1))) + v4) fun v12 =>
    stI m6 71 36 (((nI 4) * (v1 - (nI 1))) + v2) (v11 + v12) fun m13 =>
    some m13
  else bif decide (v7 = nI 3) then
    ldI m6 71 36 (((nI 4) * (v1 - (nI 1))) + v3) fun v14 =>
    ldI m6 71 36 (((nI 4) * (v1 - (nI 1))) + v4) fun v15 =>
    stI m6 71 36 (((nI 4) * (v1 - (nI 1))) + v2) (v14 * v15) fun m16 =>
    some m16
  else bif decide (v7 = nI 4) then
    ldI m6 71 36 (((nI 4) * (v1 - (nI 1))) + v4) fun v17 =>
    bif ai_c .ne v17 0 then
      ldI m6 71 36 (((nI 4) * (v1 - (nI 1))) + v3) fun v18 =>
      ldI m6 71 36 (((nI 4) * (v1 - (nI 1))) + v4) fun v19 =>
      dvI v18 v19 fun v20 =>
      stI m6 71 36 (((nI 4) * (v1 - (nI 1))) + v2) v20 fun m21 =>
      some m21
    else
      pfI m6 52 24 (nI 1) fun m22 =>
      some m22
  else bif decide (v7 = nI 5) then
    ldI m6 71 36 (((nI 4) * (v1 - (nI 1))) + v2) fun v23 =>
    ldI m6 71 36 (((nI 4) * (v1 - (nI 1))) + v3) fun v24 =>
    bif ai_c .ge v23 v24 then
      ldI m6 69 9 (v1 - (nI 1)) fun v25 =>
      stI m6 69 9 (v1 - (nI 1)) v25 fun m26 =>
      some m26
    else
      stI m6 69 9 (v1 - (nI 1)) v4 fun m27 =>
      some m27
  else bif decide (v7 = nI 6) then
    stI m6 69 9 (v1 - (nI 1)) v2 fun m28 =>
    some m28
  else bif decide (v7 = nI 7) then
    ldI m6 66 4 v3 fun v29 =>
    stI m6 71 36 (((nI 4) * (v1 - (nI 1))) + v2) v29 fun m30 =>
    some m30
  else bif decide (v7 = nI 8) then
    ldI m6 71 36 (((nI 4) * (v1 - (nI 1))) + v2) fun v31 =>
    stI m6 66 4 v3 v31 fun m32 =>
    some m32
  else bif decide (v7 = nI 9) then
    gfI m6 52 23 fun v33 =>
    bif ai_c .ne v33 (nI 8) then
      ldI m6 71 36 ((nI 4) * (v1 - (nI 1))) fun v34 =>
      ldI m6 71 36 (((nI 4) * (v1 - (nI 1))) + (nI 1)) fun v35 =>
      cl1 (g134 v3 v34 v35 v2 m6) fun m36 =>
      some m36
    else
      pfI m6 52 24 (nI 3) fun m37 =>
      some m37
  else bif decide (v7 = nI 10) then
    ldI m6 71 36 (((nI 4) * (v1 - (nI 1))) + v2) fun v38 =>
    cl1 (g135 v38 m6) fun m39 =>
    some m39
  else bif decide (v7 = nI 11) then
    ldI m6 71 36 (((nI 4) * (v1 - (nI 1))) + v2) fun v40 =>
    bif ai_c .ne v40 0 then
      gfI m6 52 24 fun v41 =>
      pfI m6 52 24 v41 fun m42 =>
      some m42
    else
      pfI m6 52 24 (nI 2) fun m43 =>
      some m43
  else 
  gfI m6 52 20 fun v44 =>
  bif ai_c .ge v44 (nI 60) then
    g136_462  m6
  else
    gfI m6 52 20 fun v47 =>
    ldI m6 71 36 (((nI 4) * (v1 - (nI 1))) + v2) fun v48 =>
    stI m6 67 60 v47 v48 fun m49 =>
    g136_462  m49
set_option maxHeartbeats 4000000 in
theorem t136_0 {X : ai_X} {d w : Nat} (hX : X[1]? = some (39, ai_sh)) (hd : 1 ≤ d) (hw : 24 ≤ w) (x1 : Int32) (m : fm) (Q : Option Value → fm → Prop) (h : ob (g136 x1 m) (fun z : fm => Q none z)) : fT X d w ai_r136 0 [some (.ref 52), some (.int x1), none, none, none, none, none] [] m Q := by
  unfold g136 at h
  refine fT_ss 1 (pc' := 1) (L' := [some (.ref 52), some (.int x1), none, none, none, none, none]) (st' := [.ref 52]) rfl ?_
  refine fO_gi rfl rfl rfl h (fun v1 h => ?_)
  refine fT_ss 8 (pc' := 12) (L' := [some (.ref 52), some (.int x1), some (.int (v1 - (nI 1))), some (.int ((nI 4) * (v1 - (nI 1)))), none, none, none]) (st' := [.ref 52]) rfl ?_
  refine fT_gr (q := 54) rfl rfl rfl ?_
  refine fT_ss 1 (pc' := 16) (L' := [some (.ref 52), some (.int x1), some (.int (v1 - (nI 1))), some (.int ((nI 4) * (v1 - (nI 1)))), none, none, none]) (st' := [.int x1, .ref 54]) rfl ?_
  refine fO_ia rfl rfl rfl h (fun v2 h => ?_)
  refine fT_ss 2 (pc' := 20) (L' := [some (.ref 52), some (.int x1), some (.int (v1 - (nI 1))), some (.int ((nI 4) * (v1 - (nI 1)))), some (.int v2), none, none]) (st' := [.ref 52]) rfl ?_
  refine fT_gr (q := 55) rfl rfl rfl ?_
  refine fT_ss 1 (pc' := 24) (L' := [some (.ref 52), some (.int x1), some (.int (v1 - (nI 1))), some (.int ((nI 4) * (v1 - (nI 1)))), some (.int v2), none, none]) (st' := [.int x1, .ref 55]) rfl ?_
  refine fO_ia rfl rfl rfl h (fun v3 h => ?_)
  refine fT_ss 2 (pc' := 28) (L' := [some (.ref 52), some (.int x1), some (.int (v1 - (nI 1))), some (.int ((nI 4) * (v1 - (nI 1)))), some (.int v2), some (.int v3), none]) (st' := [.ref 52]) rfl ?_
  refine fT_gr (q := 56) rfl rfl rfl ?_
  refine fT_ss 1 (pc' := 32) (L' := [some (.ref 52), some (.int x1), some (.int (v1 - (nI 1))), some (.int ((nI 4) * (v1 - (nI 1)))), some (.int v2), some (.int v3), none]) (st' := [.int x1, .ref 56]) rfl ?_
  refine fO_ia rfl rfl rfl h (fun v4 h => ?_)
  refine fT_ss 2 (pc' := 36) (L' := [some (.ref 52), some (.int x1), some (.int (v1 - (nI 1))), some (.int ((nI 4) * (v1 - (nI 1)))), some (.int v2), some (.int v3), some (.int v4)]) (st' := [.ref 52]) rfl ?_
  refine fT_gr (q := 69) rfl rfl rfl ?_
  refine fT_ss 2 (pc' := 41) (L' := [some (.ref 52), some (.int x1), some (.int (v1 - (nI 1))), some (.int ((nI 4) * (v1 - (nI 1)))), some (.int v2), some (.int v3), some (.int v4)]) (st' := [.int (v1 - (nI 1)), .ref 69, .int (v1 - (nI 1)), .ref 69]) rfl ?_
  refine fO_ia rfl rfl rfl h (fun v5 h => ?_)
  refine fT_ss 2 (pc' := 44) (L' := [some (.ref 52), some (.int x1), some (.int (v1 - (nI 1))), some (.int ((nI 4) * (v1 - (nI 1)))), some (.int v2), some (.int v3), some (.int v4)]) (st' := [.int (v5 + (nI 1)), .int (v1 - (nI 1)), .ref 69]) rfl ?_
  refine fO_is rfl rfl h (fun m6 h => ?_)
  refine fT_ss 1 (pc' := 46) (L' := [some (.ref 52), some (.int x1), some (.int (v1 - (nI 1))), some (.int ((nI 4) * (v1 - (nI 1)))), some (.int v2), some (.int v3), some (.int v4)]) (st' := [.ref 52]) rfl ?_
  refine fT_gr (q := 53) rfl rfl rfl ?_
  refine fT_ss 1 (pc' := 50) (L' := [some (.ref 52), some (.int x1), some (.int (v1 - (nI 1))), some (.int ((nI 4) * (v1 - (nI 1)))), some (.int v2), some (.int v3), some (.int v4)]) (st' := [.int x1, .ref 53]) rfl ?_
  refine fO_ia rfl rfl rfl h (fun v7 h => ?_)
  by_cases e0 : v7 = nI 0
  · subst e0
    replace h := ob_eqT h
    refine fT_ss 1 (pc' := 112) (L' := [some (.ref 52), some (.int x1), some (.int (v1 - (nI 1))), some (.int ((nI 4) * (v1 - (nI 1)))), some (.int v2), some (.int v3), some (.int v4)]) (st' := []) rfl ?_
    refine fT_ss 1 (pc' := 113) (L' := [some (.ref 52), none, none, some (.int ((nI 4) * (v1 - (nI 1)))), some (.int v2), some (.int v3), none]) (st' := [.ref 52]) rfl ?_
    refine fT_gr (q := 71) rfl rfl rfl ?_
    refine fT_ss 4 (pc' := 122) (L' := [some (.ref 52), none, none, some (.int ((nI 4) * (v1 - (nI 1)))), some (.int v2), some (.int v3), none]) (st' := [.int v3, .int (((nI 4) * (v1 - (nI 1))) + v2), .ref 71]) rfl ?_
    refine fO_is rfl rfl h (fun m8 h => ?_)
    refine fT_ss 1 (pc' := 472) (L' := [some (.ref 52), none, none, some (.int ((nI 4) * (v1 - (nI 1)))), some (.int v2), some (.int v3), none]) (st' := []) rfl ?_
    exact fT_r rfl rfl h
  replace h := ob_eqF e0 h
  by_cases e1 : v7 = nI 1
  · subst e1
    replace h := ob_eqT h
    refine fT_ss 1 (pc' := 126) (L' := [some (.ref 52), some (.int x1), some (.int (v1 - (nI 1))), some (.int ((nI 4) * (v1 - (nI 1)))), some (.int v2), some (.int v3), some (.int v4)]) (st' := []) rfl ?_
    refine fT_ss 1 (pc' := 127) (L' := [some (.ref 52), none, none, some (.int ((nI 4) * (v1 - (nI 1)))), some (.int v2), some (.int v3), none]) (st' := [.ref 52]) rfl ?_
    refine fT_gr (q := 71) rfl rfl rfl ?_
    refine fT_ss 4 (pc' := 135) (L' := [some (.ref 52), none, none, some (.int ((nI 4) * (v1 - (nI 1)))), some (.int v2), some (.int v3), none]) (st' := [.ref 52, .int (((nI 4) * (v1 - (nI 1))) + v2), .ref 71]) rfl ?_
    refine fT_gr (q := 71) rfl rfl rfl ?_
    refine fT_ss 3 (pc' := 142) (L' := [some (.ref 52), none, none, some (.int ((nI 4) * (v1 - (nI 1)))), some (.int v2), some (.int v3), none]) (st' := [.int (((nI 4) * (v1 - (nI 1))) + v3), .ref 71, .int (((nI 4) * (v1 - (nI 1))) + v2), .ref 71]) rfl ?_
    refine fO_ia rfl rfl rfl h (fun v9 h => ?_)
    refine fO_is rfl rfl h (fun m10 h => ?_)
    refine fT_ss 1 (pc' := 472) (L' := [some (.ref 52), none, none, some (.int ((nI 4) * (v1 - (nI 1)))), some (.int v2), some (.int v3), none]) (st' := []) rfl ?_
    exact fT_r rfl rfl h
  replace h := ob_eqF e1 h
  by_cases e2 : v7 = nI 2
  · subst e2
    replace h := ob_eqT h
    refine fT_ss 1 (pc' := 147) (L' := [some (.ref 52), some (.int x1), some (.int (v1 - (nI 1))), some (.int ((nI 4) * (v1 - (nI 1)))), some (.int v2), some (.int v3), some (.int v4)]) (st' := []) rfl ?_
    refine fT_ss 1 (pc' := 148) (L' := [some (.ref 52), none, none, some (.int ((nI 4) * (v1 - (nI 1)))), some (.int v2), some (.int v3), some (.int v4)]) (st' := [.ref 52]) rfl ?_
    refine fT_gr (q := 71) rfl rfl rfl ?_
    refine fT_ss 4 (pc' := 156) (L' := [some (.ref 52), none, none, some (.int ((nI 4) * (v1 - (nI 1)))), some (.int v2), some (.int v3), some (.int v4)]) (st' := [.ref 52, .int (((nI 4) * (v1 - (nI 1))) + v2), .ref 71]) rfl ?_
    refine fT_gr (q := 71) rfl rfl rfl ?_
    refine fT_ss 3 (pc' := 163) (L' := [some (.ref 52), none, none, some (.int ((nI 4) * (v1 - (nI 1)))), some (.int v2), some (.int v3), some (.int v4)]) (st' := [.int (((nI 4) * (v1 - (nI 1))) + v3), .ref 71, .int (((nI 4) * (v1 - (nI 1))) + v2), .ref 71]) rfl ?_
    refine fO_ia rfl rfl rfl h (fun v11 h => ?_)
    refine fT_ss 1 (pc' := 165) (L' := [some (.ref 52), none, none, some (.int ((nI 4) * (v1 - (nI 1)))), some (.int v2), some (.int v3), some (.int v4)]) (st' := [.ref 52, .int v11, .int (((nI 4) * (v1 - (nI 1))) + v2), .ref 71]) rfl ?_
    refine fT_gr (q := 71) rfl rfl rfl ?_
    refine fT_ss 3 (pc' := 172) (L' := [some (.ref 52), none, none, some (.int ((nI 4) * (v1 - (nI 1)))), some (.int v2), some (.int v3), some (.int v4)]) (st' := [.int (((nI 4) * (v1 - (nI 1))) + v4), .ref 71, .int v11, .int (((nI 4) * (v1 - (nI 1))) + v2), .ref 71]) rfl ?_
    refine fO_ia rfl rfl rfl h (fun v12 h => ?_)
    refine fT_ss 1 (pc' := 174) (L' := [some (.ref 52), none, none, some (.int ((nI 4) * (v1 - (nI 1)))), some (.int v2), some (.int v3), some (.int v4)]) (st' := [.int (v11 + v12), .int (((nI 4) * (v1 - (nI 1))) + v2), .ref 71]) rfl ?_
    refine fO_is rfl rfl h (fun m13 h => ?_)
    refine fT_ss 1 (pc' := 472) (L' := [some (.ref 52), none, none, some (.int ((nI 4) * (v1 - (nI 1)))), some (.int v2), some (.int v3), some (.int v4)]) (st' := []) rfl ?_
    exact fT_r rfl rfl h
  replace h := ob_eqF e2 h
  by_cases e3 : v7 = nI 3
  · subst e3
    replace h := ob_eqT h
    refine fT_ss 1 (pc' := 178) (L' := [some (.ref 52), some (.int x1), some (.int (v1 - (nI 1))), some (.int ((nI 4) * (v1 - (nI 1)))), some (.int v2), some (.int v3), some (.int v4)]) (st' := []) rfl ?_
    refine fT_ss 1 (pc' := 179) (L' := [some (.ref 52), none, none, some (.int ((nI 4) * (v1 - (nI 1)))), some (.int v2), some (.int v3), some (.int v4)]) (st' := [.ref 52]) rfl ?_
    refine fT_gr (q := 71) rfl rfl rfl ?_
    refine fT_ss 4 (pc' := 187) (L' := [some (.ref 52), none, none, some (.int ((nI 4) * (v1 - (nI 1)))), some (.int v2), some (.int v3), some (.int v4)]) (st' := [.ref 52, .int (((nI 4) * (v1 - (nI 1))) + v2), .ref 71]) rfl ?_
    refine fT_gr (q := 71) rfl rfl rfl ?_
    refine fT_ss 3 (pc' := 194) (L' := [some (.ref 52), none, none, some (.int ((nI 4) * (v1 - (nI 1)))), some (.int v2), some (.int v3), some (.int v4)]) (st' := [.int (((nI 4) * (v1 - (nI 1))) + v3), .ref 71, .int (((nI 4) * (v1 - (nI 1))) + v2), .ref 71]) rfl ?_
    refine fO_ia rfl rfl rfl h (fun v14 h => ?_)
    refine fT_ss 1 (pc' := 196) (L' := [some (.ref 52), none, none, some (.int ((nI 4) * (v1 - (nI 1)))), some (.int v2), some (.int v3), some (.int v4)]) (st' := [.ref 52, .int v14, .int (((nI 4) * (v1 - (nI 1))) + v2), .ref 71]) rfl ?_
    refine fT_gr (q := 71) rfl rfl rfl ?_
    refine fT_ss 3 (pc' := 203) (L' := [some (.ref 52), none, none, some (.int ((nI 4) * (v1 - (nI 1)))), some (.int v2), some (.int v3), some (.int v4)]) (st' := [.int (((nI 4) * (v1 - (nI 1))) + v4), .ref 71, .int v14, .int (((nI 4) * (v1 - (nI 1))) + v2), .ref 71]) rfl ?_
    refine fO_ia rfl rfl rfl h (fun v15 h => ?_)
    refine fT_ss 1 (pc' := 205) (L' := [some (.ref 52), none, none, some (.int ((nI 4) * (v1 - (nI 1)))), some (.int v2), some (.int v3), some (.int v4)]) (st' := [.int (v14 * v15), .int (((nI 4) * (v1 - (nI 1))) + v2), .ref 71]) rfl ?_
    refine fO_is rfl rfl h (fun m16 h => ?_)
    refine fT_ss 1 (pc' := 472) (L' := [some (.ref 52), none, none, some (.int ((nI 4) * (v1 - (nI 1)))), some (.int v2), some (.int v3), some (.int v4)]) (st' := []) rfl ?_
    exact fT_r rfl rfl h
  replace h := ob_eqF e3 h
  by_cases e4 : v7 = nI 4
  · subst e4
    replace h := ob_eqT h
    refine fT_ss 1 (pc' := 209) (L' := [some (.ref 52), some (.int x1), some (.int (v1 - (nI 1))), some (.int ((nI 4) * (v1 - (nI 1)))), some (.int v2), some (.int v3), some (.int v4)]) (st' := []) rfl ?_
    refine fT_ss 1 (pc' := 210) (L' := [some (.ref 52), none, none, some (.int ((nI 4) * (v1 - (nI 1)))), some (.int v2), some (.int v3), some (.int v4)]) (st' := [.ref 52]) rfl ?_
    refine fT_gr (q := 71) rfl rfl rfl ?_
    refine fT_ss 3 (pc' := 217) (L' := [some (.ref 52), none, none, some (.int ((nI 4) * (v1 - (nI 1)))), some (.int v2), some (.int v3), some (.int v4)]) (st' := [.int (((nI 4) * (v1 - (nI 1))) + v4), .ref 71]) rfl ?_
    refine fO_ia rfl rfl rfl h (fun v17 h => ?_)
    refine fO_if 229 rfl rfl h (fun h => ?_) (fun h => ?_)
    · refine fT_ss 1 (pc' := 230) (L' := [some (.ref 52), none, none, some (.int ((nI 4) * (v1 - (nI 1)))), some (.int v2), some (.int v3), some (.int v4)]) (st' := [.ref 52]) rfl ?_
      refine fT_gr (q := 71) rfl rfl rfl ?_
      refine fT_ss 4 (pc' := 238) (L' := [some (.ref 52), none, none, some (.int ((nI 4) * (v1 - (nI 1)))), some (.int v2), some (.int v3), some (.int v4)]) (st' := [.ref 52, .int (((nI 4) * (v1 - (nI 1))) + v2), .ref 71]) rfl ?_
      refine fT_gr (q := 71) rfl rfl rfl ?_
      refine fT_ss 3 (pc' := 245) (L' := [some (.ref 52), none, none, some (.int ((nI 4) * (v1 - (nI 1)))), some (.int v2), some (.int v3), some (.int v4)]) (st' := [.int (((nI 4) * (v1 - (nI 1))) + v3), .ref 71, .int (((nI 4) * (v1 - (nI 1))) + v2), .ref 71]) rfl ?_
      refine fO_ia rfl rfl rfl h (fun v18 h => ?_)
      refine fT_ss 1 (pc' := 247) (L' := [some (.ref 52), none, none, some (.int ((nI 4) * (v1 - (nI 1)))), some (.int v2), some (.int v3), some (.int v4)]) (st' := [.ref 52, .int v18, .int (((nI 4) * (v1 - (nI 1))) + v2), .ref 71]) rfl ?_
      refine fT_gr (q := 71) rfl rfl rfl ?_
      refine fT_ss 3 (pc' := 254) (L' := [some (.ref 52), none, none, some (.int ((nI 4) * (v1 - (nI 1)))), some (.int v2), some (.int v3), some (.int v4)]) (st' := [.int (((nI 4) * (v1 - (nI 1))) + v4), .ref 71, .int v18, .int (((nI 4) * (v1 - (nI 1))) + v2), .ref 71]) rfl ?_
      refine fO_ia rfl rfl rfl h (fun v19 h => ?_)
      refine fO_dv rfl h (fun v20 h => ?_)
      refine fO_is rfl rfl h (fun m21 h => ?_)
      refine fT_ss 1 (pc' := 472) (L' := [some (.ref 52), none, none, some (.int ((nI 4) * (v1 - (nI 1)))), some (.int v2), some (.int v3), some (.int v4)]) (st' := []) rfl ?_
      exact fT_r rfl rfl h
    · refine fT_ss 2 (pc' := 223) (L' := [some (.ref 52), none, none, none, none, none, none]) (st' := [.int (nI 1), .ref 52]) rfl ?_
      refine fO_pi rfl rfl rfl rfl h (fun m22 h => ?_)
      refine fT_ss 1 (pc' := 472) (L' := [some (.ref 52), none, none, none, none, none, none]) (st' := []) rfl ?_
      exact fT_r rfl rfl h
  replace h := ob_eqF e4 h
  by_cases e5 : v7 = nI 5
  · subst e5
    replace h := ob_eqT h
    refine fT_ss 1 (pc' := 260) (L' := [some (.ref 52), some (.int x1), some (.int (v1 - (nI 1))), some (.int ((nI 4) * (v1 - (nI 1)))), some (.int v2), some (.int v3), some (.int v4)]) (st' := []) rfl ?_
    refine fT_ss 1 (pc' := 261) (L' := [some (.ref 52), none, some (.int (v1 - (nI 1))), some (.int ((nI 4) * (v1 - (nI 1)))), some (.int v2), some (.int v3), some (.int v4)]) (st' := [.ref 52]) rfl ?_
    refine fT_gr (q := 69) rfl rfl rfl ?_
    refine fT_ss 2 (pc' := 266) (L' := [some (.ref 52), none, some (.int (v1 - (nI 1))), some (.int ((nI 4) * (v1 - (nI 1)))), some (.int v2), some (.int v3), some (.int v4)]) (st' := [.ref 52, .int (v1 - (nI 1)), .ref 69]) rfl ?_
    refine fT_gr (q := 71) rfl rfl rfl ?_
    refine fT_ss 3 (pc' := 273) (L' := [some (.ref 52), none, some (.int (v1 - (nI 1))), some (.int ((nI 4) * (v1 - (nI 1)))), some (.int v2), some (.int v3), some (.int v4)]) (st' := [.int (((nI 4) * (v1 - (nI 1))) + v2), .ref 71, .int (v1 - (nI 1)), .ref 69]) rfl ?_
    refine fO_ia rfl rfl rfl h (fun v23 h => ?_)
    refine fT_ss 1 (pc' := 275) (L' := [some (.ref 52), none, some (.int (v1 - (nI 1))), some (.int ((nI 4) * (v1 - (nI 1)))), some (.int v2), some (.int v3), some (.int v4)]) (st' := [.ref 52, .int v23, .int (v1 - (nI 1)), .ref 69]) rfl ?_
    refine fT_gr (q := 71) rfl rfl rfl ?_
    refine fT_ss 3 (pc' := 282) (L' := [some (.ref 52), none, some (.int (v1 - (nI 1))), some (.int ((nI 4) * (v1 - (nI 1)))), some (.int v2), some (.int v3), some (.int v4)]) (st' := [.int (((nI 4) * (v1 - (nI 1))) + v3), .ref 71, .int v23, .int (v1 - (nI 1)), .ref 69]) rfl ?_
    refine fO_ia rfl rfl rfl h (fun v24 h => ?_)
    refine fO_ic 291 rfl rfl h (fun h => ?_) (fun h => ?_)
    · refine fT_ss 1 (pc' := 292) (L' := [some (.ref 52), none, some (.int (v1 - (nI 1))), none, none, none, none]) (st' := [.ref 52, .int (v1 - (nI 1)), .ref 69]) rfl ?_
      refine fT_gr (q := 69) rfl rfl rfl ?_
      refine fT_ss 1 (pc' := 296) (L' := [some (.ref 52), none, some (.int (v1 - (nI 1))), none, none, none, none]) (st' := [.int (v1 - (nI 1)), .ref 69, .int (v1 - (nI 1)), .ref 69]) rfl ?_
      refine fO_ia rfl rfl rfl h (fun v25 h => ?_)
      refine fO_is rfl rfl h (fun m26 h => ?_)
      refine fT_ss 1 (pc' := 472) (L' := [none, none, none, none, none, none, none]) (st' := []) rfl ?_
      exact fT_r rfl rfl h
    · refine fT_ss 2 (pc' := 297) (L' := [none, none, none, none, none, none, some (.int v4)]) (st' := [.int v4, .int (v1 - (nI 1)), .ref 69]) rfl ?_
      refine fO_is rfl rfl h (fun m27 h => ?_)
      refine fT_ss 1 (pc' := 472) (L' := [none, none, none, none, none, none, none]) (st' := []) rfl ?_
      exact fT_r rfl rfl h
  replace h := ob_eqF e5 h
  by_cases e6 : v7 = nI 6
  · subst e6
    replace h := ob_eqT h
    refine fT_ss 1 (pc' := 301) (L' := [some (.ref 52), some (.int x1), some (.int (v1 - (nI 1))), some (.int ((nI 4) * (v1 - (nI 1)))), some (.int v2), some (.int v3), some (.int v4)]) (st' := []) rfl ?_
    refine fT_ss 1 (pc' := 302) (L' := [some (.ref 52), none, some (.int (v1 - (nI 1))), none, some (.int v2), none, none]) (st' := [.ref 52]) rfl ?_
    refine fT_gr (q := 69) rfl rfl rfl ?_
    refine fT_ss 2 (pc' := 308) (L' := [some (.ref 52), none, some (.int (v1 - (nI 1))), none, some (.int v2), none, none]) (st' := [.int v2, .int (v1 - (nI 1)), .ref 69]) rfl ?_
    refine fO_is rfl rfl h (fun m28 h => ?_)
    refine fT_ss 1 (pc' := 472) (L' := [some (.ref 52), none, some (.int (v1 - (nI 1))), none, some (.int v2), none, none]) (st' := []) rfl ?_
    exact fT_r rfl rfl h
  replace h := ob_eqF e6 h
  by_cases e7 : v7 = nI 7
  · subst e7
    replace h := ob_eqT h
    refine fT_ss 1 (pc' := 312) (L' := [some (.ref 52), some (.int x1), some (.int (v1 - (nI 1))), some (.int ((nI 4) * (v1 - (nI 1)))), some (.int v2), some (.int v3), some (.int v4)]) (st' := []) rfl ?_
    refine fT_ss 1 (pc' := 313) (L' := [some (.ref 52), none, none, some (.int ((nI 4) * (v1 - (nI 1)))), some (.int v2), some (.int v3), none]) (st' := [.ref 52]) rfl ?_
    refine fT_gr (q := 71) rfl rfl rfl ?_
    refine fT_ss 4 (pc' := 321) (L' := [some (.ref 52), none, none, some (.int ((nI 4) * (v1 - (nI 1)))), some (.int v2), some (.int v3), none]) (st' := [.ref 52, .int (((nI 4) * (v1 - (nI 1))) + v2), .ref 71]) rfl ?_
    refine fT_gr (q := 66) rfl rfl rfl ?_
    refine fT_ss 1 (pc' := 326) (L' := [some (.ref 52), none, none, some (.int ((nI 4) * (v1 - (nI 1)))), some (.int v2), some (.int v3), none]) (st' := [.int v3, .ref 66, .int (((nI 4) * (v1 - (nI 1))) + v2), .ref 71]) rfl ?_
    refine fO_ia rfl rfl rfl h (fun v29 h => ?_)
    refine fO_is rfl rfl h (fun m30 h => ?_)
    refine fT_ss 1 (pc' := 472) (L' := [some (.ref 52), none, none, some (.int ((nI 4) * (v1 - (nI 1)))), some (.int v2), some (.int v3), none]) (st' := []) rfl ?_
    exact fT_r rfl rfl h
  replace h := ob_eqF e7 h
  by_cases e8 : v7 = nI 8
  · subst e8
    replace h := ob_eqT h
    refine fT_ss 1 (pc' := 331) (L' := [some (.ref 52), some (.int x1), some (.int (v1 - (nI 1))), some (.int ((nI 4) * (v1 - (nI 1)))), some (.int v2), some (.int v3), some (.int v4)]) (st' := []) rfl ?_
    refine fT_ss 1 (pc' := 332) (L' := [some (.ref 52), none, none, some (.int ((nI 4) * (v1 - (nI 1)))), some (.int v2), some (.int v3), none]) (st' := [.ref 52]) rfl ?_
    refine fT_gr (q := 66) rfl rfl rfl ?_
    refine fT_ss 2 (pc' := 338) (L' := [some (.ref 52), none, none, some (.int ((nI 4) * (v1 - (nI 1)))), some (.int v2), some (.int v3), none]) (st' := [.ref 52, .int v3, .ref 66]) rfl ?_
    refine fT_gr (q := 71) rfl rfl rfl ?_
    refine fT_ss 3 (pc' := 345) (L' := [some (.ref 52), none, none, some (.int ((nI 4) * (v1 - (nI 1)))), some (.int v2), some (.int v3), none]) (st' := [.int (((nI 4) * (v1 - (nI 1))) + v2), .ref 71, .int v3, .ref 66]) rfl ?_
    refine fO_ia rfl rfl rfl h (fun v31 h => ?_)
    refine fO_is rfl rfl h (fun m32 h => ?_)
    refine fT_ss 1 (pc' := 472) (L' := [some (.ref 52), none, none, some (.int ((nI 4) * (v1 - (nI 1)))), some (.int v2), some (.int v3), none]) (st' := []) rfl ?_
    exact fT_r rfl rfl h
  replace h := ob_eqF e8 h
  by_cases e9 : v7 = nI 9
  · subst e9
    replace h := ob_eqT h
    refine fT_ss 1 (pc' := 350) (L' := [some (.ref 52), some (.int x1), some (.int (v1 - (nI 1))), some (.int ((nI 4) * (v1 - (nI 1)))), some (.int v2), some (.int v3), some (.int v4)]) (st' := []) rfl ?_
    refine fT_ss 1 (pc' := 351) (L' := [some (.ref 52), none, none, some (.int ((nI 4) * (v1 - (nI 1)))), some (.int v2), some (.int v3), none]) (st' := [.ref 52]) rfl ?_
    refine fO_gi rfl rfl rfl h (fun v33 h => ?_)
    refine fT_ss 1 (pc' := 356) (L' := [some (.ref 52), none, none, some (.int ((nI 4) * (v1 - (nI 1)))), some (.int v2), some (.int v3), none]) (st' := [.int (nI 8), .int v33]) rfl ?_
    refine fO_ic 367 rfl rfl h (fun h => ?_) (fun h => ?_)
    · refine fT_ss 3 (pc' := 371) (L' := [some (.ref 52), none, none, some (.int ((nI 4) * (v1 - (nI 1)))), some (.int v2), some (.int v3), none]) (st' := [.ref 52, .int v3, .ref 52]) rfl ?_
      refine fT_gr (q := 71) rfl rfl rfl ?_
      refine fT_ss 1 (pc' := 375) (L' := [some (.ref 52), none, none, some (.int ((nI 4) * (v1 - (nI 1)))), some (.int v2), some (.int v3), none]) (st' := [.int ((nI 4) * (v1 - (nI 1))), .ref 71, .int v3, .ref 52]) rfl ?_
      refine fO_ia rfl rfl rfl h (fun v34 h => ?_)
      refine fT_ss 1 (pc' := 377) (L' := [some (.ref 52), none, none, some (.int ((nI 4) * (v1 - (nI 1)))), some (.int v2), some (.int v3), none]) (st' := [.ref 52, .int v34, .int v3, .ref 52]) rfl ?_
      refine fT_gr (q := 71) rfl rfl rfl ?_
      refine fT_ss 3 (pc' := 383) (L' := [some (.ref 52), none, none, some (.int ((nI 4) * (v1 - (nI 1)))), some (.int v2), some (.int v3), none]) (st' := [.int (((nI 4) * (v1 - (nI 1))) + (nI 1)), .ref 71, .int v34, .int v3, .ref 52]) rfl ?_
      refine fO_ia rfl rfl rfl h (fun v35 h => ?_)
      refine fT_ss 1 (pc' := 386) (L' := [some (.ref 52), none, none, some (.int ((nI 4) * (v1 - (nI 1)))), some (.int v2), some (.int v3), none]) (st' := [.int v2, .int v35, .int v34, .int v3, .ref 52]) rfl ?_
      refine fO_qv1 (r' := ai_r134) (k := 52) (As := [.int v3, .int v34, .int v35, .int v2]) (rest := []) rfl rfl rfl rfl rfl rfl (by omega) (show 19 + 5 ≤ w by omega) (Nat.le_of_ble_eq_true rfl) (Nat.le_of_ble_eq_true rfl) rfl rfl (fun Qc hq => t134_0 hX (show 0 ≤ d - 1 by omega) (show 0 ≤ w - (19 + 5) by omega) _ _ _ _ _ Qc hq) h (fun m36 h => ?_)
      refine fT_ss 1 (pc' := 472) (L' := [some (.ref 52), none, none, some (.int ((nI 4) * (v1 - (nI 1)))), some (.int v2), some (.int v3), none]) (st' := []) rfl ?_
      exact fT_r rfl rfl h
    · refine fT_ss 2 (pc' := 361) (L' := [some (.ref 52), none, none, none, none, none, none]) (st' := [.int (nI 3), .ref 52]) rfl ?_
      refine fO_pi rfl rfl rfl rfl h (fun m37 h => ?_)
      refine fT_ss 1 (pc' := 472) (L' := [some (.ref 52), none, none, none, none, none, none]) (st' := []) rfl ?_
      exact fT_r rfl rfl h
  replace h := ob_eqF e9 h
  by_cases e10 : v7 = nI 10
  · subst e10
    replace h := ob_eqT h
    refine fT_ss 1 (pc' := 392) (L' := [some (.ref 52), some (.int x1), some (.int (v1 - (nI 1))), some (.int ((nI 4) * (v1 - (nI 1)))), some (.int v2), some (.int v3), some (.int v4)]) (st' := []) rfl ?_
    refine fT_ss 2 (pc' := 394) (L' := [some (.ref 52), none, none, some (.int ((nI 4) * (v1 - (nI 1)))), some (.int v2), none, none]) (st' := [.ref 52, .ref 52]) rfl ?_
    refine fT_gr (q := 71) rfl rfl rfl ?_
    refine fT_ss 3 (pc' := 401) (L' := [some (.ref 52), none, none, some (.int ((nI 4) * (v1 - (nI 1)))), some (.int v2), none, none]) (st' := [.int (((nI 4) * (v1 - (nI 1))) + v2), .ref 71, .ref 52]) rfl ?_
    refine fO_ia rfl rfl rfl h (fun v38 h => ?_)
    refine fO_qv1 (r' := ai_r135) (k := 52) (As := [.int v38]) (rest := []) rfl rfl rfl rfl rfl rfl (by omega) (show 19 + 2 ≤ w by omega) (Nat.le_of_ble_eq_true rfl) (Nat.le_of_ble_eq_true rfl) rfl rfl (fun Qc hq => t135_0 hX (show 0 ≤ d - 1 by omega) (show 0 ≤ w - (19 + 2) by omega) _ _ Qc hq) h (fun m39 h => ?_)
    refine fT_ss 1 (pc' := 472) (L' := [some (.ref 52), none, none, some (.int ((nI 4) * (v1 - (nI 1)))), some (.int v2), none, none]) (st' := []) rfl ?_
    exact fT_r rfl rfl h
  replace h := ob_eqF e10 h
  by_cases e11 : v7 = nI 11
  · subst e11
    replace h := ob_eqT h
    refine fT_ss 1 (pc' := 408) (L' := [some (.ref 52), some (.int x1), some (.int (v1 - (nI 1))), some (.int ((nI 4) * (v1 - (nI 1)))), some (.int v2), some (.int v3), some (.int v4)]) (st' := []) rfl ?_
    refine fT_ss 2 (pc' := 410) (L' := [some (.ref 52), none, none, some (.int ((nI 4) * (v1 - (nI 1)))), some (.int v2), none, none]) (st' := [.ref 52, .ref 52]) rfl ?_
    refine fT_gr (q := 71) rfl rfl rfl ?_
    refine fT_ss 3 (pc' := 417) (L' := [some (.ref 52), none, none, some (.int ((nI 4) * (v1 - (nI 1)))), some (.int v2), none, none]) (st' := [.int (((nI 4) * (v1 - (nI 1))) + v2), .ref 71, .ref 52]) rfl ?_
    refine fO_ia rfl rfl rfl h (fun v40 h => ?_)
    refine fO_if 425 rfl rfl h (fun h => ?_) (fun h => ?_)
    · refine fT_ss 1 (pc' := 426) (L' := [some (.ref 52), none, none, none, none, none, none]) (st' := [.ref 52, .ref 52]) rfl ?_
      refine fO_gi rfl rfl rfl h (fun v41 h => ?_)
      refine fO_pi rfl rfl rfl rfl h (fun m42 h => ?_)
      refine fT_ss 1 (pc' := 472) (L' := [none, none, none, none, none, none, none]) (st' := []) rfl ?_
      exact fT_r rfl rfl h
    · refine fT_ss 2 (pc' := 429) (L' := [none, none, none, none, none, none, none]) (st' := [.int (nI 2), .ref 52]) rfl ?_
      refine fO_pi rfl rfl rfl rfl h (fun m43 h => ?_)
      refine fT_ss 1 (pc' := 472) (L' := [none, none, none, none, none, none, none]) (st' := []) rfl ?_
      exact fT_r rfl rfl h
  replace h := ob_eqF e11 h
  refine fO_td 435 rfl rfl (by have := nt (k := 0) (by omega) e0; have := nt (k := 1) (by omega) e1; have := nt (k := 2) (by omega) e2; have := nt (k := 3) (by omega) e3; have := nt (k := 4) (by omega) e4; have := nt (k := 5) (by omega) e5; have := nt (k := 6) (by omega) e6; have := nt (k := 7) (by omega) e7; have := nt (k := 8) (by omega) e8; have := nt (k := 9) (by omega) e9; have := nt (k := 10) (by omega) e10; have := nt (k := 11) (by omega) e11; omega) ?_
  refine fT_ss 1 (pc' := 436) (L' := [some (.ref 52), none, none, some (.int ((nI 4) * (v1 - (nI 1)))), some (.int v2), none, none]) (st' := [.ref 52]) rfl ?_
  refine fO_gi rfl rfl rfl h (fun v44 h => ?_)
  refine fT_ss 1 (pc' := 441) (L' := [some (.ref 52), none, none, some (.int ((nI 4) * (v1 - (nI 1)))), some (.int v2), none, none]) (st' := [.int (nI 60), .int v44]) rfl ?_
  refine fO_ic 462 rfl rfl h (fun h => ?_) (fun h => ?_)
  · exact fT_mk rfl rfl (t136_462 hX hd hw  _ Q h)
  · refine fT_ss 1 (pc' := 445) (L' := [some (.ref 52), none, none, some (.int ((nI 4) * (v1 - (nI 1)))), some (.int v2), none, none]) (st' := [.ref 52]) rfl ?_
    refine fT_gr (q := 67) rfl rfl rfl ?_
    refine fT_ss 1 (pc' := 449) (L' := [some (.ref 52), none, none, some (.int ((nI 4) * (v1 - (nI 1)))), some (.int v2), none, none]) (st' := [.ref 52, .ref 67]) rfl ?_
    refine fO_gi rfl rfl rfl h (fun v47 h => ?_)
    refine fT_ss 1 (pc' := 453) (L' := [some (.ref 52), none, none, some (.int ((nI 4) * (v1 - (nI 1)))), some (.int v2), none, none]) (st' := [.ref 52, .int v47, .ref 67]) rfl ?_
    refine fT_gr (q := 71) rfl rfl rfl ?_
    refine fT_ss 3 (pc' := 460) (L' := [some (.ref 52), none, none, some (.int ((nI 4) * (v1 - (nI 1)))), some (.int v2), none, none]) (st' := [.int (((nI 4) * (v1 - (nI 1))) + v2), .ref 71, .int v47, .ref 67]) rfl ?_
    refine fO_ia rfl rfl rfl h (fun v48 h => ?_)
    refine fO_is rfl rfl h (fun m49 h => ?_)
    exact fT_mk rfl rfl (t136_462 hX hd hw  _ Q h)
noncomputable def s137_94 (x1 : Int32) (m : fm) : Option ((fm) ⊕ (Int32 × fm)) :=
  gfI m 52 24 fun v11 =>
  bif ai_c .ge v11 0 then
    gfI m 52 24 fun v12 =>
    some (.inr (v12, m))
  else
    gfI m 52 23 fun v13 =>
    ldI m 68 9 (v13 - (nI 1)) fun v14 =>
    gfI m 52 23 fun v15 =>
    ldI m 69 9 (v15 - (nI 1)) fun v16 =>
    ldI m 57 16 (((nI 8) * x1) + v14) fun v17 =>
    bif ai_c .lt v16 v17 then
      gfI m 52 21 fun v18 =>
      bif ai_c .ne v18 (nI 2000) then
        gfI m 52 21 fun v19 =>
        pfI m 52 21 (v19 + (nI 1)) fun m20 =>
        cl2 (g98 x1 v14 v16 m20) fun v22 m21 =>
        cl1 (g136 v22 m21) fun m23 =>
        some (.inl m23)
      else
        pfI m 52 24 (nI 4) fun m24 =>
        some (.inl m24)
    else
      cl1 (g135 (nI 0) m) fun m25 =>
      some (.inl m25)
set_option maxHeartbeats 4000000 in
theorem b137_94 {X : ai_X} {d w : Nat} (hX : X[1]? = some (39, ai_sh)) (hd : 2 ≤ d) (hw : 50 ≤ w) (x1 : Int32) (m : fm) (Q : Option Value → fm → Prop) (h : ob (s137_94 x1 m) (Sum.elim (fun s : fm => fT X d w ai_r137 94 [some (.ref 52), some (.int x1), none, none, none, none, none] [] s Q) (fun z : Int32 × fm => Q (some (.int z.1)) z.2))) : fT X d w ai_r137 94 [some (.ref 52), some (.int x1), none, none, none, none, none] [] m Q := by
  unfold s137_94 at h
  refine fT_ss 1 (pc' := 95) (L' := [some (.ref 52), some (.int x1), none, none, none, none, none]) (st' := [.ref 52]) rfl ?_
  refine fO_gi rfl rfl rfl h (fun v11 h => ?_)
  refine fO_if 195 rfl rfl h (fun h => ?_) (fun h => ?_)
  · refine fT_ss 1 (pc' := 196) (L' := [some (.ref 52), none, none, none, none, none, none]) (st' := [.ref 52]) rfl ?_
    refine fO_gi rfl rfl rfl h (fun v12 h => ?_)
    exact fT_r rfl rfl h
  · refine fT_ss 1 (pc' := 102) (L' := [some (.ref 52), some (.int x1), none, none, none, none, none]) (st' := [.ref 52]) rfl ?_
    refine fT_gr (q := 68) rfl rfl rfl ?_
    refine fT_ss 1 (pc' := 106) (L' := [some (.ref 52), some (.int x1), none, none, none, none, none]) (st' := [.ref 52, .ref 68]) rfl ?_
    refine fO_gi rfl rfl rfl h (fun v13 h => ?_)
    refine fT_ss 2 (pc' := 111) (L' := [some (.ref 52), some (.int x1), none, none, none, none, none]) (st' := [.int (v13 - (nI 1)), .ref 68]) rfl ?_
    refine fO_ia rfl rfl rfl h (fun v14 h => ?_)
    refine fT_ss 2 (pc' := 115) (L' := [some (.ref 52), some (.int x1), none, none, none, some (.int v14), none]) (st' := [.ref 52]) rfl ?_
    refine fT_gr (q := 69) rfl rfl rfl ?_
    refine fT_ss 1 (pc' := 119) (L' := [some (.ref 52), some (.int x1), none, none, none, some (.int v14), none]) (st' := [.ref 52, .ref 69]) rfl ?_
    refine fO_gi rfl rfl rfl h (fun v15 h => ?_)
    refine fT_ss 2 (pc' := 124) (L' := [some (.ref 52), some (.int x1), none, none, none, some (.int v14), none]) (st' := [.int (v15 - (nI 1)), .ref 69]) rfl ?_
    refine fO_ia rfl rfl rfl h (fun v16 h => ?_)
    refine fT_ss 3 (pc' := 130) (L' := [some (.ref 52), some (.int x1), none, none, none, some (.int v14), some (.int v16)]) (st' := [.ref 52, .int v16]) rfl ?_
    refine fT_gr (q := 57) rfl rfl rfl ?_
    refine fT_ss 5 (pc' := 140) (L' := [some (.ref 52), some (.int x1), none, none, none, some (.int v14), some (.int v16)]) (st' := [.int (((nI 8) * x1) + v14), .ref 57, .int v16]) rfl ?_
    refine fO_ia rfl rfl rfl h (fun v17 h => ?_)
    refine fO_ic 152 rfl rfl h (fun h => ?_) (fun h => ?_)
    · refine fT_ss 1 (pc' := 153) (L' := [some (.ref 52), some (.int x1), none, none, none, some (.int v14), some (.int v16)]) (st' := [.ref 52]) rfl ?_
      refine fO_gi rfl rfl rfl h (fun v18 h => ?_)
      refine fT_ss 1 (pc' := 159) (L' := [some (.ref 52), some (.int x1), none, none, none, some (.int v14), some (.int v16)]) (st' := [.int (nI 2000), .int v18]) rfl ?_
      refine fO_ic 170 rfl rfl h (fun h => ?_) (fun h => ?_)
      · refine fT_ss 2 (pc' := 172) (L' := [some (.ref 52), some (.int x1), none, none, none, some (.int v14), some (.int v16)]) (st' := [.ref 52, .ref 52]) rfl ?_
        refine fO_gi rfl rfl rfl h (fun v19 h => ?_)
        refine fT_ss 2 (pc' := 177) (L' := [some (.ref 52), some (.int x1), none, none, none, some (.int v14), some (.int v16)]) (st' := [.int (v19 + (nI 1)), .ref 52]) rfl ?_
        refine fO_pi rfl rfl rfl rfl h (fun m20 h => ?_)
        refine fT_ss 4 (pc' := 186) (L' := [some (.ref 52), some (.int x1), none, none, none, some (.int v14), some (.int v16)]) (st' := [.int v16, .int v14, .int x1, .ref 52]) rfl ?_
        refine fO_qs2 Value.int (r' := ai_r98) (As := [.int x1, .int v14, .int v16]) (rest := [.ref 52]) rfl rfl rfl rfl rfl rfl (by omega) (show 19 + 3 ≤ w by omega) (Nat.le_of_ble_eq_true rfl) (Nat.le_of_ble_eq_true rfl) rfl rfl (fun Qc hq => t98_0 hX (show 0 ≤ d - 1 by omega) (show 0 ≤ w - (19 + 3) by omega) _ _ _ _ Qc hq) h (fun v22 m21 h => ?_)
        refine fO_qv1 (r' := ai_r136) (k := 52) (As := [.int v22]) (rest := []) rfl rfl rfl rfl rfl rfl (by omega) (show 19 + 7 ≤ w by omega) (Nat.le_of_ble_eq_true rfl) (Nat.le_of_ble_eq_true rfl) rfl rfl (fun Qc hq => t136_0 hX (show 1 ≤ d - 1 by omega) (show 24 ≤ w - (19 + 7) by omega) _ _ Qc hq) h (fun m23 h => ?_)
        refine fT_ss 1 (pc' := 94) (L' := [some (.ref 52), some (.int x1), none, none, none, none, none]) (st' := []) rfl ?_
        replace h := ob_inl h
        exact fT_mk rfl rfl h
      · refine fT_ss 2 (pc' := 164) (L' := [some (.ref 52), some (.int x1), none, none, none, none, none]) (st' := [.int (nI 4), .ref 52]) rfl ?_
        refine fO_pi rfl rfl rfl rfl h (fun m24 h => ?_)
        refine fT_ss 2 (pc' := 94) (L' := [some (.ref 52), some (.int x1), none, none, none, none, none]) (st' := []) rfl ?_
        replace h := ob_inl h
        exact fT_mk rfl rfl h
    · refine fT_ss 2 (pc' := 146) (L' := [some (.ref 52), some (.int x1), none, none, none, none, none]) (st' := [.int (nI 0), .ref 52]) rfl ?_
      refine fO_qv1 (r' := ai_r135) (k := 52) (As := [.int (nI 0)]) (rest := []) rfl rfl rfl rfl rfl rfl (by omega) (show 19 + 2 ≤ w by omega) (Nat.le_of_ble_eq_true rfl) (Nat.le_of_ble_eq_true rfl) rfl rfl (fun Qc hq => t135_0 hX (show 0 ≤ d - 1 by omega) (show 0 ≤ w - (19 + 2) by omega) _ _ Qc hq) h (fun m25 h => ?_)
      refine fT_ss 2 (pc' := 94) (L' := [some (.ref 52), some (.int x1), none, none, none, none, none]) (st' := []) rfl ?_
      replace h := ob_inl h
      exact fT_mk rfl rfl h
noncomputable def g137_94 (x1 : Int32) (m : fm) : Option (Int32 × fm) := wl (fun s : fm => s137_94 x1 s) lf m
theorem t137_94 {X : ai_X} {d w : Nat} (hX : X[1]? = some (39, ai_sh)) (hd : 2 ≤ d) (hw : 50 ≤ w) (x1 : Int32) (m : fm) (Q : Option Value → fm → Prop) (h : ob (g137_94 x1 m) (fun z : Int32 × fm => Q (some (.int z.1)) z.2)) : fT X d w ai_r137 94 [some (.ref 52), some (.int x1), none, none, none, none, none] [] m Q :=
  wl_ob (P := fun s : fm => fT X d w ai_r137 94 [some (.ref 52), some (.int x1), none, none, none, none, none] [] s Q) (fun s h => b137_94 hX hd hw x1 s Q h) lf m h
noncomputable def s137_40 (x1 : Int32) (x2 : Int32) (x3 : Int32) (x4 : Int32) (x5 : Int32) (m : fm) : Option ((Int32 × fm) ⊕ (Int32 × fm)) :=
  bif ai_c .ge x5 (nI 4) then
    pfI m 52 20 (nI 0) fun m5 =>
    pfI m5 52 21 (nI 0) fun m6 =>
    pfI m6 52 22 (nI 0) fun m7 =>
    pfI m7 52 23 (nI 0) fun m8 =>
    pfI m8 52 24 (-1) fun m9 =>
    cl1 (g134 x2 x3 x4 (nI 0) m9) fun m10 =>
    (g137_94 x1 m10).map Sum.inr
  else
    stI m 66 4 x5 (nI 0) fun m26 =>
    some (.inl ((x5 + (nI 1)), m26))
set_option maxHeartbeats 4000000 in
theorem b137_40 {X : ai_X} {d w : Nat} (hX : X[1]? = some (39, ai_sh)) (hd : 2 ≤ d) (hw : 50 ≤ w) (x1 : Int32) (x2 : Int32) (x3 : Int32) (x4 : Int32) (x5 : Int32) (m : fm) (Q : Option Value → fm → Prop) (h : ob (s137_40 x1 x2 x3 x4 x5 m) (Sum.elim (fun s : Int32 × fm => fT X d w ai_r137 40 [some (.ref 52), some (.int x1), some (.int x2), some (.int x3), some (.int x4), some (.int s.1), none] [] s.2 Q) (fun z : Int32 × fm => Q (some (.int z.1)) z.2))) : fT X d w ai_r137 40 [some (.ref 52), some (.int x1), some (.int x2), some (.int x3), some (.int x4), some (.int x5), none] [] m Q := by
  unfold s137_40 at h
  refine fT_ss 2 (pc' := 43) (L' := [some (.ref 52), some (.int x1), some (.int x2), some (.int x3), some (.int x4), some (.int x5), none]) (st' := [.int (nI 4), .int x5]) rfl ?_
  refine fO_ic 60 rfl rfl h (fun h => ?_) (fun h => ?_)
  · refine fT_ss 2 (pc' := 62) (L' := [some (.ref 52), some (.int x1), some (.int x2), some (.int x3), some (.int x4), none, none]) (st' := [.int (nI 0), .ref 52]) rfl ?_
    refine fO_pi rfl rfl rfl rfl h (fun m5 h => ?_)
    refine fT_ss 2 (pc' := 67) (L' := [some (.ref 52), some (.int x1), some (.int x2), some (.int x3), some (.int x4), none, none]) (st' := [.int (nI 0), .ref 52]) rfl ?_
    refine fO_pi rfl rfl rfl rfl h (fun m6 h => ?_)
    refine fT_ss 2 (pc' := 72) (L' := [some (.ref 52), some (.int x1), some (.int x2), some (.int x3), some (.int x4), none, none]) (st' := [.int (nI 0), .ref 52]) rfl ?_
    refine fO_pi rfl rfl rfl rfl h (fun m7 h => ?_)
    refine fT_ss 2 (pc' := 77) (L' := [some (.ref 52), some (.int x1), some (.int x2), some (.int x3), some (.int x4), none, none]) (st' := [.int (nI 0), .ref 52]) rfl ?_
    refine fO_pi rfl rfl rfl rfl h (fun m8 h => ?_)
    refine fT_ss 2 (pc' := 82) (L' := [some (.ref 52), some (.int x1), some (.int x2), some (.int x3), some (.int x4), none, none]) (st' := [.int (-1), .ref 52]) rfl ?_
    refine fO_pi rfl rfl rfl rfl h (fun m9 h => ?_)
    refine fT_ss 5 (pc' := 91) (L' := [some (.ref 52), some (.int x1), some (.int x2), some (.int x3), some (.int x4), none, none]) (st' := [.int (nI 0), .int x4, .int x3, .int x2, .ref 52]) rfl ?_
    refine fO_qv1 (r' := ai_r134) (k := 52) (As := [.int x2, .int x3, .int x4, .int (nI 0)]) (rest := []) rfl rfl rfl rfl rfl rfl (by omega) (show 19 + 5 ≤ w by omega) (Nat.le_of_ble_eq_true rfl) (Nat.le_of_ble_eq_true rfl) rfl rfl (fun Qc hq => t134_0 hX (show 0 ≤ d - 1 by omega) (show 0 ≤ w - (19 + 5) by omega) _ _ _ _ _ Qc hq) h (fun m10 h => ?_)
    exact fT_mk rfl rfl (t137_94 hX hd hw _ _ Q (ob_mapR h))
  · refine fT_ss 1 (pc' := 47) (L' := [some (.ref 52), some (.int x1), some (.int x2), some (.int x3), some (.int x4), some (.int x5), none]) (st' := [.ref 52]) rfl ?_
    refine fT_gr (q := 66) rfl rfl rfl ?_
    refine fT_ss 2 (pc' := 53) (L' := [some (.ref 52), some (.int x1), some (.int x2), some (.int x3), some (.int x4), some (.int x5), none]) (st' := [.int (nI 0), .int x5, .ref 66]) rfl ?_
    refine fO_is rfl rfl h (fun m26 h => ?_)
    refine fT_ss 2 (pc' := 40) (L' := [some (.ref 52), some (.int x1), some (.int x2), some (.int x3), some (.int x4), some (.int (x5 + (nI 1))), none]) (st' := []) rfl ?_
    replace h := ob_inl h
    exact fT_mk rfl rfl h
noncomputable def g137_40 (x1 : Int32) (x2 : Int32) (x3 : Int32) (x4 : Int32) (x5 : Int32) (m : fm) : Option (Int32 × fm) := wl (fun s : Int32 × fm => s137_40 x1 x2 x3 x4 s.1 s.2) lf (x5, m)
theorem t137_40 {X : ai_X} {d w : Nat} (hX : X[1]? = some (39, ai_sh)) (hd : 2 ≤ d) (hw : 50 ≤ w) (x1 : Int32) (x2 : Int32) (x3 : Int32) (x4 : Int32) (x5 : Int32) (m : fm) (Q : Option Value → fm → Prop) (h : ob (g137_40 x1 x2 x3 x4 x5 m) (fun z : Int32 × fm => Q (some (.int z.1)) z.2)) : fT X d w ai_r137 40 [some (.ref 52), some (.int x1), some (.int x2), some (.int x3), some (.int x4), some (.int x5), none] [] m Q :=
  wl_ob (P := fun s : Int32 × fm => fT X d w ai_r137 40 [some (.ref 52), some (.int x1), some (.int x2), some (.int x3), some (.int x4), some (.int s.1), none] [] s.2 Q) (fun s h => b137_40 hX hd hw x1 x2 x3 x4 s.1 s.2 Q h) lf (x5, m) h
noncomputable def g137 (x1 : Int32) (x2 : Int32) (x3 : Int32) (x4 : Int32) (m : fm) : Option (Int32 × fm) :=
  cl2 (g96 x2 m) fun v2 m1 =>
  bif ai_c .ne v2 0 then
    cl2 (g95 x1 (nI 0) (nI 1) m1) fun v4 m3 =>
    bif ai_c .ne v4 0 then
      bif ai_c .ne x1 (nI 1) then
        g137_40 x1 x2 x3 x4 (nI 0) m3
      else
        gfI m3 52 6 fun v27 =>
        bif ai_c .ne v27 0 then
          g137_40 x1 x2 x3 x4 (nI 0) m3
        else
          some ((-103), m3)
    else
      some ((-102), m3)
  else
    some ((-101), m1)
set_option maxHeartbeats 4000000 in
theorem t137_0 {X : ai_X} {d w : Nat} (hX : X[1]? = some (39, ai_sh)) (hd : 2 ≤ d) (hw : 50 ≤ w) (x1 : Int32) (x2 : Int32) (x3 : Int32) (x4 : Int32) (m : fm) (Q : Option Value → fm → Prop) (h : ob (g137 x1 x2 x3 x4 m) (fun z : Int32 × fm => Q (some (.int z.1)) z.2)) : fT X d w ai_r137 0 [some (.ref 52), some (.int x1), some (.int x2), some (.int x3), some (.int x4), none, none] [] m Q := by
  unfold g137 at h
  refine fT_ss 1 (pc' := 1) (L' := [some (.ref 52), some (.int x1), some (.int x2), some (.int x3), some (.int x4), none, none]) (st' := [.int x2]) rfl ?_
  refine fO_qs2 Value.int (r' := ai_r96) (As := [.int x2]) (rest := []) rfl rfl rfl rfl rfl rfl (by omega) (show 19 + 1 ≤ w by omega) (Nat.le_of_ble_eq_true rfl) (Nat.le_of_ble_eq_true rfl) rfl rfl (fun Qc hq => t96_0 hX (show 1 ≤ d - 1 by omega) (show 22 ≤ w - (19 + 1) by omega) _ _ Qc hq) h (fun v2 m1 h => ?_)
  refine fO_if 10 rfl rfl h (fun h => ?_) (fun h => ?_)
  · refine fT_ss 3 (pc' := 13) (L' := [some (.ref 52), some (.int x1), some (.int x2), some (.int x3), some (.int x4), none, none]) (st' := [.int (nI 1), .int (nI 0), .int x1]) rfl ?_
    refine fO_qs2 Value.int (r' := ai_r95) (As := [.int x1, .int (nI 0), .int (nI 1)]) (rest := []) rfl rfl rfl rfl rfl rfl (by omega) (show 19 + 3 ≤ w by omega) (Nat.le_of_ble_eq_true rfl) (Nat.le_of_ble_eq_true rfl) rfl rfl (fun Qc hq => t95_0 hX (show 0 ≤ d - 1 by omega) (show 0 ≤ w - (19 + 3) by omega) _ _ _ _ Qc hq) h (fun v4 m3 h => ?_)
    refine fO_if 22 rfl rfl h (fun h => ?_) (fun h => ?_)
    · refine fT_ss 2 (pc' := 24) (L' := [some (.ref 52), some (.int x1), some (.int x2), some (.int x3), some (.int x4), none, none]) (st' := [.int (nI 1), .int x1]) rfl ?_
      refine fO_ic 37 rfl rfl h (fun h => ?_) (fun h => ?_)
      · refine fT_ss 2 (pc' := 40) (L' := [some (.ref 52), some (.int x1), some (.int x2), some (.int x3), some (.int x4), some (.int (nI 0)), none]) (st' := []) rfl ?_
        exact fT_mk rfl rfl (t137_40 hX hd hw _ _ _ _ _ _ Q h)
      · refine fT_ss 1 (pc' := 28) (L' := [some (.ref 52), some (.int x1), some (.int x2), some (.int x3), some (.int x4), none, none]) (st' := [.ref 52]) rfl ?_
        refine fO_gi rfl rfl rfl h (fun v27 h => ?_)
        refine fO_if 37 rfl rfl h (fun h => ?_) (fun h => ?_)
        · refine fT_ss 2 (pc' := 40) (L' := [some (.ref 52), some (.int x1), some (.int x2), some (.int x3), some (.int x4), some (.int (nI 0)), none]) (st' := []) rfl ?_
          exact fT_mk rfl rfl (t137_40 hX hd hw _ _ _ _ _ _ Q h)
        · refine fT_ss 1 (pc' := 36) (L' := [none, none, none, none, none, none, none]) (st' := [.int (-103)]) rfl ?_
          exact fT_r rfl rfl h
    · refine fT_ss 1 (pc' := 21) (L' := [none, none, none, none, none, none, none]) (st' := [.int (-102)]) rfl ?_
      exact fT_r rfl rfl h
  · refine fT_ss 1 (pc' := 9) (L' := [none, none, none, none, none, none, none]) (st' := [.int (-101)]) rfl ?_
    exact fT_r rfl rfl h
noncomputable def g138 (x1 : Int32) (m : fm) : Option (Int64 × fm) :=
  bif decide (x1 = nI 0) then
    gfI m 52 22 fun v1 =>
    some (((v1).toInt64), m)
  else bif decide (x1 = nI 1) then
    gfI m 52 21 fun v2 =>
    some (((v2).toInt64), m)
  else bif decide (x1 = nI 2) then
    gfI m 52 20 fun v3 =>
    some (((v3).toInt64), m)
  else 
  cl2 (g95 x1 (nI 3) (nI 6) m) fun v5 m4 =>
  bif ai_c .eq v5 0 then
    some ((Int64.ofNat 18446744073709551514), m4)
  else
    ldI m4 66 4 (x1 - (nI 3)) fun v6 =>
    some (((v6).toInt64), m4)
set_option maxHeartbeats 4000000 in
theorem t138_0 {X : ai_X} {d w : Nat} (hX : X[1]? = some (39, ai_sh)) (hd : 1 ≤ d) (hw : 22 ≤ w) (x1 : Int32) (m : fm) (Q : Option Value → fm → Prop) (h : ob (g138 x1 m) (fun z : Int64 × fm => Q (some (.long z.1)) z.2)) : fT X d w ai_r138 0 [some (.ref 52), some (.int x1)] [] m Q := by
  unfold g138 at h
  refine fT_ss 1 (pc' := 1) (L' := [some (.ref 52), some (.int x1)]) (st' := [.int x1]) rfl ?_
  by_cases e0 : x1 = nI 0
  · subst e0
    replace h := ob_eqT h
    refine fT_ss 1 (pc' := 28) (L' := [some (.ref 52), some (.int (nI 0))]) (st' := []) rfl ?_
    refine fT_ss 1 (pc' := 29) (L' := [some (.ref 52), none]) (st' := [.ref 52]) rfl ?_
    refine fO_gi rfl rfl rfl h (fun v1 h => ?_)
    refine fT_ss 1 (pc' := 33) (L' := [some (.ref 52), none]) (st' := [.long ((v1).toInt64)]) rfl ?_
    exact fT_r rfl rfl h
  replace h := ob_eqF e0 h
  by_cases e1 : x1 = nI 1
  · subst e1
    replace h := ob_eqT h
    refine fT_ss 1 (pc' := 34) (L' := [some (.ref 52), some (.int (nI 1))]) (st' := []) rfl ?_
    refine fT_ss 1 (pc' := 35) (L' := [some (.ref 52), none]) (st' := [.ref 52]) rfl ?_
    refine fO_gi rfl rfl rfl h (fun v2 h => ?_)
    refine fT_ss 1 (pc' := 39) (L' := [some (.ref 52), none]) (st' := [.long ((v2).toInt64)]) rfl ?_
    exact fT_r rfl rfl h
  replace h := ob_eqF e1 h
  by_cases e2 : x1 = nI 2
  · subst e2
    replace h := ob_eqT h
    refine fT_ss 1 (pc' := 40) (L' := [some (.ref 52), some (.int (nI 2))]) (st' := []) rfl ?_
    refine fT_ss 1 (pc' := 41) (L' := [some (.ref 52), none]) (st' := [.ref 52]) rfl ?_
    refine fO_gi rfl rfl rfl h (fun v3 h => ?_)
    refine fT_ss 1 (pc' := 45) (L' := [some (.ref 52), none]) (st' := [.long ((v3).toInt64)]) rfl ?_
    exact fT_r rfl rfl h
  replace h := ob_eqF e2 h
  refine fO_td 46 rfl rfl (by have := nt (k := 0) (by omega) e0; have := nt (k := 1) (by omega) e1; have := nt (k := 2) (by omega) e2; omega) ?_
  refine fT_ss 3 (pc' := 50) (L' := [some (.ref 52), some (.int x1)]) (st' := [.int (nI 6), .int (nI 3), .int x1]) rfl ?_
  refine fO_qs2 Value.int (r' := ai_r95) (As := [.int x1, .int (nI 3), .int (nI 6)]) (rest := []) rfl rfl rfl rfl rfl rfl (by omega) (show 19 + 3 ≤ w by omega) (Nat.le_of_ble_eq_true rfl) (Nat.le_of_ble_eq_true rfl) rfl rfl (fun Qc hq => t95_0 hX (show 0 ≤ d - 1 by omega) (show 0 ≤ w - (19 + 3) by omega) _ _ _ _ Qc hq) h (fun v5 m4 h => ?_)
  refine fO_if 68 rfl rfl h (fun h => ?_) (fun h => ?_)
  · refine fT_lc rfl ?_
    exact fT_r rfl rfl h
  · refine fT_ss 1 (pc' := 57) (L' := [some (.ref 52), some (.int x1)]) (st' := [.ref 52]) rfl ?_
    refine fT_gr (q := 66) rfl rfl rfl ?_
    refine fT_ss 3 (pc' := 63) (L' := [some (.ref 52), some (.int x1)]) (st' := [.int (x1 - (nI 3)), .ref 66]) rfl ?_
    refine fO_ia rfl rfl rfl h (fun v6 h => ?_)
    refine fT_ss 2 (pc' := 71) (L' := [some (.ref 52), some (.int x1)]) (st' := [.long ((v6).toInt64)]) rfl ?_
    exact fT_r rfl rfl h
noncomputable def g139_20 (x1 : Int32) (y0 : Int32) (y1 : Int32) (y2 : Int32) (m : fm) : Option (Int32 × fm) :=
  cl2 (g95 y2 y1 (y0 - (nI 1)) m) fun v3 m2 =>
  bif ai_c .eq v3 0 then
    some ((nI 0), m2)
  else
    ldI m2 67 60 x1 fun v4 =>
    some (v4, m2)
set_option maxHeartbeats 4000000 in
theorem t139_20 {X : ai_X} {d w : Nat} (hX : X[1]? = some (39, ai_sh)) (hd : 1 ≤ d) (hw : 22 ≤ w) (x1 : Int32) (y0 : Int32) (y1 : Int32) (y2 : Int32) (m : fm) (Q : Option Value → fm → Prop) (h : ob (g139_20 x1 y0 y1 y2 m) (fun z : Int32 × fm => Q (some (.int z.1)) z.2)) : fT X d w ai_r139 20 [some (.ref 52), some (.int x1)] [.int y0, .int y1, .int y2] m Q := by
  unfold g139_20 at h
  refine fT_ss 2 (pc' := 22) (L' := [some (.ref 52), some (.int x1)]) (st' := [.int (y0 - (nI 1)), .int y1, .int y2]) rfl ?_
  refine fO_qs2 Value.int (r' := ai_r95) (As := [.int y2, .int y1, .int (y0 - (nI 1))]) (rest := []) rfl rfl rfl rfl rfl rfl (by omega) (show 19 + 3 ≤ w by omega) (Nat.le_of_ble_eq_true rfl) (Nat.le_of_ble_eq_true rfl) rfl rfl (fun Qc hq => t95_0 hX (show 0 ≤ d - 1 by omega) (show 0 ≤ w - (19 + 3) by omega) _ _ _ _ Qc hq) h (fun v3 m2 h => ?_)
  refine fO_if 37 rfl rfl h (fun h => ?_) (fun h => ?_)
  · refine fT_ss 1 (pc' := 38) (L' := [none, none]) (st' := [.int (nI 0)]) rfl ?_
    exact fT_r rfl rfl h
  · refine fT_ss 1 (pc' := 29) (L' := [some (.ref 52), some (.int x1)]) (st' := [.ref 52]) rfl ?_
    refine fT_gr (q := 67) rfl rfl rfl ?_
    refine fT_ss 1 (pc' := 33) (L' := [some (.ref 52), some (.int x1)]) (st' := [.int x1, .ref 67]) rfl ?_
    refine fO_ia rfl rfl rfl h (fun v4 h => ?_)
    refine fT_ss 1 (pc' := 38) (L' := [some (.ref 52), some (.int x1)]) (st' := [.int v4]) rfl ?_
    exact fT_r rfl rfl h
noncomputable def g139 (x1 : Int32) (m : fm) : Option (Int32 × fm) :=
  gfI m 52 20 fun v1 =>
  bif ai_c .ge v1 (nI 60) then
    g139_20 x1 (nI 60) (nI 0) x1 m
  else
    gfI m 52 20 fun v5 =>
    g139_20 x1 v5 (nI 0) x1 m
set_option maxHeartbeats 4000000 in
theorem t139_0 {X : ai_X} {d w : Nat} (hX : X[1]? = some (39, ai_sh)) (hd : 1 ≤ d) (hw : 22 ≤ w) (x1 : Int32) (m : fm) (Q : Option Value → fm → Prop) (h : ob (g139 x1 m) (fun z : Int32 × fm => Q (some (.int z.1)) z.2)) : fT X d w ai_r139 0 [some (.ref 52), some (.int x1)] [] m Q := by
  unfold g139 at h
  refine fT_ss 3 (pc' := 3) (L' := [some (.ref 52), some (.int x1)]) (st' := [.ref 52, .int (nI 0), .int x1]) rfl ?_
  refine fO_gi rfl rfl rfl h (fun v1 h => ?_)
  refine fT_ss 1 (pc' := 8) (L' := [some (.ref 52), some (.int x1)]) (st' := [.int (nI 60), .int v1, .int (nI 0), .int x1]) rfl ?_
  refine fO_ic 18 rfl rfl h (fun h => ?_) (fun h => ?_)
  · refine fT_ss 1 (pc' := 20) (L' := [some (.ref 52), some (.int x1)]) (st' := [.int (nI 60), .int (nI 0), .int x1]) rfl ?_
    exact fT_mk rfl rfl (t139_20 hX hd hw _ _ _ _ _ Q h)
  · refine fT_ss 1 (pc' := 12) (L' := [some (.ref 52), some (.int x1)]) (st' := [.ref 52, .int (nI 0), .int x1]) rfl ?_
    refine fO_gi rfl rfl rfl h (fun v5 h => ?_)
    refine fT_ss 1 (pc' := 20) (L' := [some (.ref 52), some (.int x1)]) (st' := [.int v5, .int (nI 0), .int x1]) rfl ?_
    exact fT_mk rfl rfl (t139_20 hX hd hw _ _ _ _ _ Q h)
noncomputable def g140_39 (x1 : Int32) (x2 : Int32) (m : fm) : Option (Int32 × fm) :=
  ldI m 57 16 (((nI 8) * x1) + x2) fun v5 =>
  some (v5, m)
set_option maxHeartbeats 4000000 in
theorem t140_39 {X : ai_X} {d w : Nat} (hX : X[1]? = some (39, ai_sh)) (hd : 2 ≤ d) (hw : 42 ≤ w) (x1 : Int32) (x2 : Int32) (m : fm) (Q : Option Value → fm → Prop) (h : ob (g140_39 x1 x2 m) (fun z : Int32 × fm => Q (some (.int z.1)) z.2)) : fT X d w ai_r140 39 [some (.ref 52), some (.int x1), some (.int x2)] [] m Q := by
  unfold g140_39 at h
  refine fT_ss 1 (pc' := 40) (L' := [some (.ref 52), some (.int x1), some (.int x2)]) (st' := [.ref 52]) rfl ?_
  refine fT_gr (q := 57) rfl rfl rfl ?_
  refine fT_ss 5 (pc' := 49) (L' := [some (.ref 52), some (.int x1), some (.int x2)]) (st' := [.int (((nI 8) * x1) + x2), .ref 57]) rfl ?_
  refine fO_ia rfl rfl rfl h (fun v5 h => ?_)
  exact fT_r rfl rfl h
noncomputable def g140 (x1 : Int32) (x2 : Int32) (m : fm) : Option (Int32 × fm) :=
  cl2 (g96 x2 m) fun v2 m1 =>
  bif ai_c .ne v2 0 then
    cl2 (g95 x1 (nI 0) (nI 1) m1) fun v4 m3 =>
    bif ai_c .ne v4 0 then
      bif ai_c .ne x1 (nI 1) then
        g140_39 x1 x2 m3
      else
        gfI m3 52 6 fun v6 =>
        bif ai_c .ne v6 0 then
          g140_39 x1 x2 m3
        else
          some ((-103), m3)
    else
      some ((-102), m3)
  else
    some ((-101), m1)
set_option maxHeartbeats 4000000 in
theorem t140_0 {X : ai_X} {d w : Nat} (hX : X[1]? = some (39, ai_sh)) (hd : 2 ≤ d) (hw : 42 ≤ w) (x1 : Int32) (x2 : Int32) (m : fm) (Q : Option Value → fm → Prop) (h : ob (g140 x1 x2 m) (fun z : Int32 × fm => Q (some (.int z.1)) z.2)) : fT X d w ai_r140 0 [some (.ref 52), some (.int x1), some (.int x2)] [] m Q := by
  unfold g140 at h
  refine fT_ss 1 (pc' := 1) (L' := [some (.ref 52), some (.int x1), some (.int x2)]) (st' := [.int x2]) rfl ?_
  refine fO_qs2 Value.int (r' := ai_r96) (As := [.int x2]) (rest := []) rfl rfl rfl rfl rfl rfl (by omega) (show 19 + 1 ≤ w by omega) (Nat.le_of_ble_eq_true rfl) (Nat.le_of_ble_eq_true rfl) rfl rfl (fun Qc hq => t96_0 hX (show 1 ≤ d - 1 by omega) (show 22 ≤ w - (19 + 1) by omega) _ _ Qc hq) h (fun v2 m1 h => ?_)
  refine fO_if 10 rfl rfl h (fun h => ?_) (fun h => ?_)
  · refine fT_ss 3 (pc' := 13) (L' := [some (.ref 52), some (.int x1), some (.int x2)]) (st' := [.int (nI 1), .int (nI 0), .int x1]) rfl ?_
    refine fO_qs2 Value.int (r' := ai_r95) (As := [.int x1, .int (nI 0), .int (nI 1)]) (rest := []) rfl rfl rfl rfl rfl rfl (by omega) (show 19 + 3 ≤ w by omega) (Nat.le_of_ble_eq_true rfl) (Nat.le_of_ble_eq_true rfl) rfl rfl (fun Qc hq => t95_0 hX (show 0 ≤ d - 1 by omega) (show 0 ≤ w - (19 + 3) by omega) _ _ _ _ Qc hq) h (fun v4 m3 h => ?_)
    refine fO_if 22 rfl rfl h (fun h => ?_) (fun h => ?_)
    · refine fT_ss 2 (pc' := 24) (L' := [some (.ref 52), some (.int x1), some (.int x2)]) (st' := [.int (nI 1), .int x1]) rfl ?_
      refine fO_ic 39 rfl rfl h (fun h => ?_) (fun h => ?_)
      · exact fT_mk rfl rfl (t140_39 hX hd hw _ _ _ Q h)
      · refine fT_ss 1 (pc' := 28) (L' := [some (.ref 52), some (.int x1), some (.int x2)]) (st' := [.ref 52]) rfl ?_
        refine fO_gi rfl rfl rfl h (fun v6 h => ?_)
        refine fO_if 39 rfl rfl h (fun h => ?_) (fun h => ?_)
        · exact fT_mk rfl rfl (t140_39 hX hd hw _ _ _ Q h)
        · refine fT_ss 2 (pc' := 50) (L' := [none, none, none]) (st' := [.int (-103)]) rfl ?_
          exact fT_r rfl rfl h
    · refine fT_ss 1 (pc' := 21) (L' := [none, none, none]) (st' := [.int (-102)]) rfl ?_
      exact fT_r rfl rfl h
  · refine fT_ss 1 (pc' := 9) (L' := [none, none, none]) (st' := [.int (-101)]) rfl ?_
    exact fT_r rfl rfl h
noncomputable def g141_50 (x1 : Int32) (x2 : Int32) (x3 : Int32) (x4 : Int32) (m : fm) : Option (Int64 × fm) :=
  ldI m 57 16 (((nI 8) * x1) + x2) fun v7 =>
  cl2 (g95 x3 (nI 0) (v7 - (nI 1)) m) fun v9 m8 =>
  bif ai_c .ne v9 0 then
    cl2 (g98 x1 x2 x3 m8) fun v11 m10 =>
    bif ai_c .ne x4 0 then
      bif ai_c .ne x4 (nI 1) then
        bif ai_c .ne x4 (nI 2) then
          ldI m10 56 384 v11 fun v12 =>
          some (((v12).toInt64), m10)
        else
          ldI m10 55 384 v11 fun v13 =>
          some (((v13).toInt64), m10)
      else
        ldI m10 54 384 v11 fun v14 =>
        some (((v14).toInt64), m10)
    else
      ldI m10 53 384 v11 fun v15 =>
      some (((v15).toInt64), m10)
  else
    some ((Int64.ofNat 18446744073709551515), m8)
set_option maxHeartbeats 4000000 in
theorem t141_50 {X : ai_X} {d w : Nat} (hX : X[1]? = some (39, ai_sh)) (hd : 2 ≤ d) (hw : 42 ≤ w) (x1 : Int32) (x2 : Int32) (x3 : Int32) (x4 : Int32) (m : fm) (Q : Option Value → fm → Prop) (h : ob (g141_50 x1 x2 x3 x4 m) (fun z : Int64 × fm => Q (some (.long z.1)) z.2)) : fT X d w ai_r141 50 [some (.ref 52), some (.int x1), some (.int x2), some (.int x3), some (.int x4), none] [] m Q := by
  unfold g141_50 at h
  refine fT_ss 3 (pc' := 53) (L' := [some (.ref 52), some (.int x1), some (.int x2), some (.int x3), some (.int x4), none]) (st' := [.ref 52, .int (nI 0), .int x3]) rfl ?_
  refine fT_gr (q := 57) rfl rfl rfl ?_
  refine fT_ss 5 (pc' := 62) (L' := [some (.ref 52), some (.int x1), some (.int x2), some (.int x3), some (.int x4), none]) (st' := [.int (((nI 8) * x1) + x2), .ref 57, .int (nI 0), .int x3]) rfl ?_
  refine fO_ia rfl rfl rfl h (fun v7 h => ?_)
  refine fT_ss 2 (pc' := 65) (L' := [some (.ref 52), some (.int x1), some (.int x2), some (.int x3), some (.int x4), none]) (st' := [.int (v7 - (nI 1)), .int (nI 0), .int x3]) rfl ?_
  refine fO_qs2 Value.int (r' := ai_r95) (As := [.int x3, .int (nI 0), .int (v7 - (nI 1))]) (rest := []) rfl rfl rfl rfl rfl rfl (by omega) (show 19 + 3 ≤ w by omega) (Nat.le_of_ble_eq_true rfl) (Nat.le_of_ble_eq_true rfl) rfl rfl (fun Qc hq => t95_0 hX (show 0 ≤ d - 1 by omega) (show 0 ≤ w - (19 + 3) by omega) _ _ _ _ Qc hq) h (fun v9 m8 h => ?_)
  refine fO_if 75 rfl rfl h (fun h => ?_) (fun h => ?_)
  · refine fT_ss 3 (pc' := 78) (L' := [some (.ref 52), some (.int x1), some (.int x2), some (.int x3), some (.int x4), none]) (st' := [.int x3, .int x2, .int x1]) rfl ?_
    refine fO_qs2 Value.int (r' := ai_r98) (As := [.int x1, .int x2, .int x3]) (rest := []) rfl rfl rfl rfl rfl rfl (by omega) (show 19 + 3 ≤ w by omega) (Nat.le_of_ble_eq_true rfl) (Nat.le_of_ble_eq_true rfl) rfl rfl (fun Qc hq => t98_0 hX (show 0 ≤ d - 1 by omega) (show 0 ≤ w - (19 + 3) by omega) _ _ _ _ Qc hq) h (fun v11 m10 h => ?_)
    refine fT_ss 2 (pc' := 85) (L' := [some (.ref 52), some (.int x1), some (.int x2), some (.int x3), some (.int x4), some (.int v11)]) (st' := [.int x4]) rfl ?_
    refine fO_if 99 rfl rfl h (fun h => ?_) (fun h => ?_)
    · refine fT_ss 2 (pc' := 102) (L' := [some (.ref 52), none, none, none, some (.int x4), some (.int v11)]) (st' := [.int (nI 1), .int x4]) rfl ?_
      refine fO_ic 116 rfl rfl h (fun h => ?_) (fun h => ?_)
      · refine fT_ss 2 (pc' := 119) (L' := [some (.ref 52), none, none, none, some (.int x4), some (.int v11)]) (st' := [.int (nI 2), .int x4]) rfl ?_
        refine fO_ic 133 rfl rfl h (fun h => ?_) (fun h => ?_)
        · refine fT_ss 1 (pc' := 134) (L' := [some (.ref 52), none, none, none, none, some (.int v11)]) (st' := [.ref 52]) rfl ?_
          refine fT_gr (q := 56) rfl rfl rfl ?_
          refine fT_ss 1 (pc' := 139) (L' := [some (.ref 52), none, none, none, none, some (.int v11)]) (st' := [.int v11, .ref 56]) rfl ?_
          refine fO_ia rfl rfl rfl h (fun v12 h => ?_)
          refine fT_ss 1 (pc' := 141) (L' := [some (.ref 52), none, none, none, none, some (.int v11)]) (st' := [.long ((v12).toInt64)]) rfl ?_
          exact fT_r rfl rfl h
        · refine fT_ss 1 (pc' := 123) (L' := [some (.ref 52), none, none, none, none, some (.int v11)]) (st' := [.ref 52]) rfl ?_
          refine fT_gr (q := 55) rfl rfl rfl ?_
          refine fT_ss 1 (pc' := 128) (L' := [some (.ref 52), none, none, none, none, some (.int v11)]) (st' := [.int v11, .ref 55]) rfl ?_
          refine fO_ia rfl rfl rfl h (fun v13 h => ?_)
          refine fT_ss 2 (pc' := 141) (L' := [some (.ref 52), none, none, none, none, some (.int v11)]) (st' := [.long ((v13).toInt64)]) rfl ?_
          exact fT_r rfl rfl h
      · refine fT_ss 1 (pc' := 106) (L' := [some (.ref 52), none, none, none, none, some (.int v11)]) (st' := [.ref 52]) rfl ?_
        refine fT_gr (q := 54) rfl rfl rfl ?_
        refine fT_ss 1 (pc' := 111) (L' := [some (.ref 52), none, none, none, none, some (.int v11)]) (st' := [.int v11, .ref 54]) rfl ?_
        refine fO_ia rfl rfl rfl h (fun v14 h => ?_)
        refine fT_ss 2 (pc' := 141) (L' := [some (.ref 52), none, none, none, none, some (.int v11)]) (st' := [.long ((v14).toInt64)]) rfl ?_
        exact fT_r rfl rfl h
    · refine fT_ss 1 (pc' := 89) (L' := [some (.ref 52), none, none, none, none, some (.int v11)]) (st' := [.ref 52]) rfl ?_
      refine fT_gr (q := 53) rfl rfl rfl ?_
      refine fT_ss 1 (pc' := 94) (L' := [some (.ref 52), none, none, none, none, some (.int v11)]) (st' := [.int v11, .ref 53]) rfl ?_
      refine fO_ia rfl rfl rfl h (fun v15 h => ?_)
      refine fT_ss 2 (pc' := 141) (L' := [some (.ref 52), none, none, none, none, some (.int v11)]) (st' := [.long ((v15).toInt64)]) rfl ?_
      exact fT_r rfl rfl h
  · refine fT_lc rfl ?_
    exact fT_r rfl rfl h
noncomputable def g141 (x1 : Int32) (x2 : Int32) (x3 : Int32) (x4 : Int32) (m : fm) : Option (Int64 × fm) :=
  cl2 (g96 x2 m) fun v2 m1 =>
  bif ai_c .ne v2 0 then
    cl2 (g95 x1 (nI 0) (nI 1) m1) fun v4 m3 =>
    bif ai_c .eq v4 0 then
      some ((Int64.ofNat 18446744073709551514), m3)
    else
      cl2 (g95 x4 (nI 0) (nI 3) m3) fun v6 m5 =>
      bif ai_c .ne v6 0 then
        bif ai_c .ne x1 (nI 1) then
          g141_50 x1 x2 x3 x4 m5
        else
          gfI m5 52 6 fun v16 =>
          bif ai_c .ne v16 0 then
            g141_50 x1 x2 x3 x4 m5
          else
            some ((Int64.ofNat 18446744073709551513), m5)
      else
        some ((Int64.ofNat 18446744073709551514), m5)
  else
    some ((Int64.ofNat 18446744073709551515), m1)
set_option maxHeartbeats 4000000 in
theorem t141_0 {X : ai_X} {d w : Nat} (hX : X[1]? = some (39, ai_sh)) (hd : 2 ≤ d) (hw : 42 ≤ w) (x1 : Int32) (x2 : Int32) (x3 : Int32) (x4 : Int32) (m : fm) (Q : Option Value → fm → Prop) (h : ob (g141 x1 x2 x3 x4 m) (fun z : Int64 × fm => Q (some (.long z.1)) z.2)) : fT X d w ai_r141 0 [some (.ref 52), some (.int x1), some (.int x2), some (.int x3), some (.int x4), none] [] m Q := by
  unfold g141 at h
  refine fT_ss 1 (pc' := 1) (L' := [some (.ref 52), some (.int x1), some (.int x2), some (.int x3), some (.int x4), none]) (st' := [.int x2]) rfl ?_
  refine fO_qs2 Value.int (r' := ai_r96) (As := [.int x2]) (rest := []) rfl rfl rfl rfl rfl rfl (by omega) (show 19 + 1 ≤ w by omega) (Nat.le_of_ble_eq_true rfl) (Nat.le_of_ble_eq_true rfl) rfl rfl (fun Qc hq => t96_0 hX (show 1 ≤ d - 1 by omega) (show 22 ≤ w - (19 + 1) by omega) _ _ Qc hq) h (fun v2 m1 h => ?_)
  refine fO_if 11 rfl rfl h (fun h => ?_) (fun h => ?_)
  · refine fT_ss 3 (pc' := 14) (L' := [some (.ref 52), some (.int x1), some (.int x2), some (.int x3), some (.int x4), none]) (st' := [.int (nI 1), .int (nI 0), .int x1]) rfl ?_
    refine fO_qs2 Value.int (r' := ai_r95) (As := [.int x1, .int (nI 0), .int (nI 1)]) (rest := []) rfl rfl rfl rfl rfl rfl (by omega) (show 19 + 3 ≤ w by omega) (Nat.le_of_ble_eq_true rfl) (Nat.le_of_ble_eq_true rfl) rfl rfl (fun Qc hq => t95_0 hX (show 0 ≤ d - 1 by omega) (show 0 ≤ w - (19 + 3) by omega) _ _ _ _ Qc hq) h (fun v4 m3 h => ?_)
    refine fO_if 30 rfl rfl h (fun h => ?_) (fun h => ?_)
    · refine fT_lc rfl ?_
      exact fT_r rfl rfl h
    · refine fT_ss 3 (pc' := 24) (L' := [some (.ref 52), some (.int x1), some (.int x2), some (.int x3), some (.int x4), none]) (st' := [.int (nI 3), .int (nI 0), .int x4]) rfl ?_
      refine fO_qs2 Value.int (r' := ai_r95) (As := [.int x4, .int (nI 0), .int (nI 3)]) (rest := []) rfl rfl rfl rfl rfl rfl (by omega) (show 19 + 3 ≤ w by omega) (Nat.le_of_ble_eq_true rfl) (Nat.le_of_ble_eq_true rfl) rfl rfl (fun Qc hq => t95_0 hX (show 0 ≤ d - 1 by omega) (show 0 ≤ w - (19 + 3) by omega) _ _ _ _ Qc hq) h (fun v6 m5 h => ?_)
      refine fO_if 34 rfl rfl h (fun h => ?_) (fun h => ?_)
      · refine fT_ss 2 (pc' := 36) (L' := [some (.ref 52), some (.int x1), some (.int x2), some (.int x3), some (.int x4), none]) (st' := [.int (nI 1), .int x1]) rfl ?_
        refine fO_ic 50 rfl rfl h (fun h => ?_) (fun h => ?_)
        · exact fT_mk rfl rfl (t141_50 hX hd hw _ _ _ _ _ Q h)
        · refine fT_ss 1 (pc' := 40) (L' := [some (.ref 52), some (.int x1), some (.int x2), some (.int x3), some (.int x4), none]) (st' := [.ref 52]) rfl ?_
          refine fO_gi rfl rfl rfl h (fun v16 h => ?_)
          refine fO_if 50 rfl rfl h (fun h => ?_) (fun h => ?_)
          · exact fT_mk rfl rfl (t141_50 hX hd hw _ _ _ _ _ Q h)
          · refine fT_lc rfl ?_
            exact fT_r rfl rfl h
      · refine fT_lc rfl ?_
        exact fT_r rfl rfl h
  · refine fT_lc rfl ?_
    exact fT_r rfl rfl h
