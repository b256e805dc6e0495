noncomputable def g107 (x0 : Int32) (x1 : Int64) (x3 : Int64) (m : fm) : Option (Int64 × fm) :=
  bif ai_c .eq (lg_cmp x1 (Int64.ofNat 1000000000000)) 0 then
    some ((Int64.ofNat 1000000000000), m)
  else
    bif ai_c .ne (lg_cmp x3 (Int64.ofNat 1000000000000)) 0 then
      bif ai_c .ne x0 (nI 2) then
        bif ai_c .ne x0 (nI 3) then
          dvI ((x1).toInt32) ((x3).toInt32) fun v1 =>
          some (((v1).toInt64), m)
        else
          some ((((((x1).toInt32) * ((x3).toInt32))).toInt64), m)
      else
        some ((((((x1).toInt32) + ((x3).toInt32))).toInt64), m)
    else
      some ((Int64.ofNat 1000000000000), m)
set_option maxHeartbeats 4000000 in
theorem t107_0 {X : ai_X} {d w : Nat} (hX : X[1]? = some (39, ai_sh)) (hd : 0 ≤ d) (hw : 0 ≤ w) (x0 : Int32) (x1 : Int64) (x3 : Int64) (m : fm) (Q : Option Value → fm → Prop) (h : ob (g107 x0 x1 x3 m) (fun z : Int64 × fm => Q (some (.long z.1)) z.2)) : fT X d w ai_r107 0 [some (.int x0), some (.long x1), none, some (.long x3), none, none, none] [] m Q := by
  unfold g107 at h
  refine fT_ss 1 (pc' := 1) (L' := [some (.int x0), some (.long x1), none, some (.long x3), none, none, none]) (st' := [.long x1]) rfl ?_
  refine fT_lc rfl ?_
  refine fT_ss 1 (pc' := 5) (L' := [some (.int x0), some (.long x1), none, some (.long x3), none, none, none]) (st' := [.int (lg_cmp x1 (Int64.ofNat 1000000000000))]) rfl ?_
  refine fO_if 16 rfl rfl h (fun h => ?_) (fun h => ?_)
  · refine fT_lc rfl ?_
    exact fT_r rfl rfl h
  · refine fT_ss 1 (pc' := 9) (L' := [some (.int x0), some (.long x1), none, some (.long x3), none, none, none]) (st' := [.long x3]) rfl ?_
    refine fT_lc rfl ?_
    refine fT_ss 1 (pc' := 13) (L' := [some (.int x0), some (.long x1), none, some (.long x3), none, none, none]) (st' := [.int (lg_cmp x3 (Int64.ofNat 1000000000000))]) rfl ?_
    refine fO_if 20 rfl rfl h (fun h => ?_) (fun h => ?_)
    · refine fT_ss 8 (pc' := 30) (L' := [some (.int x0), some (.long x1), none, some (.long x3), none, some (.int ((x1).toInt32)), some (.int ((x3).toInt32))]) (st' := [.int (nI 2), .int x0]) rfl ?_
      refine fO_ic 42 rfl rfl h (fun h => ?_) (fun h => ?_)
      · refine fT_ss 2 (pc' := 44) (L' := [some (.int x0), none, none, none, none, some (.int ((x1).toInt32)), some (.int ((x3).toInt32))]) (st' := [.int (nI 3), .int x0]) rfl ?_
        refine fO_ic 56 rfl rfl h (fun h => ?_) (fun h => ?_)
        · refine fT_ss 2 (pc' := 60) (L' := [none, none, none, none, none, some (.int ((x1).toInt32)), some (.int ((x3).toInt32))]) (st' := [.int ((x3).toInt32), .int ((x1).toInt32)]) rfl ?_
          refine fO_dv rfl h (fun v1 h => ?_)
          refine fT_ss 1 (pc' := 62) (L' := [none, none, none, none, none, some (.int ((x1).toInt32)), some (.int ((x3).toInt32))]) (st' := [.long ((v1).toInt64)]) rfl ?_
          exact fT_r rfl rfl h
        · refine fT_ss 5 (pc' := 62) (L' := [none, none, none, none, none, some (.int ((x1).toInt32)), some (.int ((x3).toInt32))]) (st' := [.long (((((x1).toInt32) * ((x3).toInt32))).toInt64)]) rfl ?_
          exact fT_r rfl rfl h
      · refine fT_ss 5 (pc' := 62) (L' := [none, none, none, none, none, some (.int ((x1).toInt32)), some (.int ((x3).toInt32))]) (st' := [.long (((((x1).toInt32) + ((x3).toInt32))).toInt64)]) rfl ?_
        exact fT_r rfl rfl h
    · refine fT_lc rfl ?_
      exact fT_r rfl rfl h
noncomputable def g108 (x1 : Int32) (m : fm) : Option (Int32 × fm) :=
  gfI m 52 8 fun v1 =>
  ldI m 54 384 (v1 + x1) fun v2 =>
  ldL m 60 100 (((nI 4) * x1) + v2) fun v3 =>
  gfI m 52 8 fun v4 =>
  ldI m 55 384 (v4 + x1) fun v5 =>
  ldL m 60 100 (((nI 4) * x1) + v5) fun v6 =>
  bif ai_c .eq (lg_cmp v3 (Int64.ofNat 1000000000000)) 0 then
    some ((-1), m)
  else
    bif ai_c .ne (lg_cmp v6 (Int64.ofNat 1000000000000)) 0 then
      bif ai_c .ge (lg_cmp v3 v6) 0 then
        some ((nI 0), m)
      else
        some ((nI 1), m)
    else
      some ((-1), m)
set_option maxHeartbeats 4000000 in
theorem t108_0 {X : ai_X} {d w : Nat} (hX : X[1]? = some (39, ai_sh)) (hd : 0 ≤ d) (hw : 0 ≤ w) (x1 : Int32) (m : fm) (Q : Option Value → fm → Prop) (h : ob (g108 x1 m) (fun z : Int32 × fm => Q (some (.int z.1)) z.2)) : fT X d w ai_r108 0 [some (.ref 52), some (.int x1), none, none, none, none] [] m Q := by
  unfold g108 at h
  refine fT_ss 1 (pc' := 1) (L' := [some (.ref 52), some (.int x1), none, none, none, none]) (st' := [.ref 52]) rfl ?_
  refine fT_gr (q := 60) rfl rfl rfl ?_
  refine fT_ss 4 (pc' := 8) (L' := [some (.ref 52), some (.int x1), none, none, none, none]) (st' := [.ref 52, .int ((nI 4) * x1), .ref 60]) rfl ?_
  refine fT_gr (q := 54) rfl rfl rfl ?_
  refine fT_ss 1 (pc' := 12) (L' := [some (.ref 52), some (.int x1), none, none, none, none]) (st' := [.ref 52, .ref 54, .int ((nI 4) * x1), .ref 60]) rfl ?_
  refine fO_gi rfl rfl rfl h (fun v1 h => ?_)
  refine fT_ss 2 (pc' := 17) (L' := [some (.ref 52), some (.int x1), none, none, none, none]) (st' := [.int (v1 + x1), .ref 54, .int ((nI 4) * x1), .ref 60]) rfl ?_
  refine fO_ia rfl rfl rfl h (fun v2 h => ?_)
  refine fT_ss 1 (pc' := 19) (L' := [some (.ref 52), some (.int x1), none, none, none, none]) (st' := [.int (((nI 4) * x1) + v2), .ref 60]) rfl ?_
  refine fO_la rfl rfl h (fun v3 h => ?_)
  refine fT_ss 2 (pc' := 22) (L' := [some (.ref 52), some (.int x1), some (.long v3), none, none, none]) (st' := [.ref 52]) rfl ?_
  refine fT_gr (q := 60) rfl rfl rfl ?_
  refine fT_ss 4 (pc' := 29) (L' := [some (.ref 52), some (.int x1), some (.long v3), none, none, none]) (st' := [.ref 52, .int ((nI 4) * x1), .ref 60]) rfl ?_
  refine fT_gr (q := 55) rfl rfl rfl ?_
  refine fT_ss 1 (pc' := 33) (L' := [some (.ref 52), some (.int x1), some (.long v3), none, none, none]) (st' := [.ref 52, .ref 55, .int ((nI 4) * x1), .ref 60]) rfl ?_
  refine fO_gi rfl rfl rfl h (fun v4 h => ?_)
  refine fT_ss 2 (pc' := 38) (L' := [some (.ref 52), some (.int x1), some (.long v3), none, none, none]) (st' := [.int (v4 + x1), .ref 55, .int ((nI 4) * x1), .ref 60]) rfl ?_
  refine fO_ia rfl rfl rfl h (fun v5 h => ?_)
  refine fT_ss 1 (pc' := 40) (L' := [some (.ref 52), some (.int x1), some (.long v3), none, none, none]) (st' := [.int (((nI 4) * x1) + v5), .ref 60]) rfl ?_
  refine fO_la rfl rfl h (fun v6 h => ?_)
  refine fT_ss 2 (pc' := 44) (L' := [some (.ref 52), some (.int x1), some (.long v3), none, some (.long v6), none]) (st' := [.long v3]) rfl ?_
  refine fT_lc rfl ?_
  refine fT_ss 1 (pc' := 48) (L' := [some (.ref 52), some (.int x1), some (.long v3), none, some (.long v6), none]) (st' := [.int (lg_cmp v3 (Int64.ofNat 1000000000000))]) rfl ?_
  refine fO_if 60 rfl rfl h (fun h => ?_) (fun h => ?_)
  · refine fT_ss 2 (pc' := 76) (L' := [none, none, none, none, none, none]) (st' := [.int (-1)]) rfl ?_
    exact fT_r rfl rfl h
  · refine fT_ss 1 (pc' := 53) (L' := [none, none, some (.long v3), none, some (.long v6), none]) (st' := [.long v6]) rfl ?_
    refine fT_lc rfl ?_
    refine fT_ss 1 (pc' := 57) (L' := [none, none, some (.long v3), none, some (.long v6), none]) (st' := [.int (lg_cmp v6 (Int64.ofNat 1000000000000))]) rfl ?_
    refine fO_if 64 rfl rfl h (fun h => ?_) (fun h => ?_)
    · refine fT_ss 3 (pc' := 68) (L' := [none, none, some (.long v3), none, some (.long v6), none]) (st' := [.int (lg_cmp v3 v6)]) rfl ?_
      refine fO_if 75 rfl rfl h (fun h => ?_) (fun h => ?_)
      · refine fT_ss 1 (pc' := 76) (L' := [none, none, none, none, none, none]) (st' := [.int (nI 0)]) rfl ?_
        exact fT_r rfl rfl h
      · refine fT_ss 2 (pc' := 76) (L' := [none, none, none, none, none, none]) (st' := [.int (nI 1)]) rfl ?_
        exact fT_r rfl rfl h
    · refine fT_ss 2 (pc' := 76) (L' := [none, none, none, none, none, none]) (st' := [.int (-1)]) rfl ?_
      exact fT_r rfl rfl h
noncomputable def g109 (x1 : Int32) (m : fm) : Option (Int32 × fm) :=
  gfI m 52 8 fun v1 =>
  ldI m 53 384 (v1 + x1) fun v2 =>
  bif decide (v2 = nI 4) then
    ldI m 56 384 (v1 + x1) fun v3 =>
    ldL m 60 100 (((nI 4) * x1) + v3) fun v4 =>
    bif ai_c .eq (lg_cmp v4 (Int64.ofNat 0)) 0 then
      some ((nI 0), m)
    else
      some ((nI 1), m)
  else bif decide (v2 = nI 5) then
    cl2 (g108 x1 m) fun v6 m5 =>
    bif ai_c .eq v6 (nI 1) then
      some ((nI 0), m5)
    else
      some ((nI 1), m5)
  else bif decide (v2 = nI 6) then
    some ((nI 0), m)
  else bif decide (v2 = nI 7) then
    some ((nI 1), m)
  else bif decide (v2 = nI 8) then
    some ((nI 1), m)
  else bif decide (v2 = nI 9) then
    some ((nI 1), m)
  else bif decide (v2 = nI 10) then
    some ((nI 0), m)
  else bif decide (v2 = nI 11) then
    ldI m 54 384 (v1 + x1) fun v7 =>
    ldL m 60 100 (((nI 4) * x1) + v7) fun v8 =>
    bif ai_c .eq (lg_cmp v8 (Int64.ofNat 0)) 0 then
      some ((nI 0), m)
    else
      some ((nI 1), m)
  else 
  some ((nI 1), m)
set_option maxHeartbeats 4000000 in
theorem t109_0 {X : ai_X} {d w : Nat} (hX : X[1]? = some (39, ai_sh)) (hd : 1 ≤ d) (hw : 25 ≤ w) (x1 : Int32) (m : fm) (Q : Option Value → fm → Prop) (h : ob (g109 x1 m) (fun z : Int32 × fm => Q (some (.int z.1)) z.2)) : fT X d w ai_r109 0 [some (.ref 52), some (.int x1), none] [] m Q := by
  unfold g109 at h
  refine fT_ss 1 (pc' := 1) (L' := [some (.ref 52), some (.int x1), none]) (st' := [.ref 52]) rfl ?_
  refine fO_gi rfl rfl rfl h (fun v1 h => ?_)
  refine fT_ss 4 (pc' := 8) (L' := [some (.ref 52), some (.int x1), some (.int (v1 + x1))]) (st' := [.ref 52]) rfl ?_
  refine fT_gr (q := 53) rfl rfl rfl ?_
  refine fT_ss 1 (pc' := 12) (L' := [some (.ref 52), some (.int x1), some (.int (v1 + x1))]) (st' := [.int (v1 + x1), .ref 53]) rfl ?_
  refine fO_ia rfl rfl rfl h (fun v2 h => ?_)
  by_cases e4 : v2 = nI 4
  · subst e4
    replace h := ob_eqT h
    refine fT_ss 1 (pc' := 103) (L' := [some (.ref 52), some (.int x1), some (.int (v1 + x1))]) (st' := []) rfl ?_
    refine fT_ss 1 (pc' := 104) (L' := [some (.ref 52), some (.int x1), some (.int (v1 + x1))]) (st' := [.ref 52]) rfl ?_
    refine fT_gr (q := 60) rfl rfl rfl ?_
    refine fT_ss 4 (pc' := 111) (L' := [some (.ref 52), some (.int x1), some (.int (v1 + x1))]) (st' := [.ref 52, .int ((nI 4) * x1), .ref 60]) rfl ?_
    refine fT_gr (q := 56) rfl rfl rfl ?_
    refine fT_ss 1 (pc' := 115) (L' := [some (.ref 52), some (.int x1), some (.int (v1 + x1))]) (st' := [.int (v1 + x1), .ref 56, .int ((nI 4) * x1), .ref 60]) rfl ?_
    refine fO_ia rfl rfl rfl h (fun v3 h => ?_)
    refine fT_ss 1 (pc' := 117) (L' := [some (.ref 52), some (.int x1), some (.int (v1 + x1))]) (st' := [.int (((nI 4) * x1) + v3), .ref 60]) rfl ?_
    refine fO_la rfl rfl h (fun v4 h => ?_)
    refine fT_ss 2 (pc' := 120) (L' := [some (.ref 52), some (.int x1), some (.int (v1 + x1))]) (st' := [.int (lg_cmp v4 (Int64.ofNat 0))]) rfl ?_
    refine fO_if 127 rfl rfl h (fun h => ?_) (fun h => ?_)
    · refine fT_ss 1 (pc' := 128) (L' := [none, none, none]) (st' := [.int (nI 0)]) rfl ?_
      exact fT_r rfl rfl h
    · refine fT_ss 2 (pc' := 128) (L' := [none, none, none]) (st' := [.int (nI 1)]) rfl ?_
      exact fT_r rfl rfl h
  replace h := ob_eqF e4 h
  by_cases e5 : v2 = nI 5
  · subst e5
    replace h := ob_eqT h
    refine fT_ss 1 (pc' := 62) (L' := [some (.ref 52), some (.int x1), some (.int (v1 + x1))]) (st' := []) rfl ?_
    refine fT_ss 2 (pc' := 64) (L' := [some (.ref 52), some (.int x1), none]) (st' := [.int x1, .ref 52]) rfl ?_
    refine fO_qv2 Value.int (r' := ai_r108) (k := 52) (As := [.int x1]) (rest := []) rfl rfl rfl rfl rfl rfl (by omega) (show 19 + 6 ≤ w by omega) (Nat.le_of_ble_eq_true rfl) (Nat.le_of_ble_eq_true rfl) rfl rfl (fun Qc hq => t108_0 hX (show 0 ≤ d - 1 by omega) (show 0 ≤ w - (19 + 6) by omega) _ _ Qc hq) h (fun v6 m5 h => ?_)
    refine fT_ss 1 (pc' := 68) (L' := [some (.ref 52), some (.int x1), none]) (st' := [.int (nI 1), .int v6]) rfl ?_
    refine fO_ic 75 rfl rfl h (fun h => ?_) (fun h => ?_)
    · refine fT_ss 1 (pc' := 76) (L' := [none, none, none]) (st' := [.int (nI 0)]) rfl ?_
      exact fT_r rfl rfl h
    · refine fT_ss 2 (pc' := 76) (L' := [none, none, none]) (st' := [.int (nI 1)]) rfl ?_
      exact fT_r rfl rfl h
  replace h := ob_eqF e5 h
  by_cases e6 : v2 = nI 6
  · subst e6
    replace h := ob_eqT h
    refine fT_ss 1 (pc' := 60) (L' := [some (.ref 52), some (.int x1), some (.int (v1 + x1))]) (st' := []) rfl ?_
    refine fT_ss 1 (pc' := 61) (L' := [none, none, none]) (st' := [.int (nI 0)]) rfl ?_
    exact fT_r rfl rfl h
  replace h := ob_eqF e6 h
  by_cases e7 : v2 = nI 7
  · subst e7
    replace h := ob_eqT h
    refine fT_ss 1 (pc' := 129) (L' := [some (.ref 52), some (.int x1), some (.int (v1 + x1))]) (st' := []) rfl ?_
    refine fT_ss 1 (pc' := 130) (L' := [none, none, none]) (st' := [.int (nI 1)]) rfl ?_
    exact fT_r rfl rfl h
  replace h := ob_eqF e7 h
  by_cases e8 : v2 = nI 8
  · subst e8
    replace h := ob_eqT h
    refine fT_ss 1 (pc' := 129) (L' := [some (.ref 52), some (.int x1), some (.int (v1 + x1))]) (st' := []) rfl ?_
    refine fT_ss 1 (pc' := 130) (L' := [none, none, none]) (st' := [.int (nI 1)]) rfl ?_
    exact fT_r rfl rfl h
  replace h := ob_eqF e8 h
  by_cases e9 : v2 = nI 9
  · subst e9
    replace h := ob_eqT h
    refine fT_ss 1 (pc' := 129) (L' := [some (.ref 52), some (.int x1), some (.int (v1 + x1))]) (st' := []) rfl ?_
    refine fT_ss 1 (pc' := 130) (L' := [none, none, none]) (st' := [.int (nI 1)]) rfl ?_
    exact fT_r rfl rfl h
  replace h := ob_eqF e9 h
  by_cases e10 : v2 = nI 10
  · subst e10
    replace h := ob_eqT h
    refine fT_ss 1 (pc' := 60) (L' := [some (.ref 52), some (.int x1), some (.int (v1 + x1))]) (st' := []) rfl ?_
    refine fT_ss 1 (pc' := 61) (L' := [none, none, none]) (st' := [.int (nI 0)]) rfl ?_
    exact fT_r rfl rfl h
  replace h := ob_eqF e10 h
  by_cases e11 : v2 = nI 11
  · subst e11
    replace h := ob_eqT h
    refine fT_ss 1 (pc' := 77) (L' := [some (.ref 52), some (.int x1), some (.int (v1 + x1))]) (st' := []) rfl ?_
    refine fT_ss 1 (pc' := 78) (L' := [some (.ref 52), some (.int x1), some (.int (v1 + x1))]) (st' := [.ref 52]) rfl ?_
    refine fT_gr (q := 60) rfl rfl rfl ?_
    refine fT_ss 4 (pc' := 85) (L' := [some (.ref 52), some (.int x1), some (.int (v1 + x1))]) (st' := [.ref 52, .int ((nI 4) * x1), .ref 60]) rfl ?_
    refine fT_gr (q := 54) rfl rfl rfl ?_
    refine fT_ss 1 (pc' := 89) (L' := [some (.ref 52), some (.int x1), some (.int (v1 + x1))]) (st' := [.int (v1 + x1), .ref 54, .int ((nI 4) * x1), .ref 60]) rfl ?_
    refine fO_ia rfl rfl rfl h (fun v7 h => ?_)
    refine fT_ss 1 (pc' := 91) (L' := [some (.ref 52), some (.int x1), some (.int (v1 + x1))]) (st' := [.int (((nI 4) * x1) + v7), .ref 60]) rfl ?_
    refine fO_la rfl rfl h (fun v8 h => ?_)
    refine fT_ss 2 (pc' := 94) (L' := [some (.ref 52), some (.int x1), some (.int (v1 + x1))]) (st' := [.int (lg_cmp v8 (Int64.ofNat 0))]) rfl ?_
    refine fO_if 101 rfl rfl h (fun h => ?_) (fun h => ?_)
    · refine fT_ss 1 (pc' := 102) (L' := [none, none, none]) (st' := [.int (nI 0)]) rfl ?_
      exact fT_r rfl rfl h
    · refine fT_ss 2 (pc' := 102) (L' := [none, none, none]) (st' := [.int (nI 1)]) rfl ?_
      exact fT_r rfl rfl h
  replace h := ob_eqF e11 h
  refine fO_td 129 rfl rfl (by have := nt (k := 4) (by omega) e4; have := nt (k := 5) (by omega) e5; have := nt (k := 6) (by omega) e6; have := nt (k := 7) (by omega) e7; have := nt (k := 8) (by omega) e8; have := nt (k := 9) (by omega) e9; have := nt (k := 10) (by omega) e10; have := nt (k := 11) (by omega) e11; omega) ?_
  refine fT_ss 1 (pc' := 130) (L' := [none, none, none]) (st' := [.int (nI 1)]) rfl ?_
  exact fT_r rfl rfl h
noncomputable def g110 (x1 : Int32) (m : fm) : Option (Int32 × fm) :=
  gfI m 52 8 fun v1 =>
  ldI m 53 384 (v1 + x1) fun v2 =>
  bif ai_c .eq v2 (nI 6) then
    some ((nI 1), m)
  else
    gfI m 52 8 fun v3 =>
    ldI m 53 384 (v3 + x1) fun v4 =>
    bif ai_c .ne v4 (nI 5) then
      some ((nI 0), m)
    else
      cl2 (g108 x1 m) fun v6 m5 =>
      bif ai_c .eq v6 0 then
        some ((nI 0), m5)
      else
        some ((nI 1), m5)
set_option maxHeartbeats 4000000 in
theorem t110_0 {X : ai_X} {d w : Nat} (hX : X[1]? = some (39, ai_sh)) (hd : 1 ≤ d) (hw : 25 ≤ w) (x1 : Int32) (m : fm) (Q : Option Value → fm → Prop) (h : ob (g110 x1 m) (fun z : Int32 × fm => Q (some (.int z.1)) z.2)) : fT X d w ai_r110 0 [some (.ref 52), some (.int x1)] [] m Q := by
  unfold g110 at h
  refine fT_ss 1 (pc' := 1) (L' := [some (.ref 52), some (.int x1)]) (st' := [.ref 52]) rfl ?_
  refine fT_gr (q := 53) rfl rfl rfl ?_
  refine fT_ss 1 (pc' := 5) (L' := [some (.ref 52), some (.int x1)]) (st' := [.ref 52, .ref 53]) rfl ?_
  refine fO_gi rfl rfl rfl h (fun v1 h => ?_)
  refine fT_ss 2 (pc' := 10) (L' := [some (.ref 52), some (.int x1)]) (st' := [.int (v1 + x1), .ref 53]) rfl ?_
  refine fO_ia rfl rfl rfl h (fun v2 h => ?_)
  refine fT_ss 1 (pc' := 13) (L' := [some (.ref 52), some (.int x1)]) (st' := [.int (nI 6), .int v2]) rfl ?_
  refine fO_ic 39 rfl rfl h (fun h => ?_) (fun h => ?_)
  · refine fT_ss 2 (pc' := 44) (L' := [none, none]) (st' := [.int (nI 1)]) rfl ?_
    exact fT_r rfl rfl h
  · refine fT_ss 1 (pc' := 17) (L' := [some (.ref 52), some (.int x1)]) (st' := [.ref 52]) rfl ?_
    refine fT_gr (q := 53) rfl rfl rfl ?_
    refine fT_ss 1 (pc' := 21) (L' := [some (.ref 52), some (.int x1)]) (st' := [.ref 52, .ref 53]) rfl ?_
    refine fO_gi rfl rfl rfl h (fun v3 h => ?_)
    refine fT_ss 2 (pc' := 26) (L' := [some (.ref 52), some (.int x1)]) (st' := [.int (v3 + x1), .ref 53]) rfl ?_
    refine fO_ia rfl rfl rfl h (fun v4 h => ?_)
    refine fT_ss 1 (pc' := 28) (L' := [some (.ref 52), some (.int x1)]) (st' := [.int (nI 5), .int v4]) rfl ?_
    refine fO_ic 43 rfl rfl h (fun h => ?_) (fun h => ?_)
    · refine fT_ss 1 (pc' := 44) (L' := [none, none]) (st' := [.int (nI 0)]) rfl ?_
      exact fT_r rfl rfl h
    · refine fT_ss 2 (pc' := 33) (L' := [some (.ref 52), some (.int x1)]) (st' := [.int x1, .ref 52]) rfl ?_
      refine fO_qv2 Value.int (r' := ai_r108) (k := 52) (As := [.int x1]) (rest := []) rfl rfl rfl rfl rfl rfl (by omega) (show 19 + 6 ≤ w by omega) (Nat.le_of_ble_eq_true rfl) (Nat.le_of_ble_eq_true rfl) rfl rfl (fun Qc hq => t108_0 hX (show 0 ≤ d - 1 by omega) (show 0 ≤ w - (19 + 6) by omega) _ _ Qc hq) h (fun v6 m5 h => ?_)
      refine fO_if 43 rfl rfl h (fun h => ?_) (fun h => ?_)
      · refine fT_ss 1 (pc' := 44) (L' := [none, none]) (st' := [.int (nI 0)]) rfl ?_
        exact fT_r rfl rfl h
      · refine fT_ss 2 (pc' := 44) (L' := [none, none]) (st' := [.int (nI 1)]) rfl ?_
        exact fT_r rfl rfl h
noncomputable def g111 (x1 : Int32) (m : fm) : Option (Int32 × fm) :=
  gfI m 52 8 fun v1 =>
  ldI m 53 384 (v1 + x1) fun v2 =>
  bif ai_c .ne v2 (nI 6) then
    gfI m 52 8 fun v3 =>
    ldI m 56 384 (v3 + x1) fun v4 =>
    some (v4, m)
  else
    gfI m 52 8 fun v5 =>
    ldI m 54 384 (v5 + x1) fun v6 =>
    some (v6, m)
set_option maxHeartbeats 4000000 in
theorem t111_0 {X : ai_X} {d w : Nat} (hX : X[1]? = some (39, ai_sh)) (hd : 0 ≤ d) (hw : 0 ≤ w) (x1 : Int32) (m : fm) (Q : Option Value → fm → Prop) (h : ob (g111 x1 m) (fun z : Int32 × fm => Q (some (.int z.1)) z.2)) : fT X d w ai_r111 0 [some (.ref 52), some (.int x1)] [] m Q := by
  unfold g111 at h
  refine fT_ss 1 (pc' := 1) (L' := [some (.ref 52), some (.int x1)]) (st' := [.ref 52]) rfl ?_
  refine fT_gr (q := 53) rfl rfl rfl ?_
  refine fT_ss 1 (pc' := 5) (L' := [some (.ref 52), some (.int x1)]) (st' := [.ref 52, .ref 53]) rfl ?_
  refine fO_gi rfl rfl rfl h (fun v1 h => ?_)
  refine fT_ss 2 (pc' := 10) (L' := [some (.ref 52), some (.int x1)]) (st' := [.int (v1 + x1), .ref 53]) rfl ?_
  refine fO_ia rfl rfl rfl h (fun v2 h => ?_)
  refine fT_ss 1 (pc' := 13) (L' := [some (.ref 52), some (.int x1)]) (st' := [.int (nI 6), .int v2]) rfl ?_
  refine fO_ic 30 rfl rfl h (fun h => ?_) (fun h => ?_)
  · refine fT_ss 1 (pc' := 31) (L' := [some (.ref 52), some (.int x1)]) (st' := [.ref 52]) rfl ?_
    refine fT_gr (q := 56) rfl rfl rfl ?_
    refine fT_ss 1 (pc' := 35) (L' := [some (.ref 52), some (.int x1)]) (st' := [.ref 52, .ref 56]) rfl ?_
    refine fO_gi rfl rfl rfl h (fun v3 h => ?_)
    refine fT_ss 2 (pc' := 40) (L' := [some (.ref 52), some (.int x1)]) (st' := [.int (v3 + x1), .ref 56]) rfl ?_
    refine fO_ia rfl rfl rfl h (fun v4 h => ?_)
    exact fT_r rfl rfl h
  · refine fT_ss 1 (pc' := 17) (L' := [some (.ref 52), some (.int x1)]) (st' := [.ref 52]) rfl ?_
    refine fT_gr (q := 54) rfl rfl rfl ?_
    refine fT_ss 1 (pc' := 21) (L' := [some (.ref 52), some (.int x1)]) (st' := [.ref 52, .ref 54]) rfl ?_
    refine fO_gi rfl rfl rfl h (fun v5 h => ?_)
    refine fT_ss 2 (pc' := 26) (L' := [some (.ref 52), some (.int x1)]) (st' := [.int (v5 + x1), .ref 54]) rfl ?_
    refine fO_ia rfl rfl rfl h (fun v6 h => ?_)
    refine fT_ss 1 (pc' := 41) (L' := [some (.ref 52), some (.int x1)]) (st' := [.int v6]) rfl ?_
    exact fT_r rfl rfl h
noncomputable def g112_221 (x1 : Int32) (m : fm) : Option (fm) :=
  cl1 (g106 (x1 + (nI 1)) m) fun m15 =>
  some m15
set_option maxHeartbeats 4000000 in
theorem t112_221 {X : ai_X} {d w : Nat} (hX : X[1]? = some (39, ai_sh)) (hd : 2 ≤ d) (hw : 47 ≤ w) (x1 : Int32) (m : fm) (Q : Option Value → fm → Prop) (h : ob (g112_221 x1 m) (fun z : fm => Q none z)) : fT X d w ai_r112 221 [some (.ref 52), some (.int x1), none, none, none] [] m Q := by
  unfold g112_221 at h
  refine fT_ss 4 (pc' := 225) (L' := [some (.ref 52), some (.int x1), none, none, none]) (st' := [.int (x1 + (nI 1)), .ref 52]) rfl ?_
  refine fO_qv1 (r' := ai_r106) (k := 52) (As := [.int (x1 + (nI 1))]) (rest := []) rfl rfl rfl rfl rfl rfl (by omega) (show 19 + 5 ≤ w by omega) (Nat.le_of_ble_eq_true rfl) (Nat.le_of_ble_eq_true rfl) rfl rfl (fun Qc hq => t106_0 hX (show 0 ≤ d - 1 by omega) (show 0 ≤ w - (19 + 5) by omega) _ _ Qc hq) h (fun m15 h => ?_)
  exact fT_r rfl rfl h
noncomputable def g112_147 (x1 : Int32) (x2 : Int32) (x3 : Int32) (m : fm) : Option (fm) :=
  ldI m 54 384 x2 fun v7 =>
  ldI m 55 384 x2 fun v8 =>
  ldL m 60 100 (((nI 4) * x1) + v8) fun v9 =>
  ldI m 56 384 x2 fun v10 =>
  ldL m 60 100 (((nI 4) * x1) + v10) fun v11 =>
  cl2 (g107 x3 v9 v11 m) fun v13 m12 =>
  stL m12 61 4 v7 v13 fun m14 =>
  g112_221 x1 m14
set_option maxHeartbeats 4000000 in
theorem t112_147 {X : ai_X} {d w : Nat} (hX : X[1]? = some (39, ai_sh)) (hd : 2 ≤ d) (hw : 47 ≤ w) (x1 : Int32) (x2 : Int32) (x3 : Int32) (m : fm) (Q : Option Value → fm → Prop) (h : ob (g112_147 x1 x2 x3 m) (fun z : fm => Q none z)) : fT X d w ai_r112 147 [some (.ref 52), some (.int x1), some (.int x2), some (.int x3), none] [] m Q := by
  unfold g112_147 at h
  refine fT_ss 1 (pc' := 148) (L' := [some (.ref 52), some (.int x1), some (.int x2), some (.int x3), none]) (st' := [.ref 52]) rfl ?_
  refine fT_gr (q := 61) rfl rfl rfl ?_
  refine fT_ss 1 (pc' := 152) (L' := [some (.ref 52), some (.int x1), some (.int x2), some (.int x3), none]) (st' := [.ref 52, .ref 61]) rfl ?_
  refine fT_gr (q := 54) rfl rfl rfl ?_
  refine fT_ss 1 (pc' := 156) (L' := [some (.ref 52), some (.int x1), some (.int x2), some (.int x3), none]) (st' := [.int x2, .ref 54, .ref 61]) rfl ?_
  refine fO_ia rfl rfl rfl h (fun v7 h => ?_)
  refine fT_ss 2 (pc' := 159) (L' := [some (.ref 52), some (.int x1), some (.int x2), some (.int x3), none]) (st' := [.ref 52, .int x3, .int v7, .ref 61]) rfl ?_
  refine fT_gr (q := 60) rfl rfl rfl ?_
  refine fT_ss 4 (pc' := 166) (L' := [some (.ref 52), some (.int x1), some (.int x2), some (.int x3), none]) (st' := [.ref 52, .int ((nI 4) * x1), .ref 60, .int x3, .int v7, .ref 61]) rfl ?_
  refine fT_gr (q := 55) rfl rfl rfl ?_
  refine fT_ss 1 (pc' := 170) (L' := [some (.ref 52), some (.int x1), some (.int x2), some (.int x3), none]) (st' := [.int x2, .ref 55, .int ((nI 4) * x1), .ref 60, .int x3, .int v7, .ref 61]) rfl ?_
  refine fO_ia rfl rfl rfl h (fun v8 h => ?_)
  refine fT_ss 1 (pc' := 172) (L' := [some (.ref 52), some (.int x1), some (.int x2), some (.int x3), none]) (st' := [.int (((nI 4) * x1) + v8), .ref 60, .int x3, .int v7, .ref 61]) rfl ?_
  refine fO_la rfl rfl h (fun v9 h => ?_)
  refine fT_ss 1 (pc' := 174) (L' := [some (.ref 52), some (.int x1), some (.int x2), some (.int x3), none]) (st' := [.ref 52, .long v9, .int x3, .int v7, .ref 61]) rfl ?_
  refine fT_gr (q := 60) rfl rfl rfl ?_
  refine fT_ss 4 (pc' := 181) (L' := [some (.ref 52), some (.int x1), some (.int x2), some (.int x3), none]) (st' := [.ref 52, .int ((nI 4) * x1), .ref 60, .long v9, .int x3, .int v7, .ref 61]) rfl ?_
  refine fT_gr (q := 56) rfl rfl rfl ?_
  refine fT_ss 1 (pc' := 185) (L' := [some (.ref 52), some (.int x1), some (.int x2), some (.int x3), none]) (st' := [.int x2, .ref 56, .int ((nI 4) * x1), .ref 60, .long v9, .int x3, .int v7, .ref 61]) rfl ?_
  refine fO_ia rfl rfl rfl h (fun v10 h => ?_)
  refine fT_ss 1 (pc' := 187) (L' := [some (.ref 52), some (.int x1), some (.int x2), some (.int x3), none]) (st' := [.int (((nI 4) * x1) + v10), .ref 60, .long v9, .int x3, .int v7, .ref 61]) rfl ?_
  refine fO_la rfl rfl h (fun v11 h => ?_)
  refine fO_qs2 Value.long (r' := ai_r107) (As := [.int x3, .long v9, .long v11]) (rest := [.int v7, .ref 61]) rfl rfl rfl rfl rfl rfl (by omega) (show 19 + 7 ≤ w by omega) (Nat.le_of_ble_eq_true rfl) (Nat.le_of_ble_eq_true rfl) rfl rfl (fun Qc hq => t107_0 hX (show 0 ≤ d - 1 by omega) (show 0 ≤ w - (19 + 7) by omega) _ _ _ _ Qc hq) h (fun v13 m12 h => ?_)
  refine fO_ls rfl rfl h (fun m14 h => ?_)
  refine fT_ss 1 (pc' := 221) (L' := [some (.ref 52), some (.int x1), some (.int x2), some (.int x3), none]) (st' := []) rfl ?_
  exact fT_mk rfl rfl (t112_221 hX hd hw _ _ Q h)
noncomputable def g112_207 (x1 : Int32) (x2 : Int32) (m : fm) : Option (fm) :=
  ldI m 54 384 x2 fun v16 =>
  stL m 61 4 v16 (Int64.ofNat 1000000000000) fun m17 =>
  g112_221 x1 m17
set_option maxHeartbeats 4000000 in
theorem t112_207 {X : ai_X} {d w : Nat} (hX : X[1]? = some (39, ai_sh)) (hd : 2 ≤ d) (hw : 47 ≤ w) (x1 : Int32) (x2 : Int32) (m : fm) (Q : Option Value → fm → Prop) (h : ob (g112_207 x1 x2 m) (fun z : fm => Q none z)) : fT X d w ai_r112 207 [some (.ref 52), some (.int x1), some (.int x2), none, none] [] m Q := by
  unfold g112_207 at h
  refine fT_ss 1 (pc' := 208) (L' := [some (.ref 52), some (.int x1), some (.int x2), none, none]) (st' := [.ref 52]) rfl ?_
  refine fT_gr (q := 61) rfl rfl rfl ?_
  refine fT_ss 1 (pc' := 212) (L' := [some (.ref 52), some (.int x1), some (.int x2), none, none]) (st' := [.ref 52, .ref 61]) rfl ?_
  refine fT_gr (q := 54) rfl rfl rfl ?_
  refine fT_ss 1 (pc' := 216) (L' := [some (.ref 52), some (.int x1), some (.int x2), none, none]) (st' := [.int x2, .ref 54, .ref 61]) rfl ?_
  refine fO_ia rfl rfl rfl h (fun v16 h => ?_)
  refine fT_lc rfl ?_
  refine fO_ls rfl rfl h (fun m17 h => ?_)
  exact fT_mk rfl rfl (t112_221 hX hd hw _ _ Q h)
noncomputable def g112_64 (x1 : Int32) (x2 : Int32) (x3 : Int32) (m : fm) : Option (fm) :=
  cl2 (g109 x1 m) fun v6 m5 =>
  bif ai_c .ne v6 0 then
    bif ai_c .ne x3 0 then
      bif ai_c .ne x3 (nI 1) then
        bif ai_c .eq x3 (nI 2) then
          g112_147 x1 x2 x3 m5
        else
          bif ai_c .eq x3 (nI 3) then
            g112_147 x1 x2 x3 m5
          else
            bif ai_c .ne x3 (nI 4) then
              bif ai_c .eq x3 (nI 7) then
                g112_207 x1 x2 m5
              else
                bif ai_c .ne x3 (nI 9) then
                  g112_221 x1 m5
                else
                  g112_207 x1 x2 m5
            else
              g112_147 x1 x2 x3 m5
      else
        ldI m5 54 384 x2 fun v18 =>
        ldI m5 55 384 x2 fun v19 =>
        ldL m5 60 100 (((nI 4) * x1) + v19) fun v20 =>
        stL m5 61 4 v18 v20 fun m21 =>
        g112_221 x1 m21
    else
      ldI m5 54 384 x2 fun v22 =>
      ldI m5 55 384 x2 fun v23 =>
      stL m5 61 4 v22 ((v23).toInt64) fun m24 =>
      g112_221 x1 m24
  else
    some m5
set_option maxHeartbeats 4000000 in
theorem t112_64 {X : ai_X} {d w : Nat} (hX : X[1]? = some (39, ai_sh)) (hd : 2 ≤ d) (hw : 47 ≤ w) (x1 : Int32) (x2 : Int32) (x3 : Int32) (m : fm) (Q : Option Value → fm → Prop) (h : ob (g112_64 x1 x2 x3 m) (fun z : fm => Q none z)) : fT X d w ai_r112 64 [some (.ref 52), some (.int x1), some (.int x2), some (.int x3), none] [] m Q := by
  unfold g112_64 at h
  refine fT_ss 2 (pc' := 66) (L' := [some (.ref 52), some (.int x1), some (.int x2), some (.int x3), none]) (st' := [.int x1, .ref 52]) rfl ?_
  refine fO_qv2 Value.int (r' := ai_r109) (k := 52) (As := [.int x1]) (rest := []) rfl rfl rfl rfl rfl rfl (by omega) (show 19 + 3 ≤ w by omega) (Nat.le_of_ble_eq_true rfl) (Nat.le_of_ble_eq_true rfl) rfl rfl (fun Qc hq => t109_0 hX (show 1 ≤ d - 1 by omega) (show 25 ≤ w - (19 + 3) by omega) _ _ Qc hq) h (fun v6 m5 h => ?_)
  refine fO_if 73 rfl rfl h (fun h => ?_) (fun h => ?_)
  · refine fT_ss 1 (pc' := 74) (L' := [some (.ref 52), some (.int x1), some (.int x2), some (.int x3), none]) (st' := [.int x3]) rfl ?_
    refine fO_if 98 rfl rfl h (fun h => ?_) (fun h => ?_)
    · refine fT_ss 2 (pc' := 100) (L' := [some (.ref 52), some (.int x1), some (.int x2), some (.int x3), none]) (st' := [.int (nI 1), .int x3]) rfl ?_
      refine fO_ic 132 rfl rfl h (fun h => ?_) (fun h => ?_)
      · refine fT_ss 2 (pc' := 134) (L' := [some (.ref 52), some (.int x1), some (.int x2), some (.int x3), none]) (st' := [.int (nI 2), .int x3]) rfl ?_
        refine fO_ic 147 rfl rfl h (fun h => ?_) (fun h => ?_)
        · exact fT_mk rfl rfl (t112_147 hX hd hw _ _ _ _ Q h)
        · refine fT_ss 2 (pc' := 139) (L' := [some (.ref 52), some (.int x1), some (.int x2), some (.int x3), none]) (st' := [.int (nI 3), .int x3]) rfl ?_
          refine fO_ic 147 rfl rfl h (fun h => ?_) (fun h => ?_)
          · exact fT_mk rfl rfl (t112_147 hX hd hw _ _ _ _ Q h)
          · refine fT_ss 2 (pc' := 144) (L' := [some (.ref 52), some (.int x1), some (.int x2), some (.int x3), none]) (st' := [.int (nI 4), .int x3]) rfl ?_
            refine fO_ic 195 rfl rfl h (fun h => ?_) (fun h => ?_)
            · refine fT_ss 2 (pc' := 198) (L' := [some (.ref 52), some (.int x1), some (.int x2), some (.int x3), none]) (st' := [.int (nI 7), .int x3]) rfl ?_
              refine fO_ic 207 rfl rfl h (fun h => ?_) (fun h => ?_)
              · exact fT_mk rfl rfl (t112_207 hX hd hw _ _ _ Q h)
              · refine fT_ss 2 (pc' := 204) (L' := [some (.ref 52), some (.int x1), some (.int x2), some (.int x3), none]) (st' := [.int (nI 9), .int x3]) rfl ?_
                refine fO_ic 221 rfl rfl h (fun h => ?_) (fun h => ?_)
                · exact fT_mk rfl rfl (t112_221 hX hd hw _ _ Q h)
                · exact fT_mk rfl rfl (t112_207 hX hd hw _ _ _ Q h)
            · exact fT_mk rfl rfl (t112_147 hX hd hw _ _ _ _ Q h)
      · refine fT_ss 1 (pc' := 104) (L' := [some (.ref 52), some (.int x1), some (.int x2), none, none]) (st' := [.ref 52]) rfl ?_
        refine fT_gr (q := 61) rfl rfl rfl ?_
        refine fT_ss 1 (pc' := 108) (L' := [some (.ref 52), some (.int x1), some (.int x2), none, none]) (st' := [.ref 52, .ref 61]) rfl ?_
        refine fT_gr (q := 54) rfl rfl rfl ?_
        refine fT_ss 1 (pc' := 112) (L' := [some (.ref 52), some (.int x1), some (.int x2), none, none]) (st' := [.int x2, .ref 54, .ref 61]) rfl ?_
        refine fO_ia rfl rfl rfl h (fun v18 h => ?_)
        refine fT_ss 1 (pc' := 114) (L' := [some (.ref 52), some (.int x1), some (.int x2), none, none]) (st' := [.ref 52, .int v18, .ref 61]) rfl ?_
        refine fT_gr (q := 60) rfl rfl rfl ?_
        refine fT_ss 4 (pc' := 121) (L' := [some (.ref 52), some (.int x1), some (.int x2), none, none]) (st' := [.ref 52, .int ((nI 4) * x1), .ref 60, .int v18, .ref 61]) rfl ?_
        refine fT_gr (q := 55) rfl rfl rfl ?_
        refine fT_ss 1 (pc' := 125) (L' := [some (.ref 52), some (.int x1), some (.int x2), none, none]) (st' := [.int x2, .ref 55, .int ((nI 4) * x1), .ref 60, .int v18, .ref 61]) rfl ?_
        refine fO_ia rfl rfl rfl h (fun v19 h => ?_)
        refine fT_ss 1 (pc' := 127) (L' := [some (.ref 52), some (.int x1), some (.int x2), none, none]) (st' := [.int (((nI 4) * x1) + v19), .ref 60, .int v18, .ref 61]) rfl ?_
        refine fO_la rfl rfl h (fun v20 h => ?_)
        refine fO_ls rfl rfl h (fun m21 h => ?_)
        refine fT_ss 1 (pc' := 221) (L' := [some (.ref 52), some (.int x1), some (.int x2), none, none]) (st' := []) rfl ?_
        exact fT_mk rfl rfl (t112_221 hX hd hw _ _ Q h)
    · refine fT_ss 1 (pc' := 78) (L' := [some (.ref 52), some (.int x1), some (.int x2), none, none]) (st' := [.ref 52]) rfl ?_
      refine fT_gr (q := 61) rfl rfl rfl ?_
      refine fT_ss 1 (pc' := 82) (L' := [some (.ref 52), some (.int x1), some (.int x2), none, none]) (st' := [.ref 52, .ref 61]) rfl ?_
      refine fT_gr (q := 54) rfl rfl rfl ?_
      refine fT_ss 1 (pc' := 86) (L' := [some (.ref 52), some (.int x1), some (.int x2), none, none]) (st' := [.int x2, .ref 54, .ref 61]) rfl ?_
      refine fO_ia rfl rfl rfl h (fun v22 h => ?_)
      refine fT_ss 1 (pc' := 88) (L' := [some (.ref 52), some (.int x1), some (.int x2), none, none]) (st' := [.ref 52, .int v22, .ref 61]) rfl ?_
      refine fT_gr (q := 55) rfl rfl rfl ?_
      refine fT_ss 1 (pc' := 92) (L' := [some (.ref 52), some (.int x1), some (.int x2), none, none]) (st' := [.int x2, .ref 55, .int v22, .ref 61]) rfl ?_
      refine fO_ia rfl rfl rfl h (fun v23 h => ?_)
      refine fT_ss 1 (pc' := 94) (L' := [some (.ref 52), some (.int x1), some (.int x2), none, none]) (st' := [.long ((v23).toInt64), .int v22, .ref 61]) rfl ?_
      refine fO_ls rfl rfl h (fun m24 h => ?_)
      refine fT_ss 1 (pc' := 221) (L' := [some (.ref 52), some (.int x1), some (.int x2), none, none]) (st' := []) rfl ?_
      exact fT_mk rfl rfl (t112_221 hX hd hw _ _ Q h)
  · exact fT_r rfl rfl h
noncomputable def s112_17 (x1 : Int32) (x2 : Int32) (x3 : Int32) (x4 : Int32) (m : fm) : Option ((Int32 × fm) ⊕ (fm)) :=
  bif ai_c .ge x4 (nI 4) then
    cl2 (g110 x1 m) fun v4 m3 =>
    bif ai_c .eq v4 0 then
      (g112_64 x1 x2 x3 m3).map Sum.inr
    else
      cl2 (g111 x1 m3) fun v26 m25 =>
      cl1 (g106 v26 m25) fun m27 =>
      (g112_64 x1 x2 x3 m27).map Sum.inr
  else
    ldL m 60 100 (((nI 4) * x1) + x4) fun v28 =>
    stL m 61 4 x4 v28 fun m29 =>
    some (.inl ((x4 + (nI 1)), m29))
set_option maxHeartbeats 4000000 in
theorem b112_17 {X : ai_X} {d w : Nat} (hX : X[1]? = some (39, ai_sh)) (hd : 2 ≤ d) (hw : 47 ≤ w) (x1 : Int32) (x2 : Int32) (x3 : Int32) (x4 : Int32) (m : fm) (Q : Option Value → fm → Prop) (h : ob (s112_17 x1 x2 x3 x4 m) (Sum.elim (fun s : Int32 × fm => fT X d w ai_r112 17 [some (.ref 52), some (.int x1), some (.int x2), some (.int x3), some (.int s.1)] [] s.2 Q) (fun z : fm => Q none z))) : fT X d w ai_r112 17 [some (.ref 52), some (.int x1), some (.int x2), some (.int x3), some (.int x4)] [] m Q := by
  unfold s112_17 at h
  refine fT_ss 2 (pc' := 20) (L' := [some (.ref 52), some (.int x1), some (.int x2), some (.int x3), some (.int x4)]) (st' := [.int (nI 4), .int x4]) rfl ?_
  refine fO_ic 47 rfl rfl h (fun h => ?_) (fun h => ?_)
  · refine fT_ss 2 (pc' := 49) (L' := [some (.ref 52), some (.int x1), some (.int x2), some (.int x3), none]) (st' := [.int x1, .ref 52]) rfl ?_
    refine fO_qv2 Value.int (r' := ai_r110) (k := 52) (As := [.int x1]) (rest := []) rfl rfl rfl rfl rfl rfl (by omega) (show 19 + 2 ≤ w by omega) (Nat.le_of_ble_eq_true rfl) (Nat.le_of_ble_eq_true rfl) rfl rfl (fun Qc hq => t110_0 hX (show 1 ≤ d - 1 by omega) (show 25 ≤ w - (19 + 2) by omega) _ _ Qc hq) h (fun v4 m3 h => ?_)
    refine fO_if 64 rfl rfl h (fun h => ?_) (fun h => ?_)
    · exact fT_mk rfl rfl (t112_64 hX hd hw _ _ _ _ Q (ob_mapR h))
    · refine fT_ss 3 (pc' := 58) (L' := [some (.ref 52), some (.int x1), some (.int x2), some (.int x3), none]) (st' := [.int x1, .ref 52, .ref 52]) rfl ?_
      refine fO_qv2 Value.int (r' := ai_r111) (k := 52) (As := [.int x1]) (rest := [.ref 52]) rfl rfl rfl rfl rfl rfl (by omega) (show 19 + 2 ≤ w by omega) (Nat.le_of_ble_eq_true rfl) (Nat.le_of_ble_eq_true rfl) rfl rfl (fun Qc hq => t111_0 hX (show 0 ≤ d - 1 by omega) (show 0 ≤ w - (19 + 2) by omega) _ _ Qc hq) h (fun v26 m25 h => ?_)
      refine fO_qv1 (r' := ai_r106) (k := 52) (As := [.int v26]) (rest := []) rfl rfl rfl rfl rfl rfl (by omega) (show 19 + 5 ≤ w by omega) (Nat.le_of_ble_eq_true rfl) (Nat.le_of_ble_eq_true rfl) rfl rfl (fun Qc hq => t106_0 hX (show 0 ≤ d - 1 by omega) (show 0 ≤ w - (19 + 5) by omega) _ _ Qc hq) h (fun m27 h => ?_)
      exact fT_mk rfl rfl (t112_64 hX hd hw _ _ _ _ Q (ob_mapR h))
  · refine fT_ss 1 (pc' := 24) (L' := [some (.ref 52), some (.int x1), some (.int x2), some (.int x3), some (.int x4)]) (st' := [.ref 52]) rfl ?_
    refine fT_gr (q := 61) rfl rfl rfl ?_
    refine fT_ss 2 (pc' := 30) (L' := [some (.ref 52), some (.int x1), some (.int x2), some (.int x3), some (.int x4)]) (st' := [.ref 52, .int x4, .ref 61]) rfl ?_
    refine fT_gr (q := 60) rfl rfl rfl ?_
    refine fT_ss 5 (pc' := 39) (L' := [some (.ref 52), some (.int x1), some (.int x2), some (.int x3), some (.int x4)]) (st' := [.int (((nI 4) * x1) + x4), .ref 60, .int x4, .ref 61]) rfl ?_
    refine fO_la rfl rfl h (fun v28 h => ?_)
    refine fO_ls rfl rfl h (fun m29 h => ?_)
    refine fT_ss 2 (pc' := 17) (L' := [some (.ref 52), some (.int x1), some (.int x2), some (.int x3), some (.int (x4 + (nI 1)))]) (st' := []) rfl ?_
    replace h := ob_inl h
    exact fT_mk rfl rfl h
noncomputable def g112_17 (x1 : Int32) (x2 : Int32) (x3 : Int32) (x4 : Int32) (m : fm) : Option (fm) := wl (fun s : Int32 × fm => s112_17 x1 x2 x3 s.1 s.2) lf (x4, m)
theorem t112_17 {X : ai_X} {d w : Nat} (hX : X[1]? = some (39, ai_sh)) (hd : 2 ≤ d) (hw : 47 ≤ w) (x1 : Int32) (x2 : Int32) (x3 : Int32) (x4 : Int32) (m : fm) (Q : Option Value → fm → Prop) (h : ob (g112_17 x1 x2 x3 x4 m) (fun z : fm => Q none z)) : fT X d w ai_r112 17 [some (.ref 52), some (.int x1), some (.int x2), some (.int x3), some (.int x4)] [] m Q :=
  wl_ob (P := fun s : Int32 × fm => fT X d w ai_r112 17 [some (.ref 52), some (.int x1), some (.int x2), some (.int x3), some (.int s.1)] [] s.2 Q) (fun s h => b112_17 hX hd hw x1 x2 x3 s.1 s.2 Q h) lf (x4, m) h
noncomputable def g112 (x1 : Int32) (m : fm) : Option (fm) :=
  gfI m 52 8 fun v1 =>
  ldI m 53 384 (v1 + x1) fun v2 =>
  g112_17 x1 (v1 + x1) v2 (nI 0) m
set_option maxHeartbeats 4000000 in
theorem t112_0 {X : ai_X} {d w : Nat} (hX : X[1]? = some (39, ai_sh)) (hd : 2 ≤ d) (hw : 47 ≤ w) (x1 : Int32) (m : fm) (Q : Option Value → fm → Prop) (h : ob (g112 x1 m) (fun z : fm => Q none z)) : fT X d w ai_r112 0 [some (.ref 52), some (.int x1), none, none, none] [] m Q := by
  unfold g112 at h
  refine fT_ss 1 (pc' := 1) (L' := [some (.ref 52), some (.int x1), none, none, none]) (st' := [.ref 52]) rfl ?_
  refine fO_gi rfl rfl rfl h (fun v1 h => ?_)
  refine fT_ss 4 (pc' := 8) (L' := [some (.ref 52), some (.int x1), some (.int (v1 + x1)), none, none]) (st' := [.ref 52]) rfl ?_
  refine fT_gr (q := 53) rfl rfl rfl ?_
  refine fT_ss 1 (pc' := 12) (L' := [some (.ref 52), some (.int x1), some (.int (v1 + x1)), none, none]) (st' := [.int (v1 + x1), .ref 53]) rfl ?_
  refine fO_ia rfl rfl rfl h (fun v2 h => ?_)
  refine fT_ss 3 (pc' := 17) (L' := [some (.ref 52), some (.int x1), some (.int (v1 + x1)), some (.int v2), some (.int (nI 0))]) (st' := []) rfl ?_
  exact fT_mk rfl rfl (t112_17 hX hd hw _ _ _ _ _ Q h)
noncomputable def s113_102 (x3 : Int32) (m : fm) : Option ((Int32 × fm) ⊕ ((fm) ⊕ (fm))) :=
  gfI m 52 7 fun v14 =>
  bif ai_c .ge x3 v14 then
    some (.inr (.inl m))
  else
    ldI m 59 25 x3 fun v15 =>
    bif ai_c .eq v15 0 then
      some (.inl ((x3 + (nI 1)), m))
    else
      cl1 (g112 x3 m) fun m16 =>
      some (.inl ((x3 + (nI 1)), m16))
set_option maxHeartbeats 4000000 in
theorem b113_102 {X : ai_X} {d w : Nat} (hX : X[1]? = some (39, ai_sh)) (hd : 3 ≤ d) (hw : 71 ≤ w) (x3 : Int32) (m : fm) (Q : Option Value → fm → Prop) (h : ob (s113_102 x3 m) (Sum.elim (fun s : Int32 × fm => fT X d w ai_r113 102 [some (.ref 52), none, none, some (.int s.1)] [] s.2 Q) (Sum.elim (fun s : fm => fT X d w ai_r113 88 [some (.ref 52), none, none, none] [] s Q) (fun z : fm => Q none z)))) : fT X d w ai_r113 102 [some (.ref 52), none, none, some (.int x3)] [] m Q := by
  unfold s113_102 at h
  refine fT_ss 2 (pc' := 104) (L' := [some (.ref 52), none, none, some (.int x3)]) (st' := [.ref 52, .int x3]) rfl ?_
  refine fO_gi rfl rfl rfl h (fun v14 h => ?_)
  refine fO_ic 130 rfl rfl h (fun h => ?_) (fun h => ?_)
  · refine fT_ss 1 (pc' := 88) (L' := [some (.ref 52), none, none, none]) (st' := []) rfl ?_
    replace h := ob_inr h
    replace h := ob_inl h
    exact fT_mk rfl rfl h
  · refine fT_ss 1 (pc' := 111) (L' := [some (.ref 52), none, none, some (.int x3)]) (st' := [.ref 52]) rfl ?_
    refine fT_gr (q := 59) rfl rfl rfl ?_
    refine fT_ss 1 (pc' := 115) (L' := [some (.ref 52), none, none, some (.int x3)]) (st' := [.int x3, .ref 59]) rfl ?_
    refine fO_ba rfl rfl h (fun v15 h => ?_)
    refine fO_if 124 rfl rfl h (fun h => ?_) (fun h => ?_)
    · refine fT_ss 2 (pc' := 102) (L' := [some (.ref 52), none, none, some (.int (x3 + (nI 1)))]) (st' := []) rfl ?_
      replace h := ob_inl h
      exact fT_mk rfl rfl h
    · refine fT_ss 2 (pc' := 121) (L' := [some (.ref 52), none, none, some (.int x3)]) (st' := [.int x3, .ref 52]) rfl ?_
      refine fO_qv1 (r' := ai_r112) (k := 52) (As := [.int x3]) (rest := []) rfl rfl rfl rfl rfl rfl (by omega) (show 19 + 5 ≤ w by omega) (Nat.le_of_ble_eq_true rfl) (Nat.le_of_ble_eq_true rfl) rfl rfl (fun Qc hq => t112_0 hX (show 2 ≤ d - 1 by omega) (show 47 ≤ w - (19 + 5) by omega) _ _ Qc hq) h (fun m16 h => ?_)
      refine fT_ss 2 (pc' := 102) (L' := [some (.ref 52), none, none, some (.int (x3 + (nI 1)))]) (st' := []) rfl ?_
      replace h := ob_inl h
      exact fT_mk rfl rfl h
noncomputable def g113_102 (x3 : Int32) (m : fm) : Option ((fm) ⊕ (fm)) := wl (fun s : Int32 × fm => s113_102 s.1 s.2) lf (x3, m)
theorem t113_102 {X : ai_X} {d w : Nat} (hX : X[1]? = some (39, ai_sh)) (hd : 3 ≤ d) (hw : 71 ≤ w) (x3 : Int32) (m : fm) (Q : Option Value → fm → Prop) (h : ob (g113_102 x3 m) (Sum.elim (fun s : fm => fT X d w ai_r113 88 [some (.ref 52), none, none, none] [] s Q) (fun z : fm => Q none z))) : fT X d w ai_r113 102 [some (.ref 52), none, none, some (.int x3)] [] m Q :=
  wl_ob (P := fun s : Int32 × fm => fT X d w ai_r113 102 [some (.ref 52), none, none, some (.int s.1)] [] s.2 Q) (fun s h => b113_102 hX hd hw s.1 s.2 Q h) lf (x3, m) h
noncomputable def s113_88  (m : fm) : Option ((fm) ⊕ (fm)) :=
  gfI m 52 11 fun v12 =>
  bif ai_c .eq v12 0 then
    some (.inr m)
  else
    pfB m 52 11 (nI 0) fun m13 =>
    g113_102 (nI 0) m13
set_option maxHeartbeats 4000000 in
theorem b113_88 {X : ai_X} {d w : Nat} (hX : X[1]? = some (39, ai_sh)) (hd : 3 ≤ d) (hw : 71 ≤ w)  (m : fm) (Q : Option Value → fm → Prop) (h : ob (s113_88  m) (Sum.elim (fun s : fm => fT X d w ai_r113 88 [some (.ref 52), none, none, none] [] s Q) (fun z : fm => Q none z))) : fT X d w ai_r113 88 [some (.ref 52), none, none, none] [] m Q := by
  unfold s113_88 at h
  refine fT_ss 1 (pc' := 89) (L' := [some (.ref 52), none, none, none]) (st' := [.ref 52]) rfl ?_
  refine fO_gi rfl rfl rfl h (fun v12 h => ?_)
  refine fO_if 133 rfl rfl h (fun h => ?_) (fun h => ?_)
  · exact fT_r rfl rfl h
  · refine fT_ss 2 (pc' := 97) (L' := [some (.ref 52), none, none, none]) (st' := [.int (nI 0), .ref 52]) rfl ?_
    refine fO_pb rfl rfl rfl rfl h (fun m13 h => ?_)
    refine fT_ss 2 (pc' := 102) (L' := [some (.ref 52), none, none, some (.int (nI 0))]) (st' := []) rfl ?_
    exact fT_mk rfl rfl (t113_102 hX hd hw _ _ Q h)
noncomputable def g113_88  (m : fm) : Option (fm) := wl (fun s : fm => s113_88  s) lf m
theorem t113_88 {X : ai_X} {d w : Nat} (hX : X[1]? = some (39, ai_sh)) (hd : 3 ≤ d) (hw : 71 ≤ w)  (m : fm) (Q : Option Value → fm → Prop) (h : ob (g113_88  m) (fun z : fm => Q none z)) : fT X d w ai_r113 88 [some (.ref 52), none, none, none] [] m Q :=
  wl_ob (P := fun s : fm => fT X d w ai_r113 88 [some (.ref 52), none, none, none] [] s Q) (fun s h => b113_88 hX hd hw  s Q h) lf m h
noncomputable def s113_27 (x3 : Int32) (m : fm) : Option ((Int32 × fm) ⊕ (fm)) :=
  bif ai_c .gt x3 (nI 24) then
    stL m 61 4 (nI 0) (Int64.ofNat 1000000000000) fun m6 =>
    stL m6 61 4 (nI 1) (Int64.ofNat 1000000000000) fun m7 =>
    stL m7 61 4 (nI 2) (Int64.ofNat 0) fun m8 =>
    stL m8 61 4 (nI 3) (Int64.ofNat 0) fun m9 =>
    pfB m9 52 11 (nI 0) fun m10 =>
    cl1 (g106 (nI 0) m10) fun m11 =>
    (g113_88  m11).map Sum.inr
  else
    stB m 59 25 x3 (nI 0) fun m17 =>
    some (.inl ((x3 + (nI 1)), m17))
set_option maxHeartbeats 4000000 in
theorem b113_27 {X : ai_X} {d w : Nat} (hX : X[1]? = some (39, ai_sh)) (hd : 3 ≤ d) (hw : 71 ≤ w) (x3 : Int32) (m : fm) (Q : Option Value → fm → Prop) (h : ob (s113_27 x3 m) (Sum.elim (fun s : Int32 × fm => fT X d w ai_r113 27 [some (.ref 52), none, none, some (.int s.1)] [] s.2 Q) (fun z : fm => Q none z))) : fT X d w ai_r113 27 [some (.ref 52), none, none, some (.int x3)] [] m Q := by
  unfold s113_27 at h
  refine fT_ss 2 (pc' := 30) (L' := [some (.ref 52), none, none, some (.int x3)]) (st' := [.int (nI 24), .int x3]) rfl ?_
  refine fO_ic 46 rfl rfl h (fun h => ?_) (fun h => ?_)
  · refine fT_ss 1 (pc' := 47) (L' := [some (.ref 52), none, none, none]) (st' := [.ref 52]) rfl ?_
    refine fT_gr (q := 61) rfl rfl rfl ?_
    refine fT_ss 1 (pc' := 51) (L' := [some (.ref 52), none, none, none]) (st' := [.int (nI 0), .ref 61]) rfl ?_
    refine fT_lc rfl ?_
    refine fO_ls rfl rfl h (fun m6 h => ?_)
    refine fT_ss 1 (pc' := 56) (L' := [some (.ref 52), none, none, none]) (st' := [.ref 52]) rfl ?_
    refine fT_gr (q := 61) rfl rfl rfl ?_
    refine fT_ss 1 (pc' := 60) (L' := [some (.ref 52), none, none, none]) (st' := [.int (nI 1), .ref 61]) rfl ?_
    refine fT_lc rfl ?_
    refine fO_ls rfl rfl h (fun m7 h => ?_)
    refine fT_ss 1 (pc' := 65) (L' := [some (.ref 52), none, none, none]) (st' := [.ref 52]) rfl ?_
    refine fT_gr (q := 61) rfl rfl rfl ?_
    refine fT_ss 2 (pc' := 70) (L' := [some (.ref 52), none, none, none]) (st' := [.long (Int64.ofNat 0), .int (nI 2), .ref 61]) rfl ?_
    refine fO_ls rfl rfl h (fun m8 h => ?_)
    refine fT_ss 1 (pc' := 72) (L' := [some (.ref 52), none, none, none]) (st' := [.ref 52]) rfl ?_
    refine fT_gr (q := 61) rfl rfl rfl ?_
    refine fT_ss 2 (pc' := 77) (L' := [some (.ref 52), none, none, none]) (st' := [.long (Int64.ofNat 0), .int (nI 3), .ref 61]) rfl ?_
    refine fO_ls rfl rfl h (fun m9 h => ?_)
    refine fT_ss 2 (pc' := 80) (L' := [some (.ref 52), none, none, none]) (st' := [.int (nI 0), .ref 52]) rfl ?_
    refine fO_pb rfl rfl rfl rfl h (fun m10 h => ?_)
    refine fT_ss 2 (pc' := 85) (L' := [some (.ref 52), none, none, none]) (st' := [.int (nI 0), .ref 52]) rfl ?_
    refine fO_qv1 (r' := ai_r106) (k := 52) (As := [.int (nI 0)]) (rest := []) rfl rfl rfl rfl rfl rfl (by omega) (show 19 + 5 ≤ w by omega) (Nat.le_of_ble_eq_true rfl) (Nat.le_of_ble_eq_true rfl) rfl rfl (fun Qc hq => t106_0 hX (show 0 ≤ d - 1 by omega) (show 0 ≤ w - (19 + 5) by omega) _ _ Qc hq) h (fun m11 h => ?_)
    exact fT_mk rfl rfl (t113_88 hX hd hw  _ Q (ob_mapR h))
  · refine fT_ss 1 (pc' := 34) (L' := [some (.ref 52), none, none, some (.int x3)]) (st' := [.ref 52]) rfl ?_
    refine fT_gr (q := 59) rfl rfl rfl ?_
    refine fT_ss 2 (pc' := 39) (L' := [some (.ref 52), none, none, some (.int x3)]) (st' := [.int (nI 0), .int x3, .ref 59]) rfl ?_
    refine fO_bs rfl rfl h (fun m17 h => ?_)
    refine fT_ss 2 (pc' := 27) (L' := [some (.ref 52), none, none, some (.int (x3 + (nI 1)))]) (st' := []) rfl ?_
    replace h := ob_inl h
    exact fT_mk rfl rfl h
noncomputable def g113_27 (x3 : Int32) (m : fm) : Option (fm) := wl (fun s : Int32 × fm => s113_27 s.1 s.2) lf (x3, m)
theorem t113_27 {X : ai_X} {d w : Nat} (hX : X[1]? = some (39, ai_sh)) (hd : 3 ≤ d) (hw : 71 ≤ w) (x3 : Int32) (m : fm) (Q : Option Value → fm → Prop) (h : ob (g113_27 x3 m) (fun z : fm => Q none z)) : fT X d w ai_r113 27 [some (.ref 52), none, none, some (.int x3)] [] m Q :=
  wl_ob (P := fun s : Int32 × fm => fT X d w ai_r113 27 [some (.ref 52), none, none, some (.int s.1)] [] s.2 Q) (fun s h => b113_27 hX hd hw s.1 s.2 Q h) lf (x3, m) h
noncomputable def g113 (x1 : Int32) (x2 : Int32) (m : fm) : Option (fm) :=
  ldI m 57 16 (((nI 8) * x1) + x2) fun v1 =>
  pfI m 52 7 v1 fun m2 =>
  cl2 (g98 x1 x2 (nI 0) m2) fun v4 m3 =>
  pfI m3 52 8 v4 fun m5 =>
  g113_27 (nI 0) m5
set_option maxHeartbeats 4000000 in
theorem t113_0 {X : ai_X} {d w : Nat} (hX : X[1]? = some (39, ai_sh)) (hd : 3 ≤ d) (hw : 71 ≤ w) (x1 : Int32) (x2 : Int32) (m : fm) (Q : Option Value → fm → Prop) (h : ob (g113 x1 x2 m) (fun z : fm => Q none z)) : fT X d w ai_r113 0 [some (.ref 52), some (.int x1), some (.int x2), none] [] m Q := by
  unfold g113 at h
  refine fT_ss 2 (pc' := 2) (L' := [some (.ref 52), some (.int x1), some (.int x2), none]) (st' := [.ref 52, .ref 52]) rfl ?_
  refine fT_gr (q := 57) rfl rfl rfl ?_
  refine fT_ss 5 (pc' := 11) (L' := [some (.ref 52), some (.int x1), some (.int x2), none]) (st' := [.int (((nI 8) * x1) + x2), .ref 57, .ref 52]) rfl ?_
  refine fO_ia rfl rfl rfl h (fun v1 h => ?_)
  refine fO_pi rfl rfl rfl rfl h (fun m2 h => ?_)
  refine fT_ss 4 (pc' := 19) (L' := [some (.ref 52), some (.int x1), some (.int x2), none]) (st' := [.int (nI 0), .int x2, .int x1, .ref 52]) rfl ?_
  refine fO_qs2 Value.int (r' := ai_r98) (As := [.int x1, .int x2, .int (nI 0)]) (rest := [.ref 52]) rfl rfl rfl rfl rfl rfl (by omega) (show 19 + 3 ≤ w by omega) (Nat.le_of_ble_eq_true rfl) (Nat.le_of_ble_eq_true rfl) rfl rfl (fun Qc hq => t98_0 hX (show 0 ≤ d - 1 by omega) (show 0 ≤ w - (19 + 3) by omega) _ _ _ _ Qc hq) h (fun v4 m3 h => ?_)
  refine fO_pi rfl rfl rfl rfl h (fun m5 h => ?_)
  refine fT_ss 2 (pc' := 27) (L' := [some (.ref 52), some (.int x1), some (.int x2), some (.int (nI 0))]) (st' := []) rfl ?_
  exact fT_mk rfl rfl (t113_27 hX hd hw _ _ Q h)
noncomputable def g114_85 (x1 : Int32) (m : fm) : Option (Int32 × fm) :=
  ldI m 55 384 x1 fun v4 =>
  ldI m 56 384 x1 fun v5 =>
  some ((((nI 1) <<< (v4 &&& 31)) ||| ((nI 1) <<< (v5 &&& 31))), m)
set_option maxHeartbeats 4000000 in
theorem t114_85 {X : ai_X} {d w : Nat} (hX : X[1]? = some (39, ai_sh)) (hd : 0 ≤ d) (hw : 0 ≤ w) (x1 : Int32) (m : fm) (Q : Option Value → fm → Prop) (h : ob (g114_85 x1 m) (fun z : Int32 × fm => Q (some (.int z.1)) z.2)) : fT X d w ai_r114 85 [some (.ref 52), some (.int x1), none] [] m Q := by
  unfold g114_85 at h
  refine fT_ss 2 (pc' := 87) (L' := [some (.ref 52), some (.int x1), none]) (st' := [.ref 52, .int (nI 1)]) rfl ?_
  refine fT_gr (q := 55) rfl rfl rfl ?_
  refine fT_ss 1 (pc' := 91) (L' := [some (.ref 52), some (.int x1), none]) (st' := [.int x1, .ref 55, .int (nI 1)]) rfl ?_
  refine fO_ia rfl rfl rfl h (fun v4 h => ?_)
  refine fT_ss 3 (pc' := 95) (L' := [some (.ref 52), some (.int x1), none]) (st' := [.ref 52, .int (nI 1), .int ((nI 1) <<< (v4 &&& 31))]) rfl ?_
  refine fT_gr (q := 56) rfl rfl rfl ?_
  refine fT_ss 1 (pc' := 99) (L' := [some (.ref 52), some (.int x1), none]) (st' := [.int x1, .ref 56, .int (nI 1), .int ((nI 1) <<< (v4 &&& 31))]) rfl ?_
  refine fO_ia rfl rfl rfl h (fun v5 h => ?_)
  refine fT_ss 2 (pc' := 102) (L' := [some (.ref 52), some (.int x1), none]) (st' := [.int (((nI 1) <<< (v4 &&& 31)) ||| ((nI 1) <<< (v5 &&& 31)))]) rfl ?_
  exact fT_r rfl rfl h
noncomputable def g114 (x1 : Int32) (m : fm) : Option (Int32 × fm) :=
  ldI m 54 384 x1 fun v1 =>
  ldI m 53 384 x1 fun v2 =>
  bif decide (v2 = nI 1) then
    ldI m 55 384 x1 fun v3 =>
    some (((nI 1) <<< (v3 &&& 31)), m)
  else bif decide (v2 = nI 2) then
    g114_85 x1 m
  else bif decide (v2 = nI 3) then
    g114_85 x1 m
  else bif decide (v2 = nI 4) then
    g114_85 x1 m
  else bif decide (v2 = nI 5) then
    ldI m 55 384 x1 fun v6 =>
    some ((((nI 1) <<< (v1 &&& 31)) ||| ((nI 1) <<< (v6 &&& 31))), m)
  else bif decide (v2 = nI 6) then
    some ((nI 0), m)
  else bif decide (v2 = nI 7) then
    some ((nI 0), m)
  else bif decide (v2 = nI 8) then
    some (((nI 1) <<< (v1 &&& 31)), m)
  else bif decide (v2 = nI 9) then
    some ((nI 3), m)
  else bif decide (v2 = nI 10) then
    some (((nI 1) <<< (v1 &&& 31)), m)
  else bif decide (v2 = nI 11) then
    some (((nI 1) <<< (v1 &&& 31)), m)
  else bif decide (v2 = nI 12) then
    some (((nI 1) <<< (v1 &&& 31)), m)
  else 
  some ((nI 0), m)
set_option maxHeartbeats 4000000 in
theorem t114_0 {X : ai_X} {d w : Nat} (hX : X[1]? = some (39, ai_sh)) (hd : 0 ≤ d) (hw : 0 ≤ w) (x1 : Int32) (m : fm) (Q : Option Value → fm → Prop) (h : ob (g114 x1 m) (fun z : Int32 × fm => Q (some (.int z.1)) z.2)) : fT X d w ai_r114 0 [some (.ref 52), some (.int x1), none] [] m Q := by
  unfold g114 at h
  refine fT_ss 2 (pc' := 2) (L' := [some (.ref 52), some (.int x1), none]) (st' := [.ref 52, .int (nI 1)]) rfl ?_
  refine fT_gr (q := 54) rfl rfl rfl ?_
  refine fT_ss 1 (pc' := 6) (L' := [some (.ref 52), some (.int x1), none]) (st' := [.int x1, .ref 54, .int (nI 1)]) rfl ?_
  refine fO_ia rfl rfl rfl h (fun v1 h => ?_)
  refine fT_ss 3 (pc' := 10) (L' := [some (.ref 52), some (.int x1), some (.int ((nI 1) <<< (v1 &&& 31)))]) (st' := [.ref 52]) rfl ?_
  refine fT_gr (q := 53) rfl rfl rfl ?_
  refine fT_ss 1 (pc' := 14) (L' := [some (.ref 52), some (.int x1), some (.int ((nI 1) <<< (v1 &&& 31)))]) (st' := [.int x1, .ref 53]) rfl ?_
  refine fO_ia rfl rfl rfl h (fun v2 h => ?_)
  by_cases e1 : v2 = nI 1
  · subst e1
    replace h := ob_eqT h
    refine fT_ss 1 (pc' := 76) (L' := [some (.ref 52), some (.int x1), some (.int ((nI 1) <<< (v1 &&& 31)))]) (st' := []) rfl ?_
    refine fT_ss 2 (pc' := 78) (L' := [some (.ref 52), some (.int x1), none]) (st' := [.ref 52, .int (nI 1)]) rfl ?_
    refine fT_gr (q := 55) rfl rfl rfl ?_
    refine fT_ss 1 (pc' := 82) (L' := [some (.ref 52), some (.int x1), none]) (st' := [.int x1, .ref 55, .int (nI 1)]) rfl ?_
    refine fO_ia rfl rfl rfl h (fun v3 h => ?_)
    refine fT_ss 1 (pc' := 84) (L' := [some (.ref 52), some (.int x1), none]) (st' := [.int ((nI 1) <<< (v3 &&& 31))]) rfl ?_
    exact fT_r rfl rfl h
  replace h := ob_eqF e1 h
  by_cases e2 : v2 = nI 2
  · subst e2
    replace h := ob_eqT h
    refine fT_ss 1 (pc' := 85) (L' := [some (.ref 52), some (.int x1), some (.int ((nI 1) <<< (v1 &&& 31)))]) (st' := []) rfl ?_
    exact fT_mk rfl rfl (t114_85 hX hd hw _ _ Q h)
  replace h := ob_eqF e2 h
  by_cases e3 : v2 = nI 3
  · subst e3
    replace h := ob_eqT h
    refine fT_ss 1 (pc' := 85) (L' := [some (.ref 52), some (.int x1), some (.int ((nI 1) <<< (v1 &&& 31)))]) (st' := []) rfl ?_
    exact fT_mk rfl rfl (t114_85 hX hd hw _ _ Q h)
  replace h := ob_eqF e3 h
  by_cases e4 : v2 = nI 4
  · subst e4
    replace h := ob_eqT h
    refine fT_ss 1 (pc' := 85) (L' := [some (.ref 52), some (.int x1), some (.int ((nI 1) <<< (v1 &&& 31)))]) (st' := []) rfl ?_
    exact fT_mk rfl rfl (t114_85 hX hd hw _ _ Q h)
  replace h := ob_eqF e4 h
  by_cases e5 : v2 = nI 5
  · subst e5
    replace h := ob_eqT h
    refine fT_ss 1 (pc' := 103) (L' := [some (.ref 52), some (.int x1), some (.int ((nI 1) <<< (v1 &&& 31)))]) (st' := []) rfl ?_
    refine fT_ss 3 (pc' := 106) (L' := [some (.ref 52), some (.int x1), some (.int ((nI 1) <<< (v1 &&& 31)))]) (st' := [.ref 52, .int (nI 1), .int ((nI 1) <<< (v1 &&& 31))]) rfl ?_
    refine fT_gr (q := 55) rfl rfl rfl ?_
    refine fT_ss 1 (pc' := 110) (L' := [some (.ref 52), some (.int x1), some (.int ((nI 1) <<< (v1 &&& 31)))]) (st' := [.int x1, .ref 55, .int (nI 1), .int ((nI 1) <<< (v1 &&& 31))]) rfl ?_
    refine fO_ia rfl rfl rfl h (fun v6 h => ?_)
    refine fT_ss 2 (pc' := 113) (L' := [some (.ref 52), some (.int x1), some (.int ((nI 1) <<< (v1 &&& 31)))]) (st' := [.int (((nI 1) <<< (v1 &&& 31)) ||| ((nI 1) <<< (v6 &&& 31)))]) rfl ?_
    exact fT_r rfl rfl h
  replace h := ob_eqF e5 h
  by_cases e6 : v2 = nI 6
  · subst e6
    replace h := ob_eqT h
    refine fT_ss 1 (pc' := 118) (L' := [some (.ref 52), some (.int x1), some (.int ((nI 1) <<< (v1 &&& 31)))]) (st' := []) rfl ?_
    refine fT_ss 1 (pc' := 119) (L' := [none, none, none]) (st' := [.int (nI 0)]) rfl ?_
    exact fT_r rfl rfl h
  replace h := ob_eqF e6 h
  by_cases e7 : v2 = nI 7
  · subst e7
    replace h := ob_eqT h
    refine fT_ss 1 (pc' := 118) (L' := [some (.ref 52), some (.int x1), some (.int ((nI 1) <<< (v1 &&& 31)))]) (st' := []) rfl ?_
    refine fT_ss 1 (pc' := 119) (L' := [none, none, none]) (st' := [.int (nI 0)]) rfl ?_
    exact fT_r rfl rfl h
  replace h := ob_eqF e7 h
  by_cases e8 : v2 = nI 8
  · subst e8
    replace h := ob_eqT h
    refine fT_ss 1 (pc' := 116) (L' := [some (.ref 52), some (.int x1), some (.int ((nI 1) <<< (v1 &&& 31)))]) (st' := []) rfl ?_
    refine fT_ss 1 (pc' := 117) (L' := [none, none, some (.int ((nI 1) <<< (v1 &&& 31)))]) (st' := [.int ((nI 1) <<< (v1 &&& 31))]) rfl ?_
    exact fT_r rfl rfl h
  replace h := ob_eqF e8 h
  by_cases e9 : v2 = nI 9
  · subst e9
    replace h := ob_eqT h
    refine fT_ss 1 (pc' := 114) (L' := [some (.ref 52), some (.int x1), some (.int ((nI 1) <<< (v1 &&& 31)))]) (st' := []) rfl ?_
    refine fT_ss 1 (pc' := 115) (L' := [none, none, none]) (st' := [.int (nI 3)]) rfl ?_
    exact fT_r rfl rfl h
  replace h := ob_eqF e9 h
  by_cases e10 : v2 = nI 10
  · subst e10
    replace h := ob_eqT h
    refine fT_ss 1 (pc' := 116) (L' := [some (.ref 52), some (.int x1), some (.int ((nI 1) <<< (v1 &&& 31)))]) (st' := []) rfl ?_
    refine fT_ss 1 (pc' := 117) (L' := [none, none, some (.int ((nI 1) <<< (v1 &&& 31)))]) (st' := [.int ((nI 1) <<< (v1 &&& 31))]) rfl ?_
    exact fT_r rfl rfl h
  replace h := ob_eqF e10 h
  by_cases e11 : v2 = nI 11
  · subst e11
    replace h := ob_eqT h
    refine fT_ss 1 (pc' := 116) (L' := [some (.ref 52), some (.int x1), some (.int ((nI 1) <<< (v1 &&& 31)))]) (st' := []) rfl ?_
    refine fT_ss 1 (pc' := 117) (L' := [none, none, some (.int ((nI 1) <<< (v1 &&& 31)))]) (st' := [.int ((nI 1) <<< (v1 &&& 31))]) rfl ?_
    exact fT_r rfl rfl h
  replace h := ob_eqF e11 h
  by_cases e12 : v2 = nI 12
  · subst e12
    replace h := ob_eqT h
    refine fT_ss 1 (pc' := 116) (L' := [some (.ref 52), some (.int x1), some (.int ((nI 1) <<< (v1 &&& 31)))]) (st' := []) rfl ?_
    refine fT_ss 1 (pc' := 117) (L' := [none, none, some (.int ((nI 1) <<< (v1 &&& 31)))]) (st' := [.int ((nI 1) <<< (v1 &&& 31))]) rfl ?_
    exact fT_r rfl rfl h
  replace h := ob_eqF e12 h
  refine fO_td 118 rfl rfl (by have := nt (k := 1) (by omega) e1; have := nt (k := 2) (by omega) e2; have := nt (k := 3) (by omega) e3; have := nt (k := 4) (by omega) e4; have := nt (k := 5) (by omega) e5; have := nt (k := 6) (by omega) e6; have := nt (k := 7) (by omega) e7; have := nt (k := 8) (by omega) e8; have := nt (k := 9) (by omega) e9; have := nt (k := 10) (by omega) e10; have := nt (k := 11) (by omega) e11; have := nt (k := 12) (by omega) e12; omega) ?_
  refine fT_ss 1 (pc' := 119) (L' := [none, none, none]) (st' := [.int (nI 0)]) rfl ?_
  exact fT_r rfl rfl h
noncomputable def g115 (x1 : Int32) (m : fm) : Option (Int32 × fm) :=
  ldI m 53 384 x1 fun v1 =>
  bif ai_c .le v1 (nI 4) then
    some ((nI 1), m)
  else
    bif ai_c .eq v1 (nI 7) then
      some ((nI 1), m)
    else
      bif ai_c .ne v1 (nI 9) then
        some ((nI 0), m)
      else
        some ((nI 1), m)
set_option maxHeartbeats 4000000 in
theorem t115_0 {X : ai_X} {d w : Nat} (hX : X[1]? = some (39, ai_sh)) (hd : 0 ≤ d) (hw : 0 ≤ w) (x1 : Int32) (m : fm) (Q : Option Value → fm → Prop) (h : ob (g115 x1 m) (fun z : Int32 × fm => Q (some (.int z.1)) z.2)) : fT X d w ai_r115 0 [some (.ref 52), some (.int x1), none] [] m Q := by
  unfold g115 at h
  refine fT_ss 1 (pc' := 1) (L' := [some (.ref 52), some (.int x1), none]) (st' := [.ref 52]) rfl ?_
  refine fT_gr (q := 53) rfl rfl rfl ?_
  refine fT_ss 1 (pc' := 5) (L' := [some (.ref 52), some (.int x1), none]) (st' := [.int x1, .ref 53]) rfl ?_
  refine fO_ia rfl rfl rfl h (fun v1 h => ?_)
  refine fT_ss 3 (pc' := 9) (L' := [some (.ref 52), some (.int x1), some (.int v1)]) (st' := [.int (nI 4), .int v1]) rfl ?_
  refine fO_ic 24 rfl rfl h (fun h => ?_) (fun h => ?_)
  · refine fT_ss 2 (pc' := 29) (L' := [none, none, none]) (st' := [.int (nI 1)]) rfl ?_
    exact fT_r rfl rfl h
  · refine fT_ss 2 (pc' := 15) (L' := [none, none, some (.int v1)]) (st' := [.int (nI 7), .int v1]) rfl ?_
    refine fO_ic 24 rfl rfl h (fun h => ?_) (fun h => ?_)
    · refine fT_ss 2 (pc' := 29) (L' := [none, none, none]) (st' := [.int (nI 1)]) rfl ?_
      exact fT_r rfl rfl h
    · refine fT_ss 2 (pc' := 21) (L' := [none, none, some (.int v1)]) (st' := [.int (nI 9), .int v1]) rfl ?_
      refine fO_ic 28 rfl rfl h (fun h => ?_) (fun h => ?_)
      · refine fT_ss 1 (pc' := 29) (L' := [none, none, none]) (st' := [.int (nI 0)]) rfl ?_
        exact fT_r rfl rfl h
      · refine fT_ss 2 (pc' := 29) (L' := [none, none, none]) (st' := [.int (nI 1)]) rfl ?_
        exact fT_r rfl rfl h
noncomputable def g116_231 (x4 : Int32) (x5 : Int32) (x7 : Int32) (y0 : Int32) (m : fm) : Option ((Int32 × Int32 × fm) ⊕ ((Int32 × fm) ⊕ (fm))) :=
  stI m 63 26 x4 x7 fun m14 =>
  stI m14 62 25 x4 x5 fun m15 =>
  some (.inl (y0, (x4 + (-1)), m15))
set_option maxHeartbeats 4000000 in
theorem t116_231 {X : ai_X} {d w : Nat} (hX : X[1]? = some (39, ai_sh)) (hd : 4 ≤ d) (hw : 94 ≤ w) (x4 : Int32) (x5 : Int32) (x7 : Int32) (y0 : Int32) (m : fm) (Q : Option Value → fm → Prop) (h : ob (g116_231 x4 x5 x7 y0 m) (Sum.elim (fun s : Int32 × Int32 × fm => fT X d w ai_r116 50 [some (.ref 52), none, none, some (.int s.1), some (.int s.2.1), none, none, none] [] s.2.2 Q) (Sum.elim (fun s : Int32 × fm => fT X d w ai_r116 36 [some (.ref 52), none, none, some (.int s.1), none, none, none, none] [] s.2 Q) (fun z : fm => Q none z)))) : fT X d w ai_r116 231 [some (.ref 52), none, none, none, some (.int x4), some (.int x5), none, some (.int x7)] [.int y0] m Q := by
  unfold g116_231 at h
  refine fT_ss 2 (pc' := 233) (L' := [some (.ref 52), none, none, some (.int y0), some (.int x4), some (.int x5), none, some (.int x7)]) (st' := [.ref 52]) rfl ?_
  refine fT_gr (q := 63) rfl rfl rfl ?_
  refine fT_ss 2 (pc' := 240) (L' := [some (.ref 52), none, none, some (.int y0), some (.int x4), some (.int x5), none, some (.int x7)]) (st' := [.int x7, .int x4, .ref 63]) rfl ?_
  refine fO_is rfl rfl h (fun m14 h => ?_)
  refine fT_ss 1 (pc' := 242) (L' := [some (.ref 52), none, none, some (.int y0), some (.int x4), some (.int x5), none, some (.int x7)]) (st' := [.ref 52]) rfl ?_
  refine fT_gr (q := 62) rfl rfl rfl ?_
  refine fT_ss 2 (pc' := 249) (L' := [some (.ref 52), none, none, some (.int y0), some (.int x4), some (.int x5), none, some (.int x7)]) (st' := [.int x5, .int x4, .ref 62]) rfl ?_
  refine fO_is rfl rfl h (fun m15 h => ?_)
  refine fT_ss 2 (pc' := 50) (L' := [some (.ref 52), none, none, some (.int y0), some (.int (x4 + (-1))), none, none, none]) (st' := []) rfl ?_
  replace h := ob_inl h
  exact fT_mk rfl rfl h
noncomputable def g116_180 (x3 : Int32) (x4 : Int32) (x5 : Int32) (y0 : Int32) (m : fm) : Option ((Int32 × Int32 × fm) ⊕ ((Int32 × fm) ⊕ (fm))) :=
  gfI m 52 8 fun v11 =>
  cl2 (g114 (v11 + x4) m) fun v13 m12 =>
  bif ai_c .ne x3 0 then
    g116_231 x4 x5 (v13 ||| y0) (nI 1) m12
  else
    ldI m12 63 26 x4 fun v16 =>
    bif ai_c .ne (v13 ||| y0) v16 then
      g116_231 x4 x5 (v13 ||| y0) (nI 1) m12
    else
      ldI m12 62 25 x4 fun v17 =>
      bif ai_c .eq x5 v17 then
        g116_231 x4 x5 (v13 ||| y0) (nI 0) m12
      else
        g116_231 x4 x5 (v13 ||| y0) (nI 1) m12
set_option maxHeartbeats 4000000 in
theorem t116_180 {X : ai_X} {d w : Nat} (hX : X[1]? = some (39, ai_sh)) (hd : 4 ≤ d) (hw : 94 ≤ w) (x3 : Int32) (x4 : Int32) (x5 : Int32) (y0 : Int32) (m : fm) (Q : Option Value → fm → Prop) (h : ob (g116_180 x3 x4 x5 y0 m) (Sum.elim (fun s : Int32 × Int32 × fm => fT X d w ai_r116 50 [some (.ref 52), none, none, some (.int s.1), some (.int s.2.1), none, none, none] [] s.2.2 Q) (Sum.elim (fun s : Int32 × fm => fT X d w ai_r116 36 [some (.ref 52), none, none, some (.int s.1), none, none, none, none] [] s.2 Q) (fun z : fm => Q none z)))) : fT X d w ai_r116 180 [some (.ref 52), none, none, some (.int x3), some (.int x4), some (.int x5), none, none] [.int y0] m Q := by
  unfold g116_180 at h
  refine fT_ss 3 (pc' := 184) (L' := [some (.ref 52), none, none, some (.int x3), some (.int x4), some (.int x5), some (.int y0), none]) (st' := [.ref 52, .ref 52]) rfl ?_
  refine fO_gi rfl rfl rfl h (fun v11 h => ?_)
  refine fT_ss 2 (pc' := 190) (L' := [some (.ref 52), none, none, some (.int x3), some (.int x4), some (.int x5), some (.int y0), none]) (st' := [.int (v11 + x4), .ref 52]) rfl ?_
  refine fO_qv2 Value.int (r' := ai_r114) (k := 52) (As := [.int (v11 + x4)]) (rest := []) rfl rfl rfl rfl rfl rfl (by omega) (show 19 + 3 ≤ w by omega) (Nat.le_of_ble_eq_true rfl) (Nat.le_of_ble_eq_true rfl) rfl rfl (fun Qc hq => t114_0 hX (show 0 ≤ d - 1 by omega) (show 0 ≤ w - (19 + 3) by omega) _ _ Qc hq) h (fun v13 m12 h => ?_)
  refine fT_ss 4 (pc' := 199) (L' := [some (.ref 52), none, none, some (.int x3), some (.int x4), some (.int x5), some (.int y0), some (.int (v13 ||| y0))]) (st' := [.int x3]) rfl ?_
  refine fO_if 226 rfl rfl h (fun h => ?_) (fun h => ?_)
  · refine fT_ss 2 (pc' := 231) (L' := [some (.ref 52), none, none, none, some (.int x4), some (.int x5), none, some (.int (v13 ||| y0))]) (st' := [.int (nI 1)]) rfl ?_
    exact fT_mk rfl rfl (t116_231 hX hd hw _ _ _ _ _ Q h)
  · refine fT_ss 2 (pc' := 205) (L' := [some (.ref 52), none, none, none, some (.int x4), some (.int x5), none, some (.int (v13 ||| y0))]) (st' := [.ref 52, .int (v13 ||| y0)]) rfl ?_
    refine fT_gr (q := 63) rfl rfl rfl ?_
    refine fT_ss 1 (pc' := 210) (L' := [some (.ref 52), none, none, none, some (.int x4), some (.int x5), none, some (.int (v13 ||| y0))]) (st' := [.int x4, .ref 63, .int (v13 ||| y0)]) rfl ?_
    refine fO_ia rfl rfl rfl h (fun v16 h => ?_)
    refine fO_ic 226 rfl rfl h (fun h => ?_) (fun h => ?_)
    · refine fT_ss 2 (pc' := 231) (L' := [some (.ref 52), none, none, none, some (.int x4), some (.int x5), none, some (.int (v13 ||| y0))]) (st' := [.int (nI 1)]) rfl ?_
      exact fT_mk rfl rfl (t116_231 hX hd hw _ _ _ _ _ Q h)
    · refine fT_ss 2 (pc' := 217) (L' := [some (.ref 52), none, none, none, some (.int x4), some (.int x5), none, some (.int (v13 ||| y0))]) (st' := [.ref 52, .int x5]) rfl ?_
      refine fT_gr (q := 62) rfl rfl rfl ?_
      refine fT_ss 1 (pc' := 222) (L' := [some (.ref 52), none, none, none, some (.int x4), some (.int x5), none, some (.int (v13 ||| y0))]) (st' := [.int x4, .ref 62, .int x5]) rfl ?_
      refine fO_ia rfl rfl rfl h (fun v17 h => ?_)
      refine fO_ic 230 rfl rfl h (fun h => ?_) (fun h => ?_)
      · refine fT_ss 1 (pc' := 231) (L' := [some (.ref 52), none, none, none, some (.int x4), some (.int x5), none, some (.int (v13 ||| y0))]) (st' := [.int (nI 0)]) rfl ?_
        exact fT_mk rfl rfl (t116_231 hX hd hw _ _ _ _ _ Q h)
      · refine fT_ss 2 (pc' := 231) (L' := [some (.ref 52), none, none, none, some (.int x4), some (.int x5), none, some (.int (v13 ||| y0))]) (st' := [.int (nI 1)]) rfl ?_
        exact fT_mk rfl rfl (t116_231 hX hd hw _ _ _ _ _ Q h)
noncomputable def g116_139 (x3 : Int32) (x4 : Int32) (y0 : Int32) (y1 : Int32) (m : fm) : Option ((Int32 × Int32 × fm) ⊕ ((Int32 × fm) ⊕ (fm))) :=
  gfI m 52 8 fun v8 =>
  cl2 (g115 (v8 + x4) m) fun v10 m9 =>
  bif ai_c .eq v10 0 then
    g116_180 x3 x4 (y1 ||| y0) (y1 ||| y0) m9
  else
    gfI m9 52 8 fun v18 =>
    ldI m9 54 384 (v18 + x4) fun v19 =>
    g116_180 x3 x4 (y1 ||| y0) ((y1 ||| y0) &&& (((nI 1) <<< (v19 &&& 31)) ^^^ (-1))) m9
set_option maxHeartbeats 4000000 in
theorem t116_139 {X : ai_X} {d w : Nat} (hX : X[1]? = some (39, ai_sh)) (hd : 4 ≤ d) (hw : 94 ≤ w) (x3 : Int32) (x4 : Int32) (y0 : Int32) (y1 : Int32) (m : fm) (Q : Option Value → fm → Prop) (h : ob (g116_139 x3 x4 y0 y1 m) (Sum.elim (fun s : Int32 × Int32 × fm => fT X d w ai_r116 50 [some (.ref 52), none, none, some (.int s.1), some (.int s.2.1), none, none, none] [] s.2.2 Q) (Sum.elim (fun s : Int32 × fm => fT X d w ai_r116 36 [some (.ref 52), none, none, some (.int s.1), none, none, none, none] [] s.2 Q) (fun z : fm => Q none z)))) : fT X d w ai_r116 139 [some (.ref 52), none, none, some (.int x3), some (.int x4), none, none, none] [.int y0, .int y1] m Q := by
  unfold g116_139 at h
  refine fT_ss 4 (pc' := 144) (L' := [some (.ref 52), none, none, some (.int x3), some (.int x4), some (.int (y1 ||| y0)), none, none]) (st' := [.ref 52, .ref 52]) rfl ?_
  refine fO_gi rfl rfl rfl h (fun v8 h => ?_)
  refine fT_ss 2 (pc' := 150) (L' := [some (.ref 52), none, none, some (.int x3), some (.int x4), some (.int (y1 ||| y0)), none, none]) (st' := [.int (v8 + x4), .ref 52]) rfl ?_
  refine fO_qv2 Value.int (r' := ai_r115) (k := 52) (As := [.int (v8 + x4)]) (rest := []) rfl rfl rfl rfl rfl rfl (by omega) (show 19 + 3 ≤ w by omega) (Nat.le_of_ble_eq_true rfl) (Nat.le_of_ble_eq_true rfl) rfl rfl (fun Qc hq => t115_0 hX (show 0 ≤ d - 1 by omega) (show 0 ≤ w - (19 + 3) by omega) _ _ Qc hq) h (fun v10 m9 h => ?_)
  refine fO_if 178 rfl rfl h (fun h => ?_) (fun h => ?_)
  · refine fT_ss 1 (pc' := 180) (L' := [some (.ref 52), none, none, some (.int x3), some (.int x4), some (.int (y1 ||| y0)), none, none]) (st' := [.int (y1 ||| y0)]) rfl ?_
    exact fT_mk rfl rfl (t116_180 hX hd hw _ _ _ _ _ Q h)
  · refine fT_ss 3 (pc' := 160) (L' := [some (.ref 52), none, none, some (.int x3), some (.int x4), some (.int (y1 ||| y0)), none, none]) (st' := [.ref 52, .int (nI 1), .int (y1 ||| y0)]) rfl ?_
    refine fT_gr (q := 54) rfl rfl rfl ?_
    refine fT_ss 1 (pc' := 164) (L' := [some (.ref 52), none, none, some (.int x3), some (.int x4), some (.int (y1 ||| y0)), none, none]) (st' := [.ref 52, .ref 54, .int (nI 1), .int (y1 ||| y0)]) rfl ?_
    refine fO_gi rfl rfl rfl h (fun v18 h => ?_)
    refine fT_ss 2 (pc' := 170) (L' := [some (.ref 52), none, none, some (.int x3), some (.int x4), some (.int (y1 ||| y0)), none, none]) (st' := [.int (v18 + x4), .ref 54, .int (nI 1), .int (y1 ||| y0)]) rfl ?_
    refine fO_ia rfl rfl rfl h (fun v19 h => ?_)
    refine fT_ss 5 (pc' := 180) (L' := [some (.ref 52), none, none, some (.int x3), some (.int x4), some (.int (y1 ||| y0)), none, none]) (st' := [.int ((y1 ||| y0) &&& (((nI 1) <<< (v19 &&& 31)) ^^^ (-1)))]) rfl ?_
    exact fT_mk rfl rfl (t116_180 hX hd hw _ _ _ _ _ Q h)
noncomputable def g116_98 (x3 : Int32) (x4 : Int32) (y0 : Int32) (m : fm) : Option ((Int32 × Int32 × fm) ⊕ ((Int32 × fm) ⊕ (fm))) :=
  cl2 (g110 x4 m) fun v7 m6 =>
  bif ai_c .eq v7 0 then
    g116_139 x3 x4 (nI 0) y0 m6
  else
    cl2 (g111 x4 m6) fun v21 m20 =>
    gfI m20 52 7 fun v22 =>
    bif ai_c .ge v21 v22 then
      g116_139 x3 x4 (nI 0) y0 m20
    else
      cl2 (g111 x4 m20) fun v24 m23 =>
      ldI m23 63 26 v24 fun v25 =>
      g116_139 x3 x4 v25 y0 m23
set_option maxHeartbeats 4000000 in
theorem t116_98 {X : ai_X} {d w : Nat} (hX : X[1]? = some (39, ai_sh)) (hd : 4 ≤ d) (hw : 94 ≤ w) (x3 : Int32) (x4 : Int32) (y0 : Int32) (m : fm) (Q : Option Value → fm → Prop) (h : ob (g116_98 x3 x4 y0 m) (Sum.elim (fun s : Int32 × Int32 × fm => fT X d w ai_r116 50 [some (.ref 52), none, none, some (.int s.1), some (.int s.2.1), none, none, none] [] s.2.2 Q) (Sum.elim (fun s : Int32 × fm => fT X d w ai_r116 36 [some (.ref 52), none, none, some (.int s.1), none, none, none, none] [] s.2 Q) (fun z : fm => Q none z)))) : fT X d w ai_r116 98 [some (.ref 52), none, none, some (.int x3), some (.int x4), none, none, none] [.int y0] m Q := by
  unfold g116_98 at h
  refine fT_ss 4 (pc' := 105) (L' := [some (.ref 52), none, none, some (.int x3), some (.int x4), some (.int y0), none, none]) (st' := [.int x4, .ref 52, .int y0]) rfl ?_
  refine fO_qv2 Value.int (r' := ai_r110) (k := 52) (As := [.int x4]) (rest := [.int y0]) rfl rfl rfl rfl rfl rfl (by omega) (show 19 + 2 ≤ w by omega) (Nat.le_of_ble_eq_true rfl) (Nat.le_of_ble_eq_true rfl) rfl rfl (fun Qc hq => t110_0 hX (show 1 ≤ d - 1 by omega) (show 25 ≤ w - (19 + 2) by omega) _ _ Qc hq) h (fun v7 m6 h => ?_)
  refine fO_if 138 rfl rfl h (fun h => ?_) (fun h => ?_)
  · refine fT_ss 1 (pc' := 139) (L' := [some (.ref 52), none, none, some (.int x3), some (.int x4), none, none, none]) (st' := [.int (nI 0), .int y0]) rfl ?_
    exact fT_mk rfl rfl (t116_139 hX hd hw _ _ _ _ _ Q h)
  · refine fT_ss 2 (pc' := 114) (L' := [some (.ref 52), none, none, some (.int x3), some (.int x4), none, none, none]) (st' := [.int x4, .ref 52, .int y0]) rfl ?_
    refine fO_qv2 Value.int (r' := ai_r111) (k := 52) (As := [.int x4]) (rest := [.int y0]) rfl rfl rfl rfl rfl rfl (by omega) (show 19 + 2 ≤ w by omega) (Nat.le_of_ble_eq_true rfl) (Nat.le_of_ble_eq_true rfl) rfl rfl (fun Qc hq => t111_0 hX (show 0 ≤ d - 1 by omega) (show 0 ≤ w - (19 + 2) by omega) _ _ Qc hq) h (fun v21 m20 h => ?_)
    refine fT_ss 1 (pc' := 118) (L' := [some (.ref 52), none, none, some (.int x3), some (.int x4), none, none, none]) (st' := [.ref 52, .int v21, .int y0]) rfl ?_
    refine fO_gi rfl rfl rfl h (fun v22 h => ?_)
    refine fO_ic 138 rfl rfl h (fun h => ?_) (fun h => ?_)
    · refine fT_ss 1 (pc' := 139) (L' := [some (.ref 52), none, none, some (.int x3), some (.int x4), none, none, none]) (st' := [.int (nI 0), .int y0]) rfl ?_
      exact fT_mk rfl rfl (t116_139 hX hd hw _ _ _ _ _ Q h)
    · refine fT_ss 1 (pc' := 125) (L' := [some (.ref 52), none, none, some (.int x3), some (.int x4), none, none, none]) (st' := [.ref 52, .int y0]) rfl ?_
      refine fT_gr (q := 63) rfl rfl rfl ?_
      refine fT_ss 2 (pc' := 131) (L' := [some (.ref 52), none, none, some (.int x3), some (.int x4), none, none, none]) (st' := [.int x4, .ref 52, .ref 63, .int y0]) rfl ?_
      refine fO_qv2 Value.int (r' := ai_r111) (k := 52) (As := [.int x4]) (rest := [.ref 63, .int y0]) rfl rfl rfl rfl rfl rfl (by omega) (show 19 + 2 ≤ w by omega) (Nat.le_of_ble_eq_true rfl) (Nat.le_of_ble_eq_true rfl) rfl rfl (fun Qc hq => t111_0 hX (show 0 ≤ d - 1 by omega) (show 0 ≤ w - (19 + 2) by omega) _ _ Qc hq) h (fun v24 m23 h => ?_)
      refine fO_ia rfl rfl rfl h (fun v25 h => ?_)
      refine fT_ss 1 (pc' := 139) (L' := [some (.ref 52), none, none, some (.int x3), some (.int x4), none, none, none]) (st' := [.int v25, .int y0]) rfl ?_
      exact fT_mk rfl rfl (t116_139 hX hd hw _ _ _ _ _ Q h)
noncomputable def s116_50 (x3 : Int32) (x4 : Int32) (m : fm) : Option ((Int32 × Int32 × fm) ⊕ ((Int32 × fm) ⊕ (fm))) :=
  bif ai_c .lt x4 0 then
    some (.inr (.inl (x3, m)))
  else
    ldI m 59 25 x4 fun v3 =>
    bif ai_c .eq v3 0 then
      some (.inl (x3, (x4 + (-1)), m))
    else
      cl2 (g109 x4 m) fun v5 m4 =>
      bif ai_c .eq v5 0 then
        g116_98 x3 x4 (nI 0) m4
      else
        gfI m4 52 7 fun v26 =>
        bif ai_c .ge (x4 + (nI 1)) v26 then
          g116_98 x3 x4 (nI 0) m4
        else
          ldI m4 63 26 (x4 + (nI 1)) fun v27 =>
          g116_98 x3 x4 v27 m4
set_option maxHeartbeats 4000000 in
theorem b116_50 {X : ai_X} {d w : Nat} (hX : X[1]? = some (39, ai_sh)) (hd : 4 ≤ d) (hw : 94 ≤ w) (x3 : Int32) (x4 : Int32) (m : fm) (Q : Option Value → fm → Prop) (h : ob (s116_50 x3 x4 m) (Sum.elim (fun s : Int32 × Int32 × fm => fT X d w ai_r116 50 [some (.ref 52), none, none, some (.int s.1), some (.int s.2.1), none, none, none] [] s.2.2 Q) (Sum.elim (fun s : Int32 × fm => fT X d w ai_r116 36 [some (.ref 52), none, none, some (.int s.1), none, none, none, none] [] s.2 Q) (fun z : fm => Q none z)))) : fT X d w ai_r116 50 [some (.ref 52), none, none, some (.int x3), some (.int x4), none, none, none] [] m Q := by
  unfold s116_50 at h
  refine fT_ss 1 (pc' := 52) (L' := [some (.ref 52), none, none, some (.int x3), some (.int x4), none, none, none]) (st' := [.int x4]) rfl ?_
  refine fO_if 256 rfl rfl h (fun h => ?_) (fun h => ?_)
  · refine fT_ss 1 (pc' := 36) (L' := [some (.ref 52), none, none, some (.int x3), none, none, none, none]) (st' := []) rfl ?_
    replace h := ob_inr h
    replace h := ob_inl h
    exact fT_mk rfl rfl h
  · refine fT_ss 1 (pc' := 56) (L' := [some (.ref 52), none, none, some (.int x3), some (.int x4), none, none, none]) (st' := [.ref 52]) rfl ?_
    refine fT_gr (q := 59) rfl rfl rfl ?_
    refine fT_ss 1 (pc' := 61) (L' := [some (.ref 52), none, none, some (.int x3), some (.int x4), none, none, none]) (st' := [.int x4, .ref 59]) rfl ?_
    refine fO_ba rfl rfl h (fun v3 h => ?_)
    refine fO_if 250 rfl rfl h (fun h => ?_) (fun h => ?_)
    · refine fT_ss 2 (pc' := 50) (L' := [some (.ref 52), none, none, some (.int x3), some (.int (x4 + (-1))), none, none, none]) (st' := []) rfl ?_
      replace h := ob_inl h
      exact fT_mk rfl rfl h
    · refine fT_ss 2 (pc' := 68) (L' := [some (.ref 52), none, none, some (.int x3), some (.int x4), none, none, none]) (st' := [.int x4, .ref 52]) rfl ?_
      refine fO_qv2 Value.int (r' := ai_r109) (k := 52) (As := [.int x4]) (rest := []) rfl rfl rfl rfl rfl rfl (by omega) (show 19 + 3 ≤ w by omega) (Nat.le_of_ble_eq_true rfl) (Nat.le_of_ble_eq_true rfl) rfl rfl (fun Qc hq => t109_0 hX (show 1 ≤ d - 1 by omega) (show 25 ≤ w - (19 + 3) by omega) _ _ Qc hq) h (fun v5 m4 h => ?_)
      refine fO_if 97 rfl rfl h (fun h => ?_) (fun h => ?_)
      · refine fT_ss 1 (pc' := 98) (L' := [some (.ref 52), none, none, some (.int x3), some (.int x4), none, none, none]) (st' := [.int (nI 0)]) rfl ?_
        exact fT_mk rfl rfl (t116_98 hX hd hw _ _ _ _ Q h)
      · refine fT_ss 4 (pc' := 79) (L' := [some (.ref 52), none, none, some (.int x3), some (.int x4), none, none, none]) (st' := [.ref 52, .int (x4 + (nI 1))]) rfl ?_
        refine fO_gi rfl rfl rfl h (fun v26 h => ?_)
        refine fO_ic 97 rfl rfl h (fun h => ?_) (fun h => ?_)
        · refine fT_ss 1 (pc' := 98) (L' := [some (.ref 52), none, none, some (.int x3), some (.int x4), none, none, none]) (st' := [.int (nI 0)]) rfl ?_
          exact fT_mk rfl rfl (t116_98 hX hd hw _ _ _ _ Q h)
        · refine fT_ss 1 (pc' := 86) (L' := [some (.ref 52), none, none, some (.int x3), some (.int x4), none, none, none]) (st' := [.ref 52]) rfl ?_
          refine fT_gr (q := 63) rfl rfl rfl ?_
          refine fT_ss 3 (pc' := 93) (L' := [some (.ref 52), none, none, some (.int x3), some (.int x4), none, none, none]) (st' := [.int (x4 + (nI 1)), .ref 63]) rfl ?_
          refine fO_ia rfl rfl rfl h (fun v27 h => ?_)
          refine fT_ss 1 (pc' := 98) (L' := [some (.ref 52), none, none, some (.int x3), some (.int x4), none, none, none]) (st' := [.int v27]) rfl ?_
          exact fT_mk rfl rfl (t116_98 hX hd hw _ _ _ _ Q h)
noncomputable def g116_50 (x3 : Int32) (x4 : Int32) (m : fm) : Option ((Int32 × fm) ⊕ (fm)) := wl (fun s : Int32 × Int32 × fm => s116_50 s.1 s.2.1 s.2.2) lf (x3, x4, m)
theorem t116_50 {X : ai_X} {d w : Nat} (hX : X[1]? = some (39, ai_sh)) (hd : 4 ≤ d) (hw : 94 ≤ w) (x3 : Int32) (x4 : Int32) (m : fm) (Q : Option Value → fm → Prop) (h : ob (g116_50 x3 x4 m) (Sum.elim (fun s : Int32 × fm => fT X d w ai_r116 36 [some (.ref 52), none, none, some (.int s.1), none, none, none, none] [] s.2 Q) (fun z : fm => Q none z))) : fT X d w ai_r116 50 [some (.ref 52), none, none, some (.int x3), some (.int x4), none, none, none] [] m Q :=
  wl_ob (P := fun s : Int32 × Int32 × fm => fT X d w ai_r116 50 [some (.ref 52), none, none, some (.int s.1), some (.int s.2.1), none, none, none] [] s.2.2 Q) (fun s h => b116_50 hX hd hw s.1 s.2.1 s.2.2 Q h) lf (x3, x4, m) h
noncomputable def s116_36 (x3 : Int32) (m : fm) : Option ((Int32 × fm) ⊕ (fm)) :=
  bif ai_c .eq x3 0 then
    some (.inr m)
  else
    gfI m 52 7 fun v2 =>
    g116_50 (nI 0) (v2 - (nI 1)) m
set_option maxHeartbeats 4000000 in
theorem b116_36 {X : ai_X} {d w : Nat} (hX : X[1]? = some (39, ai_sh)) (hd : 4 ≤ d) (hw : 94 ≤ w) (x3 : Int32) (m : fm) (Q : Option Value → fm → Prop) (h : ob (s116_36 x3 m) (Sum.elim (fun s : Int32 × fm => fT X d w ai_r116 36 [some (.ref 52), none, none, some (.int s.1), none, none, none, none] [] s.2 Q) (fun z : fm => Q none z))) : fT X d w ai_r116 36 [some (.ref 52), none, none, some (.int x3), none, none, none, none] [] m Q := by
  unfold s116_36 at h
  refine fT_ss 1 (pc' := 37) (L' := [some (.ref 52), none, none, some (.int x3), none, none, none, none]) (st' := [.int x3]) rfl ?_
  refine fO_if 259 rfl rfl h (fun h => ?_) (fun h => ?_)
  · exact fT_r rfl rfl h
  · refine fT_ss 3 (pc' := 43) (L' := [some (.ref 52), none, none, some (.int (nI 0)), none, none, none, none]) (st' := [.ref 52]) rfl ?_
    refine fO_gi rfl rfl rfl h (fun v2 h => ?_)
    refine fT_ss 3 (pc' := 50) (L' := [some (.ref 52), none, none, some (.int (nI 0)), some (.int (v2 - (nI 1))), none, none, none]) (st' := []) rfl ?_
    exact fT_mk rfl rfl (t116_50 hX hd hw _ _ _ Q h)
noncomputable def g116_36 (x3 : Int32) (m : fm) : Option (fm) := wl (fun s : Int32 × fm => s116_36 s.1 s.2) lf (x3, m)
theorem t116_36 {X : ai_X} {d w : Nat} (hX : X[1]? = some (39, ai_sh)) (hd : 4 ≤ d) (hw : 94 ≤ w) (x3 : Int32) (m : fm) (Q : Option Value → fm → Prop) (h : ob (g116_36 x3 m) (fun z : fm => Q none z)) : fT X d w ai_r116 36 [some (.ref 52), none, none, some (.int x3), none, none, none, none] [] m Q :=
  wl_ob (P := fun s : Int32 × fm => fT X d w ai_r116 36 [some (.ref 52), none, none, some (.int s.1), none, none, none, none] [] s.2 Q) (fun s h => b116_36 hX hd hw s.1 s.2 Q h) lf (x3, m) h
noncomputable def s116_8 (x3 : Int32) (m : fm) : Option ((Int32 × fm) ⊕ (fm)) :=
  bif ai_c .gt x3 (nI 24) then
    (g116_36 (nI 1) m).map Sum.inr
  else
    stI m 63 26 x3 (nI 0) fun m28 =>
    stI m28 62 25 x3 (nI 0) fun m29 =>
    some (.inl ((x3 + (nI 1)), m29))
set_option maxHeartbeats 4000000 in
theorem b116_8 {X : ai_X} {d w : Nat} (hX : X[1]? = some (39, ai_sh)) (hd : 4 ≤ d) (hw : 94 ≤ w) (x3 : Int32) (m : fm) (Q : Option Value → fm → Prop) (h : ob (s116_8 x3 m) (Sum.elim (fun s : Int32 × fm => fT X d w ai_r116 8 [some (.ref 52), none, none, some (.int s.1), none, none, none, none] [] s.2 Q) (fun z : fm => Q none z))) : fT X d w ai_r116 8 [some (.ref 52), none, none, some (.int x3), none, none, none, none] [] m Q := by
  unfold s116_8 at h
  refine fT_ss 2 (pc' := 11) (L' := [some (.ref 52), none, none, some (.int x3), none, none, none, none]) (st' := [.int (nI 24), .int x3]) rfl ?_
  refine fO_ic 34 rfl rfl h (fun h => ?_) (fun h => ?_)
  · refine fT_ss 2 (pc' := 36) (L' := [some (.ref 52), none, none, some (.int (nI 1)), none, none, none, none]) (st' := []) rfl ?_
    exact fT_mk rfl rfl (t116_36 hX hd hw _ _ Q (ob_mapR h))
  · refine fT_ss 1 (pc' := 15) (L' := [some (.ref 52), none, none, some (.int x3), none, none, none, none]) (st' := [.ref 52]) rfl ?_
    refine fT_gr (q := 63) rfl rfl rfl ?_
    refine fT_ss 2 (pc' := 20) (L' := [some (.ref 52), none, none, some (.int x3), none, none, none, none]) (st' := [.int (nI 0), .int x3, .ref 63]) rfl ?_
    refine fO_is rfl rfl h (fun m28 h => ?_)
    refine fT_ss 1 (pc' := 22) (L' := [some (.ref 52), none, none, some (.int x3), none, none, none, none]) (st' := [.ref 52]) rfl ?_
    refine fT_gr (q := 62) rfl rfl rfl ?_
    refine fT_ss 2 (pc' := 27) (L' := [some (.ref 52), none, none, some (.int x3), none, none, none, none]) (st' := [.int (nI 0), .int x3, .ref 62]) rfl ?_
    refine fO_is rfl rfl h (fun m29 h => ?_)
    refine fT_ss 2 (pc' := 8) (L' := [some (.ref 52), none, none, some (.int (x3 + (nI 1))), none, none, none, none]) (st' := []) rfl ?_
    replace h := ob_inl h
    exact fT_mk rfl rfl h
noncomputable def g116_8 (x3 : Int32) (m : fm) : Option (fm) := wl (fun s : Int32 × fm => s116_8 s.1 s.2) lf (x3, m)
theorem t116_8 {X : ai_X} {d w : Nat} (hX : X[1]? = some (39, ai_sh)) (hd : 4 ≤ d) (hw : 94 ≤ w) (x3 : Int32) (m : fm) (Q : Option Value → fm → Prop) (h : ob (g116_8 x3 m) (fun z : fm => Q none z)) : fT X d w ai_r116 8 [some (.ref 52), none, none, some (.int x3), none, none, none, none] [] m Q :=
  wl_ob (P := fun s : Int32 × fm => fT X d w ai_r116 8 [some (.ref 52), none, none, some (.int s.1), none, none, none, none] [] s.2 Q) (fun s h => b116_8 hX hd hw s.1 s.2 Q h) lf (x3, m) h
noncomputable def g116 (x1 : Int32) (x2 : Int32) (m : fm) : Option (fm) :=
  cl1 (g113 x1 x2 m) fun m1 =>
  g116_8 (nI 0) m1
set_option maxHeartbeats 4000000 in
theorem t116_0 {X : ai_X} {d w : Nat} (hX : X[1]? = some (39, ai_sh)) (hd : 4 ≤ d) (hw : 94 ≤ w) (x1 : Int32) (x2 : Int32) (m : fm) (Q : Option Value → fm → Prop) (h : ob (g116 x1 x2 m) (fun z : fm => Q none z)) : fT X d w ai_r116 0 [some (.ref 52), some (.int x1), some (.int x2), none, none, none, none, none] [] m Q := by
  unfold g116 at h
  refine fT_ss 3 (pc' := 3) (L' := [some (.ref 52), some (.int x1), some (.int x2), none, none, none, none, none]) (st' := [.int x2, .int x1, .ref 52]) rfl ?_
  refine fO_qv1 (r' := ai_r113) (k := 52) (As := [.int x1, .int x2]) (rest := []) rfl rfl rfl rfl rfl rfl (by omega) (show 19 + 4 ≤ w by omega) (Nat.le_of_ble_eq_true rfl) (Nat.le_of_ble_eq_true rfl) rfl rfl (fun Qc hq => t113_0 hX (show 3 ≤ d - 1 by omega) (show 71 ≤ w - (19 + 4) by omega) _ _ _ Qc hq) h (fun m1 h => ?_)
  refine fT_ss 2 (pc' := 8) (L' := [some (.ref 52), some (.int x1), some (.int x2), some (.int (nI 0)), none, none, none, none]) (st' := []) rfl ?_
  exact fT_mk rfl rfl (t116_8 hX hd hw _ _ Q h)
