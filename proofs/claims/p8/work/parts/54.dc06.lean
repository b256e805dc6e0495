noncomputable def g117_77 (x1 : Int32) (x2 : Int32) (y0 : Int32) (m : fm) : Option (Int32 × fm) :=
  bif ai_c .eq y0 0 then
    some ((nI 0), m)
  else
    ldI m 62 25 x1 fun v4 =>
    ldI m 54 384 x2 fun v5 =>
    bif ai_c .ne ((v4 >>> (v5 &&& 31)) &&& (nI 1)) 0 then
      some ((nI 0), m)
    else
      some ((nI 1), m)
set_option maxHeartbeats 4000000 in
theorem t117_77 {X : ai_X} {d w : Nat} (hX : X[1]? = some (39, ai_sh)) (hd : 0 ≤ d) (hw : 0 ≤ w) (x1 : Int32) (x2 : Int32) (y0 : Int32) (m : fm) (Q : Option Value → fm → Prop) (h : ob (g117_77 x1 x2 y0 m) (fun z : Int32 × fm => Q (some (.int z.1)) z.2)) : fT X d w ai_r117 77 [some (.ref 52), some (.int x1), some (.int x2), none, none, none, none] [.int y0] m Q := by
  unfold g117_77 at h
  refine fT_ss 2 (pc' := 81) (L' := [some (.ref 52), some (.int x1), some (.int x2), none, none, none, some (.int y0)]) (st' := [.int y0]) rfl ?_
  refine fO_if 106 rfl rfl h (fun h => ?_) (fun h => ?_)
  · refine fT_ss 1 (pc' := 107) (L' := [none, none, none, none, none, none, none]) (st' := [.int (nI 0)]) rfl ?_
    exact fT_r rfl rfl h
  · refine fT_ss 1 (pc' := 85) (L' := [some (.ref 52), some (.int x1), some (.int x2), none, none, none, none]) (st' := [.ref 52]) rfl ?_
    refine fT_gr (q := 62) rfl rfl rfl ?_
    refine fT_ss 1 (pc' := 89) (L' := [some (.ref 52), some (.int x1), some (.int x2), none, none, none, none]) (st' := [.int x1, .ref 62]) rfl ?_
    refine fO_ia rfl rfl rfl h (fun v4 h => ?_)
    refine fT_ss 1 (pc' := 91) (L' := [some (.ref 52), some (.int x1), some (.int x2), none, none, none, none]) (st' := [.ref 52, .int v4]) rfl ?_
    refine fT_gr (q := 54) rfl rfl rfl ?_
    refine fT_ss 1 (pc' := 95) (L' := [some (.ref 52), some (.int x1), some (.int x2), none, none, none, none]) (st' := [.int x2, .ref 54, .int v4]) rfl ?_
    refine fO_ia rfl rfl rfl h (fun v5 h => ?_)
    refine fT_ss 3 (pc' := 99) (L' := [some (.ref 52), some (.int x1), some (.int x2), none, none, none, none]) (st' := [.int ((v4 >>> (v5 &&& 31)) &&& (nI 1))]) rfl ?_
    refine fO_if 106 rfl rfl h (fun h => ?_) (fun h => ?_)
    · refine fT_ss 1 (pc' := 107) (L' := [none, none, none, none, none, none, none]) (st' := [.int (nI 0)]) rfl ?_
      exact fT_r rfl rfl h
    · refine fT_ss 2 (pc' := 107) (L' := [none, none, none, none, none, none, none]) (st' := [.int (nI 1)]) rfl ?_
      exact fT_r rfl rfl h
noncomputable def g117_36 (x1 : Int32) (x2 : Int32) (x3 : Int32) (y0 : Int32) (y1 : Int32) (m : fm) : Option (Int32 × fm) :=
  ldL m 60 100 (y1 + y0) fun v3 =>
  bif ai_c .le x3 (nI 3) then
    g117_77 x1 x2 (nI 1) m
  else
    bif ai_c .eq x3 (nI 7) then
      g117_77 x1 x2 (nI 1) m
    else
      bif ai_c .ne x3 (nI 4) then
        g117_77 x1 x2 (nI 0) m
      else
        bif ai_c .eq (lg_cmp v3 (Int64.ofNat 1000000000000)) 0 then
          g117_77 x1 x2 (nI 0) m
        else
          bif ai_c .eq (lg_cmp v3 (Int64.ofNat 0)) 0 then
            g117_77 x1 x2 (nI 0) m
          else
            g117_77 x1 x2 (nI 1) m
set_option maxHeartbeats 4000000 in
theorem t117_36 {X : ai_X} {d w : Nat} (hX : X[1]? = some (39, ai_sh)) (hd : 0 ≤ d) (hw : 0 ≤ w) (x1 : Int32) (x2 : Int32) (x3 : Int32) (y0 : Int32) (y1 : Int32) (m : fm) (Q : Option Value → fm → Prop) (h : ob (g117_36 x1 x2 x3 y0 y1 m) (fun z : Int32 × fm => Q (some (.int z.1)) z.2)) : fT X d w ai_r117 36 [some (.ref 52), some (.int x1), some (.int x2), some (.int x3), none, none, none] [.int y0, .int y1, .ref 60] m Q := by
  unfold g117_36 at h
  refine fT_ss 1 (pc' := 37) (L' := [some (.ref 52), some (.int x1), some (.int x2), some (.int x3), none, none, none]) (st' := [.int (y1 + y0), .ref 60]) rfl ?_
  refine fO_la rfl rfl h (fun v3 h => ?_)
  refine fT_ss 3 (pc' := 42) (L' := [some (.ref 52), some (.int x1), some (.int x2), some (.int x3), some (.long v3), none, none]) (st' := [.int (nI 3), .int x3]) rfl ?_
  refine fO_ic 72 rfl rfl h (fun h => ?_) (fun h => ?_)
  · refine fT_ss 2 (pc' := 77) (L' := [some (.ref 52), some (.int x1), some (.int x2), none, none, none, none]) (st' := [.int (nI 1)]) rfl ?_
    exact fT_mk rfl rfl (t117_77 hX hd hw _ _ _ _ Q h)
  · refine fT_ss 2 (pc' := 48) (L' := [some (.ref 52), some (.int x1), some (.int x2), some (.int x3), some (.long v3), none, none]) (st' := [.int (nI 7), .int x3]) rfl ?_
    refine fO_ic 72 rfl rfl h (fun h => ?_) (fun h => ?_)
    · refine fT_ss 2 (pc' := 77) (L' := [some (.ref 52), some (.int x1), some (.int x2), none, none, none, none]) (st' := [.int (nI 1)]) rfl ?_
      exact fT_mk rfl rfl (t117_77 hX hd hw _ _ _ _ Q h)
    · refine fT_ss 2 (pc' := 53) (L' := [some (.ref 52), some (.int x1), some (.int x2), some (.int x3), some (.long v3), none, none]) (st' := [.int (nI 4), .int x3]) rfl ?_
      refine fO_ic 76 rfl rfl h (fun h => ?_) (fun h => ?_)
      · refine fT_ss 1 (pc' := 77) (L' := [some (.ref 52), some (.int x1), some (.int x2), none, none, none, none]) (st' := [.int (nI 0)]) rfl ?_
        exact fT_mk rfl rfl (t117_77 hX hd hw _ _ _ _ Q h)
      · refine fT_ss 1 (pc' := 58) (L' := [some (.ref 52), some (.int x1), some (.int x2), none, some (.long v3), none, none]) (st' := [.long v3]) rfl ?_
        refine fT_lc rfl ?_
        refine fT_ss 1 (pc' := 62) (L' := [some (.ref 52), some (.int x1), some (.int x2), none, some (.long v3), none, none]) (st' := [.int (lg_cmp v3 (Int64.ofNat 1000000000000))]) rfl ?_
        refine fO_if 76 rfl rfl h (fun h => ?_) (fun h => ?_)
        · refine fT_ss 1 (pc' := 77) (L' := [some (.ref 52), some (.int x1), some (.int x2), none, none, none, none]) (st' := [.int (nI 0)]) rfl ?_
          exact fT_mk rfl rfl (t117_77 hX hd hw _ _ _ _ Q h)
        · refine fT_ss 3 (pc' := 69) (L' := [some (.ref 52), some (.int x1), some (.int x2), none, some (.long v3), none, none]) (st' := [.int (lg_cmp v3 (Int64.ofNat 0))]) rfl ?_
          refine fO_if 76 rfl rfl h (fun h => ?_) (fun h => ?_)
          · refine fT_ss 1 (pc' := 77) (L' := [some (.ref 52), some (.int x1), some (.int x2), none, none, none, none]) (st' := [.int (nI 0)]) rfl ?_
            exact fT_mk rfl rfl (t117_77 hX hd hw _ _ _ _ Q h)
          · refine fT_ss 2 (pc' := 77) (L' := [some (.ref 52), some (.int x1), some (.int x2), none, none, none, none]) (st' := [.int (nI 1)]) rfl ?_
            exact fT_mk rfl rfl (t117_77 hX hd hw _ _ _ _ Q h)
noncomputable def g117 (x1 : Int32) (m : fm) : Option (Int32 × fm) :=
  gfI m 52 8 fun v1 =>
  ldI m 53 384 (v1 + x1) fun v2 =>
  bif ai_c .ne v2 (nI 4) then
    g117_36 x1 (v1 + x1) v2 (nI 0) ((nI 4) * x1) m
  else
    ldI m 56 384 (v1 + x1) fun v6 =>
    g117_36 x1 (v1 + x1) v2 v6 ((nI 4) * x1) m
set_option maxHeartbeats 4000000 in
theorem t117_0 {X : ai_X} {d w : Nat} (hX : X[1]? = some (39, ai_sh)) (hd : 0 ≤ d) (hw : 0 ≤ w) (x1 : Int32) (m : fm) (Q : Option Value → fm → Prop) (h : ob (g117 x1 m) (fun z : Int32 × fm => Q (some (.int z.1)) z.2)) : fT X d w ai_r117 0 [some (.ref 52), some (.int x1), none, none, none, none, none] [] m Q := by
  unfold g117 at h
  refine fT_ss 1 (pc' := 1) (L' := [some (.ref 52), some (.int x1), none, none, none, none, none]) (st' := [.ref 52]) rfl ?_
  refine fO_gi rfl rfl rfl h (fun v1 h => ?_)
  refine fT_ss 4 (pc' := 8) (L' := [some (.ref 52), some (.int x1), some (.int (v1 + x1)), none, none, none, none]) (st' := [.ref 52]) rfl ?_
  refine fT_gr (q := 53) rfl rfl rfl ?_
  refine fT_ss 1 (pc' := 12) (L' := [some (.ref 52), some (.int x1), some (.int (v1 + x1)), none, none, none, none]) (st' := [.int (v1 + x1), .ref 53]) rfl ?_
  refine fO_ia rfl rfl rfl h (fun v2 h => ?_)
  refine fT_ss 2 (pc' := 15) (L' := [some (.ref 52), some (.int x1), some (.int (v1 + x1)), some (.int v2), none, none, none]) (st' := [.ref 52]) rfl ?_
  refine fT_gr (q := 60) rfl rfl rfl ?_
  refine fT_ss 5 (pc' := 23) (L' := [some (.ref 52), some (.int x1), some (.int (v1 + x1)), some (.int v2), none, none, none]) (st' := [.int (nI 4), .int v2, .int ((nI 4) * x1), .ref 60]) rfl ?_
  refine fO_ic 35 rfl rfl h (fun h => ?_) (fun h => ?_)
  · refine fT_ss 1 (pc' := 36) (L' := [some (.ref 52), some (.int x1), some (.int (v1 + x1)), some (.int v2), none, none, none]) (st' := [.int (nI 0), .int ((nI 4) * x1), .ref 60]) rfl ?_
    exact fT_mk rfl rfl (t117_36 hX hd hw _ _ _ _ _ _ Q h)
  · refine fT_ss 1 (pc' := 27) (L' := [some (.ref 52), some (.int x1), some (.int (v1 + x1)), some (.int v2), none, none, none]) (st' := [.ref 52, .int ((nI 4) * x1), .ref 60]) rfl ?_
    refine fT_gr (q := 56) rfl rfl rfl ?_
    refine fT_ss 1 (pc' := 31) (L' := [some (.ref 52), some (.int x1), some (.int (v1 + x1)), some (.int v2), none, none, none]) (st' := [.int (v1 + x1), .ref 56, .int ((nI 4) * x1), .ref 60]) rfl ?_
    refine fO_ia rfl rfl rfl h (fun v6 h => ?_)
    refine fT_ss 1 (pc' := 36) (L' := [some (.ref 52), some (.int x1), some (.int (v1 + x1)), some (.int v2), none, none, none]) (st' := [.int v6, .int ((nI 4) * x1), .ref 60]) rfl ?_
    exact fT_mk rfl rfl (t117_36 hX hd hw _ _ _ _ _ _ Q h)
noncomputable def g118_113 (x1 : Int32) (x3 : Int32) (m : fm) : Option (Int32 × fm) :=
  cl2 (g117 x1 m) fun v5 m4 =>
  bif ai_c .eq v5 0 then
    some ((x3 + (nI 0)), m4)
  else
    some ((x3 + (nI 8)), m4)
set_option maxHeartbeats 4000000 in
theorem t118_113 {X : ai_X} {d w : Nat} (hX : X[1]? = some (39, ai_sh)) (hd : 1 ≤ d) (hw : 26 ≤ w) (x1 : Int32) (x3 : Int32) (m : fm) (Q : Option Value → fm → Prop) (h : ob (g118_113 x1 x3 m) (fun z : Int32 × fm => Q (some (.int z.1)) z.2)) : fT X d w ai_r118 113 [some (.ref 52), some (.int x1), none, some (.int x3), none, none] [] m Q := by
  unfold g118_113 at h
  refine fT_ss 3 (pc' := 116) (L' := [some (.ref 52), some (.int x1), none, some (.int x3), none, none]) (st' := [.int x1, .ref 52, .int x3]) rfl ?_
  refine fO_qv2 Value.int (r' := ai_r117) (k := 52) (As := [.int x1]) (rest := [.int x3]) rfl rfl rfl rfl rfl rfl (by omega) (show 19 + 7 ≤ w by omega) (Nat.le_of_ble_eq_true rfl) (Nat.le_of_ble_eq_true rfl) rfl rfl (fun Qc hq => t117_0 hX (show 0 ≤ d - 1 by omega) (show 0 ≤ w - (19 + 7) by omega) _ _ Qc hq) h (fun v5 m4 h => ?_)
  refine fO_if 127 rfl rfl h (fun h => ?_) (fun h => ?_)
  · refine fT_ss 2 (pc' := 129) (L' := [none, none, none, none, none, none]) (st' := [.int (x3 + (nI 0))]) rfl ?_
    exact fT_r rfl rfl h
  · refine fT_ss 3 (pc' := 129) (L' := [none, none, none, none, none, none]) (st' := [.int (x3 + (nI 8))]) rfl ?_
    exact fT_r rfl rfl h
noncomputable def g118_60 (x1 : Int32) (x2 : Int32) (x3 : Int32) (m : fm) : Option (Int32 × fm) :=
  bif ai_c .ne x2 (nI 11) then
    g118_113 x1 x3 m
  else
    gfI m 52 8 fun v6 =>
    ldI m 54 384 (v6 + x1) fun v7 =>
    ldL m 60 100 (((nI 4) * x1) + v7) fun v8 =>
    bif ai_c .eq (lg_cmp v8 (Int64.ofNat 1000000000000)) 0 then
      g118_113 x1 (x3 + (nI 0)) m
    else
      bif ai_c .eq (lg_cmp v8 (Int64.ofNat 0)) 0 then
        g118_113 x1 (x3 + (nI 0)) m
      else
        g118_113 x1 (x3 + (nI 16)) m
set_option maxHeartbeats 4000000 in
theorem t118_60 {X : ai_X} {d w : Nat} (hX : X[1]? = some (39, ai_sh)) (hd : 1 ≤ d) (hw : 26 ≤ w) (x1 : Int32) (x2 : Int32) (x3 : Int32) (m : fm) (Q : Option Value → fm → Prop) (h : ob (g118_60 x1 x2 x3 m) (fun z : Int32 × fm => Q (some (.int z.1)) z.2)) : fT X d w ai_r118 60 [some (.ref 52), some (.int x1), some (.int x2), some (.int x3), none, none] [] m Q := by
  unfold g118_60 at h
  refine fT_ss 2 (pc' := 63) (L' := [some (.ref 52), some (.int x1), some (.int x2), some (.int x3), none, none]) (st' := [.int (nI 11), .int x2]) rfl ?_
  refine fO_ic 113 rfl rfl h (fun h => ?_) (fun h => ?_)
  · exact fT_mk rfl rfl (t118_113 hX hd hw _ _ _ Q h)
  · refine fT_ss 1 (pc' := 67) (L' := [some (.ref 52), some (.int x1), none, some (.int x3), none, none]) (st' := [.ref 52]) rfl ?_
    refine fT_gr (q := 60) rfl rfl rfl ?_
    refine fT_ss 4 (pc' := 74) (L' := [some (.ref 52), some (.int x1), none, some (.int x3), none, none]) (st' := [.ref 52, .int ((nI 4) * x1), .ref 60]) rfl ?_
    refine fT_gr (q := 54) rfl rfl rfl ?_
    refine fT_ss 1 (pc' := 78) (L' := [some (.ref 52), some (.int x1), none, some (.int x3), none, none]) (st' := [.ref 52, .ref 54, .int ((nI 4) * x1), .ref 60]) rfl ?_
    refine fO_gi rfl rfl rfl h (fun v6 h => ?_)
    refine fT_ss 2 (pc' := 83) (L' := [some (.ref 52), some (.int x1), none, some (.int x3), none, none]) (st' := [.int (v6 + x1), .ref 54, .int ((nI 4) * x1), .ref 60]) rfl ?_
    refine fO_ia rfl rfl rfl h (fun v7 h => ?_)
    refine fT_ss 1 (pc' := 85) (L' := [some (.ref 52), some (.int x1), none, some (.int x3), none, none]) (st' := [.int (((nI 4) * x1) + v7), .ref 60]) rfl ?_
    refine fO_la rfl rfl h (fun v8 h => ?_)
    refine fT_ss 3 (pc' := 91) (L' := [some (.ref 52), some (.int x1), none, some (.int x3), some (.long v8), none]) (st' := [.long v8, .int x3]) rfl ?_
    refine fT_lc rfl ?_
    refine fT_ss 1 (pc' := 95) (L' := [some (.ref 52), some (.int x1), none, some (.int x3), some (.long v8), none]) (st' := [.int (lg_cmp v8 (Int64.ofNat 1000000000000)), .int x3]) rfl ?_
    refine fO_if 110 rfl rfl h (fun h => ?_) (fun h => ?_)
    · refine fT_ss 3 (pc' := 113) (L' := [some (.ref 52), some (.int x1), none, some (.int (x3 + (nI 0))), none, none]) (st' := []) rfl ?_
      exact fT_mk rfl rfl (t118_113 hX hd hw _ _ _ Q h)
    · refine fT_ss 3 (pc' := 102) (L' := [some (.ref 52), some (.int x1), none, none, some (.long v8), none]) (st' := [.int (lg_cmp v8 (Int64.ofNat 0)), .int x3]) rfl ?_
      refine fO_if 110 rfl rfl h (fun h => ?_) (fun h => ?_)
      · refine fT_ss 3 (pc' := 113) (L' := [some (.ref 52), some (.int x1), none, some (.int (x3 + (nI 0))), none, none]) (st' := []) rfl ?_
        exact fT_mk rfl rfl (t118_113 hX hd hw _ _ _ Q h)
      · refine fT_ss 4 (pc' := 113) (L' := [some (.ref 52), some (.int x1), none, some (.int (x3 + (nI 16))), none, none]) (st' := []) rfl ?_
        exact fT_mk rfl rfl (t118_113 hX hd hw _ _ _ Q h)
noncomputable def g118 (x1 : Int32) (m : fm) : Option (Int32 × fm) :=
  ldI m 59 25 x1 fun v1 =>
  bif ai_c .ne v1 0 then
    gfI m 52 8 fun v2 =>
    ldI m 53 384 (v2 + x1) fun v3 =>
    bif ai_c .ne v3 (nI 5) then
      g118_60 x1 v3 (nI 1) m
    else
      cl2 (g108 x1 m) fun v10 m9 =>
      bif ai_c .ne v10 (nI 1) then
        bif ai_c .ne v10 0 then
          g118_60 x1 v3 ((nI 1) + (nI 0)) m9
        else
          g118_60 x1 v3 ((nI 1) + (nI 4)) m9
      else
        g118_60 x1 v3 ((nI 1) + (nI 2)) m9
  else
    some ((nI 0), m)
set_option maxHeartbeats 4000000 in
theorem t118_0 {X : ai_X} {d w : Nat} (hX : X[1]? = some (39, ai_sh)) (hd : 1 ≤ d) (hw : 26 ≤ w) (x1 : Int32) (m : fm) (Q : Option Value → fm → Prop) (h : ob (g118 x1 m) (fun z : Int32 × fm => Q (some (.int z.1)) z.2)) : fT X d w ai_r118 0 [some (.ref 52), some (.int x1), none, none, none, none] [] m Q := by
  unfold g118 at h
  refine fT_ss 1 (pc' := 1) (L' := [some (.ref 52), some (.int x1), none, none, none, none]) (st' := [.ref 52]) rfl ?_
  refine fT_gr (q := 59) rfl rfl rfl ?_
  refine fT_ss 1 (pc' := 5) (L' := [some (.ref 52), some (.int x1), none, none, none, none]) (st' := [.int x1, .ref 59]) rfl ?_
  refine fO_ba rfl rfl h (fun v1 h => ?_)
  refine fO_if 11 rfl rfl h (fun h => ?_) (fun h => ?_)
  · refine fT_ss 1 (pc' := 12) (L' := [some (.ref 52), some (.int x1), none, none, none, none]) (st' := [.ref 52]) rfl ?_
    refine fT_gr (q := 53) rfl rfl rfl ?_
    refine fT_ss 1 (pc' := 16) (L' := [some (.ref 52), some (.int x1), none, none, none, none]) (st' := [.ref 52, .ref 53]) rfl ?_
    refine fO_gi rfl rfl rfl h (fun v2 h => ?_)
    refine fT_ss 2 (pc' := 21) (L' := [some (.ref 52), some (.int x1), none, none, none, none]) (st' := [.int (v2 + x1), .ref 53]) rfl ?_
    refine fO_ia rfl rfl rfl h (fun v3 h => ?_)
    refine fT_ss 5 (pc' := 27) (L' := [some (.ref 52), some (.int x1), some (.int v3), some (.int (nI 1)), none, none]) (st' := [.int (nI 5), .int v3]) rfl ?_
    refine fO_ic 60 rfl rfl h (fun h => ?_) (fun h => ?_)
    · exact fT_mk rfl rfl (t118_60 hX hd hw _ _ _ _ Q h)
    · refine fT_ss 2 (pc' := 32) (L' := [some (.ref 52), some (.int x1), some (.int v3), some (.int (nI 1)), none, none]) (st' := [.int x1, .ref 52]) rfl ?_
      refine fO_qv2 Value.int (r' := ai_r108) (k := 52) (As := [.int x1]) (rest := []) rfl rfl rfl rfl rfl rfl (by omega) (show 19 + 6 ≤ w by omega) (Nat.le_of_ble_eq_true rfl) (Nat.le_of_ble_eq_true rfl) rfl rfl (fun Qc hq => t108_0 hX (show 0 ≤ d - 1 by omega) (show 0 ≤ w - (19 + 6) by omega) _ _ Qc hq) h (fun v10 m9 h => ?_)
      refine fT_ss 4 (pc' := 41) (L' := [some (.ref 52), some (.int x1), some (.int v3), some (.int (nI 1)), some (.int v10), none]) (st' := [.int (nI 1), .int v10, .int (nI 1)]) rfl ?_
      refine fO_ic 48 rfl rfl h (fun h => ?_) (fun h => ?_)
      · refine fT_ss 1 (pc' := 50) (L' := [some (.ref 52), some (.int x1), some (.int v3), none, some (.int v10), none]) (st' := [.int v10, .int (nI 1)]) rfl ?_
        refine fO_if 57 rfl rfl h (fun h => ?_) (fun h => ?_)
        · refine fT_ss 3 (pc' := 60) (L' := [some (.ref 52), some (.int x1), some (.int v3), some (.int ((nI 1) + (nI 0))), none, none]) (st' := []) rfl ?_
          exact fT_mk rfl rfl (t118_60 hX hd hw _ _ _ _ Q h)
        · refine fT_ss 4 (pc' := 60) (L' := [some (.ref 52), some (.int x1), some (.int v3), some (.int ((nI 1) + (nI 4))), none, none]) (st' := []) rfl ?_
          exact fT_mk rfl rfl (t118_60 hX hd hw _ _ _ _ Q h)
      · refine fT_ss 4 (pc' := 60) (L' := [some (.ref 52), some (.int x1), some (.int v3), some (.int ((nI 1) + (nI 2))), none, none]) (st' := []) rfl ?_
        exact fT_mk rfl rfl (t118_60 hX hd hw _ _ _ _ Q h)
  · refine fT_ss 1 (pc' := 10) (L' := [none, none, none, none, none, none]) (st' := [.int (nI 0)]) rfl ?_
    exact fT_r rfl rfl h
noncomputable def g119 (x1 : Int32) (x2 : Int32) (m : fm) : Option (Int32 × fm) :=
  cl2 (g96 x1 m) fun v2 m1 =>
  bif ai_c .eq v2 0 then
    some ((nI 0), m1)
  else
    ldI m1 57 16 x1 fun v3 =>
    cl2 (g95 x2 (nI 0) (v3 - (nI 1)) m1) fun v5 m4 =>
    bif ai_c .eq v5 0 then
      some ((nI 0), m4)
    else
      some ((nI 1), m4)
set_option maxHeartbeats 4000000 in
theorem t119_0 {X : ai_X} {d w : Nat} (hX : X[1]? = some (39, ai_sh)) (hd : 2 ≤ d) (hw : 42 ≤ w) (x1 : Int32) (x2 : Int32) (m : fm) (Q : Option Value → fm → Prop) (h : ob (g119 x1 x2 m) (fun z : Int32 × fm => Q (some (.int z.1)) z.2)) : fT X d w ai_r119 0 [some (.ref 52), some (.int x1), some (.int x2)] [] m Q := by
  unfold g119 at h
  refine fT_ss 1 (pc' := 1) (L' := [some (.ref 52), some (.int x1), some (.int x2)]) (st' := [.int x1]) rfl ?_
  refine fO_qs2 Value.int (r' := ai_r96) (As := [.int x1]) (rest := []) rfl rfl rfl rfl rfl rfl (by omega) (show 19 + 1 ≤ w by omega) (Nat.le_of_ble_eq_true rfl) (Nat.le_of_ble_eq_true rfl) rfl rfl (fun Qc hq => t96_0 hX (show 1 ≤ d - 1 by omega) (show 22 ≤ w - (19 + 1) by omega) _ _ Qc hq) h (fun v2 m1 h => ?_)
  refine fO_if 27 rfl rfl h (fun h => ?_) (fun h => ?_)
  · refine fT_ss 1 (pc' := 28) (L' := [none, none, none]) (st' := [.int (nI 0)]) rfl ?_
    exact fT_r rfl rfl h
  · refine fT_ss 3 (pc' := 10) (L' := [some (.ref 52), some (.int x1), some (.int x2)]) (st' := [.ref 52, .int (nI 0), .int x2]) rfl ?_
    refine fT_gr (q := 57) rfl rfl rfl ?_
    refine fT_ss 1 (pc' := 14) (L' := [some (.ref 52), some (.int x1), some (.int x2)]) (st' := [.int x1, .ref 57, .int (nI 0), .int x2]) rfl ?_
    refine fO_ia rfl rfl rfl h (fun v3 h => ?_)
    refine fT_ss 2 (pc' := 17) (L' := [some (.ref 52), some (.int x1), some (.int x2)]) (st' := [.int (v3 - (nI 1)), .int (nI 0), .int x2]) rfl ?_
    refine fO_qs2 Value.int (r' := ai_r95) (As := [.int x2, .int (nI 0), .int (v3 - (nI 1))]) (rest := []) rfl rfl rfl rfl rfl rfl (by omega) (show 19 + 3 ≤ w by omega) (Nat.le_of_ble_eq_true rfl) (Nat.le_of_ble_eq_true rfl) rfl rfl (fun Qc hq => t95_0 hX (show 0 ≤ d - 1 by omega) (show 0 ≤ w - (19 + 3) by omega) _ _ _ _ Qc hq) h (fun v5 m4 h => ?_)
    refine fO_if 27 rfl rfl h (fun h => ?_) (fun h => ?_)
    · refine fT_ss 1 (pc' := 28) (L' := [none, none, none]) (st' := [.int (nI 0)]) rfl ?_
      exact fT_r rfl rfl h
    · refine fT_ss 2 (pc' := 28) (L' := [none, none, none]) (st' := [.int (nI 1)]) rfl ?_
      exact fT_r rfl rfl h
noncomputable def g120 (x1 : Int32) (x2 : Int32) (m : fm) : Option (Int32 × fm) :=
  cl2 (g119 x1 x2 m) fun v2 m1 =>
  bif ai_c .ne v2 0 then
    cl1 (g116 (nI 0) x1 m1) fun m3 =>
    cl2 (g118 x2 m3) fun v5 m4 =>
    some (v5, m4)
  else
    some ((-101), m1)
set_option maxHeartbeats 4000000 in
theorem t120_0 {X : ai_X} {d w : Nat} (hX : X[1]? = some (39, ai_sh)) (hd : 5 ≤ d) (hw : 121 ≤ w) (x1 : Int32) (x2 : Int32) (m : fm) (Q : Option Value → fm → Prop) (h : ob (g120 x1 x2 m) (fun z : Int32 × fm => Q (some (.int z.1)) z.2)) : fT X d w ai_r120 0 [some (.ref 52), some (.int x1), some (.int x2)] [] m Q := by
  unfold g120 at h
  refine fT_ss 3 (pc' := 3) (L' := [some (.ref 52), some (.int x1), some (.int x2)]) (st' := [.int x2, .int x1, .ref 52]) rfl ?_
  refine fO_qv2 Value.int (r' := ai_r119) (k := 52) (As := [.int x1, .int x2]) (rest := []) rfl rfl rfl rfl rfl rfl (by omega) (show 19 + 3 ≤ w by omega) (Nat.le_of_ble_eq_true rfl) (Nat.le_of_ble_eq_true rfl) rfl rfl (fun Qc hq => t119_0 hX (show 2 ≤ d - 1 by omega) (show 42 ≤ w - (19 + 3) by omega) _ _ _ Qc hq) h (fun v2 m1 h => ?_)
  refine fO_if 12 rfl rfl h (fun h => ?_) (fun h => ?_)
  · refine fT_ss 3 (pc' := 15) (L' := [some (.ref 52), some (.int x1), some (.int x2)]) (st' := [.int x1, .int (nI 0), .ref 52]) rfl ?_
    refine fO_qv1 (r' := ai_r116) (k := 52) (As := [.int (nI 0), .int x1]) (rest := []) rfl rfl rfl rfl rfl rfl (by omega) (show 19 + 8 ≤ w by omega) (Nat.le_of_ble_eq_true rfl) (Nat.le_of_ble_eq_true rfl) rfl rfl (fun Qc hq => t116_0 hX (show 4 ≤ d - 1 by omega) (show 94 ≤ w - (19 + 8) by omega) _ _ _ Qc hq) h (fun m3 h => ?_)
    refine fT_ss 2 (pc' := 20) (L' := [some (.ref 52), some (.int x1), some (.int x2)]) (st' := [.int x2, .ref 52]) rfl ?_
    refine fO_qv2 Value.int (r' := ai_r118) (k := 52) (As := [.int x2]) (rest := []) rfl rfl rfl rfl rfl rfl (by omega) (show 19 + 6 ≤ w by omega) (Nat.le_of_ble_eq_true rfl) (Nat.le_of_ble_eq_true rfl) rfl rfl (fun Qc hq => t118_0 hX (show 1 ≤ d - 1 by omega) (show 26 ≤ w - (19 + 6) by omega) _ _ Qc hq) h (fun v5 m4 h => ?_)
    exact fT_r rfl rfl h
  · refine fT_ss 1 (pc' := 11) (L' := [none, none, none]) (st' := [.int (-101)]) rfl ?_
    exact fT_r rfl rfl h
noncomputable def g121 (x1 : Int32) (x2 : Int32) (x3 : Int32) (m : fm) : Option (Int64 × fm) :=
  cl2 (g119 x1 x2 m) fun v2 m1 =>
  bif ai_c .eq v2 0 then
    some ((Int64.ofNat 18446744073709551515), m1)
  else
    cl2 (g97 x3 m1) fun v4 m3 =>
    bif ai_c .ne v4 0 then
      cl1 (g113 (nI 0) x1 m3) fun m5 =>
      ldI m5 59 25 x2 fun v6 =>
      bif ai_c .eq v6 0 then
        some ((Int64.ofNat 2000000000000), m5)
      else
        ldL m5 60 100 (((nI 4) * x2) + x3) fun v7 =>
        some (v7, m5)
    else
      some ((Int64.ofNat 18446744073709551515), m3)
set_option maxHeartbeats 4000000 in
theorem t121_0 {X : ai_X} {d w : Nat} (hX : X[1]? = some (39, ai_sh)) (hd : 4 ≤ d) (hw : 94 ≤ w) (x1 : Int32) (x2 : Int32) (x3 : Int32) (m : fm) (Q : Option Value → fm → Prop) (h : ob (g121 x1 x2 x3 m) (fun z : Int64 × fm => Q (some (.long z.1)) z.2)) : fT X d w ai_r121 0 [some (.ref 52), some (.int x1), some (.int x2), some (.int x3)] [] m Q := by
  unfold g121 at h
  refine fT_ss 3 (pc' := 3) (L' := [some (.ref 52), some (.int x1), some (.int x2), some (.int x3)]) (st' := [.int x2, .int x1, .ref 52]) rfl ?_
  refine fO_qv2 Value.int (r' := ai_r119) (k := 52) (As := [.int x1, .int x2]) (rest := []) rfl rfl rfl rfl rfl rfl (by omega) (show 19 + 3 ≤ w by omega) (Nat.le_of_ble_eq_true rfl) (Nat.le_of_ble_eq_true rfl) rfl rfl (fun Qc hq => t119_0 hX (show 2 ≤ d - 1 by omega) (show 42 ≤ w - (19 + 3) by omega) _ _ _ Qc hq) h (fun v2 m1 h => ?_)
  refine fO_if 16 rfl rfl h (fun h => ?_) (fun h => ?_)
  · refine fT_lc rfl ?_
    exact fT_r rfl rfl h
  · refine fT_ss 1 (pc' := 10) (L' := [some (.ref 52), some (.int x1), some (.int x2), some (.int x3)]) (st' := [.int x3]) rfl ?_
    refine fO_qs2 Value.int (r' := ai_r97) (As := [.int x3]) (rest := []) rfl rfl rfl rfl rfl rfl (by omega) (show 19 + 1 ≤ w by omega) (Nat.le_of_ble_eq_true rfl) (Nat.le_of_ble_eq_true rfl) rfl rfl (fun Qc hq => t97_0 hX (show 1 ≤ d - 1 by omega) (show 22 ≤ w - (19 + 1) by omega) _ _ Qc hq) h (fun v4 m3 h => ?_)
    refine fO_if 20 rfl rfl h (fun h => ?_) (fun h => ?_)
    · refine fT_ss 3 (pc' := 23) (L' := [some (.ref 52), some (.int x1), some (.int x2), some (.int x3)]) (st' := [.int x1, .int (nI 0), .ref 52]) rfl ?_
      refine fO_qv1 (r' := ai_r113) (k := 52) (As := [.int (nI 0), .int x1]) (rest := []) rfl rfl rfl rfl rfl rfl (by omega) (show 19 + 4 ≤ w by omega) (Nat.le_of_ble_eq_true rfl) (Nat.le_of_ble_eq_true rfl) rfl rfl (fun Qc hq => t113_0 hX (show 3 ≤ d - 1 by omega) (show 71 ≤ w - (19 + 4) by omega) _ _ _ Qc hq) h (fun m5 h => ?_)
      refine fT_ss 1 (pc' := 27) (L' := [some (.ref 52), some (.int x1), some (.int x2), some (.int x3)]) (st' := [.ref 52]) rfl ?_
      refine fT_gr (q := 59) rfl rfl rfl ?_
      refine fT_ss 1 (pc' := 31) (L' := [some (.ref 52), some (.int x1), some (.int x2), some (.int x3)]) (st' := [.int x2, .ref 59]) rfl ?_
      refine fO_ba rfl rfl h (fun v6 h => ?_)
      refine fO_if 48 rfl rfl h (fun h => ?_) (fun h => ?_)
      · refine fT_lc rfl ?_
        exact fT_r rfl rfl h
      · refine fT_ss 1 (pc' := 36) (L' := [some (.ref 52), none, some (.int x2), some (.int x3)]) (st' := [.ref 52]) rfl ?_
        refine fT_gr (q := 60) rfl rfl rfl ?_
        refine fT_ss 5 (pc' := 44) (L' := [some (.ref 52), none, some (.int x2), some (.int x3)]) (st' := [.int (((nI 4) * x2) + x3), .ref 60]) rfl ?_
        refine fO_la rfl rfl h (fun v7 h => ?_)
        refine fT_ss 1 (pc' := 51) (L' := [some (.ref 52), none, some (.int x2), some (.int x3)]) (st' := [.long v7]) rfl ?_
        exact fT_r rfl rfl h
    · refine fT_lc rfl ?_
      exact fT_r rfl rfl h
noncomputable def g122 (x1 : Int32) (x2 : Int32) (x3 : Int32) (m : fm) : Option (Int32 × fm) :=
  cl2 (g119 x1 x2 m) fun v2 m1 =>
  bif ai_c .eq v2 0 then
    some ((-101), m1)
  else
    cl2 (g97 x3 m1) fun v4 m3 =>
    bif ai_c .ne v4 0 then
      cl1 (g116 (nI 0) x1 m3) fun m5 =>
      ldI m5 59 25 x2 fun v6 =>
      bif ai_c .eq v6 0 then
        some ((nI 0), m5)
      else
        ldI m5 62 25 x2 fun v7 =>
        some (((v7 >>> (x3 &&& 31)) &&& (nI 1)), m5)
    else
      some ((-101), m3)
set_option maxHeartbeats 4000000 in
theorem t122_0 {X : ai_X} {d w : Nat} (hX : X[1]? = some (39, ai_sh)) (hd : 5 ≤ d) (hw : 121 ≤ w) (x1 : Int32) (x2 : Int32) (x3 : Int32) (m : fm) (Q : Option Value → fm → Prop) (h : ob (g122 x1 x2 x3 m) (fun z : Int32 × fm => Q (some (.int z.1)) z.2)) : fT X d w ai_r122 0 [some (.ref 52), some (.int x1), some (.int x2), some (.int x3)] [] m Q := by
  unfold g122 at h
  refine fT_ss 3 (pc' := 3) (L' := [some (.ref 52), some (.int x1), some (.int x2), some (.int x3)]) (st' := [.int x2, .int x1, .ref 52]) rfl ?_
  refine fO_qv2 Value.int (r' := ai_r119) (k := 52) (As := [.int x1, .int x2]) (rest := []) rfl rfl rfl rfl rfl rfl (by omega) (show 19 + 3 ≤ w by omega) (Nat.le_of_ble_eq_true rfl) (Nat.le_of_ble_eq_true rfl) rfl rfl (fun Qc hq => t119_0 hX (show 2 ≤ d - 1 by omega) (show 42 ≤ w - (19 + 3) by omega) _ _ _ Qc hq) h (fun v2 m1 h => ?_)
  refine fO_if 16 rfl rfl h (fun h => ?_) (fun h => ?_)
  · refine fT_ss 1 (pc' := 18) (L' := [none, none, none, none]) (st' := [.int (-101)]) rfl ?_
    exact fT_r rfl rfl h
  · refine fT_ss 1 (pc' := 10) (L' := [some (.ref 52), some (.int x1), some (.int x2), some (.int x3)]) (st' := [.int x3]) rfl ?_
    refine fO_qs2 Value.int (r' := ai_r97) (As := [.int x3]) (rest := []) rfl rfl rfl rfl rfl rfl (by omega) (show 19 + 1 ≤ w by omega) (Nat.le_of_ble_eq_true rfl) (Nat.le_of_ble_eq_true rfl) rfl rfl (fun Qc hq => t97_0 hX (show 1 ≤ d - 1 by omega) (show 22 ≤ w - (19 + 1) by omega) _ _ Qc hq) h (fun v4 m3 h => ?_)
    refine fO_if 19 rfl rfl h (fun h => ?_) (fun h => ?_)
    · refine fT_ss 3 (pc' := 22) (L' := [some (.ref 52), some (.int x1), some (.int x2), some (.int x3)]) (st' := [.int x1, .int (nI 0), .ref 52]) rfl ?_
      refine fO_qv1 (r' := ai_r116) (k := 52) (As := [.int (nI 0), .int x1]) (rest := []) rfl rfl rfl rfl rfl rfl (by omega) (show 19 + 8 ≤ w by omega) (Nat.le_of_ble_eq_true rfl) (Nat.le_of_ble_eq_true rfl) rfl rfl (fun Qc hq => t116_0 hX (show 4 ≤ d - 1 by omega) (show 94 ≤ w - (19 + 8) by omega) _ _ _ Qc hq) h (fun m5 h => ?_)
      refine fT_ss 1 (pc' := 26) (L' := [some (.ref 52), some (.int x1), some (.int x2), some (.int x3)]) (st' := [.ref 52]) rfl ?_
      refine fT_gr (q := 59) rfl rfl rfl ?_
      refine fT_ss 1 (pc' := 30) (L' := [some (.ref 52), some (.int x1), some (.int x2), some (.int x3)]) (st' := [.int x2, .ref 59]) rfl ?_
      refine fO_ba rfl rfl h (fun v6 h => ?_)
      refine fO_if 47 rfl rfl h (fun h => ?_) (fun h => ?_)
      · refine fT_ss 1 (pc' := 48) (L' := [none, none, none, none]) (st' := [.int (nI 0)]) rfl ?_
        exact fT_r rfl rfl h
      · refine fT_ss 1 (pc' := 35) (L' := [some (.ref 52), none, some (.int x2), some (.int x3)]) (st' := [.ref 52]) rfl ?_
        refine fT_gr (q := 62) rfl rfl rfl ?_
        refine fT_ss 1 (pc' := 39) (L' := [some (.ref 52), none, some (.int x2), some (.int x3)]) (st' := [.int x2, .ref 62]) rfl ?_
        refine fO_ia rfl rfl rfl h (fun v7 h => ?_)
        refine fT_ss 5 (pc' := 48) (L' := [some (.ref 52), none, some (.int x2), some (.int x3)]) (st' := [.int ((v7 >>> (x3 &&& 31)) &&& (nI 1))]) rfl ?_
        exact fT_r rfl rfl h
    · refine fT_ss 1 (pc' := 18) (L' := [none, none, none, none]) (st' := [.int (-101)]) rfl ?_
      exact fT_r rfl rfl h
noncomputable def g123_138 (x1 : Int32) (x2 : Int32) (x3 : Int32) (y0 : Int32) (m : fm) : Option ((Int32 × fm) ⊕ ((Int32 × fm) ⊕ ((Int32 × fm) ⊕ (fm)))) :=
  pfI m 52 15 (y0 ||| (nI 0)) fun m8 =>
  some (.inl ((x3 + (nI 1)), m8))
set_option maxHeartbeats 4000000 in
theorem t123_138 {X : ai_X} {d w : Nat} (hX : X[1]? = some (39, ai_sh)) (hd : 4 ≤ d) (hw : 94 ≤ w) (x1 : Int32) (x2 : Int32) (x3 : Int32) (y0 : Int32) (m : fm) (Q : Option Value → fm → Prop) (h : ob (g123_138 x1 x2 x3 y0 m) (Sum.elim (fun s : Int32 × fm => fT X d w ai_r123 84 [some (.ref 52), some (.int x1), some (.int x2), some (.int s.1)] [] s.2 Q) (Sum.elim (fun s : Int32 × fm => fT X d w ai_r123 61 [some (.ref 52), some (.int x1), some (.int s.1), none] [] s.2 Q) (Sum.elim (fun s : Int32 × fm => fT X d w ai_r123 46 [some (.ref 52), some (.int s.1), none, none] [] s.2 Q) (fun z : fm => Q none z))))) : fT X d w ai_r123 138 [some (.ref 52), some (.int x1), some (.int x2), some (.int x3)] [.int y0, .ref 52] m Q := by
  unfold g123_138 at h
  refine fT_ss 2 (pc' := 140) (L' := [some (.ref 52), some (.int x1), some (.int x2), some (.int x3)]) (st' := [.int (y0 ||| (nI 0)), .ref 52]) rfl ?_
  refine fO_pi rfl rfl rfl rfl h (fun m8 h => ?_)
  refine fT_ss 2 (pc' := 84) (L' := [some (.ref 52), some (.int x1), some (.int x2), some (.int (x3 + (nI 1)))]) (st' := []) rfl ?_
  replace h := ob_inl h
  exact fT_mk rfl rfl h
noncomputable def s123_84 (x1 : Int32) (x2 : Int32) (x3 : Int32) (m : fm) : Option ((Int32 × fm) ⊕ ((Int32 × fm) ⊕ ((Int32 × fm) ⊕ (fm)))) :=
  gfI m 52 7 fun v5 =>
  bif ai_c .ge x3 v5 then
    some (.inr (.inl ((x2 + (nI 1)), m)))
  else
    gfI m 52 15 fun v6 =>
    ldI m 59 25 x3 fun v7 =>
    bif ai_c .eq v7 0 then
      g123_138 x1 x2 x3 v6 m
    else
      gfI m 52 8 fun v9 =>
      ldI m 53 384 (v9 + x3) fun v10 =>
      bif ai_c .ne v10 (nI 9) then
        g123_138 x1 x2 x3 v6 m
      else
        gfI m 52 8 fun v11 =>
        ldI m 55 384 (v11 + x3) fun v12 =>
        pfI m 52 15 (v6 ||| ((nI 1) <<< (v12 &&& 31))) fun m13 =>
        some (.inl ((x3 + (nI 1)), m13))
set_option maxHeartbeats 4000000 in
theorem b123_84 {X : ai_X} {d w : Nat} (hX : X[1]? = some (39, ai_sh)) (hd : 4 ≤ d) (hw : 94 ≤ w) (x1 : Int32) (x2 : Int32) (x3 : Int32) (m : fm) (Q : Option Value → fm → Prop) (h : ob (s123_84 x1 x2 x3 m) (Sum.elim (fun s : Int32 × fm => fT X d w ai_r123 84 [some (.ref 52), some (.int x1), some (.int x2), some (.int s.1)] [] s.2 Q) (Sum.elim (fun s : Int32 × fm => fT X d w ai_r123 61 [some (.ref 52), some (.int x1), some (.int s.1), none] [] s.2 Q) (Sum.elim (fun s : Int32 × fm => fT X d w ai_r123 46 [some (.ref 52), some (.int s.1), none, none] [] s.2 Q) (fun z : fm => Q none z))))) : fT X d w ai_r123 84 [some (.ref 52), some (.int x1), some (.int x2), some (.int x3)] [] m Q := by
  unfold s123_84 at h
  refine fT_ss 2 (pc' := 86) (L' := [some (.ref 52), some (.int x1), some (.int x2), some (.int x3)]) (st' := [.ref 52, .int x3]) rfl ?_
  refine fO_gi rfl rfl rfl h (fun v5 h => ?_)
  refine fO_ic 149 rfl rfl h (fun h => ?_) (fun h => ?_)
  · refine fT_ss 2 (pc' := 61) (L' := [some (.ref 52), some (.int x1), some (.int (x2 + (nI 1))), none]) (st' := []) rfl ?_
    replace h := ob_inr h
    replace h := ob_inl h
    exact fT_mk rfl rfl h
  · refine fT_ss 2 (pc' := 94) (L' := [some (.ref 52), some (.int x1), some (.int x2), some (.int x3)]) (st' := [.ref 52, .ref 52]) rfl ?_
    refine fO_gi rfl rfl rfl h (fun v6 h => ?_)
    refine fT_ss 1 (pc' := 98) (L' := [some (.ref 52), some (.int x1), some (.int x2), some (.int x3)]) (st' := [.ref 52, .int v6, .ref 52]) rfl ?_
    refine fT_gr (q := 59) rfl rfl rfl ?_
    refine fT_ss 1 (pc' := 102) (L' := [some (.ref 52), some (.int x1), some (.int x2), some (.int x3)]) (st' := [.int x3, .ref 59, .int v6, .ref 52]) rfl ?_
    refine fO_ba rfl rfl h (fun v7 h => ?_)
    refine fO_if 138 rfl rfl h (fun h => ?_) (fun h => ?_)
    · exact fT_mk rfl rfl (t123_138 hX hd hw _ _ _ _ _ Q h)
    · refine fT_ss 1 (pc' := 107) (L' := [some (.ref 52), some (.int x1), some (.int x2), some (.int x3)]) (st' := [.ref 52, .int v6, .ref 52]) rfl ?_
      refine fT_gr (q := 53) rfl rfl rfl ?_
      refine fT_ss 1 (pc' := 111) (L' := [some (.ref 52), some (.int x1), some (.int x2), some (.int x3)]) (st' := [.ref 52, .ref 53, .int v6, .ref 52]) rfl ?_
      refine fO_gi rfl rfl rfl h (fun v9 h => ?_)
      refine fT_ss 2 (pc' := 116) (L' := [some (.ref 52), some (.int x1), some (.int x2), some (.int x3)]) (st' := [.int (v9 + x3), .ref 53, .int v6, .ref 52]) rfl ?_
      refine fO_ia rfl rfl rfl h (fun v10 h => ?_)
      refine fT_ss 1 (pc' := 119) (L' := [some (.ref 52), some (.int x1), some (.int x2), some (.int x3)]) (st' := [.int (nI 9), .int v10, .int v6, .ref 52]) rfl ?_
      refine fO_ic 138 rfl rfl h (fun h => ?_) (fun h => ?_)
      · exact fT_mk rfl rfl (t123_138 hX hd hw _ _ _ _ _ Q h)
      · refine fT_ss 2 (pc' := 124) (L' := [some (.ref 52), some (.int x1), some (.int x2), some (.int x3)]) (st' := [.ref 52, .int (nI 1), .int v6, .ref 52]) rfl ?_
        refine fT_gr (q := 55) rfl rfl rfl ?_
        refine fT_ss 1 (pc' := 128) (L' := [some (.ref 52), some (.int x1), some (.int x2), some (.int x3)]) (st' := [.ref 52, .ref 55, .int (nI 1), .int v6, .ref 52]) rfl ?_
        refine fO_gi rfl rfl rfl h (fun v11 h => ?_)
        refine fT_ss 2 (pc' := 133) (L' := [some (.ref 52), some (.int x1), some (.int x2), some (.int x3)]) (st' := [.int (v11 + x3), .ref 55, .int (nI 1), .int v6, .ref 52]) rfl ?_
        refine fO_ia rfl rfl rfl h (fun v12 h => ?_)
        refine fT_ss 3 (pc' := 140) (L' := [some (.ref 52), some (.int x1), some (.int x2), some (.int x3)]) (st' := [.int (v6 ||| ((nI 1) <<< (v12 &&& 31))), .ref 52]) rfl ?_
        refine fO_pi rfl rfl rfl rfl h (fun m13 h => ?_)
        refine fT_ss 2 (pc' := 84) (L' := [some (.ref 52), some (.int x1), some (.int x2), some (.int (x3 + (nI 1)))]) (st' := []) rfl ?_
        replace h := ob_inl h
        exact fT_mk rfl rfl h
noncomputable def g123_84 (x1 : Int32) (x2 : Int32) (x3 : Int32) (m : fm) : Option ((Int32 × fm) ⊕ ((Int32 × fm) ⊕ (fm))) := wl (fun s : Int32 × fm => s123_84 x1 x2 s.1 s.2) lf (x3, m)
theorem t123_84 {X : ai_X} {d w : Nat} (hX : X[1]? = some (39, ai_sh)) (hd : 4 ≤ d) (hw : 94 ≤ w) (x1 : Int32) (x2 : Int32) (x3 : Int32) (m : fm) (Q : Option Value → fm → Prop) (h : ob (g123_84 x1 x2 x3 m) (Sum.elim (fun s : Int32 × fm => fT X d w ai_r123 61 [some (.ref 52), some (.int x1), some (.int s.1), none] [] s.2 Q) (Sum.elim (fun s : Int32 × fm => fT X d w ai_r123 46 [some (.ref 52), some (.int s.1), none, none] [] s.2 Q) (fun z : fm => Q none z)))) : fT X d w ai_r123 84 [some (.ref 52), some (.int x1), some (.int x2), some (.int x3)] [] m Q :=
  wl_ob (P := fun s : Int32 × fm => fT X d w ai_r123 84 [some (.ref 52), some (.int x1), some (.int x2), some (.int s.1)] [] s.2 Q) (fun s h => b123_84 hX hd hw x1 x2 s.1 s.2 Q h) lf (x3, m) h
noncomputable def s123_61 (x1 : Int32) (x2 : Int32) (m : fm) : Option ((Int32 × fm) ⊕ ((Int32 × fm) ⊕ (fm))) :=
  bif ai_c .ge x2 (nI 8) then
    some (.inr (.inl (x1, m)))
  else
    bif ai_c .ne ((x1 >>> (x2 &&& 31)) &&& (nI 1)) (nI 1) then
      some (.inl ((x2 + (nI 1)), m))
    else
      cl1 (g113 (nI 0) x2 m) fun m4 =>
      g123_84 x1 x2 (nI 0) m4
set_option maxHeartbeats 4000000 in
theorem b123_61 {X : ai_X} {d w : Nat} (hX : X[1]? = some (39, ai_sh)) (hd : 4 ≤ d) (hw : 94 ≤ w) (x1 : Int32) (x2 : Int32) (m : fm) (Q : Option Value → fm → Prop) (h : ob (s123_61 x1 x2 m) (Sum.elim (fun s : Int32 × fm => fT X d w ai_r123 61 [some (.ref 52), some (.int x1), some (.int s.1), none] [] s.2 Q) (Sum.elim (fun s : Int32 × fm => fT X d w ai_r123 46 [some (.ref 52), some (.int s.1), none, none] [] s.2 Q) (fun z : fm => Q none z)))) : fT X d w ai_r123 61 [some (.ref 52), some (.int x1), some (.int x2), none] [] m Q := by
  unfold s123_61 at h
  refine fT_ss 2 (pc' := 64) (L' := [some (.ref 52), some (.int x1), some (.int x2), none]) (st' := [.int (nI 8), .int x2]) rfl ?_
  refine fO_ic 155 rfl rfl h (fun h => ?_) (fun h => ?_)
  · refine fT_ss 1 (pc' := 46) (L' := [some (.ref 52), some (.int x1), none, none]) (st' := []) rfl ?_
    replace h := ob_inr h
    replace h := ob_inl h
    exact fT_mk rfl rfl h
  · refine fT_ss 6 (pc' := 73) (L' := [some (.ref 52), some (.int x1), some (.int x2), none]) (st' := [.int (nI 1), .int ((x1 >>> (x2 &&& 31)) &&& (nI 1))]) rfl ?_
    refine fO_ic 149 rfl rfl h (fun h => ?_) (fun h => ?_)
    · refine fT_ss 2 (pc' := 61) (L' := [some (.ref 52), some (.int x1), some (.int (x2 + (nI 1))), none]) (st' := []) rfl ?_
      replace h := ob_inl h
      exact fT_mk rfl rfl h
    · refine fT_ss 3 (pc' := 79) (L' := [some (.ref 52), some (.int x1), some (.int x2), none]) (st' := [.int x2, .int (nI 0), .ref 52]) rfl ?_
      refine fO_qv1 (r' := ai_r113) (k := 52) (As := [.int (nI 0), .int x2]) (rest := []) rfl rfl rfl rfl rfl rfl (by omega) (show 19 + 4 ≤ w by omega) (Nat.le_of_ble_eq_true rfl) (Nat.le_of_ble_eq_true rfl) rfl rfl (fun Qc hq => t113_0 hX (show 3 ≤ d - 1 by omega) (show 71 ≤ w - (19 + 4) by omega) _ _ _ Qc hq) h (fun m4 h => ?_)
      refine fT_ss 2 (pc' := 84) (L' := [some (.ref 52), some (.int x1), some (.int x2), some (.int (nI 0))]) (st' := []) rfl ?_
      exact fT_mk rfl rfl (t123_84 hX hd hw _ _ _ _ Q h)
noncomputable def g123_61 (x1 : Int32) (x2 : Int32) (m : fm) : Option ((Int32 × fm) ⊕ (fm)) := wl (fun s : Int32 × fm => s123_61 x1 s.1 s.2) lf (x2, m)
theorem t123_61 {X : ai_X} {d w : Nat} (hX : X[1]? = some (39, ai_sh)) (hd : 4 ≤ d) (hw : 94 ≤ w) (x1 : Int32) (x2 : Int32) (m : fm) (Q : Option Value → fm → Prop) (h : ob (g123_61 x1 x2 m) (Sum.elim (fun s : Int32 × fm => fT X d w ai_r123 46 [some (.ref 52), some (.int s.1), none, none] [] s.2 Q) (fun z : fm => Q none z))) : fT X d w ai_r123 61 [some (.ref 52), some (.int x1), some (.int x2), none] [] m Q :=
  wl_ob (P := fun s : Int32 × fm => fT X d w ai_r123 61 [some (.ref 52), some (.int x1), some (.int s.1), none] [] s.2 Q) (fun s h => b123_61 hX hd hw x1 s.1 s.2 Q h) lf (x2, m) h
noncomputable def s123_46 (x1 : Int32) (m : fm) : Option ((Int32 × fm) ⊕ (fm)) :=
  gfI m 52 15 fun v2 =>
  bif ai_c .eq x1 v2 then
    some (.inr m)
  else
    gfI m 52 15 fun v3 =>
    g123_61 v3 (nI 0) m
set_option maxHeartbeats 4000000 in
theorem b123_46 {X : ai_X} {d w : Nat} (hX : X[1]? = some (39, ai_sh)) (hd : 4 ≤ d) (hw : 94 ≤ w) (x1 : Int32) (m : fm) (Q : Option Value → fm → Prop) (h : ob (s123_46 x1 m) (Sum.elim (fun s : Int32 × fm => fT X d w ai_r123 46 [some (.ref 52), some (.int s.1), none, none] [] s.2 Q) (fun z : fm => Q none z))) : fT X d w ai_r123 46 [some (.ref 52), some (.int x1), none, none] [] m Q := by
  unfold s123_46 at h
  refine fT_ss 2 (pc' := 48) (L' := [some (.ref 52), some (.int x1), none, none]) (st' := [.ref 52, .int x1]) rfl ?_
  refine fO_gi rfl rfl rfl h (fun v2 h => ?_)
  refine fO_ic 158 rfl rfl h (fun h => ?_) (fun h => ?_)
  · exact fT_r rfl rfl h
  · refine fT_ss 1 (pc' := 55) (L' := [some (.ref 52), none, none, none]) (st' := [.ref 52]) rfl ?_
    refine fO_gi rfl rfl rfl h (fun v3 h => ?_)
    refine fT_ss 3 (pc' := 61) (L' := [some (.ref 52), some (.int v3), some (.int (nI 0)), none]) (st' := []) rfl ?_
    exact fT_mk rfl rfl (t123_61 hX hd hw _ _ _ Q h)
noncomputable def g123_46 (x1 : Int32) (m : fm) : Option (fm) := wl (fun s : Int32 × fm => s123_46 s.1 s.2) lf (x1, m)
theorem t123_46 {X : ai_X} {d w : Nat} (hX : X[1]? = some (39, ai_sh)) (hd : 4 ≤ d) (hw : 94 ≤ w) (x1 : Int32) (m : fm) (Q : Option Value → fm → Prop) (h : ob (g123_46 x1 m) (fun z : fm => Q none z)) : fT X d w ai_r123 46 [some (.ref 52), some (.int x1), none, none] [] m Q :=
  wl_ob (P := fun s : Int32 × fm => fT X d w ai_r123 46 [some (.ref 52), some (.int s.1), none, none] [] s.2 Q) (fun s h => b123_46 hX hd hw s.1 s.2 Q h) lf (x1, m) h
noncomputable def s123_7 (x1 : Int32) (m : fm) : Option ((Int32 × fm) ⊕ (fm)) :=
  bif ai_c .ge x1 (nI 8) then
    (g123_46 (-1) m).map Sum.inr
  else
    gfI m 52 15 fun v14 =>
    ldI m 58 8 x1 fun v15 =>
    bif ai_c .eq v15 0 then
      pfI m 52 15 (v14 ||| (nI 0)) fun m16 =>
      some (.inl ((x1 + (nI 1)), m16))
    else
      pfI m 52 15 (v14 ||| ((nI 1) <<< (x1 &&& 31))) fun m17 =>
      some (.inl ((x1 + (nI 1)), m17))
set_option maxHeartbeats 4000000 in
theorem b123_7 {X : ai_X} {d w : Nat} (hX : X[1]? = some (39, ai_sh)) (hd : 4 ≤ d) (hw : 94 ≤ w) (x1 : Int32) (m : fm) (Q : Option Value → fm → Prop) (h : ob (s123_7 x1 m) (Sum.elim (fun s : Int32 × fm => fT X d w ai_r123 7 [some (.ref 52), some (.int s.1), none, none] [] s.2 Q) (fun z : fm => Q none z))) : fT X d w ai_r123 7 [some (.ref 52), some (.int x1), none, none] [] m Q := by
  unfold s123_7 at h
  refine fT_ss 2 (pc' := 10) (L' := [some (.ref 52), some (.int x1), none, none]) (st' := [.int (nI 8), .int x1]) rfl ?_
  refine fO_ic 44 rfl rfl h (fun h => ?_) (fun h => ?_)
  · refine fT_ss 2 (pc' := 46) (L' := [some (.ref 52), some (.int (-1)), none, none]) (st' := []) rfl ?_
    exact fT_mk rfl rfl (t123_46 hX hd hw _ _ Q (ob_mapR h))
  · refine fT_ss 2 (pc' := 15) (L' := [some (.ref 52), some (.int x1), none, none]) (st' := [.ref 52, .ref 52]) rfl ?_
    refine fO_gi rfl rfl rfl h (fun v14 h => ?_)
    refine fT_ss 1 (pc' := 19) (L' := [some (.ref 52), some (.int x1), none, none]) (st' := [.ref 52, .int v14, .ref 52]) rfl ?_
    refine fT_gr (q := 58) rfl rfl rfl ?_
    refine fT_ss 1 (pc' := 23) (L' := [some (.ref 52), some (.int x1), none, none]) (st' := [.int x1, .ref 58, .int v14, .ref 52]) rfl ?_
    refine fO_ba rfl rfl h (fun v15 h => ?_)
    refine fO_if 33 rfl rfl h (fun h => ?_) (fun h => ?_)
    · refine fT_ss 2 (pc' := 35) (L' := [some (.ref 52), some (.int x1), none, none]) (st' := [.int (v14 ||| (nI 0)), .ref 52]) rfl ?_
      refine fO_pi rfl rfl rfl rfl h (fun m16 h => ?_)
      refine fT_ss 2 (pc' := 7) (L' := [some (.ref 52), some (.int (x1 + (nI 1))), none, none]) (st' := []) rfl ?_
      replace h := ob_inl h
      exact fT_mk rfl rfl h
    · refine fT_ss 5 (pc' := 35) (L' := [some (.ref 52), some (.int x1), none, none]) (st' := [.int (v14 ||| ((nI 1) <<< (x1 &&& 31))), .ref 52]) rfl ?_
      refine fO_pi rfl rfl rfl rfl h (fun m17 h => ?_)
      refine fT_ss 2 (pc' := 7) (L' := [some (.ref 52), some (.int (x1 + (nI 1))), none, none]) (st' := []) rfl ?_
      replace h := ob_inl h
      exact fT_mk rfl rfl h
noncomputable def g123_7 (x1 : Int32) (m : fm) : Option (fm) := wl (fun s : Int32 × fm => s123_7 s.1 s.2) lf (x1, m)
theorem t123_7 {X : ai_X} {d w : Nat} (hX : X[1]? = some (39, ai_sh)) (hd : 4 ≤ d) (hw : 94 ≤ w) (x1 : Int32) (m : fm) (Q : Option Value → fm → Prop) (h : ob (g123_7 x1 m) (fun z : fm => Q none z)) : fT X d w ai_r123 7 [some (.ref 52), some (.int x1), none, none] [] m Q :=
  wl_ob (P := fun s : Int32 × fm => fT X d w ai_r123 7 [some (.ref 52), some (.int s.1), none, none] [] s.2 Q) (fun s h => b123_7 hX hd hw s.1 s.2 Q h) lf (x1, m) h
noncomputable def g123  (m : fm) : Option (fm) :=
  pfI m 52 15 (nI 0) fun m1 =>
  g123_7 (nI 0) m1
set_option maxHeartbeats 4000000 in
theorem t123_0 {X : ai_X} {d w : Nat} (hX : X[1]? = some (39, ai_sh)) (hd : 4 ≤ d) (hw : 94 ≤ w)  (m : fm) (Q : Option Value → fm → Prop) (h : ob (g123  m) (fun z : fm => Q none z)) : fT X d w ai_r123 0 [some (.ref 52), none, none, none] [] m Q := by
  unfold g123 at h
  refine fT_ss 2 (pc' := 2) (L' := [some (.ref 52), none, none, none]) (st' := [.int (nI 0), .ref 52]) rfl ?_
  refine fO_pi rfl rfl rfl rfl h (fun m1 h => ?_)
  refine fT_ss 2 (pc' := 7) (L' := [some (.ref 52), some (.int (nI 0)), none, none]) (st' := []) rfl ?_
  exact fT_mk rfl rfl (t123_7 hX hd hw _ _ Q h)
noncomputable def g124 (x1 : Int32) (m : fm) : Option (Int32 × fm) :=
  cl2 (g96 x1 m) fun v2 m1 =>
  bif ai_c .ne v2 0 then
    cl1 (g123  m1) fun m3 =>
    gfI m3 52 15 fun v4 =>
    some (((v4 >>> (x1 &&& 31)) &&& (nI 1)), m3)
  else
    some ((-101), m1)
set_option maxHeartbeats 4000000 in
theorem t124_0 {X : ai_X} {d w : Nat} (hX : X[1]? = some (39, ai_sh)) (hd : 5 ≤ d) (hw : 117 ≤ w) (x1 : Int32) (m : fm) (Q : Option Value → fm → Prop) (h : ob (g124 x1 m) (fun z : Int32 × fm => Q (some (.int z.1)) z.2)) : fT X d w ai_r124 0 [some (.ref 52), some (.int x1)] [] m Q := by
  unfold g124 at h
  refine fT_ss 1 (pc' := 1) (L' := [some (.ref 52), some (.int x1)]) (st' := [.int x1]) rfl ?_
  refine fO_qs2 Value.int (r' := ai_r96) (As := [.int x1]) (rest := []) rfl rfl rfl rfl rfl rfl (by omega) (show 19 + 1 ≤ w by omega) (Nat.le_of_ble_eq_true rfl) (Nat.le_of_ble_eq_true rfl) rfl rfl (fun Qc hq => t96_0 hX (show 1 ≤ d - 1 by omega) (show 22 ≤ w - (19 + 1) by omega) _ _ Qc hq) h (fun v2 m1 h => ?_)
  refine fO_if 10 rfl rfl h (fun h => ?_) (fun h => ?_)
  · refine fT_ss 1 (pc' := 11) (L' := [some (.ref 52), some (.int x1)]) (st' := [.ref 52]) rfl ?_
    refine fO_qv1 (r' := ai_r123) (k := 52) (As := []) (rest := []) rfl rfl rfl rfl rfl rfl (by omega) (show 19 + 4 ≤ w by omega) (Nat.le_of_ble_eq_true rfl) (Nat.le_of_ble_eq_true rfl) rfl rfl (fun Qc hq => t123_0 hX (show 4 ≤ d - 1 by omega) (show 94 ≤ w - (19 + 4) by omega)  _ Qc hq) h (fun m3 h => ?_)
    refine fT_ss 1 (pc' := 15) (L' := [some (.ref 52), some (.int x1)]) (st' := [.ref 52]) rfl ?_
    refine fO_gi rfl rfl rfl h (fun v4 h => ?_)
    refine fT_ss 4 (pc' := 22) (L' := [some (.ref 52), some (.int x1)]) (st' := [.int ((v4 >>> (x1 &&& 31)) &&& (nI 1))]) rfl ?_
    exact fT_r rfl rfl h
  · refine fT_ss 1 (pc' := 9) (L' := [none, none]) (st' := [.int (-101)]) rfl ?_
    exact fT_r rfl rfl h
noncomputable def g125_113 (x1 : Int32) (x2 : Int32) (x3 : Int32) (x4 : Int32) (x5 : Int32) (y0 : Int32) (m : fm) : Option ((Int32 × Int32 × fm) ⊕ ((Int32 × Int32 × fm) ⊕ (Int32 × fm))) :=
  bif ai_c .ne y0 0 then
    bif ai_c .ne x5 (nI 7) then
      some (.inl ((x2 ||| (nI 2)), (x4 + (nI 1)), m))
    else
      some (.inl ((x2 ||| (nI 1)), (x4 + (nI 1)), m))
  else
    some (.inl ((x2 ||| (nI 0)), (x4 + (nI 1)), m))
set_option maxHeartbeats 4000000 in
theorem t125_113 {X : ai_X} {d w : Nat} (hX : X[1]? = some (39, ai_sh)) (hd : 5 ≤ d) (hw : 117 ≤ w) (x1 : Int32) (x2 : Int32) (x3 : Int32) (x4 : Int32) (x5 : Int32) (y0 : Int32) (m : fm) (Q : Option Value → fm → Prop) (h : ob (g125_113 x1 x2 x3 x4 x5 y0 m) (Sum.elim (fun s : Int32 × Int32 × fm => fT X d w ai_r125 45 [some (.ref 52), some (.int x1), some (.int s.1), some (.int x3), some (.int s.2.1), none, none] [] s.2.2 Q) (Sum.elim (fun s : Int32 × Int32 × fm => fT X d w ai_r125 18 [some (.ref 52), some (.int x1), some (.int s.1), some (.int s.2.1), none, none, none] [] s.2.2 Q) (fun z : Int32 × fm => Q (some (.int z.1)) z.2)))) : fT X d w ai_r125 113 [some (.ref 52), some (.int x1), some (.int x2), some (.int x3), some (.int x4), some (.int x5), none] [.int y0] m Q := by
  unfold g125_113 at h
  refine fT_ss 3 (pc' := 118) (L' := [some (.ref 52), some (.int x1), some (.int x2), some (.int x3), some (.int x4), some (.int x5), some (.int y0)]) (st' := [.int y0, .int x2]) rfl ?_
  refine fO_if 125 rfl rfl h (fun h => ?_) (fun h => ?_)
  · refine fT_ss 2 (pc' := 129) (L' := [some (.ref 52), some (.int x1), none, some (.int x3), some (.int x4), some (.int x5), none]) (st' := [.int (nI 7), .int x5, .int x2]) rfl ?_
    refine fO_ic 136 rfl rfl h (fun h => ?_) (fun h => ?_)
    · refine fT_ss 5 (pc' := 45) (L' := [some (.ref 52), some (.int x1), some (.int (x2 ||| (nI 2))), some (.int x3), some (.int (x4 + (nI 1))), none, none]) (st' := []) rfl ?_
      replace h := ob_inl h
      exact fT_mk rfl rfl h
    · refine fT_ss 6 (pc' := 45) (L' := [some (.ref 52), some (.int x1), some (.int (x2 ||| (nI 1))), some (.int x3), some (.int (x4 + (nI 1))), none, none]) (st' := []) rfl ?_
      replace h := ob_inl h
      exact fT_mk rfl rfl h
  · refine fT_ss 6 (pc' := 45) (L' := [some (.ref 52), some (.int x1), some (.int (x2 ||| (nI 0))), some (.int x3), some (.int (x4 + (nI 1))), none, none]) (st' := []) rfl ?_
    replace h := ob_inl h
    exact fT_mk rfl rfl h
noncomputable def g125_92 (x1 : Int32) (x2 : Int32) (x3 : Int32) (x4 : Int32) (x5 : Int32) (m : fm) : Option ((Int32 × Int32 × fm) ⊕ ((Int32 × Int32 × fm) ⊕ (Int32 × fm))) :=
  gfI m 52 8 fun v10 =>
  ldI m 55 384 (v10 + x4) fun v11 =>
  bif ai_c .ne v11 x1 then
    g125_113 x1 x2 x3 x4 x5 (nI 0) m
  else
    g125_113 x1 x2 x3 x4 x5 (nI 1) m
set_option maxHeartbeats 4000000 in
theorem t125_92 {X : ai_X} {d w : Nat} (hX : X[1]? = some (39, ai_sh)) (hd : 5 ≤ d) (hw : 117 ≤ w) (x1 : Int32) (x2 : Int32) (x3 : Int32) (x4 : Int32) (x5 : Int32) (m : fm) (Q : Option Value → fm → Prop) (h : ob (g125_92 x1 x2 x3 x4 x5 m) (Sum.elim (fun s : Int32 × Int32 × fm => fT X d w ai_r125 45 [some (.ref 52), some (.int x1), some (.int s.1), some (.int x3), some (.int s.2.1), none, none] [] s.2.2 Q) (Sum.elim (fun s : Int32 × Int32 × fm => fT X d w ai_r125 18 [some (.ref 52), some (.int x1), some (.int s.1), some (.int s.2.1), none, none, none] [] s.2.2 Q) (fun z : Int32 × fm => Q (some (.int z.1)) z.2)))) : fT X d w ai_r125 92 [some (.ref 52), some (.int x1), some (.int x2), some (.int x3), some (.int x4), some (.int x5), none] [] m Q := by
  unfold g125_92 at h
  refine fT_ss 1 (pc' := 93) (L' := [some (.ref 52), some (.int x1), some (.int x2), some (.int x3), some (.int x4), some (.int x5), none]) (st' := [.ref 52]) rfl ?_
  refine fT_gr (q := 55) rfl rfl rfl ?_
  refine fT_ss 1 (pc' := 97) (L' := [some (.ref 52), some (.int x1), some (.int x2), some (.int x3), some (.int x4), some (.int x5), none]) (st' := [.ref 52, .ref 55]) rfl ?_
  refine fO_gi rfl rfl rfl h (fun v10 h => ?_)
  refine fT_ss 2 (pc' := 103) (L' := [some (.ref 52), some (.int x1), some (.int x2), some (.int x3), some (.int x4), some (.int x5), none]) (st' := [.int (v10 + x4), .ref 55]) rfl ?_
  refine fO_ia rfl rfl rfl h (fun v11 h => ?_)
  refine fT_ss 1 (pc' := 105) (L' := [some (.ref 52), some (.int x1), some (.int x2), some (.int x3), some (.int x4), some (.int x5), none]) (st' := [.int x1, .int v11]) rfl ?_
  refine fO_ic 112 rfl rfl h (fun h => ?_) (fun h => ?_)
  · refine fT_ss 1 (pc' := 113) (L' := [some (.ref 52), some (.int x1), some (.int x2), some (.int x3), some (.int x4), some (.int x5), none]) (st' := [.int (nI 0)]) rfl ?_
    exact fT_mk rfl rfl (t125_113 hX hd hw _ _ _ _ _ _ _ Q h)
  · refine fT_ss 2 (pc' := 113) (L' := [some (.ref 52), some (.int x1), some (.int x2), some (.int x3), some (.int x4), some (.int x5), none]) (st' := [.int (nI 1)]) rfl ?_
    exact fT_mk rfl rfl (t125_113 hX hd hw _ _ _ _ _ _ _ Q h)
noncomputable def s125_45 (x1 : Int32) (x2 : Int32) (x3 : Int32) (x4 : Int32) (m : fm) : Option ((Int32 × Int32 × fm) ⊕ ((Int32 × Int32 × fm) ⊕ (Int32 × fm))) :=
  gfI m 52 7 fun v6 =>
  bif ai_c .ge x4 v6 then
    some (.inr (.inl (x2, (x3 + (nI 1)), m)))
  else
    gfI m 52 8 fun v7 =>
    ldI m 53 384 (v7 + x4) fun v8 =>
    ldI m 59 25 x4 fun v9 =>
    bif ai_c .eq v9 0 then
      g125_113 x1 x2 x3 x4 v8 (nI 0) m
    else
      bif ai_c .eq v8 (nI 7) then
        g125_92 x1 x2 x3 x4 v8 m
      else
        bif ai_c .ne v8 (nI 8) then
          g125_113 x1 x2 x3 x4 v8 (nI 0) m
        else
          g125_92 x1 x2 x3 x4 v8 m
set_option maxHeartbeats 4000000 in
theorem b125_45 {X : ai_X} {d w : Nat} (hX : X[1]? = some (39, ai_sh)) (hd : 5 ≤ d) (hw : 117 ≤ w) (x1 : Int32) (x2 : Int32) (x3 : Int32) (x4 : Int32) (m : fm) (Q : Option Value → fm → Prop) (h : ob (s125_45 x1 x2 x3 x4 m) (Sum.elim (fun s : Int32 × Int32 × fm => fT X d w ai_r125 45 [some (.ref 52), some (.int x1), some (.int s.1), some (.int x3), some (.int s.2.1), none, none] [] s.2.2 Q) (Sum.elim (fun s : Int32 × Int32 × fm => fT X d w ai_r125 18 [some (.ref 52), some (.int x1), some (.int s.1), some (.int s.2.1), none, none, none] [] s.2.2 Q) (fun z : Int32 × fm => Q (some (.int z.1)) z.2)))) : fT X d w ai_r125 45 [some (.ref 52), some (.int x1), some (.int x2), some (.int x3), some (.int x4), none, none] [] m Q := by
  unfold s125_45 at h
  refine fT_ss 2 (pc' := 48) (L' := [some (.ref 52), some (.int x1), some (.int x2), some (.int x3), some (.int x4), none, none]) (st' := [.ref 52, .int x4]) rfl ?_
  refine fO_gi rfl rfl rfl h (fun v6 h => ?_)
  refine fO_ic 145 rfl rfl h (fun h => ?_) (fun h => ?_)
  · refine fT_ss 2 (pc' := 18) (L' := [some (.ref 52), some (.int x1), some (.int x2), some (.int (x3 + (nI 1))), none, none, none]) (st' := []) rfl ?_
    replace h := ob_inr h
    replace h := ob_inl h
    exact fT_mk rfl rfl h
  · refine fT_ss 1 (pc' := 55) (L' := [some (.ref 52), some (.int x1), some (.int x2), some (.int x3), some (.int x4), none, none]) (st' := [.ref 52]) rfl ?_
    refine fT_gr (q := 53) rfl rfl rfl ?_
    refine fT_ss 1 (pc' := 59) (L' := [some (.ref 52), some (.int x1), some (.int x2), some (.int x3), some (.int x4), none, none]) (st' := [.ref 52, .ref 53]) rfl ?_
    refine fO_gi rfl rfl rfl h (fun v7 h => ?_)
    refine fT_ss 2 (pc' := 65) (L' := [some (.ref 52), some (.int x1), some (.int x2), some (.int x3), some (.int x4), none, none]) (st' := [.int (v7 + x4), .ref 53]) rfl ?_
    refine fO_ia rfl rfl rfl h (fun v8 h => ?_)
    refine fT_ss 2 (pc' := 69) (L' := [some (.ref 52), some (.int x1), some (.int x2), some (.int x3), some (.int x4), some (.int v8), none]) (st' := [.ref 52]) rfl ?_
    refine fT_gr (q := 59) rfl rfl rfl ?_
    refine fT_ss 1 (pc' := 74) (L' := [some (.ref 52), some (.int x1), some (.int x2), some (.int x3), some (.int x4), some (.int v8), none]) (st' := [.int x4, .ref 59]) rfl ?_
    refine fO_ba rfl rfl h (fun v9 h => ?_)
    refine fO_if 112 rfl rfl h (fun h => ?_) (fun h => ?_)
    · refine fT_ss 1 (pc' := 113) (L' := [some (.ref 52), some (.int x1), some (.int x2), some (.int x3), some (.int x4), some (.int v8), none]) (st' := [.int (nI 0)]) rfl ?_
      exact fT_mk rfl rfl (t125_113 hX hd hw _ _ _ _ _ _ _ Q h)
    · refine fT_ss 2 (pc' := 82) (L' := [some (.ref 52), some (.int x1), some (.int x2), some (.int x3), some (.int x4), some (.int v8), none]) (st' := [.int (nI 7), .int v8]) rfl ?_
      refine fO_ic 92 rfl rfl h (fun h => ?_) (fun h => ?_)
      · exact fT_mk rfl rfl (t125_92 hX hd hw _ _ _ _ _ _ Q h)
      · refine fT_ss 2 (pc' := 89) (L' := [some (.ref 52), some (.int x1), some (.int x2), some (.int x3), some (.int x4), some (.int v8), none]) (st' := [.int (nI 8), .int v8]) rfl ?_
        refine fO_ic 112 rfl rfl h (fun h => ?_) (fun h => ?_)
        · refine fT_ss 1 (pc' := 113) (L' := [some (.ref 52), some (.int x1), some (.int x2), some (.int x3), some (.int x4), some (.int v8), none]) (st' := [.int (nI 0)]) rfl ?_
          exact fT_mk rfl rfl (t125_113 hX hd hw _ _ _ _ _ _ _ Q h)
        · exact fT_mk rfl rfl (t125_92 hX hd hw _ _ _ _ _ _ Q h)
noncomputable def g125_45 (x1 : Int32) (x2 : Int32) (x3 : Int32) (x4 : Int32) (m : fm) : Option ((Int32 × Int32 × fm) ⊕ (Int32 × fm)) := wl (fun s : Int32 × Int32 × fm => s125_45 x1 s.1 x3 s.2.1 s.2.2) lf (x2, x4, m)
theorem t125_45 {X : ai_X} {d w : Nat} (hX : X[1]? = some (39, ai_sh)) (hd : 5 ≤ d) (hw : 117 ≤ w) (x1 : Int32) (x2 : Int32) (x3 : Int32) (x4 : Int32) (m : fm) (Q : Option Value → fm → Prop) (h : ob (g125_45 x1 x2 x3 x4 m) (Sum.elim (fun s : Int32 × Int32 × fm => fT X d w ai_r125 18 [some (.ref 52), some (.int x1), some (.int s.1), some (.int s.2.1), none, none, none] [] s.2.2 Q) (fun z : Int32 × fm => Q (some (.int z.1)) z.2))) : fT X d w ai_r125 45 [some (.ref 52), some (.int x1), some (.int x2), some (.int x3), some (.int x4), none, none] [] m Q :=
  wl_ob (P := fun s : Int32 × Int32 × fm => fT X d w ai_r125 45 [some (.ref 52), some (.int x1), some (.int s.1), some (.int x3), some (.int s.2.1), none, none] [] s.2.2 Q) (fun s h => b125_45 hX hd hw x1 s.1 x3 s.2.1 s.2.2 Q h) lf (x2, x4, m) h
noncomputable def s125_18 (x1 : Int32) (x2 : Int32) (x3 : Int32) (m : fm) : Option ((Int32 × Int32 × fm) ⊕ (Int32 × fm)) :=
  bif ai_c .ge x3 (nI 8) then
    some (.inr (x2, m))
  else
    gfI m 52 15 fun v4 =>
    bif ai_c .ne ((v4 >>> (x3 &&& 31)) &&& (nI 1)) (nI 1) then
      some (.inl (x2, (x3 + (nI 1)), m))
    else
      cl1 (g113 (nI 0) x3 m) fun m5 =>
      g125_45 x1 x2 x3 (nI 0) m5
set_option maxHeartbeats 4000000 in
theorem b125_18 {X : ai_X} {d w : Nat} (hX : X[1]? = some (39, ai_sh)) (hd : 5 ≤ d) (hw : 117 ≤ w) (x1 : Int32) (x2 : Int32) (x3 : Int32) (m : fm) (Q : Option Value → fm → Prop) (h : ob (s125_18 x1 x2 x3 m) (Sum.elim (fun s : Int32 × Int32 × fm => fT X d w ai_r125 18 [some (.ref 52), some (.int x1), some (.int s.1), some (.int s.2.1), none, none, none] [] s.2.2 Q) (fun z : Int32 × fm => Q (some (.int z.1)) z.2))) : fT X d w ai_r125 18 [some (.ref 52), some (.int x1), some (.int x2), some (.int x3), none, none, none] [] m Q := by
  unfold s125_18 at h
  refine fT_ss 2 (pc' := 21) (L' := [some (.ref 52), some (.int x1), some (.int x2), some (.int x3), none, none, none]) (st' := [.int (nI 8), .int x3]) rfl ?_
  refine fO_ic 151 rfl rfl h (fun h => ?_) (fun h => ?_)
  · refine fT_ss 1 (pc' := 152) (L' := [none, none, some (.int x2), none, none, none, none]) (st' := [.int x2]) rfl ?_
    exact fT_r rfl rfl h
  · refine fT_ss 1 (pc' := 25) (L' := [some (.ref 52), some (.int x1), some (.int x2), some (.int x3), none, none, none]) (st' := [.ref 52]) rfl ?_
    refine fO_gi rfl rfl rfl h (fun v4 h => ?_)
    refine fT_ss 5 (pc' := 33) (L' := [some (.ref 52), some (.int x1), some (.int x2), some (.int x3), none, none, none]) (st' := [.int (nI 1), .int ((v4 >>> (x3 &&& 31)) &&& (nI 1))]) rfl ?_
    refine fO_ic 145 rfl rfl h (fun h => ?_) (fun h => ?_)
    · refine fT_ss 2 (pc' := 18) (L' := [some (.ref 52), some (.int x1), some (.int x2), some (.int (x3 + (nI 1))), none, none, none]) (st' := []) rfl ?_
      replace h := ob_inl h
      exact fT_mk rfl rfl h
    · refine fT_ss 3 (pc' := 39) (L' := [some (.ref 52), some (.int x1), some (.int x2), some (.int x3), none, none, none]) (st' := [.int x3, .int (nI 0), .ref 52]) rfl ?_
      refine fO_qv1 (r' := ai_r113) (k := 52) (As := [.int (nI 0), .int x3]) (rest := []) rfl rfl rfl rfl rfl rfl (by omega) (show 19 + 4 ≤ w by omega) (Nat.le_of_ble_eq_true rfl) (Nat.le_of_ble_eq_true rfl) rfl rfl (fun Qc hq => t113_0 hX (show 3 ≤ d - 1 by omega) (show 71 ≤ w - (19 + 4) by omega) _ _ _ Qc hq) h (fun m5 h => ?_)
      refine fT_ss 2 (pc' := 45) (L' := [some (.ref 52), some (.int x1), some (.int x2), some (.int x3), some (.int (nI 0)), none, none]) (st' := []) rfl ?_
      exact fT_mk rfl rfl (t125_45 hX hd hw _ _ _ _ _ Q h)
noncomputable def g125_18 (x1 : Int32) (x2 : Int32) (x3 : Int32) (m : fm) : Option (Int32 × fm) := wl (fun s : Int32 × Int32 × fm => s125_18 x1 s.1 s.2.1 s.2.2) lf (x2, x3, m)
theorem t125_18 {X : ai_X} {d w : Nat} (hX : X[1]? = some (39, ai_sh)) (hd : 5 ≤ d) (hw : 117 ≤ w) (x1 : Int32) (x2 : Int32) (x3 : Int32) (m : fm) (Q : Option Value → fm → Prop) (h : ob (g125_18 x1 x2 x3 m) (fun z : Int32 × fm => Q (some (.int z.1)) z.2)) : fT X d w ai_r125 18 [some (.ref 52), some (.int x1), some (.int x2), some (.int x3), none, none, none] [] m Q :=
  wl_ob (P := fun s : Int32 × Int32 × fm => fT X d w ai_r125 18 [some (.ref 52), some (.int x1), some (.int s.1), some (.int s.2.1), none, none, none] [] s.2.2 Q) (fun s h => b125_18 hX hd hw x1 s.1 s.2.1 s.2.2 Q h) lf (x2, x3, m) h
noncomputable def g125 (x1 : Int32) (m : fm) : Option (Int32 × fm) :=
  cl2 (g97 x1 m) fun v2 m1 =>
  bif ai_c .ne v2 0 then
    cl1 (g123  m1) fun m3 =>
    g125_18 x1 (nI 0) (nI 0) m3
  else
    some ((-101), m1)
set_option maxHeartbeats 4000000 in
theorem t125_0 {X : ai_X} {d w : Nat} (hX : X[1]? = some (39, ai_sh)) (hd : 5 ≤ d) (hw : 117 ≤ w) (x1 : Int32) (m : fm) (Q : Option Value → fm → Prop) (h : ob (g125 x1 m) (fun z : Int32 × fm => Q (some (.int z.1)) z.2)) : fT X d w ai_r125 0 [some (.ref 52), some (.int x1), none, none, none, none, none] [] m Q := by
  unfold g125 at h
  refine fT_ss 1 (pc' := 1) (L' := [some (.ref 52), some (.int x1), none, none, none, none, none]) (st' := [.int x1]) rfl ?_
  refine fO_qs2 Value.int (r' := ai_r97) (As := [.int x1]) (rest := []) rfl rfl rfl rfl rfl rfl (by omega) (show 19 + 1 ≤ w by omega) (Nat.le_of_ble_eq_true rfl) (Nat.le_of_ble_eq_true rfl) rfl rfl (fun Qc hq => t97_0 hX (show 1 ≤ d - 1 by omega) (show 22 ≤ w - (19 + 1) by omega) _ _ Qc hq) h (fun v2 m1 h => ?_)
  refine fO_if 10 rfl rfl h (fun h => ?_) (fun h => ?_)
  · refine fT_ss 1 (pc' := 11) (L' := [some (.ref 52), some (.int x1), none, none, none, none, none]) (st' := [.ref 52]) rfl ?_
    refine fO_qv1 (r' := ai_r123) (k := 52) (As := []) (rest := []) rfl rfl rfl rfl rfl rfl (by omega) (show 19 + 4 ≤ w by omega) (Nat.le_of_ble_eq_true rfl) (Nat.le_of_ble_eq_true rfl) rfl rfl (fun Qc hq => t123_0 hX (show 4 ≤ d - 1 by omega) (show 94 ≤ w - (19 + 4) by omega)  _ Qc hq) h (fun m3 h => ?_)
    refine fT_ss 4 (pc' := 18) (L' := [some (.ref 52), some (.int x1), some (.int (nI 0)), some (.int (nI 0)), none, none, none]) (st' := []) rfl ?_
    exact fT_mk rfl rfl (t125_18 hX hd hw _ _ _ _ Q h)
  · refine fT_ss 1 (pc' := 9) (L' := [none, none, none, none, none, none, none]) (st' := [.int (-101)]) rfl ?_
    exact fT_r rfl rfl h
noncomputable def g126 (x1 : Int32) (x2 : Int32) (m : fm) : Option (Int32 × fm) :=
  bif ai_c .ne x2 0 then
    bif ai_c .ne x2 (nI 1) then
      ldI m 56 384 x1 fun v1 =>
      some (v1, m)
    else
      ldI m 55 384 x1 fun v2 =>
      some (v2, m)
  else
    ldI m 54 384 x1 fun v3 =>
    some (v3, m)
set_option maxHeartbeats 4000000 in
theorem t126_0 {X : ai_X} {d w : Nat} (hX : X[1]? = some (39, ai_sh)) (hd : 0 ≤ d) (hw : 0 ≤ w) (x1 : Int32) (x2 : Int32) (m : fm) (Q : Option Value → fm → Prop) (h : ob (g126 x1 x2 m) (fun z : Int32 × fm => Q (some (.int z.1)) z.2)) : fT X d w ai_r126 0 [some (.ref 52), some (.int x1), some (.int x2)] [] m Q := by
  unfold g126 at h
  refine fT_ss 1 (pc' := 1) (L' := [some (.ref 52), some (.int x1), some (.int x2)]) (st' := [.int x2]) rfl ?_
  refine fO_if 13 rfl rfl h (fun h => ?_) (fun h => ?_)
  · refine fT_ss 2 (pc' := 15) (L' := [some (.ref 52), some (.int x1), some (.int x2)]) (st' := [.int (nI 1), .int x2]) rfl ?_
    refine fO_ic 27 rfl rfl h (fun h => ?_) (fun h => ?_)
    · refine fT_ss 1 (pc' := 28) (L' := [some (.ref 52), some (.int x1), none]) (st' := [.ref 52]) rfl ?_
      refine fT_gr (q := 56) rfl rfl rfl ?_
      refine fT_ss 1 (pc' := 32) (L' := [some (.ref 52), some (.int x1), none]) (st' := [.int x1, .ref 56]) rfl ?_
      refine fO_ia rfl rfl rfl h (fun v1 h => ?_)
      exact fT_r rfl rfl h
    · refine fT_ss 1 (pc' := 19) (L' := [some (.ref 52), some (.int x1), none]) (st' := [.ref 52]) rfl ?_
      refine fT_gr (q := 55) rfl rfl rfl ?_
      refine fT_ss 1 (pc' := 23) (L' := [some (.ref 52), some (.int x1), none]) (st' := [.int x1, .ref 55]) rfl ?_
      refine fO_ia rfl rfl rfl h (fun v2 h => ?_)
      refine fT_ss 1 (pc' := 33) (L' := [some (.ref 52), some (.int x1), none]) (st' := [.int v2]) rfl ?_
      exact fT_r rfl rfl h
  · refine fT_ss 1 (pc' := 5) (L' := [some (.ref 52), some (.int x1), none]) (st' := [.ref 52]) rfl ?_
    refine fT_gr (q := 54) rfl rfl rfl ?_
    refine fT_ss 1 (pc' := 9) (L' := [some (.ref 52), some (.int x1), none]) (st' := [.int x1, .ref 54]) rfl ?_
    refine fO_ia rfl rfl rfl h (fun v3 h => ?_)
    refine fT_ss 1 (pc' := 33) (L' := [some (.ref 52), some (.int x1), none]) (st' := [.int v3]) rfl ?_
    exact fT_r rfl rfl h
noncomputable def s127_22 (x1 : Int32) (x2 : Int32) (x3 : Int32) (x4 : Int32) (m : fm) : Option ((Int32 × fm) ⊕ ((Int32 × fm) ⊕ (Int32 × fm))) :=
  bif ai_c .ge x4 (nI 3) then
    some (.inr (.inl ((x2 + (nI 1)), m)))
  else
    ldI m 53 384 x3 fun v4 =>
    cl2 (g100 v4 x4 m) fun v6 m5 =>
    bif ai_c .ne v6 (nI 1) then
      some (.inl ((x4 + (nI 1)), m5))
    else
      cl2 (g126 x3 x4 m5) fun v8 m7 =>
      bif ai_c .le v8 (nI 1) then
        some (.inl ((x4 + (nI 1)), m7))
      else
        cl2 (g126 x3 x4 m7) fun v10 m9 =>
        some (.inr (.inr (v10, m9)))
set_option maxHeartbeats 4000000 in
theorem b127_22 {X : ai_X} {d w : Nat} (hX : X[1]? = some (39, ai_sh)) (hd : 2 ≤ d) (hw : 42 ≤ w) (x1 : Int32) (x2 : Int32) (x3 : Int32) (x4 : Int32) (m : fm) (Q : Option Value → fm → Prop) (h : ob (s127_22 x1 x2 x3 x4 m) (Sum.elim (fun s : Int32 × fm => fT X d w ai_r127 22 [some (.ref 52), some (.int x1), some (.int x2), some (.int x3), some (.int s.1)] [] s.2 Q) (Sum.elim (fun s : Int32 × fm => fT X d w ai_r127 2 [some (.ref 52), some (.int x1), some (.int s.1), none, none] [] s.2 Q) (fun z : Int32 × fm => Q (some (.int z.1)) z.2)))) : fT X d w ai_r127 22 [some (.ref 52), some (.int x1), some (.int x2), some (.int x3), some (.int x4)] [] m Q := by
  unfold s127_22 at h
  refine fT_ss 2 (pc' := 25) (L' := [some (.ref 52), some (.int x1), some (.int x2), some (.int x3), some (.int x4)]) (st' := [.int (nI 3), .int x4]) rfl ?_
  refine fO_ic 68 rfl rfl h (fun h => ?_) (fun h => ?_)
  · refine fT_ss 2 (pc' := 2) (L' := [some (.ref 52), some (.int x1), some (.int (x2 + (nI 1))), none, none]) (st' := []) rfl ?_
    replace h := ob_inr h
    replace h := ob_inl h
    exact fT_mk rfl rfl h
  · refine fT_ss 1 (pc' := 29) (L' := [some (.ref 52), some (.int x1), some (.int x2), some (.int x3), some (.int x4)]) (st' := [.ref 52]) rfl ?_
    refine fT_gr (q := 53) rfl rfl rfl ?_
    refine fT_ss 1 (pc' := 33) (L' := [some (.ref 52), some (.int x1), some (.int x2), some (.int x3), some (.int x4)]) (st' := [.int x3, .ref 53]) rfl ?_
    refine fO_ia rfl rfl rfl h (fun v4 h => ?_)
    refine fT_ss 1 (pc' := 36) (L' := [some (.ref 52), some (.int x1), some (.int x2), some (.int x3), some (.int x4)]) (st' := [.int x4, .int v4]) rfl ?_
    refine fO_qs2 Value.int (r' := ai_r100) (As := [.int v4, .int x4]) (rest := []) rfl rfl rfl rfl rfl rfl (by omega) (show 19 + 3 ≤ w by omega) (Nat.le_of_ble_eq_true rfl) (Nat.le_of_ble_eq_true rfl) rfl rfl (fun Qc hq => t100_0 hX (show 1 ≤ d - 1 by omega) (show 20 ≤ w - (19 + 3) by omega) _ _ _ Qc hq) h (fun v6 m5 h => ?_)
    refine fT_ss 1 (pc' := 40) (L' := [some (.ref 52), some (.int x1), some (.int x2), some (.int x3), some (.int x4)]) (st' := [.int (nI 1), .int v6]) rfl ?_
    refine fO_ic 62 rfl rfl h (fun h => ?_) (fun h => ?_)
    · refine fT_ss 2 (pc' := 22) (L' := [some (.ref 52), some (.int x1), some (.int x2), some (.int x3), some (.int (x4 + (nI 1)))]) (st' := []) rfl ?_
      replace h := ob_inl h
      exact fT_mk rfl rfl h
    · refine fT_ss 3 (pc' := 47) (L' := [some (.ref 52), some (.int x1), some (.int x2), some (.int x3), some (.int x4)]) (st' := [.int x4, .int x3, .ref 52]) rfl ?_
      refine fO_qv2 Value.int (r' := ai_r126) (k := 52) (As := [.int x3, .int x4]) (rest := []) rfl rfl rfl rfl rfl rfl (by omega) (show 19 + 3 ≤ w by omega) (Nat.le_of_ble_eq_true rfl) (Nat.le_of_ble_eq_true rfl) rfl rfl (fun Qc hq => t126_0 hX (show 0 ≤ d - 1 by omega) (show 0 ≤ w - (19 + 3) by omega) _ _ _ Qc hq) h (fun v8 m7 h => ?_)
      refine fT_ss 1 (pc' := 51) (L' := [some (.ref 52), some (.int x1), some (.int x2), some (.int x3), some (.int x4)]) (st' := [.int (nI 1), .int v8]) rfl ?_
      refine fO_ic 62 rfl rfl h (fun h => ?_) (fun h => ?_)
      · refine fT_ss 2 (pc' := 22) (L' := [some (.ref 52), some (.int x1), some (.int x2), some (.int x3), some (.int (x4 + (nI 1)))]) (st' := []) rfl ?_
        replace h := ob_inl h
        exact fT_mk rfl rfl h
      · refine fT_ss 3 (pc' := 58) (L' := [some (.ref 52), none, none, some (.int x3), some (.int x4)]) (st' := [.int x4, .int x3, .ref 52]) rfl ?_
        refine fO_qv2 Value.int (r' := ai_r126) (k := 52) (As := [.int x3, .int x4]) (rest := []) rfl rfl rfl rfl rfl rfl (by omega) (show 19 + 3 ≤ w by omega) (Nat.le_of_ble_eq_true rfl) (Nat.le_of_ble_eq_true rfl) rfl rfl (fun Qc hq => t126_0 hX (show 0 ≤ d - 1 by omega) (show 0 ≤ w - (19 + 3) by omega) _ _ _ Qc hq) h (fun v10 m9 h => ?_)
        exact fT_r rfl rfl h
noncomputable def g127_22 (x1 : Int32) (x2 : Int32) (x3 : Int32) (x4 : Int32) (m : fm) : Option ((Int32 × fm) ⊕ (Int32 × fm)) := wl (fun s : Int32 × fm => s127_22 x1 x2 x3 s.1 s.2) lf (x4, m)
theorem t127_22 {X : ai_X} {d w : Nat} (hX : X[1]? = some (39, ai_sh)) (hd : 2 ≤ d) (hw : 42 ≤ w) (x1 : Int32) (x2 : Int32) (x3 : Int32) (x4 : Int32) (m : fm) (Q : Option Value → fm → Prop) (h : ob (g127_22 x1 x2 x3 x4 m) (Sum.elim (fun s : Int32 × fm => fT X d w ai_r127 2 [some (.ref 52), some (.int x1), some (.int s.1), none, none] [] s.2 Q) (fun z : Int32 × fm => Q (some (.int z.1)) z.2))) : fT X d w ai_r127 22 [some (.ref 52), some (.int x1), some (.int x2), some (.int x3), some (.int x4)] [] m Q :=
  wl_ob (P := fun s : Int32 × fm => fT X d w ai_r127 22 [some (.ref 52), some (.int x1), some (.int x2), some (.int x3), some (.int s.1)] [] s.2 Q) (fun s h => b127_22 hX hd hw x1 x2 x3 s.1 s.2 Q h) lf (x4, m) h
noncomputable def s127_2 (x1 : Int32) (x2 : Int32) (m : fm) : Option ((Int32 × fm) ⊕ (Int32 × fm)) :=
  ldI m 57 16 x1 fun v1 =>
  bif ai_c .ge x2 v1 then
    some (.inr ((nI 2), m))
  else
    cl2 (g98 (nI 0) x1 x2 m) fun v3 m2 =>
    g127_22 x1 x2 v3 (nI 0) m2
set_option maxHeartbeats 4000000 in
theorem b127_2 {X : ai_X} {d w : Nat} (hX : X[1]? = some (39, ai_sh)) (hd : 2 ≤ d) (hw : 42 ≤ w) (x1 : Int32) (x2 : Int32) (m : fm) (Q : Option Value → fm → Prop) (h : ob (s127_2 x1 x2 m) (Sum.elim (fun s : Int32 × fm => fT X d w ai_r127 2 [some (.ref 52), some (.int x1), some (.int s.1), none, none] [] s.2 Q) (fun z : Int32 × fm => Q (some (.int z.1)) z.2))) : fT X d w ai_r127 2 [some (.ref 52), some (.int x1), some (.int x2), none, none] [] m Q := by
  unfold s127_2 at h
  refine fT_ss 2 (pc' := 4) (L' := [some (.ref 52), some (.int x1), some (.int x2), none, none]) (st' := [.ref 52, .int x2]) rfl ?_
  refine fT_gr (q := 57) rfl rfl rfl ?_
  refine fT_ss 1 (pc' := 8) (L' := [some (.ref 52), some (.int x1), some (.int x2), none, none]) (st' := [.int x1, .ref 57, .int x2]) rfl ?_
  refine fO_ia rfl rfl rfl h (fun v1 h => ?_)
  refine fO_ic 74 rfl rfl h (fun h => ?_) (fun h => ?_)
  · refine fT_ss 1 (pc' := 75) (L' := [none, none, none, none, none]) (st' := [.int (nI 2)]) rfl ?_
    exact fT_r rfl rfl h
  · refine fT_ss 3 (pc' := 15) (L' := [some (.ref 52), some (.int x1), some (.int x2), none, none]) (st' := [.int x2, .int x1, .int (nI 0)]) rfl ?_
    refine fO_qs2 Value.int (r' := ai_r98) (As := [.int (nI 0), .int x1, .int x2]) (rest := []) rfl rfl rfl rfl rfl rfl (by omega) (show 19 + 3 ≤ w by omega) (Nat.le_of_ble_eq_true rfl) (Nat.le_of_ble_eq_true rfl) rfl rfl (fun Qc hq => t98_0 hX (show 0 ≤ d - 1 by omega) (show 0 ≤ w - (19 + 3) by omega) _ _ _ _ Qc hq) h (fun v3 m2 h => ?_)
    refine fT_ss 3 (pc' := 22) (L' := [some (.ref 52), some (.int x1), some (.int x2), some (.int v3), some (.int (nI 0))]) (st' := []) rfl ?_
    exact fT_mk rfl rfl (t127_22 hX hd hw _ _ _ _ _ Q h)
noncomputable def g127_2 (x1 : Int32) (x2 : Int32) (m : fm) : Option (Int32 × fm) := wl (fun s : Int32 × fm => s127_2 x1 s.1 s.2) lf (x2, m)
theorem t127_2 {X : ai_X} {d w : Nat} (hX : X[1]? = some (39, ai_sh)) (hd : 2 ≤ d) (hw : 42 ≤ w) (x1 : Int32) (x2 : Int32) (m : fm) (Q : Option Value → fm → Prop) (h : ob (g127_2 x1 x2 m) (fun z : Int32 × fm => Q (some (.int z.1)) z.2)) : fT X d w ai_r127 2 [some (.ref 52), some (.int x1), some (.int x2), none, none] [] m Q :=
  wl_ob (P := fun s : Int32 × fm => fT X d w ai_r127 2 [some (.ref 52), some (.int x1), some (.int s.1), none, none] [] s.2 Q) (fun s h => b127_2 hX hd hw x1 s.1 s.2 Q h) lf (x2, m) h
noncomputable def g127 (x1 : Int32) (m : fm) : Option (Int32 × fm) :=
  g127_2 x1 (nI 0) m
set_option maxHeartbeats 4000000 in
theorem t127_0 {X : ai_X} {d w : Nat} (hX : X[1]? = some (39, ai_sh)) (hd : 2 ≤ d) (hw : 42 ≤ w) (x1 : Int32) (m : fm) (Q : Option Value → fm → Prop) (h : ob (g127 x1 m) (fun z : Int32 × fm => Q (some (.int z.1)) z.2)) : fT X d w ai_r127 0 [some (.ref 52), some (.int x1), none, none, none] [] m Q := by
  unfold g127 at h
  refine fT_ss 2 (pc' := 2) (L' := [some (.ref 52), some (.int x1), some (.int (nI 0)), none, none]) (st' := []) rfl ?_
  exact fT_mk rfl rfl (t127_2 hX hd hw _ _ _ Q h)
noncomputable def g128 (x0 : Int32) (x1 : Int32) (m : fm) : Option (Int32 × fm) :=
  bif ai_c .ge x0 (nI 2) then
    bif ai_c .ne x0 x1 then
      some ((nI 3), m)
    else
      some ((nI 2), m)
  else
    some (x0, m)
set_option maxHeartbeats 4000000 in
theorem t128_0 {X : ai_X} {d w : Nat} (hX : X[1]? = some (39, ai_sh)) (hd : 0 ≤ d) (hw : 0 ≤ w) (x0 : Int32) (x1 : Int32) (m : fm) (Q : Option Value → fm → Prop) (h : ob (g128 x0 x1 m) (fun z : Int32 × fm => Q (some (.int z.1)) z.2)) : fT X d w ai_r128 0 [some (.int x0), some (.int x1)] [] m Q := by
  unfold g128 at h
  refine fT_ss 2 (pc' := 2) (L' := [some (.int x0), some (.int x1)]) (st' := [.int (nI 2), .int x0]) rfl ?_
  refine fO_ic 9 rfl rfl h (fun h => ?_) (fun h => ?_)
  · refine fT_ss 2 (pc' := 11) (L' := [some (.int x0), some (.int x1)]) (st' := [.int x1, .int x0]) rfl ?_
    refine fO_ic 18 rfl rfl h (fun h => ?_) (fun h => ?_)
    · refine fT_ss 1 (pc' := 19) (L' := [none, none]) (st' := [.int (nI 3)]) rfl ?_
      exact fT_r rfl rfl h
    · refine fT_ss 2 (pc' := 19) (L' := [none, none]) (st' := [.int (nI 2)]) rfl ?_
      exact fT_r rfl rfl h
  · refine fT_ss 2 (pc' := 19) (L' := [some (.int x0), none]) (st' := [.int x0]) rfl ?_
    exact fT_r rfl rfl h
