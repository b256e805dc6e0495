noncomputable def g61 (x1 : Int32) (m : fm) : Option (Int32 × fm) :=
  ldI m 9 8 x1 fun v1 =>
  rtB v1 (some (v1, m))
set_option maxHeartbeats 4000000 in
theorem t61_0 {X : ai_X} {d w : Nat} (hX : X[1]? = some (39, ai_sh)) (hd : 0 ≤ d) (hw : 0 ≤ w) (x1 : Int32) (m : fm) (Q : Option Value → fm → Prop) (h : ob (g61 x1 m) (fun z : Int32 × fm => Q (some (.int z.1)) z.2)) : fT X d w ai_r61 0 [some (.ref 8), some (.int x1)] [] m Q := by
  unfold g61 at h
  refine fT_ss 1 (pc' := 1) (L' := [some (.ref 8), some (.int x1)]) (st' := [.ref 8]) rfl ?_
  refine fT_gr (q := 9) rfl rfl rfl ?_
  refine fT_ss 1 (pc' := 5) (L' := [some (.ref 8), some (.int x1)]) (st' := [.int x1, .ref 9]) rfl ?_
  refine fO_ba rfl rfl h (fun v1 h => ?_)
  exact fO_rb rfl rfl h (fun h => h)
noncomputable def g62 (x1 : Int32) (m : fm) : Option (Int32 × fm) :=
  ldI m 11 4 x1 fun v1 =>
  some (v1, m)
set_option maxHeartbeats 4000000 in
theorem t62_0 {X : ai_X} {d w : Nat} (hX : X[1]? = some (39, ai_sh)) (hd : 0 ≤ d) (hw : 0 ≤ w) (x1 : Int32) (m : fm) (Q : Option Value → fm → Prop) (h : ob (g62 x1 m) (fun z : Int32 × fm => Q (some (.int z.1)) z.2)) : fT X d w ai_r62 0 [some (.ref 8), some (.int x1)] [] m Q := by
  unfold g62 at h
  refine fT_ss 1 (pc' := 1) (L' := [some (.ref 8), some (.int x1)]) (st' := [.ref 8]) rfl ?_
  refine fT_gr (q := 11) rfl rfl rfl ?_
  refine fT_ss 1 (pc' := 5) (L' := [some (.ref 8), some (.int x1)]) (st' := [.int x1, .ref 11]) rfl ?_
  refine fO_ia rfl rfl rfl h (fun v1 h => ?_)
  exact fT_r rfl rfl h
noncomputable def s64_2 (x1 : Int32) (m : fm) : Option ((Int32 × fm) ⊕ (Int32 × fm)) :=
  bif ai_c .ge x1 (nI 8) then
    some (.inr ((-1), m))
  else
    ldI m 9 8 x1 fun v1 =>
    bif ai_c .eq v1 0 then
      some (.inl ((x1 + (nI 1)), m))
    else
      ldI m 10 8 x1 fun v2 =>
      bif ai_c .ne v2 0 then
        some (.inl ((x1 + (nI 1)), m))
      else
        some (.inr (x1, m))
set_option maxHeartbeats 4000000 in
theorem b64_2 {X : ai_X} {d w : Nat} (hX : X[1]? = some (39, ai_sh)) (hd : 0 ≤ d) (hw : 0 ≤ w) (x1 : Int32) (m : fm) (Q : Option Value → fm → Prop) (h : ob (s64_2 x1 m) (Sum.elim (fun s : Int32 × fm => fT X d w ai_r64 2 [some (.ref 8), some (.int s.1)] [] s.2 Q) (fun z : Int32 × fm => Q (some (.int z.1)) z.2))) : fT X d w ai_r64 2 [some (.ref 8), some (.int x1)] [] m Q := by
  unfold s64_2 at h
  refine fT_ss 2 (pc' := 5) (L' := [some (.ref 8), some (.int x1)]) (st' := [.int (nI 8), .int x1]) rfl ?_
  refine fO_ic 34 rfl rfl h (fun h => ?_) (fun h => ?_)
  · refine fT_ss 1 (pc' := 35) (L' := [none, none]) (st' := [.int (-1)]) rfl ?_
    exact fT_r rfl rfl h
  · refine fT_ss 1 (pc' := 9) (L' := [some (.ref 8), some (.int x1)]) (st' := [.ref 8]) rfl ?_
    refine fT_gr (q := 9) rfl rfl rfl ?_
    refine fT_ss 1 (pc' := 13) (L' := [some (.ref 8), some (.int x1)]) (st' := [.int x1, .ref 9]) rfl ?_
    refine fO_ba rfl rfl h (fun v1 h => ?_)
    refine fO_if 28 rfl rfl h (fun h => ?_) (fun h => ?_)
    · refine fT_ss 2 (pc' := 2) (L' := [some (.ref 8), some (.int (x1 + (nI 1)))]) (st' := []) rfl ?_
      replace h := ob_inl h
      exact fT_mk rfl rfl h
    · refine fT_ss 1 (pc' := 18) (L' := [some (.ref 8), some (.int x1)]) (st' := [.ref 8]) rfl ?_
      refine fT_gr (q := 10) rfl rfl rfl ?_
      refine fT_ss 1 (pc' := 22) (L' := [some (.ref 8), some (.int x1)]) (st' := [.int x1, .ref 10]) rfl ?_
      refine fO_ba rfl rfl h (fun v2 h => ?_)
      refine fO_if 28 rfl rfl h (fun h => ?_) (fun h => ?_)
      · refine fT_ss 2 (pc' := 2) (L' := [some (.ref 8), some (.int (x1 + (nI 1)))]) (st' := []) rfl ?_
        replace h := ob_inl h
        exact fT_mk rfl rfl h
      · refine fT_ss 1 (pc' := 27) (L' := [none, some (.int x1)]) (st' := [.int x1]) rfl ?_
        exact fT_r rfl rfl h
noncomputable def g64_2 (x1 : Int32) (m : fm) : Option (Int32 × fm) := wl (fun s : Int32 × fm => s64_2 s.1 s.2) lf (x1, m)
theorem t64_2 {X : ai_X} {d w : Nat} (hX : X[1]? = some (39, ai_sh)) (hd : 0 ≤ d) (hw : 0 ≤ w) (x1 : Int32) (m : fm) (Q : Option Value → fm → Prop) (h : ob (g64_2 x1 m) (fun z : Int32 × fm => Q (some (.int z.1)) z.2)) : fT X d w ai_r64 2 [some (.ref 8), some (.int x1)] [] m Q :=
  wl_ob (P := fun s : Int32 × fm => fT X d w ai_r64 2 [some (.ref 8), some (.int s.1)] [] s.2 Q) (fun s h => b64_2 hX hd hw s.1 s.2 Q h) lf (x1, m) h
noncomputable def g64  (m : fm) : Option (Int32 × fm) :=
  g64_2 (nI 0) m
set_option maxHeartbeats 4000000 in
theorem t64_0 {X : ai_X} {d w : Nat} (hX : X[1]? = some (39, ai_sh)) (hd : 0 ≤ d) (hw : 0 ≤ w)  (m : fm) (Q : Option Value → fm → Prop) (h : ob (g64  m) (fun z : Int32 × fm => Q (some (.int z.1)) z.2)) : fT X d w ai_r64 0 [some (.ref 8), none] [] m Q := by
  unfold g64 at h
  refine fT_ss 2 (pc' := 2) (L' := [some (.ref 8), some (.int (nI 0))]) (st' := []) rfl ?_
  exact fT_mk rfl rfl (t64_2 hX hd hw _ _ Q h)
noncomputable def g66 (x1 : Int32) (x2 : Int32) (m : fm) : Option (fm) :=
  bif decide (x1 = nI 7) then
    ldI m 11 4 x2 fun v1 =>
    stI m 11 4 x2 (v1 ||| (nI 1)) fun m2 =>
    some m2
  else bif decide (x1 = nI 8) then
    ldI m 11 4 x2 fun v3 =>
    stI m 11 4 x2 (v3 ||| (nI 2)) fun m4 =>
    some m4
  else bif decide (x1 = nI 9) then
    stB m 9 8 x2 (nI 1) fun m5 =>
    some m5
  else 
  some m
set_option maxHeartbeats 4000000 in
theorem t66_0 {X : ai_X} {d w : Nat} (hX : X[1]? = some (39, ai_sh)) (hd : 0 ≤ d) (hw : 0 ≤ w) (x1 : Int32) (x2 : Int32) (m : fm) (Q : Option Value → fm → Prop) (h : ob (g66 x1 x2 m) (fun z : fm => Q none z)) : fT X d w ai_r66 0 [some (.ref 8), some (.int x1), some (.int x2)] [] m Q := by
  unfold g66 at h
  refine fT_ss 1 (pc' := 1) (L' := [some (.ref 8), some (.int x1), some (.int x2)]) (st' := [.int x1]) rfl ?_
  by_cases e7 : x1 = nI 7
  · subst e7
    replace h := ob_eqT h
    refine fT_ss 1 (pc' := 38) (L' := [some (.ref 8), some (.int (nI 7)), some (.int x2)]) (st' := []) rfl ?_
    refine fT_ss 1 (pc' := 39) (L' := [some (.ref 8), none, some (.int x2)]) (st' := [.ref 8]) rfl ?_
    refine fT_gr (q := 11) rfl rfl rfl ?_
    refine fT_ss 2 (pc' := 44) (L' := [some (.ref 8), none, some (.int x2)]) (st' := [.int x2, .ref 11, .int x2, .ref 11]) rfl ?_
    refine fO_ia rfl rfl rfl h (fun v1 h => ?_)
    refine fT_ss 2 (pc' := 47) (L' := [some (.ref 8), none, some (.int x2)]) (st' := [.int (v1 ||| (nI 1)), .int x2, .ref 11]) rfl ?_
    refine fO_is rfl rfl h (fun m2 h => ?_)
    refine fT_ss 1 (pc' := 64) (L' := [some (.ref 8), none, some (.int x2)]) (st' := []) rfl ?_
    exact fT_r rfl rfl h
  replace h := ob_eqF e7 h
  by_cases e8 : x1 = nI 8
  · subst e8
    replace h := ob_eqT h
    refine fT_ss 1 (pc' := 51) (L' := [some (.ref 8), some (.int (nI 8)), some (.int x2)]) (st' := []) rfl ?_
    refine fT_ss 1 (pc' := 52) (L' := [some (.ref 8), none, some (.int x2)]) (st' := [.ref 8]) rfl ?_
    refine fT_gr (q := 11) rfl rfl rfl ?_
    refine fT_ss 2 (pc' := 57) (L' := [some (.ref 8), none, some (.int x2)]) (st' := [.int x2, .ref 11, .int x2, .ref 11]) rfl ?_
    refine fO_ia rfl rfl rfl h (fun v3 h => ?_)
    refine fT_ss 2 (pc' := 60) (L' := [some (.ref 8), none, some (.int x2)]) (st' := [.int (v3 ||| (nI 2)), .int x2, .ref 11]) rfl ?_
    refine fO_is rfl rfl h (fun m4 h => ?_)
    refine fT_ss 1 (pc' := 64) (L' := [some (.ref 8), none, some (.int x2)]) (st' := []) rfl ?_
    exact fT_r rfl rfl h
  replace h := ob_eqF e8 h
  by_cases e9 : x1 = nI 9
  · subst e9
    replace h := ob_eqT h
    refine fT_ss 1 (pc' := 28) (L' := [some (.ref 8), some (.int (nI 9)), some (.int x2)]) (st' := []) rfl ?_
    refine fT_ss 1 (pc' := 29) (L' := [some (.ref 8), none, some (.int x2)]) (st' := [.ref 8]) rfl ?_
    refine fT_gr (q := 9) rfl rfl rfl ?_
    refine fT_ss 2 (pc' := 34) (L' := [some (.ref 8), none, some (.int x2)]) (st' := [.int (nI 1), .int x2, .ref 9]) rfl ?_
    refine fO_bs rfl rfl h (fun m5 h => ?_)
    refine fT_ss 1 (pc' := 64) (L' := [some (.ref 8), none, some (.int x2)]) (st' := []) rfl ?_
    exact fT_r rfl rfl h
  replace h := ob_eqF e9 h
  refine fO_td 64 rfl rfl (by have := nt (k := 7) (by omega) e7; have := nt (k := 8) (by omega) e8; have := nt (k := 9) (by omega) e9; omega) ?_
  exact fT_r rfl rfl h
noncomputable def s65_2 (c1 : Nat) (x3 : Int32) (m : fm) : Option ((Int32 × fm) ⊕ (fm)) :=
  cl2 (g1 c1 m) fun v2 m1 =>
  bif ai_c .ge x3 v2 then
    some (.inr m1)
  else
    cl2 (g16 x3 m1) fun v4 m3 =>
    bif ai_c .eq v4 0 then
      some (.inl ((x3 + (nI 1)), m3))
    else
      cl2 (g4 c1 x3 (nI 0) m3) fun v6 m5 =>
      cl2 (g4 c1 x3 (nI 2) m5) fun v8 m7 =>
      cl1 (g66 v6 v8 m7) fun m9 =>
      some (.inl ((x3 + (nI 1)), m9))
set_option maxHeartbeats 4000000 in
theorem b65_2 {X : ai_X} {d w : Nat} (hX : X[1]? = some (39, ai_sh)) (hd : 2 ≤ d) (hw : 43 ≤ w) {c1 : Nat} (hc1 : isC c1) (x3 : Int32) (m : fm) (Q : Option Value → fm → Prop) (h : ob (s65_2 c1 x3 m) (Sum.elim (fun s : Int32 × fm => fT X d w ai_r65 2 [some (.ref 8), some (.ref c1), some (.ref 4), some (.int s.1)] [] s.2 Q) (fun z : fm => Q none z))) : fT X d w ai_r65 2 [some (.ref 8), some (.ref c1), some (.ref 4), some (.int x3)] [] m Q := by
  unfold s65_2 at h
  refine fT_ss 2 (pc' := 4) (L' := [some (.ref 8), some (.ref c1), some (.ref 4), some (.int x3)]) (st' := [.ref c1, .int x3]) rfl ?_
  refine fO_qv2 Value.int (r' := ai_r1) (k := c1) (As := []) (rest := [.int x3]) rfl rfl rfl rfl hc1.1 rfl (by omega) (show 19 + 1 ≤ w by omega) (Nat.le_of_ble_eq_true rfl) (Nat.le_of_ble_eq_true rfl) (all_c rfl (all_c (kl_c hc1.2.2.1) rfl)) rfl (fun Qc hq => t1_0 hX (show 0 ≤ d - 1 by omega) (show 0 ≤ w - (19 + 1) by omega) hc1 _ Qc hq) h (fun v2 m1 h => ?_)
  refine fO_ic 40 rfl rfl h (fun h => ?_) (fun h => ?_)
  · exact fT_r rfl rfl h
  · refine fT_ss 2 (pc' := 12) (L' := [some (.ref 8), some (.ref c1), some (.ref 4), some (.int x3)]) (st' := [.int x3, .ref 4]) rfl ?_
    refine fO_qv2 Value.int (r' := ai_r16) (k := 4) (As := [.int x3]) (rest := []) rfl rfl rfl rfl rfl rfl (by omega) (show 19 + 2 ≤ w by omega) (Nat.le_of_ble_eq_true rfl) (Nat.le_of_ble_eq_true rfl) (all_c rfl (all_c (kl_c hc1.2.2.1) rfl)) rfl (fun Qc hq => t16_0 hX (show 1 ≤ d - 1 by omega) (show 22 ≤ w - (19 + 2) by omega) _ _ Qc hq) h (fun v4 m3 h => ?_)
    refine fO_if 34 rfl rfl h (fun h => ?_) (fun h => ?_)
    · refine fT_ss 2 (pc' := 2) (L' := [some (.ref 8), some (.ref c1), some (.ref 4), some (.int (x3 + (nI 1)))]) (st' := []) rfl ?_
      replace h := ob_inl h
      exact fT_mk rfl rfl h
    · refine fT_ss 4 (pc' := 22) (L' := [some (.ref 8), some (.ref c1), some (.ref 4), some (.int x3)]) (st' := [.int (nI 0), .int x3, .ref c1, .ref 8]) rfl ?_
      refine fO_qv2 Value.int (r' := ai_r4) (k := c1) (As := [.int x3, .int (nI 0)]) (rest := [.ref 8]) rfl rfl rfl rfl hc1.1 rfl (by omega) (show 19 + 3 ≤ w by omega) (Nat.le_of_ble_eq_true rfl) (Nat.le_of_ble_eq_true rfl) (all_c rfl (all_c (kl_c hc1.2.2.1) rfl)) rfl (fun Qc hq => t4_0 hX (show 0 ≤ d - 1 by omega) (show 0 ≤ w - (19 + 3) by omega) hc1 _ _ _ Qc hq) h (fun v6 m5 h => ?_)
      refine fT_ss 3 (pc' := 28) (L' := [some (.ref 8), some (.ref c1), some (.ref 4), some (.int x3)]) (st' := [.int (nI 2), .int x3, .ref c1, .int v6, .ref 8]) rfl ?_
      refine fO_qv2 Value.int (r' := ai_r4) (k := c1) (As := [.int x3, .int (nI 2)]) (rest := [.int v6, .ref 8]) rfl rfl rfl rfl hc1.1 rfl (by omega) (show 19 + 3 ≤ w by omega) (Nat.le_of_ble_eq_true rfl) (Nat.le_of_ble_eq_true rfl) (all_c rfl (all_c (kl_c hc1.2.2.1) rfl)) rfl (fun Qc hq => t4_0 hX (show 0 ≤ d - 1 by omega) (show 0 ≤ w - (19 + 3) by omega) hc1 _ _ _ Qc hq) h (fun v8 m7 h => ?_)
      refine fO_qv1 (r' := ai_r66) (k := 8) (As := [.int v6, .int v8]) (rest := []) rfl rfl rfl rfl rfl rfl (by omega) (show 19 + 3 ≤ w by omega) (Nat.le_of_ble_eq_true rfl) (Nat.le_of_ble_eq_true rfl) (all_c rfl (all_c (kl_c hc1.2.2.1) rfl)) rfl (fun Qc hq => t66_0 hX (show 0 ≤ d - 1 by omega) (show 0 ≤ w - (19 + 3) by omega) _ _ _ Qc hq) h (fun m9 h => ?_)
      refine fT_ss 2 (pc' := 2) (L' := [some (.ref 8), some (.ref c1), some (.ref 4), some (.int (x3 + (nI 1)))]) (st' := []) rfl ?_
      replace h := ob_inl h
      exact fT_mk rfl rfl h
noncomputable def g65_2 (c1 : Nat) (x3 : Int32) (m : fm) : Option (fm) := wl (fun s : Int32 × fm => s65_2 c1 s.1 s.2) lf (x3, m)
theorem t65_2 {X : ai_X} {d w : Nat} (hX : X[1]? = some (39, ai_sh)) (hd : 2 ≤ d) (hw : 43 ≤ w) {c1 : Nat} (hc1 : isC c1) (x3 : Int32) (m : fm) (Q : Option Value → fm → Prop) (h : ob (g65_2 c1 x3 m) (fun z : fm => Q none z)) : fT X d w ai_r65 2 [some (.ref 8), some (.ref c1), some (.ref 4), some (.int x3)] [] m Q :=
  wl_ob (P := fun s : Int32 × fm => fT X d w ai_r65 2 [some (.ref 8), some (.ref c1), some (.ref 4), some (.int s.1)] [] s.2 Q) (fun s h => b65_2 hX hd hw hc1 s.1 s.2 Q h) lf (x3, m) h
noncomputable def g65 (c1 : Nat) (m : fm) : Option (fm) :=
  g65_2 c1 (nI 0) m
set_option maxHeartbeats 4000000 in
theorem t65_0 {X : ai_X} {d w : Nat} (hX : X[1]? = some (39, ai_sh)) (hd : 2 ≤ d) (hw : 43 ≤ w) {c1 : Nat} (hc1 : isC c1) (m : fm) (Q : Option Value → fm → Prop) (h : ob (g65 c1 m) (fun z : fm => Q none z)) : fT X d w ai_r65 0 [some (.ref 8), some (.ref c1), some (.ref 4), none] [] m Q := by
  unfold g65 at h
  refine fT_ss 2 (pc' := 2) (L' := [some (.ref 8), some (.ref c1), some (.ref 4), some (.int (nI 0))]) (st' := []) rfl ?_
  exact fT_mk rfl rfl (t65_2 hX hd hw hc1 _ _ Q h)
noncomputable def s63_61 (x4 : Int32) (m : fm) : Option ((Int32 × fm) ⊕ (fm)) :=
  bif ai_c .ge x4 (nI 8) then
    some (.inr m)
  else
    cl2 (g64  m) fun v2 m1 =>
    bif ai_c .ne v2 (-1) then
      stB m1 10 8 v2 (nI 1) fun m3 =>
      ldA 20 v2 fun c4 =>
      cl1 (g25 c4 m3) fun m5 =>
      ldA 20 v2 fun c6 =>
      cl1 (g65 c6 m5) fun m7 =>
      some (.inl ((x4 + (nI 1)), m7))
    else
      some (.inr m1)
set_option maxHeartbeats 4000000 in
theorem b63_61 {X : ai_X} {d w : Nat} (hX : X[1]? = some (39, ai_sh)) (hd : 5 ≤ d) (hw : 118 ≤ w) (x4 : Int32) (m : fm) (Q : Option Value → fm → Prop) (h : ob (s63_61 x4 m) (Sum.elim (fun s : Int32 × fm => fT X d w ai_r63 61 [some (.ref 8), some (.ref 1), none, some (.ref 4), some (.int s.1), none] [] s.2 Q) (fun z : fm => Q none z))) : fT X d w ai_r63 61 [some (.ref 8), some (.ref 1), none, some (.ref 4), some (.int x4), none] [] m Q := by
  unfold s63_61 at h
  refine fT_ss 2 (pc' := 65) (L' := [some (.ref 8), some (.ref 1), none, some (.ref 4), some (.int x4), none]) (st' := [.int (nI 8), .int x4]) rfl ?_
  refine fO_ic 112 rfl rfl h (fun h => ?_) (fun h => ?_)
  · exact fT_r rfl rfl h
  · refine fT_ss 1 (pc' := 69) (L' := [some (.ref 8), some (.ref 1), none, some (.ref 4), some (.int x4), none]) (st' := [.ref 8]) rfl ?_
    refine fO_qv2 Value.int (r' := ai_r64) (k := 8) (As := []) (rest := []) rfl rfl rfl rfl rfl rfl (by omega) (show 19 + 2 ≤ w by omega) (Nat.le_of_ble_eq_true rfl) (Nat.le_of_ble_eq_true rfl) (all_c rfl (all_c (kl_c isP_1.2.2) rfl)) rfl (fun Qc hq => t64_0 hX (show 0 ≤ d - 1 by omega) (show 0 ≤ w - (19 + 2) by omega)  _ Qc hq) h (fun v2 m1 h => ?_)
    refine fT_ss 3 (pc' := 77) (L' := [some (.ref 8), some (.ref 1), none, some (.ref 4), some (.int x4), some (.int v2)]) (st' := [.int (-1), .int v2]) rfl ?_
    refine fO_ic 81 rfl rfl h (fun h => ?_) (fun h => ?_)
    · refine fT_ss 1 (pc' := 82) (L' := [some (.ref 8), some (.ref 1), none, some (.ref 4), some (.int x4), some (.int v2)]) (st' := [.ref 8]) rfl ?_
      refine fT_gr (q := 10) rfl rfl rfl ?_
      refine fT_ss 2 (pc' := 88) (L' := [some (.ref 8), some (.ref 1), none, some (.ref 4), some (.int x4), some (.int v2)]) (st' := [.int (nI 1), .int v2, .ref 10]) rfl ?_
      refine fO_bs rfl rfl h (fun m3 h => ?_)
      refine fT_ss 3 (pc' := 93) (L' := [some (.ref 8), some (.ref 1), none, some (.ref 4), some (.int x4), some (.int v2)]) (st' := [.int v2, .ref 1, .ref 4]) rfl ?_
      refine fO_aa rfl isP_1 h (fun c4 hc4 h => ?_)
      refine fO_qv1 (r' := ai_r25) (k := 4) (As := [.ref c4]) (rest := []) rfl rfl rfl rfl rfl rfl (by omega) (show 19 + 5 ≤ w by omega) (Nat.le_of_ble_eq_true rfl) (Nat.le_of_ble_eq_true rfl) (all_c rfl (all_c (kl_c isP_1.2.2) rfl)) rfl (fun Qc hq => t25_0 hX (show 4 ≤ d - 1 by omega) (show 94 ≤ w - (19 + 5) by omega) hc4 _ Qc hq) h (fun m5 h => ?_)
      refine fT_ss 3 (pc' := 101) (L' := [some (.ref 8), some (.ref 1), none, some (.ref 4), some (.int x4), some (.int v2)]) (st' := [.int v2, .ref 1, .ref 8]) rfl ?_
      refine fO_aa rfl isP_1 h (fun c6 hc6 h => ?_)
      refine fT_ss 1 (pc' := 103) (L' := [some (.ref 8), some (.ref 1), none, some (.ref 4), some (.int x4), some (.int v2)]) (st' := [.ref 4, .ref c6, .ref 8]) rfl ?_
      refine fO_qv1 (r' := ai_r65) (k := 8) (As := [.ref c6, .ref 4]) (rest := []) rfl rfl rfl rfl rfl rfl (by omega) (show 19 + 4 ≤ w by omega) (Nat.le_of_ble_eq_true rfl) (Nat.le_of_ble_eq_true rfl) (all_c rfl (all_c (kl_c isP_1.2.2) rfl)) rfl (fun Qc hq => t65_0 hX (show 2 ≤ d - 1 by omega) (show 43 ≤ w - (19 + 4) by omega) hc6 _ Qc hq) h (fun m7 h => ?_)
      refine fT_ss 2 (pc' := 61) (L' := [some (.ref 8), some (.ref 1), none, some (.ref 4), some (.int (x4 + (nI 1))), some (.int v2)]) (st' := []) rfl ?_
      replace h := ob_inl h
      exact fT_mk rfl rfl h
    · exact fT_r rfl rfl h
noncomputable def g63_61 (x4 : Int32) (m : fm) : Option (fm) := wl (fun s : Int32 × fm => s63_61 s.1 s.2) lf (x4, m)
theorem t63_61 {X : ai_X} {d w : Nat} (hX : X[1]? = some (39, ai_sh)) (hd : 5 ≤ d) (hw : 118 ≤ w) (x4 : Int32) (m : fm) (Q : Option Value → fm → Prop) (h : ob (g63_61 x4 m) (fun z : fm => Q none z)) : fT X d w ai_r63 61 [some (.ref 8), some (.ref 1), none, some (.ref 4), some (.int x4), none] [] m Q :=
  wl_ob (P := fun s : Int32 × fm => fT X d w ai_r63 61 [some (.ref 8), some (.ref 1), none, some (.ref 4), some (.int s.1), none] [] s.2 Q) (fun s h => b63_61 hX hd hw s.1 s.2 Q h) lf (x4, m) h
noncomputable def s63_38 (x4 : Int32) (m : fm) : Option ((Int32 × fm) ⊕ (fm)) :=
  bif ai_c .ge x4 (nI 4) then
    (g63_61 (nI 0) m).map Sum.inr
  else
    stI m 11 4 x4 (nI 0) fun m8 =>
    some (.inl ((x4 + (nI 1)), m8))
set_option maxHeartbeats 4000000 in
theorem b63_38 {X : ai_X} {d w : Nat} (hX : X[1]? = some (39, ai_sh)) (hd : 5 ≤ d) (hw : 118 ≤ w) (x4 : Int32) (m : fm) (Q : Option Value → fm → Prop) (h : ob (s63_38 x4 m) (Sum.elim (fun s : Int32 × fm => fT X d w ai_r63 38 [some (.ref 8), some (.ref 1), none, some (.ref 4), some (.int s.1), none] [] s.2 Q) (fun z : fm => Q none z))) : fT X d w ai_r63 38 [some (.ref 8), some (.ref 1), none, some (.ref 4), some (.int x4), none] [] m Q := by
  unfold s63_38 at h
  refine fT_ss 2 (pc' := 41) (L' := [some (.ref 8), some (.ref 1), none, some (.ref 4), some (.int x4), none]) (st' := [.int (nI 4), .int x4]) rfl ?_
  refine fO_ic 58 rfl rfl h (fun h => ?_) (fun h => ?_)
  · refine fT_ss 2 (pc' := 61) (L' := [some (.ref 8), some (.ref 1), none, some (.ref 4), some (.int (nI 0)), none]) (st' := []) rfl ?_
    exact fT_mk rfl rfl (t63_61 hX hd hw _ _ Q (ob_mapR h))
  · refine fT_ss 1 (pc' := 45) (L' := [some (.ref 8), some (.ref 1), none, some (.ref 4), some (.int x4), none]) (st' := [.ref 8]) rfl ?_
    refine fT_gr (q := 11) rfl rfl rfl ?_
    refine fT_ss 2 (pc' := 51) (L' := [some (.ref 8), some (.ref 1), none, some (.ref 4), some (.int x4), none]) (st' := [.int (nI 0), .int x4, .ref 11]) rfl ?_
    refine fO_is rfl rfl h (fun m8 h => ?_)
    refine fT_ss 2 (pc' := 38) (L' := [some (.ref 8), some (.ref 1), none, some (.ref 4), some (.int (x4 + (nI 1))), none]) (st' := []) rfl ?_
    replace h := ob_inl h
    exact fT_mk rfl rfl h
noncomputable def g63_38 (x4 : Int32) (m : fm) : Option (fm) := wl (fun s : Int32 × fm => s63_38 s.1 s.2) lf (x4, m)
theorem t63_38 {X : ai_X} {d w : Nat} (hX : X[1]? = some (39, ai_sh)) (hd : 5 ≤ d) (hw : 118 ≤ w) (x4 : Int32) (m : fm) (Q : Option Value → fm → Prop) (h : ob (g63_38 x4 m) (fun z : fm => Q none z)) : fT X d w ai_r63 38 [some (.ref 8), some (.ref 1), none, some (.ref 4), some (.int x4), none] [] m Q :=
  wl_ob (P := fun s : Int32 × fm => fT X d w ai_r63 38 [some (.ref 8), some (.ref 1), none, some (.ref 4), some (.int s.1), none] [] s.2 Q) (fun s h => b63_38 hX hd hw s.1 s.2 Q h) lf (x4, m) h
noncomputable def s63_3 (x4 : Int32) (m : fm) : Option ((Int32 × fm) ⊕ (fm)) :=
  bif ai_c .ge x4 (nI 8) then
    (g63_38 (nI 0) m).map Sum.inr
  else
    ldI m 3 8 x4 fun v9 =>
    stB m 9 8 x4 v9 fun m10 =>
    stB m10 10 8 x4 (nI 0) fun m11 =>
    some (.inl ((x4 + (nI 1)), m11))
set_option maxHeartbeats 4000000 in
theorem b63_3 {X : ai_X} {d w : Nat} (hX : X[1]? = some (39, ai_sh)) (hd : 5 ≤ d) (hw : 118 ≤ w) (x4 : Int32) (m : fm) (Q : Option Value → fm → Prop) (h : ob (s63_3 x4 m) (Sum.elim (fun s : Int32 × fm => fT X d w ai_r63 3 [some (.ref 8), some (.ref 1), some (.ref 3), some (.ref 4), some (.int s.1), none] [] s.2 Q) (fun z : fm => Q none z))) : fT X d w ai_r63 3 [some (.ref 8), some (.ref 1), some (.ref 3), some (.ref 4), some (.int x4), none] [] m Q := by
  unfold s63_3 at h
  refine fT_ss 2 (pc' := 7) (L' := [some (.ref 8), some (.ref 1), some (.ref 3), some (.ref 4), some (.int x4), none]) (st' := [.int (nI 8), .int x4]) rfl ?_
  refine fO_ic 35 rfl rfl h (fun h => ?_) (fun h => ?_)
  · refine fT_ss 2 (pc' := 38) (L' := [some (.ref 8), some (.ref 1), none, some (.ref 4), some (.int (nI 0)), none]) (st' := []) rfl ?_
    exact fT_mk rfl rfl (t63_38 hX hd hw _ _ Q (ob_mapR h))
  · refine fT_ss 1 (pc' := 11) (L' := [some (.ref 8), some (.ref 1), some (.ref 3), some (.ref 4), some (.int x4), none]) (st' := [.ref 8]) rfl ?_
    refine fT_gr (q := 9) rfl rfl rfl ?_
    refine fT_ss 3 (pc' := 19) (L' := [some (.ref 8), some (.ref 1), some (.ref 3), some (.ref 4), some (.int x4), none]) (st' := [.int x4, .ref 3, .int x4, .ref 9]) rfl ?_
    refine fO_ba rfl rfl h (fun v9 h => ?_)
    refine fO_bs rfl rfl h (fun m10 h => ?_)
    refine fT_ss 1 (pc' := 22) (L' := [some (.ref 8), some (.ref 1), some (.ref 3), some (.ref 4), some (.int x4), none]) (st' := [.ref 8]) rfl ?_
    refine fT_gr (q := 10) rfl rfl rfl ?_
    refine fT_ss 2 (pc' := 28) (L' := [some (.ref 8), some (.ref 1), some (.ref 3), some (.ref 4), some (.int x4), none]) (st' := [.int (nI 0), .int x4, .ref 10]) rfl ?_
    refine fO_bs rfl rfl h (fun m11 h => ?_)
    refine fT_ss 2 (pc' := 3) (L' := [some (.ref 8), some (.ref 1), some (.ref 3), some (.ref 4), some (.int (x4 + (nI 1))), none]) (st' := []) rfl ?_
    replace h := ob_inl h
    exact fT_mk rfl rfl h
noncomputable def g63_3 (x4 : Int32) (m : fm) : Option (fm) := wl (fun s : Int32 × fm => s63_3 s.1 s.2) lf (x4, m)
theorem t63_3 {X : ai_X} {d w : Nat} (hX : X[1]? = some (39, ai_sh)) (hd : 5 ≤ d) (hw : 118 ≤ w) (x4 : Int32) (m : fm) (Q : Option Value → fm → Prop) (h : ob (g63_3 x4 m) (fun z : fm => Q none z)) : fT X d w ai_r63 3 [some (.ref 8), some (.ref 1), some (.ref 3), some (.ref 4), some (.int x4), none] [] m Q :=
  wl_ob (P := fun s : Int32 × fm => fT X d w ai_r63 3 [some (.ref 8), some (.ref 1), some (.ref 3), some (.ref 4), some (.int s.1), none] [] s.2 Q) (fun s h => b63_3 hX hd hw s.1 s.2 Q h) lf (x4, m) h
noncomputable def g63  (m : fm) : Option (fm) :=
  g63_3 (nI 0) m
set_option maxHeartbeats 4000000 in
theorem t63_0 {X : ai_X} {d w : Nat} (hX : X[1]? = some (39, ai_sh)) (hd : 5 ≤ d) (hw : 118 ≤ w)  (m : fm) (Q : Option Value → fm → Prop) (h : ob (g63  m) (fun z : fm => Q none z)) : fT X d w ai_r63 0 [some (.ref 8), some (.ref 1), some (.ref 3), some (.ref 4), none, none] [] m Q := by
  unfold g63 at h
  refine fT_ss 2 (pc' := 3) (L' := [some (.ref 8), some (.ref 1), some (.ref 3), some (.ref 4), some (.int (nI 0)), none]) (st' := []) rfl ?_
  exact fT_mk rfl rfl (t63_3 hX hd hw _ _ Q h)
noncomputable def g87 (x0 : Int32) (m : fm) : Option (Int32 × fm) :=
  bif ai_c .lt x0 0 then
    some ((nI 0), m)
  else
    bif ai_c .ge x0 (nI 8) then
      some ((nI 0), m)
    else
      some ((nI 1), m)
set_option maxHeartbeats 4000000 in
theorem t87_0 {X : ai_X} {d w : Nat} (hX : X[1]? = some (39, ai_sh)) (hd : 0 ≤ d) (hw : 0 ≤ w) (x0 : Int32) (m : fm) (Q : Option Value → fm → Prop) (h : ob (g87 x0 m) (fun z : Int32 × fm => Q (some (.int z.1)) z.2)) : fT X d w ai_r87 0 [some (.int x0)] [] m Q := by
  unfold g87 at h
  refine fT_ss 1 (pc' := 1) (L' := [some (.int x0)]) (st' := [.int x0]) rfl ?_
  refine fO_if 14 rfl rfl h (fun h => ?_) (fun h => ?_)
  · refine fT_ss 1 (pc' := 15) (L' := [none]) (st' := [.int (nI 0)]) rfl ?_
    exact fT_r rfl rfl h
  · refine fT_ss 2 (pc' := 7) (L' := [some (.int x0)]) (st' := [.int (nI 8), .int x0]) rfl ?_
    refine fO_ic 14 rfl rfl h (fun h => ?_) (fun h => ?_)
    · refine fT_ss 1 (pc' := 15) (L' := [none]) (st' := [.int (nI 0)]) rfl ?_
      exact fT_r rfl rfl h
    · refine fT_ss 2 (pc' := 15) (L' := [none]) (st' := [.int (nI 1)]) rfl ?_
      exact fT_r rfl rfl h
noncomputable def g88 (x0 : Int32) (m : fm) : Option (Int32 × fm) :=
  bif ai_c .lt x0 0 then
    some ((nI 0), m)
  else
    bif ai_c .ge x0 (nI 4) then
      some ((nI 0), m)
    else
      some ((nI 1), m)
set_option maxHeartbeats 4000000 in
theorem t88_0 {X : ai_X} {d w : Nat} (hX : X[1]? = some (39, ai_sh)) (hd : 0 ≤ d) (hw : 0 ≤ w) (x0 : Int32) (m : fm) (Q : Option Value → fm → Prop) (h : ob (g88 x0 m) (fun z : Int32 × fm => Q (some (.int z.1)) z.2)) : fT X d w ai_r88 0 [some (.int x0)] [] m Q := by
  unfold g88 at h
  refine fT_ss 1 (pc' := 1) (L' := [some (.int x0)]) (st' := [.int x0]) rfl ?_
  refine fO_if 13 rfl rfl h (fun h => ?_) (fun h => ?_)
  · refine fT_ss 1 (pc' := 14) (L' := [none]) (st' := [.int (nI 0)]) rfl ?_
    exact fT_r rfl rfl h
  · refine fT_ss 2 (pc' := 6) (L' := [some (.int x0)]) (st' := [.int (nI 4), .int x0]) rfl ?_
    refine fO_ic 13 rfl rfl h (fun h => ?_) (fun h => ?_)
    · refine fT_ss 1 (pc' := 14) (L' := [none]) (st' := [.int (nI 0)]) rfl ?_
      exact fT_r rfl rfl h
    · refine fT_ss 2 (pc' := 14) (L' := [none]) (st' := [.int (nI 1)]) rfl ?_
      exact fT_r rfl rfl h
noncomputable def g89 (x0 : Int32) (m : fm) : Option (Int32 × fm) :=
  bif ai_c .lt x0 0 then
    some ((nI 0), m)
  else
    bif ai_c .ge x0 (nI 4) then
      some ((nI 0), m)
    else
      some ((nI 1), m)
set_option maxHeartbeats 4000000 in
theorem t89_0 {X : ai_X} {d w : Nat} (hX : X[1]? = some (39, ai_sh)) (hd : 0 ≤ d) (hw : 0 ≤ w) (x0 : Int32) (m : fm) (Q : Option Value → fm → Prop) (h : ob (g89 x0 m) (fun z : Int32 × fm => Q (some (.int z.1)) z.2)) : fT X d w ai_r89 0 [some (.int x0)] [] m Q := by
  unfold g89 at h
  refine fT_ss 1 (pc' := 1) (L' := [some (.int x0)]) (st' := [.int x0]) rfl ?_
  refine fO_if 13 rfl rfl h (fun h => ?_) (fun h => ?_)
  · refine fT_ss 1 (pc' := 14) (L' := [none]) (st' := [.int (nI 0)]) rfl ?_
    exact fT_r rfl rfl h
  · refine fT_ss 2 (pc' := 6) (L' := [some (.int x0)]) (st' := [.int (nI 4), .int x0]) rfl ?_
    refine fO_ic 13 rfl rfl h (fun h => ?_) (fun h => ?_)
    · refine fT_ss 1 (pc' := 14) (L' := [none]) (st' := [.int (nI 0)]) rfl ?_
      exact fT_r rfl rfl h
    · refine fT_ss 2 (pc' := 14) (L' := [none]) (st' := [.int (nI 1)]) rfl ?_
      exact fT_r rfl rfl h
noncomputable def g91 (x0 : Int32) (x1 : Int32) (x2 : Int32) (m : fm) : Option (Int32 × fm) :=
  cl2 (g90 x0 x1 m) fun v2 m1 =>
  bif decide (v2 = nI 2) then
    cl2 (g88 x2 m1) fun v4 m3 =>
    rtB v4 (some (v4, m3))
  else bif decide (v2 = nI 3) then
    cl2 (g89 x2 m1) fun v6 m5 =>
    rtB v6 (some (v6, m5))
  else bif decide (v2 = nI 4) then
    cl2 (g87 x2 m1) fun v8 m7 =>
    rtB v8 (some (v8, m7))
  else 
  some ((nI 1), m1)
set_option maxHeartbeats 4000000 in
theorem t91_0 {X : ai_X} {d w : Nat} (hX : X[1]? = some (39, ai_sh)) (hd : 1 ≤ d) (hw : 21 ≤ w) (x0 : Int32) (x1 : Int32) (x2 : Int32) (m : fm) (Q : Option Value → fm → Prop) (h : ob (g91 x0 x1 x2 m) (fun z : Int32 × fm => Q (some (.int z.1)) z.2)) : fT X d w ai_r91 0 [some (.int x0), some (.int x1), some (.int x2)] [] m Q := by
  unfold g91 at h
  refine fT_ss 2 (pc' := 2) (L' := [some (.int x0), some (.int x1), some (.int x2)]) (st' := [.int x1, .int x0]) rfl ?_
  refine fO_qs2 Value.int (r' := ai_r90) (As := [.int x0, .int x1]) (rest := []) rfl rfl rfl rfl rfl rfl (by omega) (show 19 + 2 ≤ w by omega) (Nat.le_of_ble_eq_true rfl) (Nat.le_of_ble_eq_true rfl) rfl rfl (fun Qc hq => t90_0 hX (show 0 ≤ d - 1 by omega) (show 0 ≤ w - (19 + 2) by omega) _ _ _ Qc hq) h (fun v2 m1 h => ?_)
  by_cases e2 : v2 = nI 2
  · subst e2
    replace h := ob_eqT h
    refine fT_ss 1 (pc' := 32) (L' := [some (.int x0), some (.int x1), some (.int x2)]) (st' := []) rfl ?_
    refine fT_ss 1 (pc' := 33) (L' := [none, none, some (.int x2)]) (st' := [.int x2]) rfl ?_
    refine fO_qs2 Value.int (r' := ai_r88) (As := [.int x2]) (rest := []) rfl rfl rfl rfl rfl rfl (by omega) (show 19 + 1 ≤ w by omega) (Nat.le_of_ble_eq_true rfl) (Nat.le_of_ble_eq_true rfl) rfl rfl (fun Qc hq => t88_0 hX (show 0 ≤ d - 1 by omega) (show 0 ≤ w - (19 + 1) by omega) _ _ Qc hq) h (fun v4 m3 h => ?_)
    exact fO_rb rfl rfl h (fun h => h)
  replace h := ob_eqF e2 h
  by_cases e3 : v2 = nI 3
  · subst e3
    replace h := ob_eqT h
    refine fT_ss 1 (pc' := 37) (L' := [some (.int x0), some (.int x1), some (.int x2)]) (st' := []) rfl ?_
    refine fT_ss 1 (pc' := 38) (L' := [none, none, some (.int x2)]) (st' := [.int x2]) rfl ?_
    refine fO_qs2 Value.int (r' := ai_r89) (As := [.int x2]) (rest := []) rfl rfl rfl rfl rfl rfl (by omega) (show 19 + 1 ≤ w by omega) (Nat.le_of_ble_eq_true rfl) (Nat.le_of_ble_eq_true rfl) rfl rfl (fun Qc hq => t89_0 hX (show 0 ≤ d - 1 by omega) (show 0 ≤ w - (19 + 1) by omega) _ _ Qc hq) h (fun v6 m5 h => ?_)
    exact fO_rb rfl rfl h (fun h => h)
  replace h := ob_eqF e3 h
  by_cases e4 : v2 = nI 4
  · subst e4
    replace h := ob_eqT h
    refine fT_ss 1 (pc' := 42) (L' := [some (.int x0), some (.int x1), some (.int x2)]) (st' := []) rfl ?_
    refine fT_ss 1 (pc' := 43) (L' := [none, none, some (.int x2)]) (st' := [.int x2]) rfl ?_
    refine fO_qs2 Value.int (r' := ai_r87) (As := [.int x2]) (rest := []) rfl rfl rfl rfl rfl rfl (by omega) (show 19 + 1 ≤ w by omega) (Nat.le_of_ble_eq_true rfl) (Nat.le_of_ble_eq_true rfl) rfl rfl (fun Qc hq => t87_0 hX (show 0 ≤ d - 1 by omega) (show 0 ≤ w - (19 + 1) by omega) _ _ Qc hq) h (fun v8 m7 h => ?_)
    exact fO_rb rfl rfl h (fun h => h)
  replace h := ob_eqF e4 h
  refine fO_td 47 rfl rfl (by have := nt (k := 2) (by omega) e2; have := nt (k := 3) (by omega) e3; have := nt (k := 4) (by omega) e4; omega) ?_
  refine fT_ss 1 (pc' := 48) (L' := [none, none, none]) (st' := [.int (nI 1)]) rfl ?_
  exact fT_r rfl rfl h
noncomputable def g92 (x0 : Int32) (x1 : Int32) (x2 : Int32) (m : fm) : Option (Int32 × fm) :=
  cl2 (g90 x0 x1 m) fun v2 m1 =>
  bif ai_c .ne v2 (nI 5) then
    some ((nI 1), m1)
  else
    bif ai_c .lt x2 0 then
      some ((nI 0), m1)
    else
      bif ai_c .gt x2 (nI 24) then
        some ((nI 0), m1)
      else
        some ((nI 1), m1)
set_option maxHeartbeats 4000000 in
theorem t92_0 {X : ai_X} {d w : Nat} (hX : X[1]? = some (39, ai_sh)) (hd : 1 ≤ d) (hw : 21 ≤ w) (x0 : Int32) (x1 : Int32) (x2 : Int32) (m : fm) (Q : Option Value → fm → Prop) (h : ob (g92 x0 x1 x2 m) (fun z : Int32 × fm => Q (some (.int z.1)) z.2)) : fT X d w ai_r92 0 [some (.int x0), some (.int x1), some (.int x2)] [] m Q := by
  unfold g92 at h
  refine fT_ss 2 (pc' := 2) (L' := [some (.int x0), some (.int x1), some (.int x2)]) (st' := [.int x1, .int x0]) rfl ?_
  refine fO_qs2 Value.int (r' := ai_r90) (As := [.int x0, .int x1]) (rest := []) rfl rfl rfl rfl rfl rfl (by omega) (show 19 + 2 ≤ w by omega) (Nat.le_of_ble_eq_true rfl) (Nat.le_of_ble_eq_true rfl) rfl rfl (fun Qc hq => t90_0 hX (show 0 ≤ d - 1 by omega) (show 0 ≤ w - (19 + 2) by omega) _ _ _ Qc hq) h (fun v2 m1 h => ?_)
  refine fT_ss 1 (pc' := 6) (L' := [some (.int x0), some (.int x1), some (.int x2)]) (st' := [.int (nI 5), .int v2]) rfl ?_
  refine fO_ic 19 rfl rfl h (fun h => ?_) (fun h => ?_)
  · refine fT_ss 2 (pc' := 24) (L' := [none, none, none]) (st' := [.int (nI 1)]) rfl ?_
    exact fT_r rfl rfl h
  · refine fT_ss 1 (pc' := 10) (L' := [none, none, some (.int x2)]) (st' := [.int x2]) rfl ?_
    refine fO_if 23 rfl rfl h (fun h => ?_) (fun h => ?_)
    · refine fT_ss 1 (pc' := 24) (L' := [none, none, none]) (st' := [.int (nI 0)]) rfl ?_
      exact fT_r rfl rfl h
    · refine fT_ss 2 (pc' := 16) (L' := [none, none, some (.int x2)]) (st' := [.int (nI 24), .int x2]) rfl ?_
      refine fO_ic 23 rfl rfl h (fun h => ?_) (fun h => ?_)
      · refine fT_ss 1 (pc' := 24) (L' := [none, none, none]) (st' := [.int (nI 0)]) rfl ?_
        exact fT_r rfl rfl h
      · refine fT_ss 2 (pc' := 24) (L' := [none, none, none]) (st' := [.int (nI 1)]) rfl ?_
        exact fT_r rfl rfl h
noncomputable def g68 (x1 : Int32) (x2 : Int32) (x3 : Int32) (x4 : Int32) (x5 : Int32) (m : fm) : Option (Int32 × fm) :=
  cl2 (g87 x1 m) fun v2 m1 =>
  bif ai_c .eq v2 0 then
    some ((-101), m1)
  else
    bif ai_c .lt x2 0 then
      some ((-101), m1)
    else
      bif ai_c .lt x2 (nI 13) then
        cl2 (g91 x2 (nI 1) x3 m1) fun v4 m3 =>
        bif ai_c .eq v4 0 then
          some ((-101), m3)
        else
          cl2 (g91 x2 (nI 2) x4 m3) fun v6 m5 =>
          bif ai_c .eq v6 0 then
            some ((-101), m5)
          else
            cl2 (g91 x2 (nI 3) x5 m5) fun v8 m7 =>
            bif ai_c .ne v8 0 then
              cl2 (g92 x2 (nI 1) x3 m7) fun v10 m9 =>
              bif ai_c .eq v10 0 then
                some ((-102), m9)
              else
                cl2 (g92 x2 (nI 2) x4 m9) fun v12 m11 =>
                bif ai_c .eq v12 0 then
                  some ((-102), m11)
                else
                  cl2 (g92 x2 (nI 3) x5 m11) fun v14 m13 =>
                  bif ai_c .ne v14 0 then
                    ldA 20 x1 fun c15 =>
                    cl2 (g3 c15 m13) fun v17 m16 =>
                    bif ai_c .eq v17 0 then
                      ldA 20 x1 fun c18 =>
                      cl2 (g5 c18 x2 x3 x4 x5 m16) fun v20 m19 =>
                      some (v20, m19)
                    else
                      some ((-104), m16)
                  else
                    some ((-102), m13)
            else
              some ((-101), m7)
      else
        some ((-101), m1)
set_option maxHeartbeats 4000000 in
theorem t68_0 {X : ai_X} {d w : Nat} (hX : X[1]? = some (39, ai_sh)) (hd : 3 ≤ d) (hw : 72 ≤ w) (x1 : Int32) (x2 : Int32) (x3 : Int32) (x4 : Int32) (x5 : Int32) (m : fm) (Q : Option Value → fm → Prop) (h : ob (g68 x1 x2 x3 x4 x5 m) (fun z : Int32 × fm => Q (some (.int z.1)) z.2)) : fT X d w ai_r68 0 [some (.ref 0), some (.int x1), some (.int x2), some (.int x3), some (.int x4), some (.int x5)] [] m Q := by
  unfold g68 at h
  refine fT_ss 1 (pc' := 1) (L' := [some (.ref 0), some (.int x1), some (.int x2), some (.int x3), some (.int x4), some (.int x5)]) (st' := [.int x1]) rfl ?_
  refine fO_qs2 Value.int (r' := ai_r87) (As := [.int x1]) (rest := []) rfl rfl rfl rfl rfl rfl (by omega) (show 19 + 1 ≤ w by omega) (Nat.le_of_ble_eq_true rfl) (Nat.le_of_ble_eq_true rfl) rfl rfl (fun Qc hq => t87_0 hX (show 0 ≤ d - 1 by omega) (show 0 ≤ w - (19 + 1) by omega) _ _ Qc hq) h (fun v2 m1 h => ?_)
  refine fO_if 17 rfl rfl h (fun h => ?_) (fun h => ?_)
  · refine fT_ss 1 (pc' := 19) (L' := [none, none, none, none, none, none]) (st' := [.int (-101)]) rfl ?_
    exact fT_r rfl rfl h
  · refine fT_ss 1 (pc' := 8) (L' := [some (.ref 0), some (.int x1), some (.int x2), some (.int x3), some (.int x4), some (.int x5)]) (st' := [.int x2]) rfl ?_
    refine fO_if 17 rfl rfl h (fun h => ?_) (fun h => ?_)
    · refine fT_ss 1 (pc' := 19) (L' := [none, none, none, none, none, none]) (st' := [.int (-101)]) rfl ?_
      exact fT_r rfl rfl h
    · refine fT_ss 2 (pc' := 14) (L' := [some (.ref 0), some (.int x1), some (.int x2), some (.int x3), some (.int x4), some (.int x5)]) (st' := [.int (nI 13), .int x2]) rfl ?_
      refine fO_ic 20 rfl rfl h (fun h => ?_) (fun h => ?_)
      · refine fT_ss 3 (pc' := 23) (L' := [some (.ref 0), some (.int x1), some (.int x2), some (.int x3), some (.int x4), some (.int x5)]) (st' := [.int x3, .int (nI 1), .int x2]) rfl ?_
        refine fO_qs2 Value.int (r' := ai_r91) (As := [.int x2, .int (nI 1), .int x3]) (rest := []) rfl rfl rfl rfl rfl rfl (by omega) (show 19 + 3 ≤ w by omega) (Nat.le_of_ble_eq_true rfl) (Nat.le_of_ble_eq_true rfl) rfl rfl (fun Qc hq => t91_0 hX (show 1 ≤ d - 1 by omega) (show 21 ≤ w - (19 + 3) by omega) _ _ _ _ Qc hq) h (fun v4 m3 h => ?_)
        refine fO_if 49 rfl rfl h (fun h => ?_) (fun h => ?_)
        · refine fT_ss 1 (pc' := 51) (L' := [none, none, none, none, none, none]) (st' := [.int (-101)]) rfl ?_
          exact fT_r rfl rfl h
        · refine fT_ss 3 (pc' := 33) (L' := [some (.ref 0), some (.int x1), some (.int x2), some (.int x3), some (.int x4), some (.int x5)]) (st' := [.int x4, .int (nI 2), .int x2]) rfl ?_
          refine fO_qs2 Value.int (r' := ai_r91) (As := [.int x2, .int (nI 2), .int x4]) (rest := []) rfl rfl rfl rfl rfl rfl (by omega) (show 19 + 3 ≤ w by omega) (Nat.le_of_ble_eq_true rfl) (Nat.le_of_ble_eq_true rfl) rfl rfl (fun Qc hq => t91_0 hX (show 1 ≤ d - 1 by omega) (show 21 ≤ w - (19 + 3) by omega) _ _ _ _ Qc hq) h (fun v6 m5 h => ?_)
          refine fO_if 49 rfl rfl h (fun h => ?_) (fun h => ?_)
          · refine fT_ss 1 (pc' := 51) (L' := [none, none, none, none, none, none]) (st' := [.int (-101)]) rfl ?_
            exact fT_r rfl rfl h
          · refine fT_ss 3 (pc' := 43) (L' := [some (.ref 0), some (.int x1), some (.int x2), some (.int x3), some (.int x4), some (.int x5)]) (st' := [.int x5, .int (nI 3), .int x2]) rfl ?_
            refine fO_qs2 Value.int (r' := ai_r91) (As := [.int x2, .int (nI 3), .int x5]) (rest := []) rfl rfl rfl rfl rfl rfl (by omega) (show 19 + 3 ≤ w by omega) (Nat.le_of_ble_eq_true rfl) (Nat.le_of_ble_eq_true rfl) rfl rfl (fun Qc hq => t91_0 hX (show 1 ≤ d - 1 by omega) (show 21 ≤ w - (19 + 3) by omega) _ _ _ _ Qc hq) h (fun v8 m7 h => ?_)
            refine fO_if 52 rfl rfl h (fun h => ?_) (fun h => ?_)
            · refine fT_ss 3 (pc' := 55) (L' := [some (.ref 0), some (.int x1), some (.int x2), some (.int x3), some (.int x4), some (.int x5)]) (st' := [.int x3, .int (nI 1), .int x2]) rfl ?_
              refine fO_qs2 Value.int (r' := ai_r92) (As := [.int x2, .int (nI 1), .int x3]) (rest := []) rfl rfl rfl rfl rfl rfl (by omega) (show 19 + 3 ≤ w by omega) (Nat.le_of_ble_eq_true rfl) (Nat.le_of_ble_eq_true rfl) rfl rfl (fun Qc hq => t92_0 hX (show 1 ≤ d - 1 by omega) (show 21 ≤ w - (19 + 3) by omega) _ _ _ _ Qc hq) h (fun v10 m9 h => ?_)
              refine fO_if 81 rfl rfl h (fun h => ?_) (fun h => ?_)
              · refine fT_ss 1 (pc' := 83) (L' := [none, none, none, none, none, none]) (st' := [.int (-102)]) rfl ?_
                exact fT_r rfl rfl h
              · refine fT_ss 3 (pc' := 65) (L' := [some (.ref 0), some (.int x1), some (.int x2), some (.int x3), some (.int x4), some (.int x5)]) (st' := [.int x4, .int (nI 2), .int x2]) rfl ?_
                refine fO_qs2 Value.int (r' := ai_r92) (As := [.int x2, .int (nI 2), .int x4]) (rest := []) rfl rfl rfl rfl rfl rfl (by omega) (show 19 + 3 ≤ w by omega) (Nat.le_of_ble_eq_true rfl) (Nat.le_of_ble_eq_true rfl) rfl rfl (fun Qc hq => t92_0 hX (show 1 ≤ d - 1 by omega) (show 21 ≤ w - (19 + 3) by omega) _ _ _ _ Qc hq) h (fun v12 m11 h => ?_)
                refine fO_if 81 rfl rfl h (fun h => ?_) (fun h => ?_)
                · refine fT_ss 1 (pc' := 83) (L' := [none, none, none, none, none, none]) (st' := [.int (-102)]) rfl ?_
                  exact fT_r rfl rfl h
                · refine fT_ss 3 (pc' := 75) (L' := [some (.ref 0), some (.int x1), some (.int x2), some (.int x3), some (.int x4), some (.int x5)]) (st' := [.int x5, .int (nI 3), .int x2]) rfl ?_
                  refine fO_qs2 Value.int (r' := ai_r92) (As := [.int x2, .int (nI 3), .int x5]) (rest := []) rfl rfl rfl rfl rfl rfl (by omega) (show 19 + 3 ≤ w by omega) (Nat.le_of_ble_eq_true rfl) (Nat.le_of_ble_eq_true rfl) rfl rfl (fun Qc hq => t92_0 hX (show 1 ≤ d - 1 by omega) (show 21 ≤ w - (19 + 3) by omega) _ _ _ _ Qc hq) h (fun v14 m13 h => ?_)
                  refine fO_if 84 rfl rfl h (fun h => ?_) (fun h => ?_)
                  · refine fT_ss 1 (pc' := 85) (L' := [some (.ref 0), some (.int x1), some (.int x2), some (.int x3), some (.int x4), some (.int x5)]) (st' := [.ref 0]) rfl ?_
                    refine fT_gr (q := 1) rfl rfl rfl ?_
                    refine fT_ss 1 (pc' := 89) (L' := [some (.ref 0), some (.int x1), some (.int x2), some (.int x3), some (.int x4), some (.int x5)]) (st' := [.int x1, .ref 1]) rfl ?_
                    refine fO_aa rfl isP_1 h (fun c15 hc15 h => ?_)
                    refine fO_qv2 Value.int (r' := ai_r3) (k := c15) (As := []) (rest := []) rfl rfl rfl rfl hc15.1 rfl (by omega) (show 19 + 1 ≤ w by omega) (Nat.le_of_ble_eq_true rfl) (Nat.le_of_ble_eq_true rfl) rfl rfl (fun Qc hq => t3_0 hX (show 0 ≤ d - 1 by omega) (show 0 ≤ w - (19 + 1) by omega) hc15 _ Qc hq) h (fun v17 m16 h => ?_)
                    refine fO_if 99 rfl rfl h (fun h => ?_) (fun h => ?_)
                    · refine fT_ss 1 (pc' := 100) (L' := [some (.ref 0), some (.int x1), some (.int x2), some (.int x3), some (.int x4), some (.int x5)]) (st' := [.ref 0]) rfl ?_
                      refine fT_gr (q := 1) rfl rfl rfl ?_
                      refine fT_ss 1 (pc' := 104) (L' := [some (.ref 0), some (.int x1), some (.int x2), some (.int x3), some (.int x4), some (.int x5)]) (st' := [.int x1, .ref 1]) rfl ?_
                      refine fO_aa rfl isP_1 h (fun c18 hc18 h => ?_)
                      refine fT_ss 4 (pc' := 111) (L' := [some (.ref 0), some (.int x1), some (.int x2), some (.int x3), some (.int x4), some (.int x5)]) (st' := [.int x5, .int x4, .int x3, .int x2, .ref c18]) rfl ?_
                      refine fO_qv2 Value.int (r' := ai_r5) (k := c18) (As := [.int x2, .int x3, .int x4, .int x5]) (rest := []) rfl rfl rfl rfl hc18.1 rfl (by omega) (show 19 + 6 ≤ w by omega) (Nat.le_of_ble_eq_true rfl) (Nat.le_of_ble_eq_true rfl) rfl rfl (fun Qc hq => t5_0 hX (show 2 ≤ d - 1 by omega) (show 47 ≤ w - (19 + 6) by omega) hc18 _ _ _ _ _ Qc hq) h (fun v20 m19 h => ?_)
                      exact fT_r rfl rfl h
                    · refine fT_ss 1 (pc' := 98) (L' := [none, none, none, none, none, none]) (st' := [.int (-104)]) rfl ?_
                      exact fT_r rfl rfl h
                  · refine fT_ss 1 (pc' := 83) (L' := [none, none, none, none, none, none]) (st' := [.int (-102)]) rfl ?_
                    exact fT_r rfl rfl h
            · refine fT_ss 1 (pc' := 51) (L' := [none, none, none, none, none, none]) (st' := [.int (-101)]) rfl ?_
              exact fT_r rfl rfl h
      · refine fT_ss 1 (pc' := 19) (L' := [none, none, none, none, none, none]) (st' := [.int (-101)]) rfl ?_
        exact fT_r rfl rfl h
noncomputable def g69 (x1 : Int32) (m : fm) : Option (Int32 × fm) :=
  cl2 (g87 x1 m) fun v2 m1 =>
  bif ai_c .eq v2 0 then
    some ((-101), m1)
  else
    ldA 20 x1 fun c3 =>
    cl2 (g7 c3 m1) fun v5 m4 =>
    some (v5, m4)
set_option maxHeartbeats 4000000 in
theorem t69_0 {X : ai_X} {d w : Nat} (hX : X[1]? = some (39, ai_sh)) (hd : 2 ≤ d) (hw : 42 ≤ w) (x1 : Int32) (m : fm) (Q : Option Value → fm → Prop) (h : ob (g69 x1 m) (fun z : Int32 × fm => Q (some (.int z.1)) z.2)) : fT X d w ai_r69 0 [some (.ref 0), some (.int x1)] [] m Q := by
  unfold g69 at h
  refine fT_ss 1 (pc' := 1) (L' := [some (.ref 0), some (.int x1)]) (st' := [.int x1]) rfl ?_
  refine fO_qs2 Value.int (r' := ai_r87) (As := [.int x1]) (rest := []) rfl rfl rfl rfl rfl rfl (by omega) (show 19 + 1 ≤ w by omega) (Nat.le_of_ble_eq_true rfl) (Nat.le_of_ble_eq_true rfl) rfl rfl (fun Qc hq => t87_0 hX (show 0 ≤ d - 1 by omega) (show 0 ≤ w - (19 + 1) by omega) _ _ Qc hq) h (fun v2 m1 h => ?_)
  refine fO_if 19 rfl rfl h (fun h => ?_) (fun h => ?_)
  · refine fT_ss 1 (pc' := 21) (L' := [none, none]) (st' := [.int (-101)]) rfl ?_
    exact fT_r rfl rfl h
  · refine fT_ss 1 (pc' := 8) (L' := [some (.ref 0), some (.int x1)]) (st' := [.ref 0]) rfl ?_
    refine fT_gr (q := 1) rfl rfl rfl ?_
    refine fT_ss 1 (pc' := 12) (L' := [some (.ref 0), some (.int x1)]) (st' := [.int x1, .ref 1]) rfl ?_
    refine fO_aa rfl isP_1 h (fun c3 hc3 h => ?_)
    refine fO_qv2 Value.int (r' := ai_r7) (k := c3) (As := []) (rest := []) rfl rfl rfl rfl hc3.1 rfl (by omega) (show 19 + 1 ≤ w by omega) (Nat.le_of_ble_eq_true rfl) (Nat.le_of_ble_eq_true rfl) rfl rfl (fun Qc hq => t7_0 hX (show 1 ≤ d - 1 by omega) (show 22 ≤ w - (19 + 1) by omega) hc3 _ Qc hq) h (fun v5 m4 h => ?_)
    refine fT_ss 1 (pc' := 21) (L' := [some (.ref 0), some (.int x1)]) (st' := [.int v5]) rfl ?_
    exact fT_r rfl rfl h
noncomputable def g70 (x1 : Int32) (x2 : Int32) (m : fm) : Option (Int32 × fm) :=
  cl2 (g87 x1 m) fun v2 m1 =>
  bif ai_c .ne v2 0 then
    ldI m1 3 8 x1 fun v3 =>
    stB m1 3 8 x1 x2 fun m4 =>
    bif ai_c .ne v3 x2 then
      some ((nI 1), m4)
    else
      some ((nI 0), m4)
  else
    some ((-101), m1)
set_option maxHeartbeats 4000000 in
theorem t70_0 {X : ai_X} {d w : Nat} (hX : X[1]? = some (39, ai_sh)) (hd : 1 ≤ d) (hw : 20 ≤ w) (x1 : Int32) (x2 : Int32) (m : fm) (Q : Option Value → fm → Prop) (h : ob (g70 x1 x2 m) (fun z : Int32 × fm => Q (some (.int z.1)) z.2)) : fT X d w ai_r70 0 [some (.ref 0), some (.int x1), some (.int x2), none] [] m Q := by
  unfold g70 at h
  refine fT_ss 1 (pc' := 1) (L' := [some (.ref 0), some (.int x1), some (.int x2), none]) (st' := [.int x1]) rfl ?_
  refine fO_qs2 Value.int (r' := ai_r87) (As := [.int x1]) (rest := []) rfl rfl rfl rfl rfl rfl (by omega) (show 19 + 1 ≤ w by omega) (Nat.le_of_ble_eq_true rfl) (Nat.le_of_ble_eq_true rfl) rfl rfl (fun Qc hq => t87_0 hX (show 0 ≤ d - 1 by omega) (show 0 ≤ w - (19 + 1) by omega) _ _ Qc hq) h (fun v2 m1 h => ?_)
  refine fO_if 10 rfl rfl h (fun h => ?_) (fun h => ?_)
  · refine fT_ss 1 (pc' := 11) (L' := [some (.ref 0), some (.int x1), some (.int x2), none]) (st' := [.ref 0]) rfl ?_
    refine fT_gr (q := 3) rfl rfl rfl ?_
    refine fT_ss 1 (pc' := 15) (L' := [some (.ref 0), some (.int x1), some (.int x2), none]) (st' := [.int x1, .ref 3]) rfl ?_
    refine fO_ba rfl rfl h (fun v3 h => ?_)
    refine fT_ss 2 (pc' := 18) (L' := [some (.ref 0), some (.int x1), some (.int x2), some (.int v3)]) (st' := [.ref 0]) rfl ?_
    refine fT_gr (q := 3) rfl rfl rfl ?_
    refine fT_ss 2 (pc' := 23) (L' := [some (.ref 0), some (.int x1), some (.int x2), some (.int v3)]) (st' := [.int x2, .int x1, .ref 3]) rfl ?_
    refine fO_bs rfl rfl h (fun m4 h => ?_)
    refine fT_ss 2 (pc' := 26) (L' := [some (.ref 0), some (.int x1), some (.int x2), some (.int v3)]) (st' := [.int x2, .int v3]) rfl ?_
    refine fO_ic 33 rfl rfl h (fun h => ?_) (fun h => ?_)
    · refine fT_ss 1 (pc' := 34) (L' := [none, none, none, none]) (st' := [.int (nI 1)]) rfl ?_
      exact fT_r rfl rfl h
    · refine fT_ss 2 (pc' := 34) (L' := [none, none, none, none]) (st' := [.int (nI 0)]) rfl ?_
      exact fT_r rfl rfl h
  · refine fT_ss 1 (pc' := 9) (L' := [none, none, none, none]) (st' := [.int (-101)]) rfl ?_
    exact fT_r rfl rfl h
noncomputable def g71_82 (x1 : Int32) (x2 : Int32) (m : fm) : Option ((Int32 × Int32 × fm) ⊕ (Int32 × fm)) :=
  ldA 20 x2 fun c8 =>
  cl2 (g1 c8 m) fun v10 m9 =>
  ldA 22 x2 fun c11 =>
  cl2 (g1 c11 m9) fun v13 m12 =>
  some (.inl ((x1 + (v10 - v13)), (x2 + (nI 1)), m12))
set_option maxHeartbeats 4000000 in
theorem t71_82 {X : ai_X} {d w : Nat} (hX : X[1]? = some (39, ai_sh)) (hd : 6 ≤ d) (hw : 143 ≤ w) (x1 : Int32) (x2 : Int32) (m : fm) (Q : Option Value → fm → Prop) (h : ob (g71_82 x1 x2 m) (Sum.elim (fun s : Int32 × Int32 × fm => fT X d w ai_r71 23 [some (.ref 0), some (.int s.1), some (.int s.2.1)] [] s.2.2 Q) (fun z : Int32 × fm => Q (some (.int z.1)) z.2))) : fT X d w ai_r71 82 [some (.ref 0), some (.int x1), some (.int x2)] [] m Q := by
  unfold g71_82 at h
  refine fT_ss 2 (pc' := 84) (L' := [some (.ref 0), some (.int x1), some (.int x2)]) (st' := [.ref 0, .int x1]) rfl ?_
  refine fT_gr (q := 1) rfl rfl rfl ?_
  refine fT_ss 1 (pc' := 88) (L' := [some (.ref 0), some (.int x1), some (.int x2)]) (st' := [.int x2, .ref 1, .int x1]) rfl ?_
  refine fO_aa rfl isP_1 h (fun c8 hc8 h => ?_)
  refine fO_qv2 Value.int (r' := ai_r1) (k := c8) (As := []) (rest := [.int x1]) rfl rfl rfl rfl hc8.1 rfl (by omega) (show 19 + 1 ≤ w by omega) (Nat.le_of_ble_eq_true rfl) (Nat.le_of_ble_eq_true rfl) rfl rfl (fun Qc hq => t1_0 hX (show 0 ≤ d - 1 by omega) (show 0 ≤ w - (19 + 1) by omega) hc8 _ Qc hq) h (fun v10 m9 h => ?_)
  refine fT_ss 1 (pc' := 93) (L' := [some (.ref 0), some (.int x1), some (.int x2)]) (st' := [.ref 0, .int v10, .int x1]) rfl ?_
  refine fT_gr (q := 2) rfl rfl rfl ?_
  refine fT_ss 1 (pc' := 97) (L' := [some (.ref 0), some (.int x1), some (.int x2)]) (st' := [.int x2, .ref 2, .int v10, .int x1]) rfl ?_
  refine fO_aa rfl isP_2 h (fun c11 hc11 h => ?_)
  refine fO_qv2 Value.int (r' := ai_r1) (k := c11) (As := []) (rest := [.int v10, .int x1]) rfl rfl rfl rfl hc11.1 rfl (by omega) (show 19 + 1 ≤ w by omega) (Nat.le_of_ble_eq_true rfl) (Nat.le_of_ble_eq_true rfl) rfl rfl (fun Qc hq => t1_0 hX (show 0 ≤ d - 1 by omega) (show 0 ≤ w - (19 + 1) by omega) hc11 _ Qc hq) h (fun v13 m12 h => ?_)
  refine fT_ss 5 (pc' := 23) (L' := [some (.ref 0), some (.int (x1 + (v10 - v13))), some (.int (x2 + (nI 1)))]) (st' := []) rfl ?_
  replace h := ob_inl h
  exact fT_mk rfl rfl h
noncomputable def s71_23 (x1 : Int32) (x2 : Int32) (m : fm) : Option ((Int32 × Int32 × fm) ⊕ (Int32 × fm)) :=
  bif ai_c .ge x2 (nI 8) then
    pfB m 0 7 (nI 1) fun m2 =>
    some (.inr (x1, m2))
  else
    ldA 22 x2 fun c3 =>
    cl2 (g7 c3 m) fun v5 m4 =>
    cl2 (g61 x2 m4) fun v7 m6 =>
    bif ai_c .eq v7 0 then
      g71_82 x1 x2 m6
    else
      ldA 22 x2 fun c14 =>
      ldA 20 x2 fun c15 =>
      cl1 (g9 c14 c15 m6) fun m16 =>
      ldA 22 x2 fun c17 =>
      cl1 (g55 c17 m16) fun m18 =>
      g71_82 x1 x2 m18
set_option maxHeartbeats 4000000 in
theorem b71_23 {X : ai_X} {d w : Nat} (hX : X[1]? = some (39, ai_sh)) (hd : 6 ≤ d) (hw : 143 ≤ w) (x1 : Int32) (x2 : Int32) (m : fm) (Q : Option Value → fm → Prop) (h : ob (s71_23 x1 x2 m) (Sum.elim (fun s : Int32 × Int32 × fm => fT X d w ai_r71 23 [some (.ref 0), some (.int s.1), some (.int s.2.1)] [] s.2.2 Q) (fun z : Int32 × fm => Q (some (.int z.1)) z.2))) : fT X d w ai_r71 23 [some (.ref 0), some (.int x1), some (.int x2)] [] m Q := by
  unfold s71_23 at h
  refine fT_ss 2 (pc' := 26) (L' := [some (.ref 0), some (.int x1), some (.int x2)]) (st' := [.int (nI 8), .int x2]) rfl ?_
  refine fO_ic 110 rfl rfl h (fun h => ?_) (fun h => ?_)
  · refine fT_ss 2 (pc' := 112) (L' := [some (.ref 0), some (.int x1), none]) (st' := [.int (nI 1), .ref 0]) rfl ?_
    refine fO_pb rfl rfl rfl rfl h (fun m2 h => ?_)
    refine fT_ss 1 (pc' := 116) (L' := [some (.ref 0), some (.int x1), none]) (st' := [.int x1]) rfl ?_
    exact fT_r rfl rfl h
  · refine fT_ss 1 (pc' := 30) (L' := [some (.ref 0), some (.int x1), some (.int x2)]) (st' := [.ref 0]) rfl ?_
    refine fT_gr (q := 2) rfl rfl rfl ?_
    refine fT_ss 1 (pc' := 34) (L' := [some (.ref 0), some (.int x1), some (.int x2)]) (st' := [.int x2, .ref 2]) rfl ?_
    refine fO_aa rfl isP_2 h (fun c3 hc3 h => ?_)
    refine fO_qv2 Value.int (r' := ai_r7) (k := c3) (As := []) (rest := []) rfl rfl rfl rfl hc3.1 rfl (by omega) (show 19 + 1 ≤ w by omega) (Nat.le_of_ble_eq_true rfl) (Nat.le_of_ble_eq_true rfl) rfl rfl (fun Qc hq => t7_0 hX (show 1 ≤ d - 1 by omega) (show 22 ≤ w - (19 + 1) by omega) hc3 _ Qc hq) h (fun v5 m4 h => ?_)
    refine fT_ss 2 (pc' := 40) (L' := [some (.ref 0), some (.int x1), some (.int x2)]) (st' := [.ref 0]) rfl ?_
    refine fT_gr (q := 8) rfl rfl rfl ?_
    refine fT_ss 1 (pc' := 44) (L' := [some (.ref 0), some (.int x1), some (.int x2)]) (st' := [.int x2, .ref 8]) rfl ?_
    refine fO_qv2 Value.int (r' := ai_r61) (k := 8) (As := [.int x2]) (rest := []) rfl rfl rfl rfl rfl rfl (by omega) (show 19 + 2 ≤ w by omega) (Nat.le_of_ble_eq_true rfl) (Nat.le_of_ble_eq_true rfl) rfl rfl (fun Qc hq => t61_0 hX (show 0 ≤ d - 1 by omega) (show 0 ≤ w - (19 + 2) by omega) _ _ Qc hq) h (fun v7 m6 h => ?_)
    refine fO_if 82 rfl rfl h (fun h => ?_) (fun h => ?_)
    · exact fT_mk rfl rfl (t71_82 hX hd hw _ _ _ Q h)
    · refine fT_ss 1 (pc' := 51) (L' := [some (.ref 0), some (.int x1), some (.int x2)]) (st' := [.ref 0]) rfl ?_
      refine fT_gr (q := 2) rfl rfl rfl ?_
      refine fT_ss 1 (pc' := 55) (L' := [some (.ref 0), some (.int x1), some (.int x2)]) (st' := [.int x2, .ref 2]) rfl ?_
      refine fO_aa rfl isP_2 h (fun c14 hc14 h => ?_)
      refine fT_ss 1 (pc' := 57) (L' := [some (.ref 0), some (.int x1), some (.int x2)]) (st' := [.ref 0, .ref c14]) rfl ?_
      refine fT_gr (q := 1) rfl rfl rfl ?_
      refine fT_ss 1 (pc' := 61) (L' := [some (.ref 0), some (.int x1), some (.int x2)]) (st' := [.int x2, .ref 1, .ref c14]) rfl ?_
      refine fO_aa rfl isP_1 h (fun c15 hc15 h => ?_)
      refine fO_qv1 (r' := ai_r9) (k := c14) (As := [.ref c15]) (rest := []) rfl rfl rfl rfl hc14.1 rfl (by omega) (show 19 + 2 ≤ w by omega) (Nat.le_of_ble_eq_true rfl) (Nat.le_of_ble_eq_true rfl) rfl rfl (fun Qc hq => t9_0 hX (show 1 ≤ d - 1 by omega) (show 32 ≤ w - (19 + 2) by omega) hc14 hc15 _ Qc hq) h (fun m16 h => ?_)
      refine fT_ss 1 (pc' := 66) (L' := [some (.ref 0), some (.int x1), some (.int x2)]) (st' := [.ref 0]) rfl ?_
      refine fT_gr (q := 12) rfl rfl rfl ?_
      refine fT_ss 1 (pc' := 70) (L' := [some (.ref 0), some (.int x1), some (.int x2)]) (st' := [.ref 0, .ref 12]) rfl ?_
      refine fT_gr (q := 2) rfl rfl rfl ?_
      refine fT_ss 1 (pc' := 74) (L' := [some (.ref 0), some (.int x1), some (.int x2)]) (st' := [.int x2, .ref 2, .ref 12]) rfl ?_
      refine fO_aa rfl isP_2 h (fun c17 hc17 h => ?_)
      refine fT_ss 1 (pc' := 76) (L' := [some (.ref 0), some (.int x1), some (.int x2)]) (st' := [.ref 0, .ref c17, .ref 12]) rfl ?_
      refine fT_gr (q := 4) rfl rfl rfl ?_
      refine fO_qv1 (r' := ai_r55) (k := 12) (As := [.ref c17, .ref 4]) (rest := []) rfl rfl rfl rfl rfl rfl (by omega) (show 19 + 5 ≤ w by omega) (Nat.le_of_ble_eq_true rfl) (Nat.le_of_ble_eq_true rfl) rfl rfl (fun Qc hq => t55_0 hX (show 5 ≤ d - 1 by omega) (show 119 ≤ w - (19 + 5) by omega) hc17 _ Qc hq) h (fun m18 h => ?_)
      exact fT_mk rfl rfl (t71_82 hX hd hw _ _ _ Q h)
noncomputable def g71_23 (x1 : Int32) (x2 : Int32) (m : fm) : Option (Int32 × fm) := wl (fun s : Int32 × Int32 × fm => s71_23 s.1 s.2.1 s.2.2) lf (x1, x2, m)
theorem t71_23 {X : ai_X} {d w : Nat} (hX : X[1]? = some (39, ai_sh)) (hd : 6 ≤ d) (hw : 143 ≤ w) (x1 : Int32) (x2 : Int32) (m : fm) (Q : Option Value → fm → Prop) (h : ob (g71_23 x1 x2 m) (fun z : Int32 × fm => Q (some (.int z.1)) z.2)) : fT X d w ai_r71 23 [some (.ref 0), some (.int x1), some (.int x2)] [] m Q :=
  wl_ob (P := fun s : Int32 × Int32 × fm => fT X d w ai_r71 23 [some (.ref 0), some (.int s.1), some (.int s.2.1)] [] s.2.2 Q) (fun s h => b71_23 hX hd hw s.1 s.2.1 s.2.2 Q h) lf (x1, x2, m) h
noncomputable def g71  (m : fm) : Option (Int32 × fm) :=
  cl1 (g63  m) fun m1 =>
  g71_23 (nI 0) (nI 0) m1
set_option maxHeartbeats 4000000 in
theorem t71_0 {X : ai_X} {d w : Nat} (hX : X[1]? = some (39, ai_sh)) (hd : 6 ≤ d) (hw : 143 ≤ w)  (m : fm) (Q : Option Value → fm → Prop) (h : ob (g71  m) (fun z : Int32 × fm => Q (some (.int z.1)) z.2)) : fT X d w ai_r71 0 [some (.ref 0), none, none] [] m Q := by
  unfold g71 at h
  refine fT_ss 1 (pc' := 1) (L' := [some (.ref 0), none, none]) (st' := [.ref 0]) rfl ?_
  refine fT_gr (q := 8) rfl rfl rfl ?_
  refine fT_ss 1 (pc' := 5) (L' := [some (.ref 0), none, none]) (st' := [.ref 0, .ref 8]) rfl ?_
  refine fT_gr (q := 1) rfl rfl rfl ?_
  refine fT_ss 1 (pc' := 9) (L' := [some (.ref 0), none, none]) (st' := [.ref 0, .ref 1, .ref 8]) rfl ?_
  refine fT_gr (q := 3) rfl rfl rfl ?_
  refine fT_ss 1 (pc' := 13) (L' := [some (.ref 0), none, none]) (st' := [.ref 0, .ref 3, .ref 1, .ref 8]) rfl ?_
  refine fT_gr (q := 4) rfl rfl rfl ?_
  refine fO_qv1 (r' := ai_r63) (k := 8) (As := [.ref 1, .ref 3, .ref 4]) (rest := []) rfl rfl rfl rfl rfl rfl (by omega) (show 19 + 6 ≤ w by omega) (Nat.le_of_ble_eq_true rfl) (Nat.le_of_ble_eq_true rfl) rfl rfl (fun Qc hq => t63_0 hX (show 5 ≤ d - 1 by omega) (show 118 ≤ w - (19 + 6) by omega)  _ Qc hq) h (fun m1 h => ?_)
  refine fT_ss 4 (pc' := 23) (L' := [some (.ref 0), some (.int (nI 0)), some (.int (nI 0))]) (st' := []) rfl ?_
  exact fT_mk rfl rfl (t71_23 hX hd hw _ _ _ Q h)
noncomputable def g84_22 (x1 : Int32) (m : fm) : Option (Int32 × fm) :=
  bif ai_c .ne x1 (nI 1) then
    some ((nI 0), m)
  else
    gfI m 0 7 fun v3 =>
    bif ai_c .ne v3 0 then
      some ((nI 0), m)
    else
      some ((-103), m)
set_option maxHeartbeats 4000000 in
theorem t84_22 {X : ai_X} {d w : Nat} (hX : X[1]? = some (39, ai_sh)) (hd : 1 ≤ d) (hw : 20 ≤ w) (x1 : Int32) (m : fm) (Q : Option Value → fm → Prop) (h : ob (g84_22 x1 m) (fun z : Int32 × fm => Q (some (.int z.1)) z.2)) : fT X d w ai_r84 22 [some (.ref 0), some (.int x1), none] [] m Q := by
  unfold g84_22 at h
  refine fT_ss 2 (pc' := 24) (L' := [some (.ref 0), some (.int x1), none]) (st' := [.int (nI 1), .int x1]) rfl ?_
  refine fO_ic 39 rfl rfl h (fun h => ?_) (fun h => ?_)
  · refine fT_ss 1 (pc' := 40) (L' := [none, none, none]) (st' := [.int (nI 0)]) rfl ?_
    exact fT_r rfl rfl h
  · refine fT_ss 1 (pc' := 28) (L' := [some (.ref 0), none, none]) (st' := [.ref 0]) rfl ?_
    refine fO_gi rfl rfl rfl h (fun v3 h => ?_)
    refine fO_if 39 rfl rfl h (fun h => ?_) (fun h => ?_)
    · refine fT_ss 1 (pc' := 40) (L' := [none, none, none]) (st' := [.int (nI 0)]) rfl ?_
      exact fT_r rfl rfl h
    · refine fT_ss 2 (pc' := 40) (L' := [none, none, none]) (st' := [.int (-103)]) rfl ?_
      exact fT_r rfl rfl h
noncomputable def g84 (x1 : Int32) (x2 : Int32) (m : fm) : Option (Int32 × fm) :=
  cl2 (g87 x2 m) fun v2 m1 =>
  bif ai_c .ne v2 0 then
    bif ai_c .eq x1 0 then
      g84_22 x1 m1
    else
      bif ai_c .eq x1 (nI 1) then
        g84_22 x1 m1
      else
        some ((-102), m1)
  else
    some ((-101), m1)
set_option maxHeartbeats 4000000 in
theorem t84_0 {X : ai_X} {d w : Nat} (hX : X[1]? = some (39, ai_sh)) (hd : 1 ≤ d) (hw : 20 ≤ w) (x1 : Int32) (x2 : Int32) (m : fm) (Q : Option Value → fm → Prop) (h : ob (g84 x1 x2 m) (fun z : Int32 × fm => Q (some (.int z.1)) z.2)) : fT X d w ai_r84 0 [some (.ref 0), some (.int x1), some (.int x2)] [] m Q := by
  unfold g84 at h
  refine fT_ss 1 (pc' := 1) (L' := [some (.ref 0), some (.int x1), some (.int x2)]) (st' := [.int x2]) rfl ?_
  refine fO_qs2 Value.int (r' := ai_r87) (As := [.int x2]) (rest := []) rfl rfl rfl rfl rfl rfl (by omega) (show 19 + 1 ≤ w by omega) (Nat.le_of_ble_eq_true rfl) (Nat.le_of_ble_eq_true rfl) rfl rfl (fun Qc hq => t87_0 hX (show 0 ≤ d - 1 by omega) (show 0 ≤ w - (19 + 1) by omega) _ _ Qc hq) h (fun v2 m1 h => ?_)
  refine fO_if 10 rfl rfl h (fun h => ?_) (fun h => ?_)
  · refine fT_ss 1 (pc' := 11) (L' := [some (.ref 0), some (.int x1), none]) (st' := [.int x1]) rfl ?_
    refine fO_if 22 rfl rfl h (fun h => ?_) (fun h => ?_)
    · exact fT_mk rfl rfl (t84_22 hX hd hw _ _ Q h)
    · refine fT_ss 2 (pc' := 16) (L' := [some (.ref 0), some (.int x1), none]) (st' := [.int (nI 1), .int x1]) rfl ?_
      refine fO_ic 22 rfl rfl h (fun h => ?_) (fun h => ?_)
      · exact fT_mk rfl rfl (t84_22 hX hd hw _ _ Q h)
      · refine fT_ss 1 (pc' := 21) (L' := [none, none, none]) (st' := [.int (-102)]) rfl ?_
        exact fT_r rfl rfl h
  · refine fT_ss 1 (pc' := 9) (L' := [none, none, none]) (st' := [.int (-101)]) rfl ?_
    exact fT_r rfl rfl h
noncomputable def g72 (x1 : Int32) (x2 : Int32) (x3 : Int32) (x4 : Int32) (m : fm) : Option (Int32 × fm) :=
  cl2 (g84 x1 x2 m) fun v2 m1 =>
  bif ai_c .ge v2 0 then
    plk x1 fun b3 =>
    cl2 (g42 b3 x2 x3 x4 m1) fun v5 m4 =>
    some (v5, m4)
  else
    some (v2, m1)
set_option maxHeartbeats 4000000 in
theorem t72_0 {X : ai_X} {d w : Nat} (hX : X[1]? = some (39, ai_sh)) (hd : 6 ≤ d) (hw : 142 ≤ w) (x1 : Int32) (x2 : Int32) (x3 : Int32) (x4 : Int32) (m : fm) (Q : Option Value → fm → Prop) (h : ob (g72 x1 x2 x3 x4 m) (fun z : Int32 × fm => Q (some (.int z.1)) z.2)) : fT X d w ai_r72 0 [some (.ref 0), some (.int x1), some (.int x2), some (.int x3), some (.int x4), none] [] m Q := by
  unfold g72 at h
  refine fT_ss 3 (pc' := 3) (L' := [some (.ref 0), some (.int x1), some (.int x2), some (.int x3), some (.int x4), none]) (st' := [.int x2, .int x1, .ref 0]) rfl ?_
  refine fO_qv2 Value.int (r' := ai_r84) (k := 0) (As := [.int x1, .int x2]) (rest := []) rfl rfl rfl rfl rfl rfl (by omega) (show 19 + 3 ≤ w by omega) (Nat.le_of_ble_eq_true rfl) (Nat.le_of_ble_eq_true rfl) rfl rfl (fun Qc hq => t84_0 hX (show 1 ≤ d - 1 by omega) (show 20 ≤ w - (19 + 3) by omega) _ _ _ Qc hq) h (fun v2 m1 h => ?_)
  refine fT_ss 2 (pc' := 10) (L' := [some (.ref 0), some (.int x1), some (.int x2), some (.int x3), some (.int x4), some (.int v2)]) (st' := [.int v2]) rfl ?_
  refine fO_if 18 rfl rfl h (fun h => ?_) (fun h => ?_)
  · refine fT_ss 1 (pc' := 19) (L' := [some (.ref 0), some (.int x1), some (.int x2), some (.int x3), some (.int x4), none]) (st' := [.ref 0]) rfl ?_
    refine fT_gr (q := 14) rfl rfl rfl ?_
    refine fT_ss 2 (pc' := 24) (L' := [some (.ref 0), some (.int x1), some (.int x2), some (.int x3), some (.int x4), none]) (st' := [.int x1, .ref 0, .ref 14]) rfl ?_
    refine fO_pl rfl (by omega) (by omega) (Nat.le_of_ble_eq_true rfl) rfl rfl h (fun p3 b3 hp3 h => ?_)
    refine fT_ss 3 (pc' := 31) (L' := [some (.ref 0), some (.int x1), some (.int x2), some (.int x3), some (.int x4), none]) (st' := [.int x4, .int x3, .int x2, .ref p3, .ref 14]) rfl ?_
    refine fO_qv2 Value.int (r' := ai_r42) (k := 14) (As := [.ref p3, .int x2, .int x3, .int x4]) (rest := []) rfl rfl rfl rfl rfl rfl (by omega) (show 19 + 6 ≤ w by omega) (Nat.le_of_ble_eq_true rfl) (Nat.le_of_ble_eq_true rfl) rfl rfl (fun Qc hq => t42_0 hX (show 5 ≤ d - 1 by omega) (show 117 ≤ w - (19 + 6) by omega) hp3 _ _ _ _ Qc hq) h (fun v5 m4 h => ?_)
    exact fT_r rfl rfl h
  · refine fT_ss 2 (pc' := 34) (L' := [none, none, none, none, none, some (.int v2)]) (st' := [.int v2]) rfl ?_
    exact fT_r rfl rfl h
noncomputable def g73 (x1 : Int32) (m : fm) : Option (Int64 × fm) :=
  bif decide (x1 = nI 0) then
    cl2 (g36  m) fun v2 m1 =>
    some (((v2).toInt64), m1)
  else bif decide (x1 = nI 1) then
    cl2 (g37  m) fun v4 m3 =>
    some (((v4).toInt64), m3)
  else bif decide (x1 = nI 2) then
    cl2 (g38  m) fun v6 m5 =>
    some (((v6).toInt64), m5)
  else 
  bif ai_c .lt x1 (nI 3) then
    some ((Int64.ofNat 18446744073709551514), m)
  else
    bif ai_c .ge x1 (nI 7) then
      some ((Int64.ofNat 18446744073709551514), m)
    else
      cl2 (g39 (x1 - (nI 3)) m) fun v8 m7 =>
      some (((v8).toInt64), m7)
set_option maxHeartbeats 4000000 in
theorem t73_0 {X : ai_X} {d w : Nat} (hX : X[1]? = some (39, ai_sh)) (hd : 1 ≤ d) (hw : 21 ≤ w) (x1 : Int32) (m : fm) (Q : Option Value → fm → Prop) (h : ob (g73 x1 m) (fun z : Int64 × fm => Q (some (.long z.1)) z.2)) : fT X d w ai_r73 0 [some (.ref 0), some (.int x1)] [] m Q := by
  unfold g73 at h
  refine fT_ss 1 (pc' := 1) (L' := [some (.ref 0), some (.int x1)]) (st' := [.int x1]) rfl ?_
  by_cases e0 : x1 = nI 0
  · subst e0
    replace h := ob_eqT h
    refine fT_ss 1 (pc' := 28) (L' := [some (.ref 0), some (.int (nI 0))]) (st' := []) rfl ?_
    refine fT_ss 1 (pc' := 29) (L' := [some (.ref 0), none]) (st' := [.ref 0]) rfl ?_
    refine fT_gr (q := 14) rfl rfl rfl ?_
    refine fO_qv2 Value.int (r' := ai_r36) (k := 14) (As := []) (rest := []) rfl rfl rfl rfl rfl rfl (by omega) (show 19 + 1 ≤ w by omega) (Nat.le_of_ble_eq_true rfl) (Nat.le_of_ble_eq_true rfl) rfl rfl (fun Qc hq => t36_0 hX (show 0 ≤ d - 1 by omega) (show 0 ≤ w - (19 + 1) by omega)  _ Qc hq) h (fun v2 m1 h => ?_)
    refine fT_ss 1 (pc' := 36) (L' := [some (.ref 0), none]) (st' := [.long ((v2).toInt64)]) rfl ?_
    exact fT_r rfl rfl h
  replace h := ob_eqF e0 h
  by_cases e1 : x1 = nI 1
  · subst e1
    replace h := ob_eqT h
    refine fT_ss 1 (pc' := 37) (L' := [some (.ref 0), some (.int (nI 1))]) (st' := []) rfl ?_
    refine fT_ss 1 (pc' := 38) (L' := [some (.ref 0), none]) (st' := [.ref 0]) rfl ?_
    refine fT_gr (q := 14) rfl rfl rfl ?_
    refine fO_qv2 Value.int (r' := ai_r37) (k := 14) (As := []) (rest := []) rfl rfl rfl rfl rfl rfl (by omega) (show 19 + 1 ≤ w by omega) (Nat.le_of_ble_eq_true rfl) (Nat.le_of_ble_eq_true rfl) rfl rfl (fun Qc hq => t37_0 hX (show 0 ≤ d - 1 by omega) (show 0 ≤ w - (19 + 1) by omega)  _ Qc hq) h (fun v4 m3 h => ?_)
    refine fT_ss 1 (pc' := 45) (L' := [some (.ref 0), none]) (st' := [.long ((v4).toInt64)]) rfl ?_
    exact fT_r rfl rfl h
  replace h := ob_eqF e1 h
  by_cases e2 : x1 = nI 2
  · subst e2
    replace h := ob_eqT h
    refine fT_ss 1 (pc' := 46) (L' := [some (.ref 0), some (.int (nI 2))]) (st' := []) rfl ?_
    refine fT_ss 1 (pc' := 47) (L' := [some (.ref 0), none]) (st' := [.ref 0]) rfl ?_
    refine fT_gr (q := 14) rfl rfl rfl ?_
    refine fO_qv2 Value.int (r' := ai_r38) (k := 14) (As := []) (rest := []) rfl rfl rfl rfl rfl rfl (by omega) (show 19 + 1 ≤ w by omega) (Nat.le_of_ble_eq_true rfl) (Nat.le_of_ble_eq_true rfl) rfl rfl (fun Qc hq => t38_0 hX (show 0 ≤ d - 1 by omega) (show 0 ≤ w - (19 + 1) by omega)  _ Qc hq) h (fun v6 m5 h => ?_)
    refine fT_ss 1 (pc' := 54) (L' := [some (.ref 0), none]) (st' := [.long ((v6).toInt64)]) rfl ?_
    exact fT_r rfl rfl h
  replace h := ob_eqF e2 h
  refine fO_td 55 rfl rfl (by have := nt (k := 0) (by omega) e0; have := nt (k := 1) (by omega) e1; have := nt (k := 2) (by omega) e2; omega) ?_
  refine fT_ss 2 (pc' := 57) (L' := [some (.ref 0), some (.int x1)]) (st' := [.int (nI 3), .int x1]) rfl ?_
  refine fO_ic 80 rfl rfl h (fun h => ?_) (fun h => ?_)
  · refine fT_lc rfl ?_
    exact fT_r rfl rfl h
  · refine fT_ss 2 (pc' := 63) (L' := [some (.ref 0), some (.int x1)]) (st' := [.int (nI 7), .int x1]) rfl ?_
    refine fO_ic 80 rfl rfl h (fun h => ?_) (fun h => ?_)
    · refine fT_lc rfl ?_
      exact fT_r rfl rfl h
    · refine fT_ss 1 (pc' := 67) (L' := [some (.ref 0), some (.int x1)]) (st' := [.ref 0]) rfl ?_
      refine fT_gr (q := 14) rfl rfl rfl ?_
      refine fT_ss 3 (pc' := 73) (L' := [some (.ref 0), some (.int x1)]) (st' := [.int (x1 - (nI 3)), .ref 14]) rfl ?_
      refine fO_qv2 Value.int (r' := ai_r39) (k := 14) (As := [.int (x1 - (nI 3))]) (rest := []) rfl rfl rfl rfl rfl rfl (by omega) (show 19 + 2 ≤ w by omega) (Nat.le_of_ble_eq_true rfl) (Nat.le_of_ble_eq_true rfl) rfl rfl (fun Qc hq => t39_0 hX (show 0 ≤ d - 1 by omega) (show 0 ≤ w - (19 + 2) by omega) _ _ Qc hq) h (fun v8 m7 h => ?_)
      refine fT_ss 2 (pc' := 83) (L' := [some (.ref 0), some (.int x1)]) (st' := [.long ((v8).toInt64)]) rfl ?_
      exact fT_r rfl rfl h
noncomputable def g74 (x1 : Int32) (m : fm) : Option (Int32 × fm) :=
  cl2 (g40 x1 m) fun v2 m1 =>
  some (v2, m1)
set_option maxHeartbeats 4000000 in
theorem t74_0 {X : ai_X} {d w : Nat} (hX : X[1]? = some (39, ai_sh)) (hd : 1 ≤ d) (hw : 21 ≤ w) (x1 : Int32) (m : fm) (Q : Option Value → fm → Prop) (h : ob (g74 x1 m) (fun z : Int32 × fm => Q (some (.int z.1)) z.2)) : fT X d w ai_r74 0 [some (.ref 0), some (.int x1)] [] m Q := by
  unfold g74 at h
  refine fT_ss 1 (pc' := 1) (L' := [some (.ref 0), some (.int x1)]) (st' := [.ref 0]) rfl ?_
  refine fT_gr (q := 14) rfl rfl rfl ?_
  refine fT_ss 1 (pc' := 5) (L' := [some (.ref 0), some (.int x1)]) (st' := [.int x1, .ref 14]) rfl ?_
  refine fO_qv2 Value.int (r' := ai_r40) (k := 14) (As := [.int x1]) (rest := []) rfl rfl rfl rfl rfl rfl (by omega) (show 19 + 2 ≤ w by omega) (Nat.le_of_ble_eq_true rfl) (Nat.le_of_ble_eq_true rfl) rfl rfl (fun Qc hq => t40_0 hX (show 0 ≤ d - 1 by omega) (show 0 ≤ w - (19 + 2) by omega) _ _ Qc hq) h (fun v2 m1 h => ?_)
  exact fT_r rfl rfl h
noncomputable def g86 (x1 : Int32) (x2 : Int32) (m : fm) : Option (Int32 × fm) :=
  cl2 (g87 x1 m) fun v2 m1 =>
  bif ai_c .eq v2 0 then
    some ((nI 0), m1)
  else
    ldA 20 x1 fun c3 =>
    cl2 (g2 c3 x2 m1) fun v5 m4 =>
    bif ai_c .eq v5 0 then
      some ((nI 0), m4)
    else
      some ((nI 1), m4)
set_option maxHeartbeats 4000000 in
theorem t86_0 {X : ai_X} {d w : Nat} (hX : X[1]? = some (39, ai_sh)) (hd : 1 ≤ d) (hw : 21 ≤ w) (x1 : Int32) (x2 : Int32) (m : fm) (Q : Option Value → fm → Prop) (h : ob (g86 x1 x2 m) (fun z : Int32 × fm => Q (some (.int z.1)) z.2)) : fT X d w ai_r86 0 [some (.ref 0), some (.int x1), some (.int x2)] [] m Q := by
  unfold g86 at h
  refine fT_ss 1 (pc' := 1) (L' := [some (.ref 0), some (.int x1), some (.int x2)]) (st' := [.int x1]) rfl ?_
  refine fO_qs2 Value.int (r' := ai_r87) (As := [.int x1]) (rest := []) rfl rfl rfl rfl rfl rfl (by omega) (show 19 + 1 ≤ w by omega) (Nat.le_of_ble_eq_true rfl) (Nat.le_of_ble_eq_true rfl) rfl rfl (fun Qc hq => t87_0 hX (show 0 ≤ d - 1 by omega) (show 0 ≤ w - (19 + 1) by omega) _ _ Qc hq) h (fun v2 m1 h => ?_)
  refine fO_if 24 rfl rfl h (fun h => ?_) (fun h => ?_)
  · refine fT_ss 1 (pc' := 25) (L' := [none, none, none]) (st' := [.int (nI 0)]) rfl ?_
    exact fT_r rfl rfl h
  · refine fT_ss 1 (pc' := 8) (L' := [some (.ref 0), some (.int x1), some (.int x2)]) (st' := [.ref 0]) rfl ?_
    refine fT_gr (q := 1) rfl rfl rfl ?_
    refine fT_ss 1 (pc' := 12) (L' := [some (.ref 0), some (.int x1), some (.int x2)]) (st' := [.int x1, .ref 1]) rfl ?_
    refine fO_aa rfl isP_1 h (fun c3 hc3 h => ?_)
    refine fT_ss 1 (pc' := 14) (L' := [some (.ref 0), some (.int x1), some (.int x2)]) (st' := [.int x2, .ref c3]) rfl ?_
    refine fO_qv2 Value.int (r' := ai_r2) (k := c3) (As := [.int x2]) (rest := []) rfl rfl rfl rfl hc3.1 rfl (by omega) (show 19 + 2 ≤ w by omega) (Nat.le_of_ble_eq_true rfl) (Nat.le_of_ble_eq_true rfl) rfl rfl (fun Qc hq => t2_0 hX (show 0 ≤ d - 1 by omega) (show 0 ≤ w - (19 + 2) by omega) hc3 _ _ Qc hq) h (fun v5 m4 h => ?_)
    refine fO_if 24 rfl rfl h (fun h => ?_) (fun h => ?_)
    · refine fT_ss 1 (pc' := 25) (L' := [none, none, none]) (st' := [.int (nI 0)]) rfl ?_
      exact fT_r rfl rfl h
    · refine fT_ss 2 (pc' := 25) (L' := [none, none, none]) (st' := [.int (nI 1)]) rfl ?_
      exact fT_r rfl rfl h
noncomputable def g75 (x1 : Int32) (x2 : Int32) (m : fm) : Option (Int32 × fm) :=
  cl2 (g86 x1 x2 m) fun v2 m1 =>
  bif ai_c .ne v2 0 then
    ldA 20 x1 fun c3 =>
    cl1 (g25 c3 m1) fun m4 =>
    ldA 20 x1 fun c5 =>
    cl1 (g32 c5 m4) fun m6 =>
    ldA 20 x1 fun c7 =>
    cl2 (g19 c7 x2 m6) fun v9 m8 =>
    some (v9, m8)
  else
    some ((-101), m1)
set_option maxHeartbeats 4000000 in
theorem t75_0 {X : ai_X} {d w : Nat} (hX : X[1]? = some (39, ai_sh)) (hd : 5 ≤ d) (hw : 119 ≤ w) (x1 : Int32) (x2 : Int32) (m : fm) (Q : Option Value → fm → Prop) (h : ob (g75 x1 x2 m) (fun z : Int32 × fm => Q (some (.int z.1)) z.2)) : fT X d w ai_r75 0 [some (.ref 0), some (.int x1), some (.int x2)] [] m Q := by
  unfold g75 at h
  refine fT_ss 3 (pc' := 3) (L' := [some (.ref 0), some (.int x1), some (.int x2)]) (st' := [.int x2, .int x1, .ref 0]) rfl ?_
  refine fO_qv2 Value.int (r' := ai_r86) (k := 0) (As := [.int x1, .int x2]) (rest := []) rfl rfl rfl rfl rfl rfl (by omega) (show 19 + 3 ≤ w by omega) (Nat.le_of_ble_eq_true rfl) (Nat.le_of_ble_eq_true rfl) rfl rfl (fun Qc hq => t86_0 hX (show 1 ≤ d - 1 by omega) (show 21 ≤ w - (19 + 3) by omega) _ _ _ Qc hq) h (fun v2 m1 h => ?_)
  refine fO_if 12 rfl rfl h (fun h => ?_) (fun h => ?_)
  · refine fT_ss 1 (pc' := 13) (L' := [some (.ref 0), some (.int x1), some (.int x2)]) (st' := [.ref 0]) rfl ?_
    refine fT_gr (q := 4) rfl rfl rfl ?_
    refine fT_ss 1 (pc' := 17) (L' := [some (.ref 0), some (.int x1), some (.int x2)]) (st' := [.ref 0, .ref 4]) rfl ?_
    refine fT_gr (q := 1) rfl rfl rfl ?_
    refine fT_ss 1 (pc' := 21) (L' := [some (.ref 0), some (.int x1), some (.int x2)]) (st' := [.int x1, .ref 1, .ref 4]) rfl ?_
    refine fO_aa rfl isP_1 h (fun c3 hc3 h => ?_)
    refine fO_qv1 (r' := ai_r25) (k := 4) (As := [.ref c3]) (rest := []) rfl rfl rfl rfl rfl rfl (by omega) (show 19 + 5 ≤ w by omega) (Nat.le_of_ble_eq_true rfl) (Nat.le_of_ble_eq_true rfl) rfl rfl (fun Qc hq => t25_0 hX (show 4 ≤ d - 1 by omega) (show 94 ≤ w - (19 + 5) by omega) hc3 _ Qc hq) h (fun m4 h => ?_)
    refine fT_ss 1 (pc' := 26) (L' := [some (.ref 0), some (.int x1), some (.int x2)]) (st' := [.ref 0]) rfl ?_
    refine fT_gr (q := 4) rfl rfl rfl ?_
    refine fT_ss 1 (pc' := 30) (L' := [some (.ref 0), some (.int x1), some (.int x2)]) (st' := [.ref 0, .ref 4]) rfl ?_
    refine fT_gr (q := 1) rfl rfl rfl ?_
    refine fT_ss 1 (pc' := 34) (L' := [some (.ref 0), some (.int x1), some (.int x2)]) (st' := [.int x1, .ref 1, .ref 4]) rfl ?_
    refine fO_aa rfl isP_1 h (fun c5 hc5 h => ?_)
    refine fO_qv1 (r' := ai_r32) (k := 4) (As := [.ref c5]) (rest := []) rfl rfl rfl rfl rfl rfl (by omega) (show 19 + 6 ≤ w by omega) (Nat.le_of_ble_eq_true rfl) (Nat.le_of_ble_eq_true rfl) rfl rfl (fun Qc hq => t32_0 hX (show 4 ≤ d - 1 by omega) (show 94 ≤ w - (19 + 6) by omega) hc5 _ Qc hq) h (fun m6 h => ?_)
    refine fT_ss 1 (pc' := 39) (L' := [some (.ref 0), some (.int x1), some (.int x2)]) (st' := [.ref 0]) rfl ?_
    refine fT_gr (q := 4) rfl rfl rfl ?_
    refine fT_ss 1 (pc' := 43) (L' := [some (.ref 0), some (.int x1), some (.int x2)]) (st' := [.ref 0, .ref 4]) rfl ?_
    refine fT_gr (q := 1) rfl rfl rfl ?_
    refine fT_ss 1 (pc' := 47) (L' := [some (.ref 0), some (.int x1), some (.int x2)]) (st' := [.int x1, .ref 1, .ref 4]) rfl ?_
    refine fO_aa rfl isP_1 h (fun c7 hc7 h => ?_)
    refine fT_ss 1 (pc' := 49) (L' := [some (.ref 0), some (.int x1), some (.int x2)]) (st' := [.int x2, .ref c7, .ref 4]) rfl ?_
    refine fO_qv2 Value.int (r' := ai_r19) (k := 4) (As := [.ref c7, .int x2]) (rest := []) rfl rfl rfl rfl rfl rfl (by omega) (show 19 + 3 ≤ w by omega) (Nat.le_of_ble_eq_true rfl) (Nat.le_of_ble_eq_true rfl) rfl rfl (fun Qc hq => t19_0 hX (show 2 ≤ d - 1 by omega) (show 49 ≤ w - (19 + 3) by omega) hc7 _ _ Qc hq) h (fun v9 m8 h => ?_)
    exact fT_r rfl rfl h
  · refine fT_ss 1 (pc' := 11) (L' := [none, none, none]) (st' := [.int (-101)]) rfl ?_
    exact fT_r rfl rfl h
noncomputable def g76 (x1 : Int32) (x2 : Int32) (x3 : Int32) (m : fm) : Option (Int64 × fm) :=
  cl2 (g86 x1 x2 m) fun v2 m1 =>
  bif ai_c .eq v2 0 then
    some ((Int64.ofNat 18446744073709551515), m1)
  else
    cl2 (g88 x3 m1) fun v4 m3 =>
    bif ai_c .ne v4 0 then
      ldA 20 x1 fun c5 =>
      cl1 (g25 c5 m3) fun m6 =>
      cl2 (g17 x2 x3 m6) fun v8 m7 =>
      some (v8, m7)
    else
      some ((Int64.ofNat 18446744073709551515), m3)
set_option maxHeartbeats 4000000 in
theorem t76_0 {X : ai_X} {d w : Nat} (hX : X[1]? = some (39, ai_sh)) (hd : 5 ≤ d) (hw : 118 ≤ w) (x1 : Int32) (x2 : Int32) (x3 : Int32) (m : fm) (Q : Option Value → fm → Prop) (h : ob (g76 x1 x2 x3 m) (fun z : Int64 × fm => Q (some (.long z.1)) z.2)) : fT X d w ai_r76 0 [some (.ref 0), some (.int x1), some (.int x2), some (.int x3)] [] m Q := by
  unfold g76 at h
  refine fT_ss 3 (pc' := 3) (L' := [some (.ref 0), some (.int x1), some (.int x2), some (.int x3)]) (st' := [.int x2, .int x1, .ref 0]) rfl ?_
  refine fO_qv2 Value.int (r' := ai_r86) (k := 0) (As := [.int x1, .int x2]) (rest := []) rfl rfl rfl rfl rfl rfl (by omega) (show 19 + 3 ≤ w by omega) (Nat.le_of_ble_eq_true rfl) (Nat.le_of_ble_eq_true rfl) rfl rfl (fun Qc hq => t86_0 hX (show 1 ≤ d - 1 by omega) (show 21 ≤ w - (19 + 3) by omega) _ _ _ Qc hq) h (fun v2 m1 h => ?_)
  refine fO_if 16 rfl rfl h (fun h => ?_) (fun h => ?_)
  · refine fT_lc rfl ?_
    exact fT_r rfl rfl h
  · refine fT_ss 1 (pc' := 10) (L' := [some (.ref 0), some (.int x1), some (.int x2), some (.int x3)]) (st' := [.int x3]) rfl ?_
    refine fO_qs2 Value.int (r' := ai_r88) (As := [.int x3]) (rest := []) rfl rfl rfl rfl rfl rfl (by omega) (show 19 + 1 ≤ w by omega) (Nat.le_of_ble_eq_true rfl) (Nat.le_of_ble_eq_true rfl) rfl rfl (fun Qc hq => t88_0 hX (show 0 ≤ d - 1 by omega) (show 0 ≤ w - (19 + 1) by omega) _ _ Qc hq) h (fun v4 m3 h => ?_)
    refine fO_if 20 rfl rfl h (fun h => ?_) (fun h => ?_)
    · refine fT_ss 1 (pc' := 21) (L' := [some (.ref 0), some (.int x1), some (.int x2), some (.int x3)]) (st' := [.ref 0]) rfl ?_
      refine fT_gr (q := 4) rfl rfl rfl ?_
      refine fT_ss 1 (pc' := 25) (L' := [some (.ref 0), some (.int x1), some (.int x2), some (.int x3)]) (st' := [.ref 0, .ref 4]) rfl ?_
      refine fT_gr (q := 1) rfl rfl rfl ?_
      refine fT_ss 1 (pc' := 29) (L' := [some (.ref 0), some (.int x1), some (.int x2), some (.int x3)]) (st' := [.int x1, .ref 1, .ref 4]) rfl ?_
      refine fO_aa rfl isP_1 h (fun c5 hc5 h => ?_)
      refine fO_qv1 (r' := ai_r25) (k := 4) (As := [.ref c5]) (rest := []) rfl rfl rfl rfl rfl rfl (by omega) (show 19 + 5 ≤ w by omega) (Nat.le_of_ble_eq_true rfl) (Nat.le_of_ble_eq_true rfl) rfl rfl (fun Qc hq => t25_0 hX (show 4 ≤ d - 1 by omega) (show 94 ≤ w - (19 + 5) by omega) hc5 _ Qc hq) h (fun m6 h => ?_)
      refine fT_ss 1 (pc' := 34) (L' := [some (.ref 0), some (.int x1), some (.int x2), some (.int x3)]) (st' := [.ref 0]) rfl ?_
      refine fT_gr (q := 4) rfl rfl rfl ?_
      refine fT_ss 2 (pc' := 39) (L' := [some (.ref 0), some (.int x1), some (.int x2), some (.int x3)]) (st' := [.int x3, .int x2, .ref 4]) rfl ?_
      refine fO_qv2 Value.long (r' := ai_r17) (k := 4) (As := [.int x2, .int x3]) (rest := []) rfl rfl rfl rfl rfl rfl (by omega) (show 19 + 3 ≤ w by omega) (Nat.le_of_ble_eq_true rfl) (Nat.le_of_ble_eq_true rfl) rfl rfl (fun Qc hq => t17_0 hX (show 0 ≤ d - 1 by omega) (show 0 ≤ w - (19 + 3) by omega) _ _ _ Qc hq) h (fun v8 m7 h => ?_)
      exact fT_r rfl rfl h
    · refine fT_lc rfl ?_
      exact fT_r rfl rfl h
