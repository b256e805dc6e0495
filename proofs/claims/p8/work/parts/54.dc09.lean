noncomputable def s142_56 (x1 : Int32) (x2 : Int32) (m : fm) : Option ((Int32 × fm) ⊕ (Int32 × fm)) :=
  bif ai_c .ge x2 (nI 4) then
    pfI m 52 20 (nI 0) fun m2 =>
    pfI m2 52 21 (nI 0) fun m3 =>
    pfI m3 52 22 (nI 0) fun m4 =>
    some (.inr (x1, m4))
  else
    stI m 66 4 x2 (nI 0) fun m5 =>
    some (.inl ((x2 + (nI 1)), m5))
set_option maxHeartbeats 4000000 in
theorem b142_56 {X : ai_X} {d w : Nat} (hX : X[1]? = some (39, ai_sh)) (hd : 0 ≤ d) (hw : 0 ≤ w) (x1 : Int32) (x2 : Int32) (m : fm) (Q : Option Value → fm → Prop) (h : ob (s142_56 x1 x2 m) (Sum.elim (fun s : Int32 × fm => fT X d w ai_r142 56 [some (.ref 52), some (.int x1), some (.int s.1)] [] s.2 Q) (fun z : Int32 × fm => Q (some (.int z.1)) z.2))) : fT X d w ai_r142 56 [some (.ref 52), some (.int x1), some (.int x2)] [] m Q := by
  unfold s142_56 at h
  refine fT_ss 2 (pc' := 58) (L' := [some (.ref 52), some (.int x1), some (.int x2)]) (st' := [.int (nI 4), .int x2]) rfl ?_
  refine fO_ic 74 rfl rfl h (fun h => ?_) (fun h => ?_)
  · refine fT_ss 2 (pc' := 76) (L' := [some (.ref 52), some (.int x1), none]) (st' := [.int (nI 0), .ref 52]) rfl ?_
    refine fO_pi rfl rfl rfl rfl h (fun m2 h => ?_)
    refine fT_ss 2 (pc' := 81) (L' := [some (.ref 52), some (.int x1), none]) (st' := [.int (nI 0), .ref 52]) rfl ?_
    refine fO_pi rfl rfl rfl rfl h (fun m3 h => ?_)
    refine fT_ss 2 (pc' := 86) (L' := [some (.ref 52), some (.int x1), none]) (st' := [.int (nI 0), .ref 52]) rfl ?_
    refine fO_pi rfl rfl rfl rfl h (fun m4 h => ?_)
    refine fT_ss 1 (pc' := 90) (L' := [some (.ref 52), some (.int x1), none]) (st' := [.int x1]) rfl ?_
    exact fT_r rfl rfl h
  · refine fT_ss 1 (pc' := 62) (L' := [some (.ref 52), some (.int x1), some (.int x2)]) (st' := [.ref 52]) rfl ?_
    refine fT_gr (q := 66) rfl rfl rfl ?_
    refine fT_ss 2 (pc' := 67) (L' := [some (.ref 52), some (.int x1), some (.int x2)]) (st' := [.int (nI 0), .int x2, .ref 66]) rfl ?_
    refine fO_is rfl rfl h (fun m5 h => ?_)
    refine fT_ss 2 (pc' := 56) (L' := [some (.ref 52), some (.int x1), some (.int (x2 + (nI 1)))]) (st' := []) rfl ?_
    replace h := ob_inl h
    exact fT_mk rfl rfl h
noncomputable def g142_56 (x1 : Int32) (x2 : Int32) (m : fm) : Option (Int32 × fm) := wl (fun s : Int32 × fm => s142_56 x1 s.1 s.2) lf (x2, m)
theorem t142_56 {X : ai_X} {d w : Nat} (hX : X[1]? = some (39, ai_sh)) (hd : 0 ≤ d) (hw : 0 ≤ w) (x1 : Int32) (x2 : Int32) (m : fm) (Q : Option Value → fm → Prop) (h : ob (g142_56 x1 x2 m) (fun z : Int32 × fm => Q (some (.int z.1)) z.2)) : fT X d w ai_r142 56 [some (.ref 52), some (.int x1), some (.int x2)] [] m Q :=
  wl_ob (P := fun s : Int32 × fm => fT X d w ai_r142 56 [some (.ref 52), some (.int x1), some (.int s.1)] [] s.2 Q) (fun s h => b142_56 hX hd hw x1 s.1 s.2 Q h) lf (x2, m) h
noncomputable def s142_4 (x1 : Int32) (x2 : Int32) (m : fm) : Option ((Int32 × Int32 × fm) ⊕ (Int32 × fm)) :=
  bif ai_c .ge x2 (nI 8) then
    pfB m 52 6 (nI 0) fun m1 =>
    (g142_56 x1 (nI 0) m1).map Sum.inr
  else
    ldI m 57 16 x2 fun v6 =>
    stI m 57 16 x2 (nI 0) fun m7 =>
    stI m7 57 16 ((nI 8) + x2) (nI 0) fun m8 =>
    stB m8 58 8 x2 (nI 0) fun m9 =>
    some (.inl ((x1 + v6), (x2 + (nI 1)), m9))
set_option maxHeartbeats 4000000 in
theorem b142_4 {X : ai_X} {d w : Nat} (hX : X[1]? = some (39, ai_sh)) (hd : 0 ≤ d) (hw : 0 ≤ w) (x1 : Int32) (x2 : Int32) (m : fm) (Q : Option Value → fm → Prop) (h : ob (s142_4 x1 x2 m) (Sum.elim (fun s : Int32 × Int32 × fm => fT X d w ai_r142 4 [some (.ref 52), some (.int s.1), some (.int s.2.1)] [] s.2.2 Q) (fun z : Int32 × fm => Q (some (.int z.1)) z.2))) : fT X d w ai_r142 4 [some (.ref 52), some (.int x1), some (.int x2)] [] m Q := by
  unfold s142_4 at h
  refine fT_ss 2 (pc' := 7) (L' := [some (.ref 52), some (.int x1), some (.int x2)]) (st' := [.int (nI 8), .int x2]) rfl ?_
  refine fO_ic 49 rfl rfl h (fun h => ?_) (fun h => ?_)
  · refine fT_ss 2 (pc' := 51) (L' := [some (.ref 52), some (.int x1), none]) (st' := [.int (nI 0), .ref 52]) rfl ?_
    refine fO_pb rfl rfl rfl rfl h (fun m1 h => ?_)
    refine fT_ss 2 (pc' := 56) (L' := [some (.ref 52), some (.int x1), some (.int (nI 0))]) (st' := []) rfl ?_
    exact fT_mk rfl rfl (t142_56 hX hd hw _ _ _ Q (ob_mapR h))
  · refine fT_ss 2 (pc' := 12) (L' := [some (.ref 52), some (.int x1), some (.int x2)]) (st' := [.ref 52, .int x1]) rfl ?_
    refine fT_gr (q := 57) rfl rfl rfl ?_
    refine fT_ss 1 (pc' := 16) (L' := [some (.ref 52), some (.int x1), some (.int x2)]) (st' := [.int x2, .ref 57, .int x1]) rfl ?_
    refine fO_ia rfl rfl rfl h (fun v6 h => ?_)
    refine fT_ss 3 (pc' := 20) (L' := [some (.ref 52), some (.int (x1 + v6)), some (.int x2)]) (st' := [.ref 52]) rfl ?_
    refine fT_gr (q := 57) rfl rfl rfl ?_
    refine fT_ss 2 (pc' := 25) (L' := [some (.ref 52), some (.int (x1 + v6)), some (.int x2)]) (st' := [.int (nI 0), .int x2, .ref 57]) rfl ?_
    refine fO_is rfl rfl h (fun m7 h => ?_)
    refine fT_ss 1 (pc' := 27) (L' := [some (.ref 52), some (.int (x1 + v6)), some (.int x2)]) (st' := [.ref 52]) rfl ?_
    refine fT_gr (q := 57) rfl rfl rfl ?_
    refine fT_ss 4 (pc' := 35) (L' := [some (.ref 52), some (.int (x1 + v6)), some (.int x2)]) (st' := [.int (nI 0), .int ((nI 8) + x2), .ref 57]) rfl ?_
    refine fO_is rfl rfl h (fun m8 h => ?_)
    refine fT_ss 1 (pc' := 37) (L' := [some (.ref 52), some (.int (x1 + v6)), some (.int x2)]) (st' := [.ref 52]) rfl ?_
    refine fT_gr (q := 58) rfl rfl rfl ?_
    refine fT_ss 2 (pc' := 42) (L' := [some (.ref 52), some (.int (x1 + v6)), some (.int x2)]) (st' := [.int (nI 0), .int x2, .ref 58]) rfl ?_
    refine fO_bs rfl rfl h (fun m9 h => ?_)
    refine fT_ss 2 (pc' := 4) (L' := [some (.ref 52), some (.int (x1 + v6)), some (.int (x2 + (nI 1)))]) (st' := []) rfl ?_
    replace h := ob_inl h
    exact fT_mk rfl rfl h
noncomputable def g142_4 (x1 : Int32) (x2 : Int32) (m : fm) : Option (Int32 × fm) := wl (fun s : Int32 × Int32 × fm => s142_4 s.1 s.2.1 s.2.2) lf (x1, x2, m)
theorem t142_4 {X : ai_X} {d w : Nat} (hX : X[1]? = some (39, ai_sh)) (hd : 0 ≤ d) (hw : 0 ≤ w) (x1 : Int32) (x2 : Int32) (m : fm) (Q : Option Value → fm → Prop) (h : ob (g142_4 x1 x2 m) (fun z : Int32 × fm => Q (some (.int z.1)) z.2)) : fT X d w ai_r142 4 [some (.ref 52), some (.int x1), some (.int x2)] [] m Q :=
  wl_ob (P := fun s : Int32 × Int32 × fm => fT X d w ai_r142 4 [some (.ref 52), some (.int s.1), some (.int s.2.1)] [] s.2.2 Q) (fun s h => b142_4 hX hd hw s.1 s.2.1 s.2.2 Q h) lf (x1, x2, m) h
noncomputable def g142  (m : fm) : Option (Int32 × fm) :=
  g142_4 (nI 0) (nI 0) m
set_option maxHeartbeats 4000000 in
theorem t142_0 {X : ai_X} {d w : Nat} (hX : X[1]? = some (39, ai_sh)) (hd : 0 ≤ d) (hw : 0 ≤ w)  (m : fm) (Q : Option Value → fm → Prop) (h : ob (g142  m) (fun z : Int32 × fm => Q (some (.int z.1)) z.2)) : fT X d w ai_r142 0 [some (.ref 52), none, none] [] m Q := by
  unfold g142 at h
  refine fT_ss 4 (pc' := 4) (L' := [some (.ref 52), some (.int (nI 0)), some (.int (nI 0))]) (st' := []) rfl ?_
  exact fT_mk rfl rfl (t142_4 hX hd hw _ _ _ Q h)
