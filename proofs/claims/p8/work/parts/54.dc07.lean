noncomputable def g129_131 (x1 : Int32) (x2 : Int32) (x3 : Int32) (x4 : Int32) (x6 : Int32) (x7 : Int32) (x8 : Int32) (x9 : Int32) (y0 : Int32) (m : fm) : Option ((Int32 × Int32 × fm) ⊕ ((Int32 × Int32 × fm) ⊕ (Int32 × fm))) :=
  bif ai_c .eq y0 0 then
    cl2 (g126 x7 x9 m) fun v18 m17 =>
    cl2 (g126 x8 x9 m17) fun v20 m19 =>
    bif ai_c .ne v18 v20 then
      some (.inl ((nI 0), (x9 + (nI 1)), m19))
    else
      some (.inl ((nI 1), (x9 + (nI 1)), m19))
  else
    cl2 (g126 x7 x9 m) fun v22 m21 =>
    cl2 (g128 v22 x3 m21) fun v24 m23 =>
    cl2 (g126 x8 x9 m23) fun v26 m25 =>
    cl2 (g128 v26 x4 m25) fun v28 m27 =>
    bif ai_c .ne v24 v28 then
      some (.inl ((nI 0), (x9 + (nI 1)), m27))
    else
      some (.inl ((nI 1), (x9 + (nI 1)), m27))
set_option maxHeartbeats 4000000 in
theorem t129_131 {X : ai_X} {d w : Nat} (hX : X[1]? = some (39, ai_sh)) (hd : 3 ≤ d) (hw : 66 ≤ w) (x1 : Int32) (x2 : Int32) (x3 : Int32) (x4 : Int32) (x6 : Int32) (x7 : Int32) (x8 : Int32) (x9 : Int32) (y0 : Int32) (m : fm) (Q : Option Value → fm → Prop) (h : ob (g129_131 x1 x2 x3 x4 x6 x7 x8 x9 y0 m) (Sum.elim (fun s : Int32 × Int32 × fm => fT X d w ai_r129 99 [some (.ref 52), some (.int x1), some (.int x2), some (.int x3), some (.int x4), some (.int s.1), some (.int x6), some (.int x7), some (.int x8), some (.int s.2.1), none] [] s.2.2 Q) (Sum.elim (fun s : Int32 × Int32 × fm => fT X d w ai_r129 38 [some (.ref 52), some (.int x1), some (.int x2), some (.int x3), some (.int x4), some (.int s.1), some (.int s.2.1), none, none, none, none] [] s.2.2 Q) (fun z : Int32 × fm => Q (some (.int z.1)) z.2)))) : fT X d w ai_r129 131 [some (.ref 52), some (.int x1), some (.int x2), some (.int x3), some (.int x4), none, some (.int x6), some (.int x7), some (.int x8), some (.int x9), none] [.int y0] m Q := by
  unfold g129_131 at h
  refine fT_ss 2 (pc' := 135) (L' := [some (.ref 52), some (.int x1), some (.int x2), some (.int x3), some (.int x4), none, some (.int x6), some (.int x7), some (.int x8), some (.int x9), some (.int y0)]) (st' := [.int y0]) rfl ?_
  refine fO_if 174 rfl rfl h (fun h => ?_) (fun h => ?_)
  · refine fT_ss 3 (pc' := 179) (L' := [some (.ref 52), some (.int x1), some (.int x2), some (.int x3), some (.int x4), none, some (.int x6), some (.int x7), some (.int x8), some (.int x9), none]) (st' := [.int x9, .int x7, .ref 52]) rfl ?_
    refine fO_qv2 Value.int (r' := ai_r126) (k := 52) (As := [.int x7, .int x9]) (rest := []) rfl rfl rfl rfl rfl rfl (by omega) (show 19 + 3 ≤ w by omega) (Nat.le_of_ble_eq_true rfl) (Nat.le_of_ble_eq_true rfl) rfl rfl (fun Qc hq => t126_0 hX (show 0 ≤ d - 1 by omega) (show 0 ≤ w - (19 + 3) by omega) _ _ _ Qc hq) h (fun v18 m17 h => ?_)
    refine fT_ss 3 (pc' := 187) (L' := [some (.ref 52), some (.int x1), some (.int x2), some (.int x3), some (.int x4), none, some (.int x6), some (.int x7), some (.int x8), some (.int x9), none]) (st' := [.int x9, .int x8, .ref 52, .int v18]) rfl ?_
    refine fO_qv2 Value.int (r' := ai_r126) (k := 52) (As := [.int x8, .int x9]) (rest := [.int v18]) rfl rfl rfl rfl rfl rfl (by omega) (show 19 + 3 ≤ w by omega) (Nat.le_of_ble_eq_true rfl) (Nat.le_of_ble_eq_true rfl) rfl rfl (fun Qc hq => t126_0 hX (show 0 ≤ d - 1 by omega) (show 0 ≤ w - (19 + 3) by omega) _ _ _ Qc hq) h (fun v20 m19 h => ?_)
    refine fO_ic 197 rfl rfl h (fun h => ?_) (fun h => ?_)
    · refine fT_ss 4 (pc' := 99) (L' := [some (.ref 52), some (.int x1), some (.int x2), some (.int x3), some (.int x4), some (.int (nI 0)), some (.int x6), some (.int x7), some (.int x8), some (.int (x9 + (nI 1))), none]) (st' := []) rfl ?_
      replace h := ob_inl h
      exact fT_mk rfl rfl h
    · refine fT_ss 5 (pc' := 99) (L' := [some (.ref 52), some (.int x1), some (.int x2), some (.int x3), some (.int x4), some (.int (nI 1)), some (.int x6), some (.int x7), some (.int x8), some (.int (x9 + (nI 1))), none]) (st' := []) rfl ?_
      replace h := ob_inl h
      exact fT_mk rfl rfl h
  · refine fT_ss 3 (pc' := 143) (L' := [some (.ref 52), some (.int x1), some (.int x2), some (.int x3), some (.int x4), none, some (.int x6), some (.int x7), some (.int x8), some (.int x9), none]) (st' := [.int x9, .int x7, .ref 52]) rfl ?_
    refine fO_qv2 Value.int (r' := ai_r126) (k := 52) (As := [.int x7, .int x9]) (rest := []) rfl rfl rfl rfl rfl rfl (by omega) (show 19 + 3 ≤ w by omega) (Nat.le_of_ble_eq_true rfl) (Nat.le_of_ble_eq_true rfl) rfl rfl (fun Qc hq => t126_0 hX (show 0 ≤ d - 1 by omega) (show 0 ≤ w - (19 + 3) by omega) _ _ _ Qc hq) h (fun v22 m21 h => ?_)
    refine fT_ss 1 (pc' := 147) (L' := [some (.ref 52), some (.int x1), some (.int x2), some (.int x3), some (.int x4), none, some (.int x6), some (.int x7), some (.int x8), some (.int x9), none]) (st' := [.int x3, .int v22]) rfl ?_
    refine fO_qs2 Value.int (r' := ai_r128) (As := [.int v22, .int x3]) (rest := []) rfl rfl rfl rfl rfl rfl (by omega) (show 19 + 2 ≤ w by omega) (Nat.le_of_ble_eq_true rfl) (Nat.le_of_ble_eq_true rfl) rfl rfl (fun Qc hq => t128_0 hX (show 0 ≤ d - 1 by omega) (show 0 ≤ w - (19 + 2) by omega) _ _ _ Qc hq) h (fun v24 m23 h => ?_)
    refine fT_ss 3 (pc' := 155) (L' := [some (.ref 52), some (.int x1), some (.int x2), some (.int x3), some (.int x4), none, some (.int x6), some (.int x7), some (.int x8), some (.int x9), none]) (st' := [.int x9, .int x8, .ref 52, .int v24]) rfl ?_
    refine fO_qv2 Value.int (r' := ai_r126) (k := 52) (As := [.int x8, .int x9]) (rest := [.int v24]) rfl rfl rfl rfl rfl rfl (by omega) (show 19 + 3 ≤ w by omega) (Nat.le_of_ble_eq_true rfl) (Nat.le_of_ble_eq_true rfl) rfl rfl (fun Qc hq => t126_0 hX (show 0 ≤ d - 1 by omega) (show 0 ≤ w - (19 + 3) by omega) _ _ _ Qc hq) h (fun v26 m25 h => ?_)
    refine fT_ss 1 (pc' := 160) (L' := [some (.ref 52), some (.int x1), some (.int x2), some (.int x3), some (.int x4), none, some (.int x6), some (.int x7), some (.int x8), some (.int x9), none]) (st' := [.int x4, .int v26, .int v24]) rfl ?_
    refine fO_qs2 Value.int (r' := ai_r128) (As := [.int v26, .int x4]) (rest := [.int v24]) rfl rfl rfl rfl rfl rfl (by omega) (show 19 + 2 ≤ w by omega) (Nat.le_of_ble_eq_true rfl) (Nat.le_of_ble_eq_true rfl) rfl rfl (fun Qc hq => t128_0 hX (show 0 ≤ d - 1 by omega) (show 0 ≤ w - (19 + 2) by omega) _ _ _ Qc hq) h (fun v28 m27 h => ?_)
    refine fO_ic 170 rfl rfl h (fun h => ?_) (fun h => ?_)
    · refine fT_ss 5 (pc' := 99) (L' := [some (.ref 52), some (.int x1), some (.int x2), some (.int x3), some (.int x4), some (.int (nI 0)), some (.int x6), some (.int x7), some (.int x8), some (.int (x9 + (nI 1))), none]) (st' := []) rfl ?_
      replace h := ob_inl h
      exact fT_mk rfl rfl h
    · refine fT_ss 5 (pc' := 99) (L' := [some (.ref 52), some (.int x1), some (.int x2), some (.int x3), some (.int x4), some (.int (nI 1)), some (.int x6), some (.int x7), some (.int x8), some (.int (x9 + (nI 1))), none]) (st' := []) rfl ?_
      replace h := ob_inl h
      exact fT_mk rfl rfl h
noncomputable def s129_99 (x1 : Int32) (x2 : Int32) (x3 : Int32) (x4 : Int32) (x5 : Int32) (x6 : Int32) (x7 : Int32) (x8 : Int32) (x9 : Int32) (m : fm) : Option ((Int32 × Int32 × fm) ⊕ ((Int32 × Int32 × fm) ⊕ (Int32 × fm))) :=
  bif ai_c .ge x9 (nI 3) then
    some (.inr (.inl (x5, (x6 + (nI 1)), m)))
  else
    bif ai_c .eq x5 0 then
      some (.inr (.inl (x5, (x6 + (nI 1)), m)))
    else
      ldI m 53 384 x7 fun v14 =>
      cl2 (g100 v14 x9 m) fun v16 m15 =>
      bif ai_c .ne v16 (nI 1) then
        g129_131 x1 x2 x3 x4 x6 x7 x8 x9 (nI 0) m15
      else
        g129_131 x1 x2 x3 x4 x6 x7 x8 x9 (nI 1) m15
set_option maxHeartbeats 4000000 in
theorem b129_99 {X : ai_X} {d w : Nat} (hX : X[1]? = some (39, ai_sh)) (hd : 3 ≤ d) (hw : 66 ≤ w) (x1 : Int32) (x2 : Int32) (x3 : Int32) (x4 : Int32) (x5 : Int32) (x6 : Int32) (x7 : Int32) (x8 : Int32) (x9 : Int32) (m : fm) (Q : Option Value → fm → Prop) (h : ob (s129_99 x1 x2 x3 x4 x5 x6 x7 x8 x9 m) (Sum.elim (fun s : Int32 × Int32 × fm => fT X d w ai_r129 99 [some (.ref 52), some (.int x1), some (.int x2), some (.int x3), some (.int x4), some (.int s.1), some (.int x6), some (.int x7), some (.int x8), some (.int s.2.1), none] [] s.2.2 Q) (Sum.elim (fun s : Int32 × Int32 × fm => fT X d w ai_r129 38 [some (.ref 52), some (.int x1), some (.int x2), some (.int x3), some (.int x4), some (.int s.1), some (.int s.2.1), none, none, none, none] [] s.2.2 Q) (fun z : Int32 × fm => Q (some (.int z.1)) z.2)))) : fT X d w ai_r129 99 [some (.ref 52), some (.int x1), some (.int x2), some (.int x3), some (.int x4), some (.int x5), some (.int x6), some (.int x7), some (.int x8), some (.int x9), none] [] m Q := by
  unfold s129_99 at h
  refine fT_ss 2 (pc' := 102) (L' := [some (.ref 52), some (.int x1), some (.int x2), some (.int x3), some (.int x4), some (.int x5), some (.int x6), some (.int x7), some (.int x8), some (.int x9), none]) (st' := [.int (nI 3), .int x9]) rfl ?_
  refine fO_ic 206 rfl rfl h (fun h => ?_) (fun h => ?_)
  · refine fT_ss 2 (pc' := 38) (L' := [some (.ref 52), some (.int x1), some (.int x2), some (.int x3), some (.int x4), some (.int x5), some (.int (x6 + (nI 1))), none, none, none, none]) (st' := []) rfl ?_
    replace h := ob_inr h
    replace h := ob_inl h
    exact fT_mk rfl rfl h
  · refine fT_ss 1 (pc' := 107) (L' := [some (.ref 52), some (.int x1), some (.int x2), some (.int x3), some (.int x4), some (.int x5), some (.int x6), some (.int x7), some (.int x8), some (.int x9), none]) (st' := [.int x5]) rfl ?_
    refine fO_if 206 rfl rfl h (fun h => ?_) (fun h => ?_)
    · refine fT_ss 2 (pc' := 38) (L' := [some (.ref 52), some (.int x1), some (.int x2), some (.int x3), some (.int x4), some (.int x5), some (.int (x6 + (nI 1))), none, none, none, none]) (st' := []) rfl ?_
      replace h := ob_inr h
      replace h := ob_inl h
      exact fT_mk rfl rfl h
    · refine fT_ss 1 (pc' := 111) (L' := [some (.ref 52), some (.int x1), some (.int x2), some (.int x3), some (.int x4), none, some (.int x6), some (.int x7), some (.int x8), some (.int x9), none]) (st' := [.ref 52]) rfl ?_
      refine fT_gr (q := 53) rfl rfl rfl ?_
      refine fT_ss 1 (pc' := 116) (L' := [some (.ref 52), some (.int x1), some (.int x2), some (.int x3), some (.int x4), none, some (.int x6), some (.int x7), some (.int x8), some (.int x9), none]) (st' := [.int x7, .ref 53]) rfl ?_
      refine fO_ia rfl rfl rfl h (fun v14 h => ?_)
      refine fT_ss 1 (pc' := 119) (L' := [some (.ref 52), some (.int x1), some (.int x2), some (.int x3), some (.int x4), none, some (.int x6), some (.int x7), some (.int x8), some (.int x9), none]) (st' := [.int x9, .int v14]) rfl ?_
      refine fO_qs2 Value.int (r' := ai_r100) (As := [.int v14, .int x9]) (rest := []) rfl rfl rfl rfl rfl rfl (by omega) (show 19 + 3 ≤ w by omega) (Nat.le_of_ble_eq_true rfl) (Nat.le_of_ble_eq_true rfl) rfl rfl (fun Qc hq => t100_0 hX (show 1 ≤ d - 1 by omega) (show 20 ≤ w - (19 + 3) by omega) _ _ _ Qc hq) h (fun v16 m15 h => ?_)
      refine fT_ss 1 (pc' := 123) (L' := [some (.ref 52), some (.int x1), some (.int x2), some (.int x3), some (.int x4), none, some (.int x6), some (.int x7), some (.int x8), some (.int x9), none]) (st' := [.int (nI 1), .int v16]) rfl ?_
      refine fO_ic 130 rfl rfl h (fun h => ?_) (fun h => ?_)
      · refine fT_ss 1 (pc' := 131) (L' := [some (.ref 52), some (.int x1), some (.int x2), some (.int x3), some (.int x4), none, some (.int x6), some (.int x7), some (.int x8), some (.int x9), none]) (st' := [.int (nI 0)]) rfl ?_
        exact fT_mk rfl rfl (t129_131 hX hd hw _ _ _ _ _ _ _ _ _ _ Q h)
      · refine fT_ss 2 (pc' := 131) (L' := [some (.ref 52), some (.int x1), some (.int x2), some (.int x3), some (.int x4), none, some (.int x6), some (.int x7), some (.int x8), some (.int x9), none]) (st' := [.int (nI 1)]) rfl ?_
        exact fT_mk rfl rfl (t129_131 hX hd hw _ _ _ _ _ _ _ _ _ _ Q h)
noncomputable def g129_99 (x1 : Int32) (x2 : Int32) (x3 : Int32) (x4 : Int32) (x5 : Int32) (x6 : Int32) (x7 : Int32) (x8 : Int32) (x9 : Int32) (m : fm) : Option ((Int32 × Int32 × fm) ⊕ (Int32 × fm)) := wl (fun s : Int32 × Int32 × fm => s129_99 x1 x2 x3 x4 s.1 x6 x7 x8 s.2.1 s.2.2) lf (x5, x9, m)
theorem t129_99 {X : ai_X} {d w : Nat} (hX : X[1]? = some (39, ai_sh)) (hd : 3 ≤ d) (hw : 66 ≤ w) (x1 : Int32) (x2 : Int32) (x3 : Int32) (x4 : Int32) (x5 : Int32) (x6 : Int32) (x7 : Int32) (x8 : Int32) (x9 : Int32) (m : fm) (Q : Option Value → fm → Prop) (h : ob (g129_99 x1 x2 x3 x4 x5 x6 x7 x8 x9 m) (Sum.elim (fun s : Int32 × Int32 × fm => fT X d w ai_r129 38 [some (.ref 52), some (.int x1), some (.int x2), some (.int x3), some (.int x4), some (.int s.1), some (.int s.2.1), none, none, none, none] [] s.2.2 Q) (fun z : Int32 × fm => Q (some (.int z.1)) z.2))) : fT X d w ai_r129 99 [some (.ref 52), some (.int x1), some (.int x2), some (.int x3), some (.int x4), some (.int x5), some (.int x6), some (.int x7), some (.int x8), some (.int x9), none] [] m Q :=
  wl_ob (P := fun s : Int32 × Int32 × fm => fT X d w ai_r129 99 [some (.ref 52), some (.int x1), some (.int x2), some (.int x3), some (.int x4), some (.int s.1), some (.int x6), some (.int x7), some (.int x8), some (.int s.2.1), none] [] s.2.2 Q) (fun s h => b129_99 hX hd hw x1 x2 x3 x4 s.1 x6 x7 x8 s.2.1 s.2.2 Q h) lf (x5, x9, m) h
noncomputable def s129_38 (x1 : Int32) (x2 : Int32) (x3 : Int32) (x4 : Int32) (x5 : Int32) (x6 : Int32) (m : fm) : Option ((Int32 × Int32 × fm) ⊕ (Int32 × fm)) :=
  ldI m 57 16 x1 fun v7 =>
  bif ai_c .ge x6 v7 then
    rtB x5 (some (.inr (x5, m)))
  else
    bif ai_c .eq x5 0 then
      rtB x5 (some (.inr (x5, m)))
    else
      cl2 (g98 (nI 0) x1 x6 m) fun v9 m8 =>
      cl2 (g98 (nI 0) x2 x6 m8) fun v11 m10 =>
      ldI m10 53 384 v9 fun v12 =>
      ldI m10 53 384 v11 fun v13 =>
      bif ai_c .ne v12 v13 then
        g129_99 x1 x2 x3 x4 (nI 0) x6 v9 v11 (nI 0) m10
      else
        g129_99 x1 x2 x3 x4 (nI 1) x6 v9 v11 (nI 0) m10
set_option maxHeartbeats 4000000 in
theorem b129_38 {X : ai_X} {d w : Nat} (hX : X[1]? = some (39, ai_sh)) (hd : 3 ≤ d) (hw : 66 ≤ w) (x1 : Int32) (x2 : Int32) (x3 : Int32) (x4 : Int32) (x5 : Int32) (x6 : Int32) (m : fm) (Q : Option Value → fm → Prop) (h : ob (s129_38 x1 x2 x3 x4 x5 x6 m) (Sum.elim (fun s : Int32 × Int32 × fm => fT X d w ai_r129 38 [some (.ref 52), some (.int x1), some (.int x2), some (.int x3), some (.int x4), some (.int s.1), some (.int s.2.1), none, none, none, none] [] s.2.2 Q) (fun z : Int32 × fm => Q (some (.int z.1)) z.2))) : fT X d w ai_r129 38 [some (.ref 52), some (.int x1), some (.int x2), some (.int x3), some (.int x4), some (.int x5), some (.int x6), none, none, none, none] [] m Q := by
  unfold s129_38 at h
  refine fT_ss 2 (pc' := 41) (L' := [some (.ref 52), some (.int x1), some (.int x2), some (.int x3), some (.int x4), some (.int x5), some (.int x6), none, none, none, none]) (st' := [.ref 52, .int x6]) rfl ?_
  refine fT_gr (q := 57) rfl rfl rfl ?_
  refine fT_ss 1 (pc' := 45) (L' := [some (.ref 52), some (.int x1), some (.int x2), some (.int x3), some (.int x4), some (.int x5), some (.int x6), none, none, none, none]) (st' := [.int x1, .ref 57, .int x6]) rfl ?_
  refine fO_ia rfl rfl rfl h (fun v7 h => ?_)
  refine fO_ic 212 rfl rfl h (fun h => ?_) (fun h => ?_)
  · refine fT_ss 1 (pc' := 214) (L' := [none, none, none, none, none, some (.int x5), none, none, none, none, none]) (st' := [.int x5]) rfl ?_
    exact fO_rb rfl rfl h (fun h => h)
  · refine fT_ss 1 (pc' := 51) (L' := [some (.ref 52), some (.int x1), some (.int x2), some (.int x3), some (.int x4), some (.int x5), some (.int x6), none, none, none, none]) (st' := [.int x5]) rfl ?_
    refine fO_if 212 rfl rfl h (fun h => ?_) (fun h => ?_)
    · refine fT_ss 1 (pc' := 214) (L' := [none, none, none, none, none, some (.int x5), none, none, none, none, none]) (st' := [.int x5]) rfl ?_
      exact fO_rb rfl rfl h (fun h => h)
    · refine fT_ss 3 (pc' := 58) (L' := [some (.ref 52), some (.int x1), some (.int x2), some (.int x3), some (.int x4), none, some (.int x6), none, none, none, none]) (st' := [.int x6, .int x1, .int (nI 0)]) rfl ?_
      refine fO_qs2 Value.int (r' := ai_r98) (As := [.int (nI 0), .int x1, .int x6]) (rest := []) rfl rfl rfl rfl rfl rfl (by omega) (show 19 + 3 ≤ w by omega) (Nat.le_of_ble_eq_true rfl) (Nat.le_of_ble_eq_true rfl) rfl rfl (fun Qc hq => t98_0 hX (show 0 ≤ d - 1 by omega) (show 0 ≤ w - (19 + 3) by omega) _ _ _ _ Qc hq) h (fun v9 m8 h => ?_)
      refine fT_ss 4 (pc' := 67) (L' := [some (.ref 52), some (.int x1), some (.int x2), some (.int x3), some (.int x4), none, some (.int x6), some (.int v9), none, none, none]) (st' := [.int x6, .int x2, .int (nI 0)]) rfl ?_
      refine fO_qs2 Value.int (r' := ai_r98) (As := [.int (nI 0), .int x2, .int x6]) (rest := []) rfl rfl rfl rfl rfl rfl (by omega) (show 19 + 3 ≤ w by omega) (Nat.le_of_ble_eq_true rfl) (Nat.le_of_ble_eq_true rfl) rfl rfl (fun Qc hq => t98_0 hX (show 0 ≤ d - 1 by omega) (show 0 ≤ w - (19 + 3) by omega) _ _ _ _ Qc hq) h (fun v11 m10 h => ?_)
      refine fT_ss 2 (pc' := 73) (L' := [some (.ref 52), some (.int x1), some (.int x2), some (.int x3), some (.int x4), none, some (.int x6), some (.int v9), some (.int v11), none, none]) (st' := [.ref 52]) rfl ?_
      refine fT_gr (q := 53) rfl rfl rfl ?_
      refine fT_ss 1 (pc' := 78) (L' := [some (.ref 52), some (.int x1), some (.int x2), some (.int x3), some (.int x4), none, some (.int x6), some (.int v9), some (.int v11), none, none]) (st' := [.int v9, .ref 53]) rfl ?_
      refine fO_ia rfl rfl rfl h (fun v12 h => ?_)
      refine fT_ss 1 (pc' := 80) (L' := [some (.ref 52), some (.int x1), some (.int x2), some (.int x3), some (.int x4), none, some (.int x6), some (.int v9), some (.int v11), none, none]) (st' := [.ref 52, .int v12]) rfl ?_
      refine fT_gr (q := 53) rfl rfl rfl ?_
      refine fT_ss 1 (pc' := 85) (L' := [some (.ref 52), some (.int x1), some (.int x2), some (.int x3), some (.int x4), none, some (.int x6), some (.int v9), some (.int v11), none, none]) (st' := [.int v11, .ref 53, .int v12]) rfl ?_
      refine fO_ia rfl rfl rfl h (fun v13 h => ?_)
      refine fO_ic 93 rfl rfl h (fun h => ?_) (fun h => ?_)
      · refine fT_ss 4 (pc' := 99) (L' := [some (.ref 52), some (.int x1), some (.int x2), some (.int x3), some (.int x4), some (.int (nI 0)), some (.int x6), some (.int v9), some (.int v11), some (.int (nI 0)), none]) (st' := []) rfl ?_
        exact fT_mk rfl rfl (t129_99 hX hd hw _ _ _ _ _ _ _ _ _ _ Q h)
      · refine fT_ss 5 (pc' := 99) (L' := [some (.ref 52), some (.int x1), some (.int x2), some (.int x3), some (.int x4), some (.int (nI 1)), some (.int x6), some (.int v9), some (.int v11), some (.int (nI 0)), none]) (st' := []) rfl ?_
        exact fT_mk rfl rfl (t129_99 hX hd hw _ _ _ _ _ _ _ _ _ _ Q h)
noncomputable def g129_38 (x1 : Int32) (x2 : Int32) (x3 : Int32) (x4 : Int32) (x5 : Int32) (x6 : Int32) (m : fm) : Option (Int32 × fm) := wl (fun s : Int32 × Int32 × fm => s129_38 x1 x2 x3 x4 s.1 s.2.1 s.2.2) lf (x5, x6, m)
theorem t129_38 {X : ai_X} {d w : Nat} (hX : X[1]? = some (39, ai_sh)) (hd : 3 ≤ d) (hw : 66 ≤ w) (x1 : Int32) (x2 : Int32) (x3 : Int32) (x4 : Int32) (x5 : Int32) (x6 : Int32) (m : fm) (Q : Option Value → fm → Prop) (h : ob (g129_38 x1 x2 x3 x4 x5 x6 m) (fun z : Int32 × fm => Q (some (.int z.1)) z.2)) : fT X d w ai_r129 38 [some (.ref 52), some (.int x1), some (.int x2), some (.int x3), some (.int x4), some (.int x5), some (.int x6), none, none, none, none] [] m Q :=
  wl_ob (P := fun s : Int32 × Int32 × fm => fT X d w ai_r129 38 [some (.ref 52), some (.int x1), some (.int x2), some (.int x3), some (.int x4), some (.int s.1), some (.int s.2.1), none, none, none, none] [] s.2.2 Q) (fun s h => b129_38 hX hd hw x1 x2 x3 x4 s.1 s.2.1 s.2.2 Q h) lf (x5, x6, m) h
noncomputable def g129 (x1 : Int32) (x2 : Int32) (m : fm) : Option (Int32 × fm) :=
  cl2 (g127 x1 m) fun v2 m1 =>
  cl2 (g127 x2 m1) fun v4 m3 =>
  ldI m3 57 16 x1 fun v5 =>
  ldI m3 57 16 x2 fun v6 =>
  bif ai_c .ne v5 v6 then
    g129_38 x1 x2 v2 v4 (nI 0) (nI 0) m3
  else
    g129_38 x1 x2 v2 v4 (nI 1) (nI 0) m3
set_option maxHeartbeats 4000000 in
theorem t129_0 {X : ai_X} {d w : Nat} (hX : X[1]? = some (39, ai_sh)) (hd : 3 ≤ d) (hw : 66 ≤ w) (x1 : Int32) (x2 : Int32) (m : fm) (Q : Option Value → fm → Prop) (h : ob (g129 x1 x2 m) (fun z : Int32 × fm => Q (some (.int z.1)) z.2)) : fT X d w ai_r129 0 [some (.ref 52), some (.int x1), some (.int x2), none, none, none, none, none, none, none, none] [] m Q := by
  unfold g129 at h
  refine fT_ss 2 (pc' := 2) (L' := [some (.ref 52), some (.int x1), some (.int x2), none, none, none, none, none, none, none, none]) (st' := [.int x1, .ref 52]) rfl ?_
  refine fO_qv2 Value.int (r' := ai_r127) (k := 52) (As := [.int x1]) (rest := []) rfl rfl rfl rfl rfl rfl (by omega) (show 19 + 5 ≤ w by omega) (Nat.le_of_ble_eq_true rfl) (Nat.le_of_ble_eq_true rfl) rfl rfl (fun Qc hq => t127_0 hX (show 2 ≤ d - 1 by omega) (show 42 ≤ w - (19 + 5) by omega) _ _ Qc hq) h (fun v2 m1 h => ?_)
  refine fT_ss 3 (pc' := 8) (L' := [some (.ref 52), some (.int x1), some (.int x2), some (.int v2), none, none, none, none, none, none, none]) (st' := [.int x2, .ref 52]) rfl ?_
  refine fO_qv2 Value.int (r' := ai_r127) (k := 52) (As := [.int x2]) (rest := []) rfl rfl rfl rfl rfl rfl (by omega) (show 19 + 5 ≤ w by omega) (Nat.le_of_ble_eq_true rfl) (Nat.le_of_ble_eq_true rfl) rfl rfl (fun Qc hq => t127_0 hX (show 2 ≤ d - 1 by omega) (show 42 ≤ w - (19 + 5) by omega) _ _ Qc hq) h (fun v4 m3 h => ?_)
  refine fT_ss 2 (pc' := 14) (L' := [some (.ref 52), some (.int x1), some (.int x2), some (.int v2), some (.int v4), none, none, none, none, none, none]) (st' := [.ref 52]) rfl ?_
  refine fT_gr (q := 57) rfl rfl rfl ?_
  refine fT_ss 1 (pc' := 18) (L' := [some (.ref 52), some (.int x1), some (.int x2), some (.int v2), some (.int v4), none, none, none, none, none, none]) (st' := [.int x1, .ref 57]) rfl ?_
  refine fO_ia rfl rfl rfl h (fun v5 h => ?_)
  refine fT_ss 1 (pc' := 20) (L' := [some (.ref 52), some (.int x1), some (.int x2), some (.int v2), some (.int v4), none, none, none, none, none, none]) (st' := [.ref 52, .int v5]) rfl ?_
  refine fT_gr (q := 57) rfl rfl rfl ?_
  refine fT_ss 1 (pc' := 24) (L' := [some (.ref 52), some (.int x1), some (.int x2), some (.int v2), some (.int v4), none, none, none, none, none, none]) (st' := [.int x2, .ref 57, .int v5]) rfl ?_
  refine fO_ia rfl rfl rfl h (fun v6 h => ?_)
  refine fO_ic 32 rfl rfl h (fun h => ?_) (fun h => ?_)
  · refine fT_ss 4 (pc' := 38) (L' := [some (.ref 52), some (.int x1), some (.int x2), some (.int v2), some (.int v4), some (.int (nI 0)), some (.int (nI 0)), none, none, none, none]) (st' := []) rfl ?_
    exact fT_mk rfl rfl (t129_38 hX hd hw _ _ _ _ _ _ _ Q h)
  · refine fT_ss 5 (pc' := 38) (L' := [some (.ref 52), some (.int x1), some (.int x2), some (.int v2), some (.int v4), some (.int (nI 1)), some (.int (nI 0)), none, none, none, none]) (st' := []) rfl ?_
    exact fT_mk rfl rfl (t129_38 hX hd hw _ _ _ _ _ _ _ Q h)
noncomputable def s130_12 (x1 : Int32) (x2 : Int32) (m : fm) : Option ((Int32 × fm) ⊕ (Int32 × fm)) :=
  cl2 (g129 x1 x2 m) fun v4 m3 =>
  bif ai_c .ne v4 0 then
    some (.inr (x2, m3))
  else
    some (.inl ((x2 + (nI 1)), m3))
set_option maxHeartbeats 4000000 in
theorem b130_12 {X : ai_X} {d w : Nat} (hX : X[1]? = some (39, ai_sh)) (hd : 4 ≤ d) (hw : 96 ≤ w) (x1 : Int32) (x2 : Int32) (m : fm) (Q : Option Value → fm → Prop) (h : ob (s130_12 x1 x2 m) (Sum.elim (fun s : Int32 × fm => fT X d w ai_r130 12 [some (.ref 52), some (.int x1), some (.int s.1)] [] s.2 Q) (fun z : Int32 × fm => Q (some (.int z.1)) z.2))) : fT X d w ai_r130 12 [some (.ref 52), some (.int x1), some (.int x2)] [] m Q := by
  unfold s130_12 at h
  refine fT_ss 3 (pc' := 15) (L' := [some (.ref 52), some (.int x1), some (.int x2)]) (st' := [.int x2, .int x1, .ref 52]) rfl ?_
  refine fO_qv2 Value.int (r' := ai_r129) (k := 52) (As := [.int x1, .int x2]) (rest := []) rfl rfl rfl rfl rfl rfl (by omega) (show 19 + 11 ≤ w by omega) (Nat.le_of_ble_eq_true rfl) (Nat.le_of_ble_eq_true rfl) rfl rfl (fun Qc hq => t129_0 hX (show 3 ≤ d - 1 by omega) (show 66 ≤ w - (19 + 11) by omega) _ _ _ Qc hq) h (fun v4 m3 h => ?_)
  refine fO_if 27 rfl rfl h (fun h => ?_) (fun h => ?_)
  · refine fT_ss 1 (pc' := 28) (L' := [none, none, some (.int x2)]) (st' := [.int x2]) rfl ?_
    exact fT_r rfl rfl h
  · refine fT_ss 2 (pc' := 12) (L' := [some (.ref 52), some (.int x1), some (.int (x2 + (nI 1)))]) (st' := []) rfl ?_
    replace h := ob_inl h
    exact fT_mk rfl rfl h
noncomputable def g130_12 (x1 : Int32) (x2 : Int32) (m : fm) : Option (Int32 × fm) := wl (fun s : Int32 × fm => s130_12 x1 s.1 s.2) lf (x2, m)
theorem t130_12 {X : ai_X} {d w : Nat} (hX : X[1]? = some (39, ai_sh)) (hd : 4 ≤ d) (hw : 96 ≤ w) (x1 : Int32) (x2 : Int32) (m : fm) (Q : Option Value → fm → Prop) (h : ob (g130_12 x1 x2 m) (fun z : Int32 × fm => Q (some (.int z.1)) z.2)) : fT X d w ai_r130 12 [some (.ref 52), some (.int x1), some (.int x2)] [] m Q :=
  wl_ob (P := fun s : Int32 × fm => fT X d w ai_r130 12 [some (.ref 52), some (.int x1), some (.int s.1)] [] s.2 Q) (fun s h => b130_12 hX hd hw x1 s.1 s.2 Q h) lf (x2, m) h
noncomputable def g130 (x1 : Int32) (m : fm) : Option (Int32 × fm) :=
  cl2 (g96 x1 m) fun v2 m1 =>
  bif ai_c .ne v2 0 then
    g130_12 x1 (nI 0) m1
  else
    some ((-101), m1)
set_option maxHeartbeats 4000000 in
theorem t130_0 {X : ai_X} {d w : Nat} (hX : X[1]? = some (39, ai_sh)) (hd : 4 ≤ d) (hw : 96 ≤ w) (x1 : Int32) (m : fm) (Q : Option Value → fm → Prop) (h : ob (g130 x1 m) (fun z : Int32 × fm => Q (some (.int z.1)) z.2)) : fT X d w ai_r130 0 [some (.ref 52), some (.int x1), none] [] m Q := by
  unfold g130 at h
  refine fT_ss 1 (pc' := 1) (L' := [some (.ref 52), some (.int x1), none]) (st' := [.int x1]) rfl ?_
  refine fO_qs2 Value.int (r' := ai_r96) (As := [.int x1]) (rest := []) rfl rfl rfl rfl rfl rfl (by omega) (show 19 + 1 ≤ w by omega) (Nat.le_of_ble_eq_true rfl) (Nat.le_of_ble_eq_true rfl) rfl rfl (fun Qc hq => t96_0 hX (show 1 ≤ d - 1 by omega) (show 22 ≤ w - (19 + 1) by omega) _ _ Qc hq) h (fun v2 m1 h => ?_)
  refine fO_if 10 rfl rfl h (fun h => ?_) (fun h => ?_)
  · refine fT_ss 2 (pc' := 12) (L' := [some (.ref 52), some (.int x1), some (.int (nI 0))]) (st' := []) rfl ?_
    exact fT_mk rfl rfl (t130_12 hX hd hw _ _ _ Q h)
  · refine fT_ss 1 (pc' := 9) (L' := [none, none, none]) (st' := [.int (-101)]) rfl ?_
    exact fT_r rfl rfl h
noncomputable def s131_4 (x1 : Int32) (x2 : Int32) (x3 : Int32) (m : fm) : Option ((Int32 × Int32 × fm) ⊕ (Int32 × fm)) :=
  bif ai_c .ge x3 x1 then
    some (.inr (x2, m))
  else
    gfI m 52 7 fun v1 =>
    bif ai_c .ge x3 v1 then
      some (.inr (x2, m))
    else
      ldI m 64 25 x3 fun v2 =>
      bif ai_c .eq v2 0 then
        some (.inl ((x2 + (nI 0)), (x3 + (nI 1)), m))
      else
        some (.inl ((x2 + (nI 1)), (x3 + (nI 1)), m))
set_option maxHeartbeats 4000000 in
theorem b131_4 {X : ai_X} {d w : Nat} (hX : X[1]? = some (39, ai_sh)) (hd : 0 ≤ d) (hw : 0 ≤ w) (x1 : Int32) (x2 : Int32) (x3 : Int32) (m : fm) (Q : Option Value → fm → Prop) (h : ob (s131_4 x1 x2 x3 m) (Sum.elim (fun s : Int32 × Int32 × fm => fT X d w ai_r131 4 [some (.ref 52), some (.int x1), some (.int s.1), some (.int s.2.1)] [] s.2.2 Q) (fun z : Int32 × fm => Q (some (.int z.1)) z.2))) : fT X d w ai_r131 4 [some (.ref 52), some (.int x1), some (.int x2), some (.int x3)] [] m Q := by
  unfold s131_4 at h
  refine fT_ss 2 (pc' := 6) (L' := [some (.ref 52), some (.int x1), some (.int x2), some (.int x3)]) (st' := [.int x1, .int x3]) rfl ?_
  refine fO_ic 40 rfl rfl h (fun h => ?_) (fun h => ?_)
  · refine fT_ss 1 (pc' := 41) (L' := [none, none, some (.int x2), none]) (st' := [.int x2]) rfl ?_
    exact fT_r rfl rfl h
  · refine fT_ss 2 (pc' := 11) (L' := [some (.ref 52), some (.int x1), some (.int x2), some (.int x3)]) (st' := [.ref 52, .int x3]) rfl ?_
    refine fO_gi rfl rfl rfl h (fun v1 h => ?_)
    refine fO_ic 40 rfl rfl h (fun h => ?_) (fun h => ?_)
    · refine fT_ss 1 (pc' := 41) (L' := [none, none, some (.int x2), none]) (st' := [.int x2]) rfl ?_
      exact fT_r rfl rfl h
    · refine fT_ss 2 (pc' := 19) (L' := [some (.ref 52), some (.int x1), some (.int x2), some (.int x3)]) (st' := [.ref 52, .int x2]) rfl ?_
      refine fT_gr (q := 64) rfl rfl rfl ?_
      refine fT_ss 1 (pc' := 23) (L' := [some (.ref 52), some (.int x1), some (.int x2), some (.int x3)]) (st' := [.int x3, .ref 64, .int x2]) rfl ?_
      refine fO_ba rfl rfl h (fun v2 h => ?_)
      refine fO_if 31 rfl rfl h (fun h => ?_) (fun h => ?_)
      · refine fT_ss 5 (pc' := 4) (L' := [some (.ref 52), some (.int x1), some (.int (x2 + (nI 0))), some (.int (x3 + (nI 1)))]) (st' := []) rfl ?_
        replace h := ob_inl h
        exact fT_mk rfl rfl h
      · refine fT_ss 6 (pc' := 4) (L' := [some (.ref 52), some (.int x1), some (.int (x2 + (nI 1))), some (.int (x3 + (nI 1)))]) (st' := []) rfl ?_
        replace h := ob_inl h
        exact fT_mk rfl rfl h
noncomputable def g131_4 (x1 : Int32) (x2 : Int32) (x3 : Int32) (m : fm) : Option (Int32 × fm) := wl (fun s : Int32 × Int32 × fm => s131_4 x1 s.1 s.2.1 s.2.2) lf (x2, x3, m)
theorem t131_4 {X : ai_X} {d w : Nat} (hX : X[1]? = some (39, ai_sh)) (hd : 0 ≤ d) (hw : 0 ≤ w) (x1 : Int32) (x2 : Int32) (x3 : Int32) (m : fm) (Q : Option Value → fm → Prop) (h : ob (g131_4 x1 x2 x3 m) (fun z : Int32 × fm => Q (some (.int z.1)) z.2)) : fT X d w ai_r131 4 [some (.ref 52), some (.int x1), some (.int x2), some (.int x3)] [] m Q :=
  wl_ob (P := fun s : Int32 × Int32 × fm => fT X d w ai_r131 4 [some (.ref 52), some (.int x1), some (.int s.1), some (.int s.2.1)] [] s.2.2 Q) (fun s h => b131_4 hX hd hw x1 s.1 s.2.1 s.2.2 Q h) lf (x2, x3, m) h
noncomputable def g131 (x1 : Int32) (m : fm) : Option (Int32 × fm) :=
  g131_4 x1 (nI 0) (nI 0) m
set_option maxHeartbeats 4000000 in
theorem t131_0 {X : ai_X} {d w : Nat} (hX : X[1]? = some (39, ai_sh)) (hd : 0 ≤ d) (hw : 0 ≤ w) (x1 : Int32) (m : fm) (Q : Option Value → fm → Prop) (h : ob (g131 x1 m) (fun z : Int32 × fm => Q (some (.int z.1)) z.2)) : fT X d w ai_r131 0 [some (.ref 52), some (.int x1), none, none] [] m Q := by
  unfold g131 at h
  refine fT_ss 4 (pc' := 4) (L' := [some (.ref 52), some (.int x1), some (.int (nI 0)), some (.int (nI 0))]) (st' := []) rfl ?_
  exact fT_mk rfl rfl (t131_4 hX hd hw _ _ _ _ Q h)
noncomputable def g132_330 (x1 : Int32) (x2 : Int32) (x3 : Int32) (m : fm) : Option (Int32 × fm) :=
  bif ai_c .eq x2 0 then
    gfI m 52 7 fun v4 =>
    stI m 57 16 ((nI 8) + x1) v4 fun m5 =>
    rtB x2 (some (x2, m5))
  else
    stI m 57 16 ((nI 8) + x1) x3 fun m6 =>
    rtB x2 (some (x2, m6))
set_option maxHeartbeats 4000000 in
theorem t132_330 {X : ai_X} {d w : Nat} (hX : X[1]? = some (39, ai_sh)) (hd : 5 ≤ d) (hw : 121 ≤ w) (x1 : Int32) (x2 : Int32) (x3 : Int32) (m : fm) (Q : Option Value → fm → Prop) (h : ob (g132_330 x1 x2 x3 m) (fun z : Int32 × fm => Q (some (.int z.1)) z.2)) : fT X d w ai_r132 330 [some (.ref 52), some (.int x1), some (.int x2), some (.int x3), none, none, none, none] [] m Q := by
  unfold g132_330 at h
  refine fT_ss 1 (pc' := 331) (L' := [some (.ref 52), some (.int x1), some (.int x2), some (.int x3), none, none, none, none]) (st' := [.ref 52]) rfl ?_
  refine fT_gr (q := 57) rfl rfl rfl ?_
  refine fT_ss 4 (pc' := 339) (L' := [some (.ref 52), some (.int x1), some (.int x2), some (.int x3), none, none, none, none]) (st' := [.int x2, .int ((nI 8) + x1), .ref 57]) rfl ?_
  refine fO_if 346 rfl rfl h (fun h => ?_) (fun h => ?_)
  · refine fT_ss 1 (pc' := 347) (L' := [some (.ref 52), none, some (.int x2), none, none, none, none, none]) (st' := [.ref 52, .int ((nI 8) + x1), .ref 57]) rfl ?_
    refine fO_gi rfl rfl rfl h (fun v4 h => ?_)
    refine fO_is rfl rfl h (fun m5 h => ?_)
    refine fT_ss 1 (pc' := 352) (L' := [none, none, some (.int x2), none, none, none, none, none]) (st' := [.int x2]) rfl ?_
    exact fO_rb rfl rfl h (fun h => h)
  · refine fT_ss 2 (pc' := 350) (L' := [none, none, some (.int x2), some (.int x3), none, none, none, none]) (st' := [.int x3, .int ((nI 8) + x1), .ref 57]) rfl ?_
    refine fO_is rfl rfl h (fun m6 h => ?_)
    refine fT_ss 1 (pc' := 352) (L' := [none, none, some (.int x2), none, none, none, none, none]) (st' := [.int x2]) rfl ?_
    exact fO_rb rfl rfl h (fun h => h)
noncomputable def g132_268 (x1 : Int32) (x2 : Int32) (x3 : Int32) (x4 : Int32) (x5 : Int32) (x6 : Int32) (y0 : Int32) (y1 : Int32) (m : fm) : Option ((Int32 × Int32 × fm) ⊕ (Int32 × fm)) :=
  stI m 55 384 y1 y0 fun m20 =>
  gfI m20 52 8 fun v21 =>
  ldI m20 65 25 x4 fun v22 =>
  bif ai_c .eq v22 0 then
    bif ai_c .ne x6 (nI 5) then
      ldI m20 56 384 x5 fun v23 =>
      stI m20 56 384 (v21 + x3) v23 fun m24 =>
      some (.inl ((x3 + (nI 1)), (x4 + (nI 1)), m24))
    else
      ldI m20 56 384 x5 fun v25 =>
      cl2 (g131 v25 m20) fun v27 m26 =>
      stI m26 56 384 (v21 + x3) v27 fun m28 =>
      some (.inl ((x3 + (nI 1)), (x4 + (nI 1)), m28))
  else
    stI m20 56 384 (v21 + x3) (nI 0) fun m29 =>
    some (.inl ((x3 + (nI 1)), (x4 + (nI 1)), m29))
set_option maxHeartbeats 4000000 in
theorem t132_268 {X : ai_X} {d w : Nat} (hX : X[1]? = some (39, ai_sh)) (hd : 5 ≤ d) (hw : 121 ≤ w) (x1 : Int32) (x2 : Int32) (x3 : Int32) (x4 : Int32) (x5 : Int32) (x6 : Int32) (y0 : Int32) (y1 : Int32) (m : fm) (Q : Option Value → fm → Prop) (h : ob (g132_268 x1 x2 x3 x4 x5 x6 y0 y1 m) (Sum.elim (fun s : Int32 × Int32 × fm => fT X d w ai_r132 110 [some (.ref 52), some (.int x1), some (.int x2), some (.int s.1), some (.int s.2.1), none, none, none] [] s.2.2 Q) (fun z : Int32 × fm => Q (some (.int z.1)) z.2))) : fT X d w ai_r132 268 [some (.ref 52), some (.int x1), some (.int x2), some (.int x3), some (.int x4), some (.int x5), some (.int x6), none] [.int y0, .int y1, .ref 55] m Q := by
  unfold g132_268 at h
  refine fO_is rfl rfl h (fun m20 h => ?_)
  refine fT_ss 1 (pc' := 270) (L' := [some (.ref 52), some (.int x1), some (.int x2), some (.int x3), some (.int x4), some (.int x5), some (.int x6), none]) (st' := [.ref 52]) rfl ?_
  refine fT_gr (q := 56) rfl rfl rfl ?_
  refine fT_ss 1 (pc' := 274) (L' := [some (.ref 52), some (.int x1), some (.int x2), some (.int x3), some (.int x4), some (.int x5), some (.int x6), none]) (st' := [.ref 52, .ref 56]) rfl ?_
  refine fO_gi rfl rfl rfl h (fun v21 h => ?_)
  refine fT_ss 3 (pc' := 280) (L' := [some (.ref 52), some (.int x1), some (.int x2), some (.int x3), some (.int x4), some (.int x5), some (.int x6), none]) (st' := [.ref 52, .int (v21 + x3), .ref 56]) rfl ?_
  refine fT_gr (q := 65) rfl rfl rfl ?_
  refine fT_ss 1 (pc' := 285) (L' := [some (.ref 52), some (.int x1), some (.int x2), some (.int x3), some (.int x4), some (.int x5), some (.int x6), none]) (st' := [.int x4, .ref 65, .int (v21 + x3), .ref 56]) rfl ?_
  refine fO_ba rfl rfl h (fun v22 h => ?_)
  refine fO_if 293 rfl rfl h (fun h => ?_) (fun h => ?_)
  · refine fT_ss 2 (pc' := 296) (L' := [some (.ref 52), some (.int x1), some (.int x2), some (.int x3), some (.int x4), some (.int x5), some (.int x6), none]) (st' := [.int (nI 5), .int x6, .int (v21 + x3), .ref 56]) rfl ?_
    refine fO_ic 313 rfl rfl h (fun h => ?_) (fun h => ?_)
    · refine fT_ss 1 (pc' := 314) (L' := [some (.ref 52), some (.int x1), some (.int x2), some (.int x3), some (.int x4), some (.int x5), none, none]) (st' := [.ref 52, .int (v21 + x3), .ref 56]) rfl ?_
      refine fT_gr (q := 56) rfl rfl rfl ?_
      refine fT_ss 1 (pc' := 319) (L' := [some (.ref 52), some (.int x1), some (.int x2), some (.int x3), some (.int x4), some (.int x5), none, none]) (st' := [.int x5, .ref 56, .int (v21 + x3), .ref 56]) rfl ?_
      refine fO_ia rfl rfl rfl h (fun v23 h => ?_)
      refine fO_is rfl rfl h (fun m24 h => ?_)
      refine fT_ss 3 (pc' := 110) (L' := [some (.ref 52), some (.int x1), some (.int x2), some (.int (x3 + (nI 1))), some (.int (x4 + (nI 1))), none, none, none]) (st' := []) rfl ?_
      replace h := ob_inl h
      exact fT_mk rfl rfl h
    · refine fT_ss 2 (pc' := 301) (L' := [some (.ref 52), some (.int x1), some (.int x2), some (.int x3), some (.int x4), some (.int x5), none, none]) (st' := [.ref 52, .ref 52, .int (v21 + x3), .ref 56]) rfl ?_
      refine fT_gr (q := 56) rfl rfl rfl ?_
      refine fT_ss 1 (pc' := 306) (L' := [some (.ref 52), some (.int x1), some (.int x2), some (.int x3), some (.int x4), some (.int x5), none, none]) (st' := [.int x5, .ref 56, .ref 52, .int (v21 + x3), .ref 56]) rfl ?_
      refine fO_ia rfl rfl rfl h (fun v25 h => ?_)
      refine fO_qv2 Value.int (r' := ai_r131) (k := 52) (As := [.int v25]) (rest := [.int (v21 + x3), .ref 56]) rfl rfl rfl rfl rfl rfl (by omega) (show 19 + 4 ≤ w by omega) (Nat.le_of_ble_eq_true rfl) (Nat.le_of_ble_eq_true rfl) rfl rfl (fun Qc hq => t131_0 hX (show 0 ≤ d - 1 by omega) (show 0 ≤ w - (19 + 4) by omega) _ _ Qc hq) h (fun v27 m26 h => ?_)
      refine fT_ss 1 (pc' := 320) (L' := [some (.ref 52), some (.int x1), some (.int x2), some (.int x3), some (.int x4), some (.int x5), none, none]) (st' := [.int v27, .int (v21 + x3), .ref 56]) rfl ?_
      refine fO_is rfl rfl h (fun m28 h => ?_)
      refine fT_ss 3 (pc' := 110) (L' := [some (.ref 52), some (.int x1), some (.int x2), some (.int (x3 + (nI 1))), some (.int (x4 + (nI 1))), none, none, none]) (st' := []) rfl ?_
      replace h := ob_inl h
      exact fT_mk rfl rfl h
  · refine fT_ss 2 (pc' := 320) (L' := [some (.ref 52), some (.int x1), some (.int x2), some (.int x3), some (.int x4), none, none, none]) (st' := [.int (nI 0), .int (v21 + x3), .ref 56]) rfl ?_
    refine fO_is rfl rfl h (fun m29 h => ?_)
    refine fT_ss 3 (pc' := 110) (L' := [some (.ref 52), some (.int x1), some (.int x2), some (.int (x3 + (nI 1))), some (.int (x4 + (nI 1))), none, none, none]) (st' := []) rfl ?_
    replace h := ob_inl h
    exact fT_mk rfl rfl h
noncomputable def g132_236 (x1 : Int32) (x2 : Int32) (x3 : Int32) (x4 : Int32) (x5 : Int32) (x6 : Int32) (y0 : Int32) (y1 : Int32) (m : fm) : Option ((Int32 × Int32 × fm) ⊕ (Int32 × fm)) :=
  stI m 54 384 y1 y0 fun m16 =>
  gfI m16 52 8 fun v17 =>
  ldI m16 65 25 x4 fun v18 =>
  bif ai_c .eq v18 0 then
    ldI m16 55 384 x5 fun v19 =>
    g132_268 x1 x2 x3 x4 x5 x6 v19 (v17 + x3) m16
  else
    g132_268 x1 x2 x3 x4 x5 x6 (nI 0) (v17 + x3) m16
set_option maxHeartbeats 4000000 in
theorem t132_236 {X : ai_X} {d w : Nat} (hX : X[1]? = some (39, ai_sh)) (hd : 5 ≤ d) (hw : 121 ≤ w) (x1 : Int32) (x2 : Int32) (x3 : Int32) (x4 : Int32) (x5 : Int32) (x6 : Int32) (y0 : Int32) (y1 : Int32) (m : fm) (Q : Option Value → fm → Prop) (h : ob (g132_236 x1 x2 x3 x4 x5 x6 y0 y1 m) (Sum.elim (fun s : Int32 × Int32 × fm => fT X d w ai_r132 110 [some (.ref 52), some (.int x1), some (.int x2), some (.int s.1), some (.int s.2.1), none, none, none] [] s.2.2 Q) (fun z : Int32 × fm => Q (some (.int z.1)) z.2))) : fT X d w ai_r132 236 [some (.ref 52), some (.int x1), some (.int x2), some (.int x3), some (.int x4), some (.int x5), some (.int x6), none] [.int y0, .int y1, .ref 54] m Q := by
  unfold g132_236 at h
  refine fO_is rfl rfl h (fun m16 h => ?_)
  refine fT_ss 1 (pc' := 238) (L' := [some (.ref 52), some (.int x1), some (.int x2), some (.int x3), some (.int x4), some (.int x5), some (.int x6), none]) (st' := [.ref 52]) rfl ?_
  refine fT_gr (q := 55) rfl rfl rfl ?_
  refine fT_ss 1 (pc' := 242) (L' := [some (.ref 52), some (.int x1), some (.int x2), some (.int x3), some (.int x4), some (.int x5), some (.int x6), none]) (st' := [.ref 52, .ref 55]) rfl ?_
  refine fO_gi rfl rfl rfl h (fun v17 h => ?_)
  refine fT_ss 3 (pc' := 248) (L' := [some (.ref 52), some (.int x1), some (.int x2), some (.int x3), some (.int x4), some (.int x5), some (.int x6), none]) (st' := [.ref 52, .int (v17 + x3), .ref 55]) rfl ?_
  refine fT_gr (q := 65) rfl rfl rfl ?_
  refine fT_ss 1 (pc' := 253) (L' := [some (.ref 52), some (.int x1), some (.int x2), some (.int x3), some (.int x4), some (.int x5), some (.int x6), none]) (st' := [.int x4, .ref 65, .int (v17 + x3), .ref 55]) rfl ?_
  refine fO_ba rfl rfl h (fun v18 h => ?_)
  refine fO_if 261 rfl rfl h (fun h => ?_) (fun h => ?_)
  · refine fT_ss 1 (pc' := 262) (L' := [some (.ref 52), some (.int x1), some (.int x2), some (.int x3), some (.int x4), some (.int x5), some (.int x6), none]) (st' := [.ref 52, .int (v17 + x3), .ref 55]) rfl ?_
    refine fT_gr (q := 55) rfl rfl rfl ?_
    refine fT_ss 1 (pc' := 267) (L' := [some (.ref 52), some (.int x1), some (.int x2), some (.int x3), some (.int x4), some (.int x5), some (.int x6), none]) (st' := [.int x5, .ref 55, .int (v17 + x3), .ref 55]) rfl ?_
    refine fO_ia rfl rfl rfl h (fun v19 h => ?_)
    exact fT_mk rfl rfl (t132_268 hX hd hw _ _ _ _ _ _ _ _ _ Q h)
  · refine fT_ss 2 (pc' := 268) (L' := [some (.ref 52), some (.int x1), some (.int x2), some (.int x3), some (.int x4), some (.int x5), some (.int x6), none]) (st' := [.int (nI 0), .int (v17 + x3), .ref 55]) rfl ?_
    exact fT_mk rfl rfl (t132_268 hX hd hw _ _ _ _ _ _ _ _ _ Q h)
noncomputable def g132_193 (x1 : Int32) (x2 : Int32) (x3 : Int32) (x4 : Int32) (x5 : Int32) (x6 : Int32) (y0 : Int32) (m : fm) : Option ((Int32 × Int32 × fm) ⊕ (Int32 × fm)) :=
  gfI m 52 8 fun v13 =>
  stI m 53 384 (v13 + x3) x6 fun m14 =>
  gfI m14 52 8 fun v15 =>
  bif ai_c .ne x6 (nI 6) then
    g132_236 x1 x2 x3 x4 x5 x6 y0 (v15 + x3) m14
  else
    cl2 (g131 y0 m14) fun v31 m30 =>
    g132_236 x1 x2 x3 x4 x5 x6 v31 (v15 + x3) m30
set_option maxHeartbeats 4000000 in
theorem t132_193 {X : ai_X} {d w : Nat} (hX : X[1]? = some (39, ai_sh)) (hd : 5 ≤ d) (hw : 121 ≤ w) (x1 : Int32) (x2 : Int32) (x3 : Int32) (x4 : Int32) (x5 : Int32) (x6 : Int32) (y0 : Int32) (m : fm) (Q : Option Value → fm → Prop) (h : ob (g132_193 x1 x2 x3 x4 x5 x6 y0 m) (Sum.elim (fun s : Int32 × Int32 × fm => fT X d w ai_r132 110 [some (.ref 52), some (.int x1), some (.int x2), some (.int s.1), some (.int s.2.1), none, none, none] [] s.2.2 Q) (fun z : Int32 × fm => Q (some (.int z.1)) z.2))) : fT X d w ai_r132 193 [some (.ref 52), some (.int x1), some (.int x2), some (.int x3), some (.int x4), some (.int x5), some (.int x6), none] [.int y0] m Q := by
  unfold g132_193 at h
  refine fT_ss 2 (pc' := 196) (L' := [some (.ref 52), some (.int x1), some (.int x2), some (.int x3), some (.int x4), some (.int x5), some (.int x6), some (.int y0)]) (st' := [.ref 52]) rfl ?_
  refine fT_gr (q := 53) rfl rfl rfl ?_
  refine fT_ss 1 (pc' := 200) (L' := [some (.ref 52), some (.int x1), some (.int x2), some (.int x3), some (.int x4), some (.int x5), some (.int x6), some (.int y0)]) (st' := [.ref 52, .ref 53]) rfl ?_
  refine fO_gi rfl rfl rfl h (fun v13 h => ?_)
  refine fT_ss 3 (pc' := 207) (L' := [some (.ref 52), some (.int x1), some (.int x2), some (.int x3), some (.int x4), some (.int x5), some (.int x6), some (.int y0)]) (st' := [.int x6, .int (v13 + x3), .ref 53]) rfl ?_
  refine fO_is rfl rfl h (fun m14 h => ?_)
  refine fT_ss 1 (pc' := 209) (L' := [some (.ref 52), some (.int x1), some (.int x2), some (.int x3), some (.int x4), some (.int x5), some (.int x6), some (.int y0)]) (st' := [.ref 52]) rfl ?_
  refine fT_gr (q := 54) rfl rfl rfl ?_
  refine fT_ss 1 (pc' := 213) (L' := [some (.ref 52), some (.int x1), some (.int x2), some (.int x3), some (.int x4), some (.int x5), some (.int x6), some (.int y0)]) (st' := [.ref 52, .ref 54]) rfl ?_
  refine fO_gi rfl rfl rfl h (fun v15 h => ?_)
  refine fT_ss 4 (pc' := 222) (L' := [some (.ref 52), some (.int x1), some (.int x2), some (.int x3), some (.int x4), some (.int x5), some (.int x6), some (.int y0)]) (st' := [.int (nI 6), .int x6, .int (v15 + x3), .ref 54]) rfl ?_
  refine fO_ic 234 rfl rfl h (fun h => ?_) (fun h => ?_)
  · refine fT_ss 1 (pc' := 236) (L' := [some (.ref 52), some (.int x1), some (.int x2), some (.int x3), some (.int x4), some (.int x5), some (.int x6), some (.int y0)]) (st' := [.int y0, .int (v15 + x3), .ref 54]) rfl ?_
    exact fT_mk rfl rfl (t132_236 hX hd hw _ _ _ _ _ _ _ _ _ Q h)
  · refine fT_ss 2 (pc' := 228) (L' := [some (.ref 52), some (.int x1), some (.int x2), some (.int x3), some (.int x4), some (.int x5), some (.int x6), some (.int y0)]) (st' := [.int y0, .ref 52, .int (v15 + x3), .ref 54]) rfl ?_
    refine fO_qv2 Value.int (r' := ai_r131) (k := 52) (As := [.int y0]) (rest := [.int (v15 + x3), .ref 54]) rfl rfl rfl rfl rfl rfl (by omega) (show 19 + 4 ≤ w by omega) (Nat.le_of_ble_eq_true rfl) (Nat.le_of_ble_eq_true rfl) rfl rfl (fun Qc hq => t131_0 hX (show 0 ≤ d - 1 by omega) (show 0 ≤ w - (19 + 4) by omega) _ _ Qc hq) h (fun v31 m30 h => ?_)
    refine fT_ss 1 (pc' := 236) (L' := [some (.ref 52), some (.int x1), some (.int x2), some (.int x3), some (.int x4), some (.int x5), some (.int x6), some (.int y0)]) (st' := [.int v31, .int (v15 + x3), .ref 54]) rfl ?_
    exact fT_mk rfl rfl (t132_236 hX hd hw _ _ _ _ _ _ _ _ _ Q h)
noncomputable def g132_164 (x1 : Int32) (x2 : Int32) (x3 : Int32) (x4 : Int32) (x5 : Int32) (y0 : Int32) (m : fm) : Option ((Int32 × Int32 × fm) ⊕ (Int32 × fm)) :=
  ldI m 65 25 x4 fun v11 =>
  bif ai_c .eq v11 0 then
    ldI m 54 384 x5 fun v12 =>
    g132_193 x1 x2 x3 x4 x5 y0 v12 m
  else
    ldI m 56 384 x5 fun v32 =>
    g132_193 x1 x2 x3 x4 x5 y0 v32 m
set_option maxHeartbeats 4000000 in
theorem t132_164 {X : ai_X} {d w : Nat} (hX : X[1]? = some (39, ai_sh)) (hd : 5 ≤ d) (hw : 121 ≤ w) (x1 : Int32) (x2 : Int32) (x3 : Int32) (x4 : Int32) (x5 : Int32) (y0 : Int32) (m : fm) (Q : Option Value → fm → Prop) (h : ob (g132_164 x1 x2 x3 x4 x5 y0 m) (Sum.elim (fun s : Int32 × Int32 × fm => fT X d w ai_r132 110 [some (.ref 52), some (.int x1), some (.int x2), some (.int s.1), some (.int s.2.1), none, none, none] [] s.2.2 Q) (fun z : Int32 × fm => Q (some (.int z.1)) z.2))) : fT X d w ai_r132 164 [some (.ref 52), some (.int x1), some (.int x2), some (.int x3), some (.int x4), some (.int x5), none, none] [.int y0] m Q := by
  unfold g132_164 at h
  refine fT_ss 2 (pc' := 167) (L' := [some (.ref 52), some (.int x1), some (.int x2), some (.int x3), some (.int x4), some (.int x5), some (.int y0), none]) (st' := [.ref 52]) rfl ?_
  refine fT_gr (q := 65) rfl rfl rfl ?_
  refine fT_ss 1 (pc' := 172) (L' := [some (.ref 52), some (.int x1), some (.int x2), some (.int x3), some (.int x4), some (.int x5), some (.int y0), none]) (st' := [.int x4, .ref 65]) rfl ?_
  refine fO_ba rfl rfl h (fun v11 h => ?_)
  refine fO_if 186 rfl rfl h (fun h => ?_) (fun h => ?_)
  · refine fT_ss 1 (pc' := 187) (L' := [some (.ref 52), some (.int x1), some (.int x2), some (.int x3), some (.int x4), some (.int x5), some (.int y0), none]) (st' := [.ref 52]) rfl ?_
    refine fT_gr (q := 54) rfl rfl rfl ?_
    refine fT_ss 1 (pc' := 192) (L' := [some (.ref 52), some (.int x1), some (.int x2), some (.int x3), some (.int x4), some (.int x5), some (.int y0), none]) (st' := [.int x5, .ref 54]) rfl ?_
    refine fO_ia rfl rfl rfl h (fun v12 h => ?_)
    exact fT_mk rfl rfl (t132_193 hX hd hw _ _ _ _ _ _ _ _ Q h)
  · refine fT_ss 1 (pc' := 177) (L' := [some (.ref 52), some (.int x1), some (.int x2), some (.int x3), some (.int x4), some (.int x5), some (.int y0), none]) (st' := [.ref 52]) rfl ?_
    refine fT_gr (q := 56) rfl rfl rfl ?_
    refine fT_ss 1 (pc' := 182) (L' := [some (.ref 52), some (.int x1), some (.int x2), some (.int x3), some (.int x4), some (.int x5), some (.int y0), none]) (st' := [.int x5, .ref 56]) rfl ?_
    refine fO_ia rfl rfl rfl h (fun v32 h => ?_)
    refine fT_ss 1 (pc' := 193) (L' := [some (.ref 52), some (.int x1), some (.int x2), some (.int x3), some (.int x4), some (.int x5), some (.int y0), none]) (st' := [.int v32]) rfl ?_
    exact fT_mk rfl rfl (t132_193 hX hd hw _ _ _ _ _ _ _ _ Q h)
noncomputable def s132_110 (x1 : Int32) (x2 : Int32) (x3 : Int32) (x4 : Int32) (m : fm) : Option ((Int32 × Int32 × fm) ⊕ (Int32 × fm)) :=
  gfI m 52 7 fun v3 =>
  bif ai_c .ge x4 v3 then
    (g132_330 x1 x2 x3 m).map Sum.inr
  else
    bif ai_c .eq x2 0 then
      (g132_330 x1 x2 x3 m).map Sum.inr
    else
      ldI m 64 25 x4 fun v7 =>
      bif ai_c .eq v7 0 then
        some (.inl (x3, (x4 + (nI 1)), m))
      else
        gfI m 52 8 fun v8 =>
        ldI m 65 25 x4 fun v9 =>
        bif ai_c .eq v9 0 then
          ldI m 53 384 (v8 + x4) fun v10 =>
          g132_164 x1 x2 x3 x4 (v8 + x4) v10 m
        else
          g132_164 x1 x2 x3 x4 (v8 + x4) (nI 6) m
set_option maxHeartbeats 4000000 in
theorem b132_110 {X : ai_X} {d w : Nat} (hX : X[1]? = some (39, ai_sh)) (hd : 5 ≤ d) (hw : 121 ≤ w) (x1 : Int32) (x2 : Int32) (x3 : Int32) (x4 : Int32) (m : fm) (Q : Option Value → fm → Prop) (h : ob (s132_110 x1 x2 x3 x4 m) (Sum.elim (fun s : Int32 × Int32 × fm => fT X d w ai_r132 110 [some (.ref 52), some (.int x1), some (.int x2), some (.int s.1), some (.int s.2.1), none, none, none] [] s.2.2 Q) (fun z : Int32 × fm => Q (some (.int z.1)) z.2))) : fT X d w ai_r132 110 [some (.ref 52), some (.int x1), some (.int x2), some (.int x3), some (.int x4), none, none, none] [] m Q := by
  unfold s132_110 at h
  refine fT_ss 2 (pc' := 113) (L' := [some (.ref 52), some (.int x1), some (.int x2), some (.int x3), some (.int x4), none, none, none]) (st' := [.ref 52, .int x4]) rfl ?_
  refine fO_gi rfl rfl rfl h (fun v3 h => ?_)
  refine fO_ic 330 rfl rfl h (fun h => ?_) (fun h => ?_)
  · exact fT_mk rfl rfl (t132_330 hX hd hw _ _ _ _ Q (ob_mapR h))
  · refine fT_ss 1 (pc' := 120) (L' := [some (.ref 52), some (.int x1), some (.int x2), some (.int x3), some (.int x4), none, none, none]) (st' := [.int x2]) rfl ?_
    refine fO_if 330 rfl rfl h (fun h => ?_) (fun h => ?_)
    · exact fT_mk rfl rfl (t132_330 hX hd hw _ _ _ _ Q (ob_mapR h))
    · refine fT_ss 1 (pc' := 124) (L' := [some (.ref 52), some (.int x1), some (.int x2), some (.int x3), some (.int x4), none, none, none]) (st' := [.ref 52]) rfl ?_
      refine fT_gr (q := 64) rfl rfl rfl ?_
      refine fT_ss 1 (pc' := 129) (L' := [some (.ref 52), some (.int x1), some (.int x2), some (.int x3), some (.int x4), none, none, none]) (st' := [.int x4, .ref 64]) rfl ?_
      refine fO_ba rfl rfl h (fun v7 h => ?_)
      refine fO_if 324 rfl rfl h (fun h => ?_) (fun h => ?_)
      · refine fT_ss 2 (pc' := 110) (L' := [some (.ref 52), some (.int x1), some (.int x2), some (.int x3), some (.int (x4 + (nI 1))), none, none, none]) (st' := []) rfl ?_
        replace h := ob_inl h
        exact fT_mk rfl rfl h
      · refine fT_ss 1 (pc' := 134) (L' := [some (.ref 52), some (.int x1), some (.int x2), some (.int x3), some (.int x4), none, none, none]) (st' := [.ref 52]) rfl ?_
        refine fO_gi rfl rfl rfl h (fun v8 h => ?_)
        refine fT_ss 4 (pc' := 143) (L' := [some (.ref 52), some (.int x1), some (.int x2), some (.int x3), some (.int x4), some (.int (v8 + x4)), none, none]) (st' := [.ref 52]) rfl ?_
        refine fT_gr (q := 65) rfl rfl rfl ?_
        refine fT_ss 1 (pc' := 148) (L' := [some (.ref 52), some (.int x1), some (.int x2), some (.int x3), some (.int x4), some (.int (v8 + x4)), none, none]) (st' := [.int x4, .ref 65]) rfl ?_
        refine fO_ba rfl rfl h (fun v9 h => ?_)
        refine fO_if 157 rfl rfl h (fun h => ?_) (fun h => ?_)
        · refine fT_ss 1 (pc' := 158) (L' := [some (.ref 52), some (.int x1), some (.int x2), some (.int x3), some (.int x4), some (.int (v8 + x4)), none, none]) (st' := [.ref 52]) rfl ?_
          refine fT_gr (q := 53) rfl rfl rfl ?_
          refine fT_ss 1 (pc' := 163) (L' := [some (.ref 52), some (.int x1), some (.int x2), some (.int x3), some (.int x4), some (.int (v8 + x4)), none, none]) (st' := [.int (v8 + x4), .ref 53]) rfl ?_
          refine fO_ia rfl rfl rfl h (fun v10 h => ?_)
          exact fT_mk rfl rfl (t132_164 hX hd hw _ _ _ _ _ _ _ Q h)
        · refine fT_ss 2 (pc' := 164) (L' := [some (.ref 52), some (.int x1), some (.int x2), some (.int x3), some (.int x4), some (.int (v8 + x4)), none, none]) (st' := [.int (nI 6)]) rfl ?_
          exact fT_mk rfl rfl (t132_164 hX hd hw _ _ _ _ _ _ _ Q h)
noncomputable def g132_110 (x1 : Int32) (x2 : Int32) (x3 : Int32) (x4 : Int32) (m : fm) : Option (Int32 × fm) := wl (fun s : Int32 × Int32 × fm => s132_110 x1 x2 s.1 s.2.1 s.2.2) lf (x3, x4, m)
theorem t132_110 {X : ai_X} {d w : Nat} (hX : X[1]? = some (39, ai_sh)) (hd : 5 ≤ d) (hw : 121 ≤ w) (x1 : Int32) (x2 : Int32) (x3 : Int32) (x4 : Int32) (m : fm) (Q : Option Value → fm → Prop) (h : ob (g132_110 x1 x2 x3 x4 m) (fun z : Int32 × fm => Q (some (.int z.1)) z.2)) : fT X d w ai_r132 110 [some (.ref 52), some (.int x1), some (.int x2), some (.int x3), some (.int x4), none, none, none] [] m Q :=
  wl_ob (P := fun s : Int32 × Int32 × fm => fT X d w ai_r132 110 [some (.ref 52), some (.int x1), some (.int x2), some (.int s.1), some (.int s.2.1), none, none, none] [] s.2.2 Q) (fun s h => b132_110 hX hd hw x1 x2 s.1 s.2.1 s.2.2 Q h) lf (x3, x4, m) h
noncomputable def g132_93 (x1 : Int32) (x3 : Int32) (m : fm) : Option ((Int32 × Int32 × fm) ⊕ (Int32 × fm)) :=
  some (.inl ((nI 1), (x3 + (nI 1)), m))
set_option maxHeartbeats 4000000 in
theorem t132_93 {X : ai_X} {d w : Nat} (hX : X[1]? = some (39, ai_sh)) (hd : 5 ≤ d) (hw : 121 ≤ w) (x1 : Int32) (x3 : Int32) (m : fm) (Q : Option Value → fm → Prop) (h : ob (g132_93 x1 x3 m) (Sum.elim (fun s : Int32 × Int32 × fm => fT X d w ai_r132 10 [some (.ref 52), some (.int x1), some (.int s.1), some (.int s.2.1), none, none, none, none] [] s.2.2 Q) (fun z : Int32 × fm => Q (some (.int z.1)) z.2))) : fT X d w ai_r132 93 [some (.ref 52), some (.int x1), none, some (.int x3), none, none, none, none] [] m Q := by
  unfold g132_93 at h
  refine fT_ss 5 (pc' := 10) (L' := [some (.ref 52), some (.int x1), some (.int (nI 1)), some (.int (x3 + (nI 1))), none, none, none, none]) (st' := []) rfl ?_
  replace h := ob_inl h
  exact fT_mk rfl rfl h
noncomputable def g132_70 (x1 : Int32) (x2 : Int32) (x3 : Int32) (y0 : Int32) (y1 : Int32) (m : fm) : Option ((Int32 × Int32 × fm) ⊕ (Int32 × fm)) :=
  stB m 65 25 y1 y0 fun m36 =>
  bif ai_c .ne x2 0 then
    g132_93 x1 x3 m36
  else
    ldI m36 64 25 x3 fun v37 =>
    bif ai_c .eq v37 0 then
      g132_93 x1 x3 m36
    else
      ldI m36 65 25 x3 fun v38 =>
      bif ai_c .eq v38 0 then
        some (.inl ((nI 0), (x3 + (nI 1)), m36))
      else
        g132_93 x1 x3 m36
set_option maxHeartbeats 4000000 in
theorem t132_70 {X : ai_X} {d w : Nat} (hX : X[1]? = some (39, ai_sh)) (hd : 5 ≤ d) (hw : 121 ≤ w) (x1 : Int32) (x2 : Int32) (x3 : Int32) (y0 : Int32) (y1 : Int32) (m : fm) (Q : Option Value → fm → Prop) (h : ob (g132_70 x1 x2 x3 y0 y1 m) (Sum.elim (fun s : Int32 × Int32 × fm => fT X d w ai_r132 10 [some (.ref 52), some (.int x1), some (.int s.1), some (.int s.2.1), none, none, none, none] [] s.2.2 Q) (fun z : Int32 × fm => Q (some (.int z.1)) z.2))) : fT X d w ai_r132 70 [some (.ref 52), some (.int x1), some (.int x2), some (.int x3), none, none, none, none] [.int y0, .int y1, .ref 65] m Q := by
  unfold g132_70 at h
  refine fO_bs rfl rfl h (fun m36 h => ?_)
  refine fT_ss 1 (pc' := 72) (L' := [some (.ref 52), some (.int x1), some (.int x2), some (.int x3), none, none, none, none]) (st' := [.int x2]) rfl ?_
  refine fO_if 93 rfl rfl h (fun h => ?_) (fun h => ?_)
  · exact fT_mk rfl rfl (t132_93 hX hd hw _ _ _ Q h)
  · refine fT_ss 1 (pc' := 76) (L' := [some (.ref 52), some (.int x1), none, some (.int x3), none, none, none, none]) (st' := [.ref 52]) rfl ?_
    refine fT_gr (q := 64) rfl rfl rfl ?_
    refine fT_ss 1 (pc' := 80) (L' := [some (.ref 52), some (.int x1), none, some (.int x3), none, none, none, none]) (st' := [.int x3, .ref 64]) rfl ?_
    refine fO_ba rfl rfl h (fun v37 h => ?_)
    refine fO_if 93 rfl rfl h (fun h => ?_) (fun h => ?_)
    · exact fT_mk rfl rfl (t132_93 hX hd hw _ _ _ Q h)
    · refine fT_ss 1 (pc' := 85) (L' := [some (.ref 52), some (.int x1), none, some (.int x3), none, none, none, none]) (st' := [.ref 52]) rfl ?_
      refine fT_gr (q := 65) rfl rfl rfl ?_
      refine fT_ss 1 (pc' := 89) (L' := [some (.ref 52), some (.int x1), none, some (.int x3), none, none, none, none]) (st' := [.int x3, .ref 65]) rfl ?_
      refine fO_ba rfl rfl h (fun v38 h => ?_)
      refine fO_if 97 rfl rfl h (fun h => ?_) (fun h => ?_)
      · refine fT_ss 4 (pc' := 10) (L' := [some (.ref 52), some (.int x1), some (.int (nI 0)), some (.int (x3 + (nI 1))), none, none, none, none]) (st' := []) rfl ?_
        replace h := ob_inl h
        exact fT_mk rfl rfl h
      · exact fT_mk rfl rfl (t132_93 hX hd hw _ _ _ Q h)
noncomputable def g132_51 (x1 : Int32) (x2 : Int32) (x3 : Int32) (x4 : Int32) (y0 : Int32) (y1 : Int32) (m : fm) : Option ((Int32 × Int32 × fm) ⊕ (Int32 × fm)) :=
  stB m 64 25 y1 y0 fun m35 =>
  bif ai_c .ne (x4 &&& (nI 2)) (nI 2) then
    g132_70 x1 x2 x3 (nI 0) x3 m35
  else
    g132_70 x1 x2 x3 (nI 1) x3 m35
set_option maxHeartbeats 4000000 in
theorem t132_51 {X : ai_X} {d w : Nat} (hX : X[1]? = some (39, ai_sh)) (hd : 5 ≤ d) (hw : 121 ≤ w) (x1 : Int32) (x2 : Int32) (x3 : Int32) (x4 : Int32) (y0 : Int32) (y1 : Int32) (m : fm) (Q : Option Value → fm → Prop) (h : ob (g132_51 x1 x2 x3 x4 y0 y1 m) (Sum.elim (fun s : Int32 × Int32 × fm => fT X d w ai_r132 10 [some (.ref 52), some (.int x1), some (.int s.1), some (.int s.2.1), none, none, none, none] [] s.2.2 Q) (fun z : Int32 × fm => Q (some (.int z.1)) z.2))) : fT X d w ai_r132 51 [some (.ref 52), some (.int x1), some (.int x2), some (.int x3), some (.int x4), none, none, none] [.int y0, .int y1, .ref 64] m Q := by
  unfold g132_51 at h
  refine fO_bs rfl rfl h (fun m35 h => ?_)
  refine fT_ss 1 (pc' := 53) (L' := [some (.ref 52), some (.int x1), some (.int x2), some (.int x3), some (.int x4), none, none, none]) (st' := [.ref 52]) rfl ?_
  refine fT_gr (q := 65) rfl rfl rfl ?_
  refine fT_ss 5 (pc' := 62) (L' := [some (.ref 52), some (.int x1), some (.int x2), some (.int x3), some (.int x4), none, none, none]) (st' := [.int (nI 2), .int (x4 &&& (nI 2)), .int x3, .ref 65]) rfl ?_
  refine fO_ic 69 rfl rfl h (fun h => ?_) (fun h => ?_)
  · refine fT_ss 1 (pc' := 70) (L' := [some (.ref 52), some (.int x1), some (.int x2), some (.int x3), none, none, none, none]) (st' := [.int (nI 0), .int x3, .ref 65]) rfl ?_
    exact fT_mk rfl rfl (t132_70 hX hd hw _ _ _ _ _ _ Q h)
  · refine fT_ss 2 (pc' := 70) (L' := [some (.ref 52), some (.int x1), some (.int x2), some (.int x3), none, none, none, none]) (st' := [.int (nI 1), .int x3, .ref 65]) rfl ?_
    exact fT_mk rfl rfl (t132_70 hX hd hw _ _ _ _ _ _ Q h)
noncomputable def s132_10 (x1 : Int32) (x2 : Int32) (x3 : Int32) (m : fm) : Option ((Int32 × Int32 × fm) ⊕ (Int32 × fm)) :=
  gfI m 52 7 fun v2 =>
  bif ai_c .ge x3 v2 then
    (g132_110 x1 x2 (nI 0) (nI 0) m).map Sum.inr
  else
    cl2 (g118 x3 m) fun v34 m33 =>
    bif ai_c .ne (v34 &&& (nI 1)) (nI 1) then
      g132_51 x1 x2 x3 v34 (nI 0) x3 m33
    else
      bif ai_c .ne (v34 &&& (nI 28)) 0 then
        g132_51 x1 x2 x3 v34 (nI 0) x3 m33
      else
        g132_51 x1 x2 x3 v34 (nI 1) x3 m33
set_option maxHeartbeats 4000000 in
theorem b132_10 {X : ai_X} {d w : Nat} (hX : X[1]? = some (39, ai_sh)) (hd : 5 ≤ d) (hw : 121 ≤ w) (x1 : Int32) (x2 : Int32) (x3 : Int32) (m : fm) (Q : Option Value → fm → Prop) (h : ob (s132_10 x1 x2 x3 m) (Sum.elim (fun s : Int32 × Int32 × fm => fT X d w ai_r132 10 [some (.ref 52), some (.int x1), some (.int s.1), some (.int s.2.1), none, none, none, none] [] s.2.2 Q) (fun z : Int32 × fm => Q (some (.int z.1)) z.2))) : fT X d w ai_r132 10 [some (.ref 52), some (.int x1), some (.int x2), some (.int x3), none, none, none, none] [] m Q := by
  unfold s132_10 at h
  refine fT_ss 2 (pc' := 12) (L' := [some (.ref 52), some (.int x1), some (.int x2), some (.int x3), none, none, none, none]) (st' := [.ref 52, .int x3]) rfl ?_
  refine fO_gi rfl rfl rfl h (fun v2 h => ?_)
  refine fO_ic 105 rfl rfl h (fun h => ?_) (fun h => ?_)
  · refine fT_ss 4 (pc' := 110) (L' := [some (.ref 52), some (.int x1), some (.int x2), some (.int (nI 0)), some (.int (nI 0)), none, none, none]) (st' := []) rfl ?_
    exact fT_mk rfl rfl (t132_110 hX hd hw _ _ _ _ _ Q (ob_mapR h))
  · refine fT_ss 2 (pc' := 20) (L' := [some (.ref 52), some (.int x1), some (.int x2), some (.int x3), none, none, none, none]) (st' := [.int x3, .ref 52]) rfl ?_
    refine fO_qv2 Value.int (r' := ai_r118) (k := 52) (As := [.int x3]) (rest := []) rfl rfl rfl rfl rfl rfl (by omega) (show 19 + 6 ≤ w by omega) (Nat.le_of_ble_eq_true rfl) (Nat.le_of_ble_eq_true rfl) rfl rfl (fun Qc hq => t118_0 hX (show 1 ≤ d - 1 by omega) (show 26 ≤ w - (19 + 6) by omega) _ _ Qc hq) h (fun v34 m33 h => ?_)
    refine fT_ss 2 (pc' := 26) (L' := [some (.ref 52), some (.int x1), some (.int x2), some (.int x3), some (.int v34), none, none, none]) (st' := [.ref 52]) rfl ?_
    refine fT_gr (q := 64) rfl rfl rfl ?_
    refine fT_ss 5 (pc' := 35) (L' := [some (.ref 52), some (.int x1), some (.int x2), some (.int x3), some (.int v34), none, none, none]) (st' := [.int (nI 1), .int (v34 &&& (nI 1)), .int x3, .ref 64]) rfl ?_
    refine fO_ic 50 rfl rfl h (fun h => ?_) (fun h => ?_)
    · refine fT_ss 1 (pc' := 51) (L' := [some (.ref 52), some (.int x1), some (.int x2), some (.int x3), some (.int v34), none, none, none]) (st' := [.int (nI 0), .int x3, .ref 64]) rfl ?_
      exact fT_mk rfl rfl (t132_51 hX hd hw _ _ _ _ _ _ _ Q h)
    · refine fT_ss 3 (pc' := 43) (L' := [some (.ref 52), some (.int x1), some (.int x2), some (.int x3), some (.int v34), none, none, none]) (st' := [.int (v34 &&& (nI 28)), .int x3, .ref 64]) rfl ?_
      refine fO_if 50 rfl rfl h (fun h => ?_) (fun h => ?_)
      · refine fT_ss 1 (pc' := 51) (L' := [some (.ref 52), some (.int x1), some (.int x2), some (.int x3), some (.int v34), none, none, none]) (st' := [.int (nI 0), .int x3, .ref 64]) rfl ?_
        exact fT_mk rfl rfl (t132_51 hX hd hw _ _ _ _ _ _ _ Q h)
      · refine fT_ss 2 (pc' := 51) (L' := [some (.ref 52), some (.int x1), some (.int x2), some (.int x3), some (.int v34), none, none, none]) (st' := [.int (nI 1), .int x3, .ref 64]) rfl ?_
        exact fT_mk rfl rfl (t132_51 hX hd hw _ _ _ _ _ _ _ Q h)
noncomputable def g132_10 (x1 : Int32) (x2 : Int32) (x3 : Int32) (m : fm) : Option (Int32 × fm) := wl (fun s : Int32 × Int32 × fm => s132_10 x1 s.1 s.2.1 s.2.2) lf (x2, x3, m)
theorem t132_10 {X : ai_X} {d w : Nat} (hX : X[1]? = some (39, ai_sh)) (hd : 5 ≤ d) (hw : 121 ≤ w) (x1 : Int32) (x2 : Int32) (x3 : Int32) (m : fm) (Q : Option Value → fm → Prop) (h : ob (g132_10 x1 x2 x3 m) (fun z : Int32 × fm => Q (some (.int z.1)) z.2)) : fT X d w ai_r132 10 [some (.ref 52), some (.int x1), some (.int x2), some (.int x3), none, none, none, none] [] m Q :=
  wl_ob (P := fun s : Int32 × Int32 × fm => fT X d w ai_r132 10 [some (.ref 52), some (.int x1), some (.int s.1), some (.int s.2.1), none, none, none, none] [] s.2.2 Q) (fun s h => b132_10 hX hd hw x1 s.1 s.2.1 s.2.2 Q h) lf (x2, x3, m) h
noncomputable def g132 (x1 : Int32) (m : fm) : Option (Int32 × fm) :=
  cl1 (g116 (nI 1) x1 m) fun m1 =>
  g132_10 x1 (nI 0) (nI 0) m1
set_option maxHeartbeats 4000000 in
theorem t132_0 {X : ai_X} {d w : Nat} (hX : X[1]? = some (39, ai_sh)) (hd : 5 ≤ d) (hw : 121 ≤ w) (x1 : Int32) (m : fm) (Q : Option Value → fm → Prop) (h : ob (g132 x1 m) (fun z : Int32 × fm => Q (some (.int z.1)) z.2)) : fT X d w ai_r132 0 [some (.ref 52), some (.int x1), none, none, none, none, none, none] [] m Q := by
  unfold g132 at h
  refine fT_ss 3 (pc' := 3) (L' := [some (.ref 52), some (.int x1), none, none, none, none, none, none]) (st' := [.int x1, .int (nI 1), .ref 52]) rfl ?_
  refine fO_qv1 (r' := ai_r116) (k := 52) (As := [.int (nI 1), .int x1]) (rest := []) rfl rfl rfl rfl rfl rfl (by omega) (show 19 + 8 ≤ w by omega) (Nat.le_of_ble_eq_true rfl) (Nat.le_of_ble_eq_true rfl) rfl rfl (fun Qc hq => t116_0 hX (show 4 ≤ d - 1 by omega) (show 94 ≤ w - (19 + 8) by omega) _ _ _ Qc hq) h (fun m1 h => ?_)
  refine fT_ss 4 (pc' := 10) (L' := [some (.ref 52), some (.int x1), some (.int (nI 0)), some (.int (nI 0)), none, none, none, none]) (st' := []) rfl ?_
  exact fT_mk rfl rfl (t132_10 hX hd hw _ _ _ _ Q h)
noncomputable def s133_145 (x1 : Int32) (x2 : Int32) (x3 : Int32) (m : fm) : Option ((Int32 × fm) ⊕ ((Int32 × Int32 × fm) ⊕ (Int32 × fm))) :=
  bif ai_c .eq x3 0 then
    ldI m 57 16 x2 fun v6 =>
    ldI m 57 16 ((nI 8) + x2) fun v7 =>
    some (.inr (.inl ((x1 + (v6 - v7)), (x2 + (nI 1)), m)))
  else
    cl2 (g132 x2 m) fun v9 m8 =>
    some (.inl (v9, m8))
set_option maxHeartbeats 4000000 in
theorem b133_145 {X : ai_X} {d w : Nat} (hX : X[1]? = some (39, ai_sh)) (hd : 6 ≤ d) (hw : 148 ≤ w) (x1 : Int32) (x2 : Int32) (x3 : Int32) (m : fm) (Q : Option Value → fm → Prop) (h : ob (s133_145 x1 x2 x3 m) (Sum.elim (fun s : Int32 × fm => fT X d w ai_r133 145 [some (.ref 52), some (.int x1), some (.int x2), some (.int s.1), none, none] [] s.2 Q) (Sum.elim (fun s : Int32 × Int32 × fm => fT X d w ai_r133 13 [some (.ref 52), some (.int s.1), some (.int s.2.1), none, none, none] [] s.2.2 Q) (fun z : Int32 × fm => Q (some (.int z.1)) z.2)))) : fT X d w ai_r133 145 [some (.ref 52), some (.int x1), some (.int x2), some (.int x3), none, none] [] m Q := by
  unfold s133_145 at h
  refine fT_ss 1 (pc' := 146) (L' := [some (.ref 52), some (.int x1), some (.int x2), some (.int x3), none, none]) (st' := [.int x3]) rfl ?_
  refine fO_if 158 rfl rfl h (fun h => ?_) (fun h => ?_)
  · refine fT_ss 2 (pc' := 160) (L' := [some (.ref 52), some (.int x1), some (.int x2), none, none, none]) (st' := [.ref 52, .int x1]) rfl ?_
    refine fT_gr (q := 57) rfl rfl rfl ?_
    refine fT_ss 1 (pc' := 164) (L' := [some (.ref 52), some (.int x1), some (.int x2), none, none, none]) (st' := [.int x2, .ref 57, .int x1]) rfl ?_
    refine fO_ia rfl rfl rfl h (fun v6 h => ?_)
    refine fT_ss 1 (pc' := 166) (L' := [some (.ref 52), some (.int x1), some (.int x2), none, none, none]) (st' := [.ref 52, .int v6, .int x1]) rfl ?_
    refine fT_gr (q := 57) rfl rfl rfl ?_
    refine fT_ss 3 (pc' := 173) (L' := [some (.ref 52), some (.int x1), some (.int x2), none, none, none]) (st' := [.int ((nI 8) + x2), .ref 57, .int v6, .int x1]) rfl ?_
    refine fO_ia rfl rfl rfl h (fun v7 h => ?_)
    refine fT_ss 5 (pc' := 13) (L' := [some (.ref 52), some (.int (x1 + (v6 - v7))), some (.int (x2 + (nI 1))), none, none, none]) (st' := []) rfl ?_
    replace h := ob_inr h
    replace h := ob_inl h
    exact fT_mk rfl rfl h
  · refine fT_ss 2 (pc' := 151) (L' := [some (.ref 52), some (.int x1), some (.int x2), none, none, none]) (st' := [.int x2, .ref 52]) rfl ?_
    refine fO_qv2 Value.int (r' := ai_r132) (k := 52) (As := [.int x2]) (rest := []) rfl rfl rfl rfl rfl rfl (by omega) (show 19 + 8 ≤ w by omega) (Nat.le_of_ble_eq_true rfl) (Nat.le_of_ble_eq_true rfl) rfl rfl (fun Qc hq => t132_0 hX (show 5 ≤ d - 1 by omega) (show 121 ≤ w - (19 + 8) by omega) _ _ Qc hq) h (fun v9 m8 h => ?_)
    refine fT_ss 2 (pc' := 145) (L' := [some (.ref 52), some (.int x1), some (.int x2), some (.int v9), none, none]) (st' := []) rfl ?_
    replace h := ob_inl h
    exact fT_mk rfl rfl h
noncomputable def g133_145 (x1 : Int32) (x2 : Int32) (x3 : Int32) (m : fm) : Option ((Int32 × Int32 × fm) ⊕ (Int32 × fm)) := wl (fun s : Int32 × fm => s133_145 x1 x2 s.1 s.2) lf (x3, m)
theorem t133_145 {X : ai_X} {d w : Nat} (hX : X[1]? = some (39, ai_sh)) (hd : 6 ≤ d) (hw : 148 ≤ w) (x1 : Int32) (x2 : Int32) (x3 : Int32) (m : fm) (Q : Option Value → fm → Prop) (h : ob (g133_145 x1 x2 x3 m) (Sum.elim (fun s : Int32 × Int32 × fm => fT X d w ai_r133 13 [some (.ref 52), some (.int s.1), some (.int s.2.1), none, none, none] [] s.2.2 Q) (fun z : Int32 × fm => Q (some (.int z.1)) z.2))) : fT X d w ai_r133 145 [some (.ref 52), some (.int x1), some (.int x2), some (.int x3), none, none] [] m Q :=
  wl_ob (P := fun s : Int32 × fm => fT X d w ai_r133 145 [some (.ref 52), some (.int x1), some (.int x2), some (.int s.1), none, none] [] s.2 Q) (fun s h => b133_145 hX hd hw x1 x2 s.1 s.2 Q h) lf (x3, m) h
noncomputable def s133_52 (x1 : Int32) (x2 : Int32) (x3 : Int32) (m : fm) : Option ((Int32 × fm) ⊕ ((Int32 × Int32 × fm) ⊕ (Int32 × fm))) :=
  ldI m 57 16 ((nI 8) + x2) fun v5 =>
  bif ai_c .ge x3 v5 then
    (g133_145 x1 x2 (nI 1) m).map Sum.inr
  else
    cl2 (g98 (nI 0) x2 x3 m) fun v11 m10 =>
    cl2 (g98 (nI 1) x2 x3 m10) fun v13 m12 =>
    ldI m12 53 384 v11 fun v14 =>
    stI m12 53 384 v13 v14 fun m15 =>
    ldI m15 54 384 v11 fun v16 =>
    stI m15 54 384 v13 v16 fun m17 =>
    ldI m17 55 384 v11 fun v18 =>
    stI m17 55 384 v13 v18 fun m19 =>
    ldI m19 56 384 v11 fun v20 =>
    stI m19 56 384 v13 v20 fun m21 =>
    some (.inl ((x3 + (nI 1)), m21))
set_option maxHeartbeats 4000000 in
theorem b133_52 {X : ai_X} {d w : Nat} (hX : X[1]? = some (39, ai_sh)) (hd : 6 ≤ d) (hw : 148 ≤ w) (x1 : Int32) (x2 : Int32) (x3 : Int32) (m : fm) (Q : Option Value → fm → Prop) (h : ob (s133_52 x1 x2 x3 m) (Sum.elim (fun s : Int32 × fm => fT X d w ai_r133 52 [some (.ref 52), some (.int x1), some (.int x2), some (.int s.1), none, none] [] s.2 Q) (Sum.elim (fun s : Int32 × Int32 × fm => fT X d w ai_r133 13 [some (.ref 52), some (.int s.1), some (.int s.2.1), none, none, none] [] s.2.2 Q) (fun z : Int32 × fm => Q (some (.int z.1)) z.2)))) : fT X d w ai_r133 52 [some (.ref 52), some (.int x1), some (.int x2), some (.int x3), none, none] [] m Q := by
  unfold s133_52 at h
  refine fT_ss 2 (pc' := 54) (L' := [some (.ref 52), some (.int x1), some (.int x2), some (.int x3), none, none]) (st' := [.ref 52, .int x3]) rfl ?_
  refine fT_gr (q := 57) rfl rfl rfl ?_
  refine fT_ss 3 (pc' := 61) (L' := [some (.ref 52), some (.int x1), some (.int x2), some (.int x3), none, none]) (st' := [.int ((nI 8) + x2), .ref 57, .int x3]) rfl ?_
  refine fO_ia rfl rfl rfl h (fun v5 h => ?_)
  refine fO_ic 143 rfl rfl h (fun h => ?_) (fun h => ?_)
  · refine fT_ss 2 (pc' := 145) (L' := [some (.ref 52), some (.int x1), some (.int x2), some (.int (nI 1)), none, none]) (st' := []) rfl ?_
    exact fT_mk rfl rfl (t133_145 hX hd hw _ _ _ _ Q (ob_mapR h))
  · refine fT_ss 3 (pc' := 68) (L' := [some (.ref 52), some (.int x1), some (.int x2), some (.int x3), none, none]) (st' := [.int x3, .int x2, .int (nI 0)]) rfl ?_
    refine fO_qs2 Value.int (r' := ai_r98) (As := [.int (nI 0), .int x2, .int x3]) (rest := []) rfl rfl rfl rfl rfl rfl (by omega) (show 19 + 3 ≤ w by omega) (Nat.le_of_ble_eq_true rfl) (Nat.le_of_ble_eq_true rfl) rfl rfl (fun Qc hq => t98_0 hX (show 0 ≤ d - 1 by omega) (show 0 ≤ w - (19 + 3) by omega) _ _ _ _ Qc hq) h (fun v11 m10 h => ?_)
    refine fT_ss 4 (pc' := 76) (L' := [some (.ref 52), some (.int x1), some (.int x2), some (.int x3), some (.int v11), none]) (st' := [.int x3, .int x2, .int (nI 1)]) rfl ?_
    refine fO_qs2 Value.int (r' := ai_r98) (As := [.int (nI 1), .int x2, .int x3]) (rest := []) rfl rfl rfl rfl rfl rfl (by omega) (show 19 + 3 ≤ w by omega) (Nat.le_of_ble_eq_true rfl) (Nat.le_of_ble_eq_true rfl) rfl rfl (fun Qc hq => t98_0 hX (show 0 ≤ d - 1 by omega) (show 0 ≤ w - (19 + 3) by omega) _ _ _ _ Qc hq) h (fun v13 m12 h => ?_)
    refine fT_ss 2 (pc' := 82) (L' := [some (.ref 52), some (.int x1), some (.int x2), some (.int x3), some (.int v11), some (.int v13)]) (st' := [.ref 52]) rfl ?_
    refine fT_gr (q := 53) rfl rfl rfl ?_
    refine fT_ss 2 (pc' := 88) (L' := [some (.ref 52), some (.int x1), some (.int x2), some (.int x3), some (.int v11), some (.int v13)]) (st' := [.ref 52, .int v13, .ref 53]) rfl ?_
    refine fT_gr (q := 53) rfl rfl rfl ?_
    refine fT_ss 1 (pc' := 93) (L' := [some (.ref 52), some (.int x1), some (.int x2), some (.int x3), some (.int v11), some (.int v13)]) (st' := [.int v11, .ref 53, .int v13, .ref 53]) rfl ?_
    refine fO_ia rfl rfl rfl h (fun v14 h => ?_)
    refine fO_is rfl rfl h (fun m15 h => ?_)
    refine fT_ss 1 (pc' := 96) (L' := [some (.ref 52), some (.int x1), some (.int x2), some (.int x3), some (.int v11), some (.int v13)]) (st' := [.ref 52]) rfl ?_
    refine fT_gr (q := 54) rfl rfl rfl ?_
    refine fT_ss 2 (pc' := 102) (L' := [some (.ref 52), some (.int x1), some (.int x2), some (.int x3), some (.int v11), some (.int v13)]) (st' := [.ref 52, .int v13, .ref 54]) rfl ?_
    refine fT_gr (q := 54) rfl rfl rfl ?_
    refine fT_ss 1 (pc' := 107) (L' := [some (.ref 52), some (.int x1), some (.int x2), some (.int x3), some (.int v11), some (.int v13)]) (st' := [.int v11, .ref 54, .int v13, .ref 54]) rfl ?_
    refine fO_ia rfl rfl rfl h (fun v16 h => ?_)
    refine fO_is rfl rfl h (fun m17 h => ?_)
    refine fT_ss 1 (pc' := 110) (L' := [some (.ref 52), some (.int x1), some (.int x2), some (.int x3), some (.int v11), some (.int v13)]) (st' := [.ref 52]) rfl ?_
    refine fT_gr (q := 55) rfl rfl rfl ?_
    refine fT_ss 2 (pc' := 116) (L' := [some (.ref 52), some (.int x1), some (.int x2), some (.int x3), some (.int v11), some (.int v13)]) (st' := [.ref 52, .int v13, .ref 55]) rfl ?_
    refine fT_gr (q := 55) rfl rfl rfl ?_
    refine fT_ss 1 (pc' := 121) (L' := [some (.ref 52), some (.int x1), some (.int x2), some (.int x3), some (.int v11), some (.int v13)]) (st' := [.int v11, .ref 55, .int v13, .ref 55]) rfl ?_
    refine fO_ia rfl rfl rfl h (fun v18 h => ?_)
    refine fO_is rfl rfl h (fun m19 h => ?_)
    refine fT_ss 1 (pc' := 124) (L' := [some (.ref 52), some (.int x1), some (.int x2), some (.int x3), some (.int v11), some (.int v13)]) (st' := [.ref 52]) rfl ?_
    refine fT_gr (q := 56) rfl rfl rfl ?_
    refine fT_ss 2 (pc' := 130) (L' := [some (.ref 52), some (.int x1), some (.int x2), some (.int x3), some (.int v11), some (.int v13)]) (st' := [.ref 52, .int v13, .ref 56]) rfl ?_
    refine fT_gr (q := 56) rfl rfl rfl ?_
    refine fT_ss 1 (pc' := 135) (L' := [some (.ref 52), some (.int x1), some (.int x2), some (.int x3), some (.int v11), some (.int v13)]) (st' := [.int v11, .ref 56, .int v13, .ref 56]) rfl ?_
    refine fO_ia rfl rfl rfl h (fun v20 h => ?_)
    refine fO_is rfl rfl h (fun m21 h => ?_)
    refine fT_ss 2 (pc' := 52) (L' := [some (.ref 52), some (.int x1), some (.int x2), some (.int (x3 + (nI 1))), some (.int v11), some (.int v13)]) (st' := []) rfl ?_
    replace h := ob_inl h
    exact fT_mk rfl rfl h
noncomputable def g133_52 (x1 : Int32) (x2 : Int32) (x3 : Int32) (m : fm) : Option ((Int32 × Int32 × fm) ⊕ (Int32 × fm)) := wl (fun s : Int32 × fm => s133_52 x1 x2 s.1 s.2) lf (x3, m)
theorem t133_52 {X : ai_X} {d w : Nat} (hX : X[1]? = some (39, ai_sh)) (hd : 6 ≤ d) (hw : 148 ≤ w) (x1 : Int32) (x2 : Int32) (x3 : Int32) (m : fm) (Q : Option Value → fm → Prop) (h : ob (g133_52 x1 x2 x3 m) (Sum.elim (fun s : Int32 × Int32 × fm => fT X d w ai_r133 13 [some (.ref 52), some (.int s.1), some (.int s.2.1), none, none, none] [] s.2.2 Q) (fun z : Int32 × fm => Q (some (.int z.1)) z.2))) : fT X d w ai_r133 52 [some (.ref 52), some (.int x1), some (.int x2), some (.int x3), none, none] [] m Q :=
  wl_ob (P := fun s : Int32 × fm => fT X d w ai_r133 52 [some (.ref 52), some (.int x1), some (.int x2), some (.int s.1), none, none] [] s.2 Q) (fun s h => b133_52 hX hd hw x1 x2 s.1 s.2 Q h) lf (x3, m) h
noncomputable def s133_13 (x1 : Int32) (x2 : Int32) (m : fm) : Option ((Int32 × Int32 × fm) ⊕ (Int32 × fm)) :=
  bif ai_c .ge x2 (nI 8) then
    some (.inr (x1, m))
  else
    gfI m 52 15 fun v3 =>
    bif ai_c .ne ((v3 >>> (x2 &&& 31)) &&& (nI 1)) (nI 1) then
      stI m 57 16 ((nI 8) + x2) (nI 0) fun m4 =>
      g133_52 x1 x2 (nI 0) m4
    else
      ldI m 57 16 x2 fun v22 =>
      stI m 57 16 ((nI 8) + x2) v22 fun m23 =>
      g133_52 x1 x2 (nI 0) m23
set_option maxHeartbeats 4000000 in
theorem b133_13 {X : ai_X} {d w : Nat} (hX : X[1]? = some (39, ai_sh)) (hd : 6 ≤ d) (hw : 148 ≤ w) (x1 : Int32) (x2 : Int32) (m : fm) (Q : Option Value → fm → Prop) (h : ob (s133_13 x1 x2 m) (Sum.elim (fun s : Int32 × Int32 × fm => fT X d w ai_r133 13 [some (.ref 52), some (.int s.1), some (.int s.2.1), none, none, none] [] s.2.2 Q) (fun z : Int32 × fm => Q (some (.int z.1)) z.2))) : fT X d w ai_r133 13 [some (.ref 52), some (.int x1), some (.int x2), none, none, none] [] m Q := by
  unfold s133_13 at h
  refine fT_ss 2 (pc' := 16) (L' := [some (.ref 52), some (.int x1), some (.int x2), none, none, none]) (st' := [.int (nI 8), .int x2]) rfl ?_
  refine fO_ic 183 rfl rfl h (fun h => ?_) (fun h => ?_)
  · refine fT_ss 1 (pc' := 184) (L' := [none, some (.int x1), none, none, none, none]) (st' := [.int x1]) rfl ?_
    exact fT_r rfl rfl h
  · refine fT_ss 1 (pc' := 20) (L' := [some (.ref 52), some (.int x1), some (.int x2), none, none, none]) (st' := [.ref 52]) rfl ?_
    refine fT_gr (q := 57) rfl rfl rfl ?_
    refine fT_ss 4 (pc' := 28) (L' := [some (.ref 52), some (.int x1), some (.int x2), none, none, none]) (st' := [.ref 52, .int ((nI 8) + x2), .ref 57]) rfl ?_
    refine fO_gi rfl rfl rfl h (fun v3 h => ?_)
    refine fT_ss 5 (pc' := 36) (L' := [some (.ref 52), some (.int x1), some (.int x2), none, none, none]) (st' := [.int (nI 1), .int ((v3 >>> (x2 &&& 31)) &&& (nI 1)), .int ((nI 8) + x2), .ref 57]) rfl ?_
    refine fO_ic 48 rfl rfl h (fun h => ?_) (fun h => ?_)
    · refine fT_ss 1 (pc' := 49) (L' := [some (.ref 52), some (.int x1), some (.int x2), none, none, none]) (st' := [.int (nI 0), .int ((nI 8) + x2), .ref 57]) rfl ?_
      refine fO_is rfl rfl h (fun m4 h => ?_)
      refine fT_ss 2 (pc' := 52) (L' := [some (.ref 52), some (.int x1), some (.int x2), some (.int (nI 0)), none, none]) (st' := []) rfl ?_
      exact fT_mk rfl rfl (t133_52 hX hd hw _ _ _ _ Q h)
    · refine fT_ss 1 (pc' := 40) (L' := [some (.ref 52), some (.int x1), some (.int x2), none, none, none]) (st' := [.ref 52, .int ((nI 8) + x2), .ref 57]) rfl ?_
      refine fT_gr (q := 57) rfl rfl rfl ?_
      refine fT_ss 1 (pc' := 44) (L' := [some (.ref 52), some (.int x1), some (.int x2), none, none, none]) (st' := [.int x2, .ref 57, .int ((nI 8) + x2), .ref 57]) rfl ?_
      refine fO_ia rfl rfl rfl h (fun v22 h => ?_)
      refine fT_ss 1 (pc' := 49) (L' := [some (.ref 52), some (.int x1), some (.int x2), none, none, none]) (st' := [.int v22, .int ((nI 8) + x2), .ref 57]) rfl ?_
      refine fO_is rfl rfl h (fun m23 h => ?_)
      refine fT_ss 2 (pc' := 52) (L' := [some (.ref 52), some (.int x1), some (.int x2), some (.int (nI 0)), none, none]) (st' := []) rfl ?_
      exact fT_mk rfl rfl (t133_52 hX hd hw _ _ _ _ Q h)
noncomputable def g133_13 (x1 : Int32) (x2 : Int32) (m : fm) : Option (Int32 × fm) := wl (fun s : Int32 × Int32 × fm => s133_13 s.1 s.2.1 s.2.2) lf (x1, x2, m)
theorem t133_13 {X : ai_X} {d w : Nat} (hX : X[1]? = some (39, ai_sh)) (hd : 6 ≤ d) (hw : 148 ≤ w) (x1 : Int32) (x2 : Int32) (m : fm) (Q : Option Value → fm → Prop) (h : ob (g133_13 x1 x2 m) (fun z : Int32 × fm => Q (some (.int z.1)) z.2)) : fT X d w ai_r133 13 [some (.ref 52), some (.int x1), some (.int x2), none, none, none] [] m Q :=
  wl_ob (P := fun s : Int32 × Int32 × fm => fT X d w ai_r133 13 [some (.ref 52), some (.int s.1), some (.int s.2.1), none, none, none] [] s.2.2 Q) (fun s h => b133_13 hX hd hw s.1 s.2.1 s.2.2 Q h) lf (x1, x2, m) h
noncomputable def g133  (m : fm) : Option (Int32 × fm) :=
  cl1 (g123  m) fun m1 =>
  pfB m1 52 6 (nI 1) fun m2 =>
  g133_13 (nI 0) (nI 0) m2
set_option maxHeartbeats 4000000 in
theorem t133_0 {X : ai_X} {d w : Nat} (hX : X[1]? = some (39, ai_sh)) (hd : 6 ≤ d) (hw : 148 ≤ w)  (m : fm) (Q : Option Value → fm → Prop) (h : ob (g133  m) (fun z : Int32 × fm => Q (some (.int z.1)) z.2)) : fT X d w ai_r133 0 [some (.ref 52), none, none, none, none, none] [] m Q := by
  unfold g133 at h
  refine fT_ss 1 (pc' := 1) (L' := [some (.ref 52), none, none, none, none, none]) (st' := [.ref 52]) rfl ?_
  refine fO_qv1 (r' := ai_r123) (k := 52) (As := []) (rest := []) rfl rfl rfl rfl rfl rfl (by omega) (show 19 + 4 ≤ w by omega) (Nat.le_of_ble_eq_true rfl) (Nat.le_of_ble_eq_true rfl) rfl rfl (fun Qc hq => t123_0 hX (show 4 ≤ d - 1 by omega) (show 94 ≤ w - (19 + 4) by omega)  _ Qc hq) h (fun m1 h => ?_)
  refine fT_ss 2 (pc' := 6) (L' := [some (.ref 52), none, none, none, none, none]) (st' := [.int (nI 1), .ref 52]) rfl ?_
  refine fO_pb rfl rfl rfl rfl h (fun m2 h => ?_)
  refine fT_ss 4 (pc' := 13) (L' := [some (.ref 52), some (.int (nI 0)), some (.int (nI 0)), none, none, none]) (st' := []) rfl ?_
  exact fT_mk rfl rfl (t133_13 hX hd hw _ _ _ Q h)
noncomputable def g134 (x1 : Int32) (x2 : Int32) (x3 : Int32) (x4 : Int32) (m : fm) : Option (fm) :=
  gfI m 52 23 fun v1 =>
  stI m 68 9 v1 x1 fun m2 =>
  gfI m2 52 23 fun v3 =>
  stI m2 69 9 v3 (nI 0) fun m4 =>
  gfI m4 52 23 fun v5 =>
  stI m4 70 9 v5 x4 fun m6 =>
  gfI m6 52 23 fun v7 =>
  stI m6 71 36 ((nI 4) * v7) x2 fun m8 =>
  gfI m8 52 23 fun v9 =>
  stI m8 71 36 (((nI 4) * v9) + (nI 1)) x3 fun m10 =>
  gfI m10 52 23 fun v11 =>
  stI m10 71 36 (((nI 4) * v11) + (nI 2)) (nI 0) fun m12 =>
  gfI m12 52 23 fun v13 =>
  stI m12 71 36 (((nI 4) * v13) + (nI 3)) (nI 0) fun m14 =>
  gfI m14 52 23 fun v15 =>
  pfI m14 52 23 (v15 + (nI 1)) fun m16 =>
  some m16
set_option maxHeartbeats 4000000 in
theorem t134_0 {X : ai_X} {d w : Nat} (hX : X[1]? = some (39, ai_sh)) (hd : 0 ≤ d) (hw : 0 ≤ w) (x1 : Int32) (x2 : Int32) (x3 : Int32) (x4 : Int32) (m : fm) (Q : Option Value → fm → Prop) (h : ob (g134 x1 x2 x3 x4 m) (fun z : fm => Q none z)) : fT X d w ai_r134 0 [some (.ref 52), some (.int x1), some (.int x2), some (.int x3), some (.int x4)] [] m Q := by
  unfold g134 at h
  refine fT_ss 1 (pc' := 1) (L' := [some (.ref 52), some (.int x1), some (.int x2), some (.int x3), some (.int x4)]) (st' := [.ref 52]) rfl ?_
  refine fT_gr (q := 68) rfl rfl rfl ?_
  refine fT_ss 1 (pc' := 5) (L' := [some (.ref 52), some (.int x1), some (.int x2), some (.int x3), some (.int x4)]) (st' := [.ref 52, .ref 68]) rfl ?_
  refine fO_gi rfl rfl rfl h (fun v1 h => ?_)
  refine fT_ss 1 (pc' := 9) (L' := [some (.ref 52), some (.int x1), some (.int x2), some (.int x3), some (.int x4)]) (st' := [.int x1, .int v1, .ref 68]) rfl ?_
  refine fO_is rfl rfl h (fun m2 h => ?_)
  refine fT_ss 1 (pc' := 11) (L' := [some (.ref 52), some (.int x1), some (.int x2), some (.int x3), some (.int x4)]) (st' := [.ref 52]) rfl ?_
  refine fT_gr (q := 69) rfl rfl rfl ?_
  refine fT_ss 1 (pc' := 15) (L' := [some (.ref 52), some (.int x1), some (.int x2), some (.int x3), some (.int x4)]) (st' := [.ref 52, .ref 69]) rfl ?_
  refine fO_gi rfl rfl rfl h (fun v3 h => ?_)
  refine fT_ss 1 (pc' := 19) (L' := [some (.ref 52), some (.int x1), some (.int x2), some (.int x3), some (.int x4)]) (st' := [.int (nI 0), .int v3, .ref 69]) rfl ?_
  refine fO_is rfl rfl h (fun m4 h => ?_)
  refine fT_ss 1 (pc' := 21) (L' := [some (.ref 52), some (.int x1), some (.int x2), some (.int x3), some (.int x4)]) (st' := [.ref 52]) rfl ?_
  refine fT_gr (q := 70) rfl rfl rfl ?_
  refine fT_ss 1 (pc' := 25) (L' := [some (.ref 52), some (.int x1), some (.int x2), some (.int x3), some (.int x4)]) (st' := [.ref 52, .ref 70]) rfl ?_
  refine fO_gi rfl rfl rfl h (fun v5 h => ?_)
  refine fT_ss 1 (pc' := 30) (L' := [some (.ref 52), some (.int x1), some (.int x2), some (.int x3), some (.int x4)]) (st' := [.int x4, .int v5, .ref 70]) rfl ?_
  refine fO_is rfl rfl h (fun m6 h => ?_)
  refine fT_ss 1 (pc' := 32) (L' := [some (.ref 52), some (.int x1), some (.int x2), some (.int x3), some (.int x4)]) (st' := [.ref 52]) rfl ?_
  refine fT_gr (q := 71) rfl rfl rfl ?_
  refine fT_ss 2 (pc' := 37) (L' := [some (.ref 52), some (.int x1), some (.int x2), some (.int x3), some (.int x4)]) (st' := [.ref 52, .int (nI 4), .ref 71]) rfl ?_
  refine fO_gi rfl rfl rfl h (fun v7 h => ?_)
  refine fT_ss 2 (pc' := 42) (L' := [some (.ref 52), some (.int x1), some (.int x2), some (.int x3), some (.int x4)]) (st' := [.int x2, .int ((nI 4) * v7), .ref 71]) rfl ?_
  refine fO_is rfl rfl h (fun m8 h => ?_)
  refine fT_ss 1 (pc' := 44) (L' := [some (.ref 52), some (.int x1), some (.int x2), some (.int x3), some (.int x4)]) (st' := [.ref 52]) rfl ?_
  refine fT_gr (q := 71) rfl rfl rfl ?_
  refine fT_ss 2 (pc' := 49) (L' := [some (.ref 52), some (.int x1), some (.int x2), some (.int x3), some (.int x4)]) (st' := [.ref 52, .int (nI 4), .ref 71]) rfl ?_
  refine fO_gi rfl rfl rfl h (fun v9 h => ?_)
  refine fT_ss 4 (pc' := 56) (L' := [some (.ref 52), some (.int x1), some (.int x2), some (.int x3), some (.int x4)]) (st' := [.int x3, .int (((nI 4) * v9) + (nI 1)), .ref 71]) rfl ?_
  refine fO_is rfl rfl h (fun m10 h => ?_)
  refine fT_ss 1 (pc' := 58) (L' := [some (.ref 52), some (.int x1), some (.int x2), some (.int x3), some (.int x4)]) (st' := [.ref 52]) rfl ?_
  refine fT_gr (q := 71) rfl rfl rfl ?_
  refine fT_ss 2 (pc' := 63) (L' := [some (.ref 52), some (.int x1), some (.int x2), some (.int x3), some (.int x4)]) (st' := [.ref 52, .int (nI 4), .ref 71]) rfl ?_
  refine fO_gi rfl rfl rfl h (fun v11 h => ?_)
  refine fT_ss 4 (pc' := 70) (L' := [some (.ref 52), some (.int x1), some (.int x2), some (.int x3), some (.int x4)]) (st' := [.int (nI 0), .int (((nI 4) * v11) + (nI 2)), .ref 71]) rfl ?_
  refine fO_is rfl rfl h (fun m12 h => ?_)
  refine fT_ss 1 (pc' := 72) (L' := [some (.ref 52), some (.int x1), some (.int x2), some (.int x3), some (.int x4)]) (st' := [.ref 52]) rfl ?_
  refine fT_gr (q := 71) rfl rfl rfl ?_
  refine fT_ss 2 (pc' := 77) (L' := [some (.ref 52), some (.int x1), some (.int x2), some (.int x3), some (.int x4)]) (st' := [.ref 52, .int (nI 4), .ref 71]) rfl ?_
  refine fO_gi rfl rfl rfl h (fun v13 h => ?_)
  refine fT_ss 4 (pc' := 84) (L' := [some (.ref 52), some (.int x1), some (.int x2), some (.int x3), some (.int x4)]) (st' := [.int (nI 0), .int (((nI 4) * v13) + (nI 3)), .ref 71]) rfl ?_
  refine fO_is rfl rfl h (fun m14 h => ?_)
  refine fT_ss 2 (pc' := 87) (L' := [some (.ref 52), some (.int x1), some (.int x2), some (.int x3), some (.int x4)]) (st' := [.ref 52, .ref 52]) rfl ?_
  refine fO_gi rfl rfl rfl h (fun v15 h => ?_)
  refine fT_ss 2 (pc' := 92) (L' := [some (.ref 52), some (.int x1), some (.int x2), some (.int x3), some (.int x4)]) (st' := [.int (v15 + (nI 1)), .ref 52]) rfl ?_
  refine fO_pi rfl rfl rfl rfl h (fun m16 h => ?_)
  exact fT_r rfl rfl h
