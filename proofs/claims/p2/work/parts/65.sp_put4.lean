theorem ful {p : Nat} (hp : p ≤ 24) : ai_c .lt (nI p) 24 = decide (p < 24) := by
  show decide (nI p < 24) = decide (p < 24)
  apply decide_eq_decide.mpr
  rw [show (24 : Int32) = nI 24 from rfl]
  exact nI_ltI (by omega) (by omega)
theorem in8_nI {j : Nat} (hj : j < 8) : ai_in (nI j) 8 = true ∧ (nI j).toNatClampNeg = j := by
  refine ⟨?_, nI_clamp (by omega)⟩
  have h5 := vp_in_nI (n := j) (N := 8) hj (by omega)
  unfold vp_in at h5
  unfold ai_in
  simpa using h5
/-- what a put that is let through does: FULL, or the next place -/
def putQ (m : fm) (j k p : Nat) (a b e : Int32) (v : Option Value) (m1 : fm) : Prop := (p = 24 ∧ v = some (.int (-104)) ∧ m1 = m) ∨ (p < 24 ∧ v = some (.int (nI p)) ∧ m1 = wri (fs1 m (20 + 4 * j) 1 (nI (p + 1))) (20 + 4 * j + 1) p k a b e)
section SP7
variable {X : ai_X} {d w : Nat} {m : fm}
theorem s68c (hX : X[1]? = some (39, ai_sh)) {j k p : Nat} (hj : j < 8) (hk : k < 13) (hp : p ≤ 24) (hcnt : m.1 (20 + 4 * j) 1 = nI p) (a b e : Int32) (hd : 3 ≤ d) (hw : 72 ≤ w) : fT X d w ai_r68 84 [some (.ref 0), some (.int (nI j)), some (.int (nI k)), some (.int a), some (.int b), some (.int e)] [] m (putQ m j k p a b e) := by
  have hC := isC_p j hj
  obtain ⟨hi, hn⟩ := in8_nI hj
  refine fT_s rfl rfl ?_
  refine fT_gr rfl rfl rfl ?_
  refine fT_s rfl rfl ?_
  refine fT_aa (q := 20 + 4 * j) rfl rfl hi (by rw [hn]; exact if_pos hj) ?_
  refine fT_qv (r' := ai_r3) (As := []) (rest := []) rfl rfl rfl rfl hC.1 rfl (by omega) (show 19 + 1 ≤ w by omega) (Nat.le_of_ble_eq_true rfl) (Nat.le_of_ble_eq_true rfl) rfl rfl (s3 hC) (fun v m1 hq => ?_)
  obtain ⟨rfl, rfl⟩ := hq
  rw [hcnt, ful hp]
  by_cases hf : p < 24
  · rw [decide_eq_true hf]
    iterate 2 refine fT_s rfl rfl ?_
    refine fT_gr rfl rfl rfl ?_
    refine fT_s rfl rfl ?_
    refine fT_aa (q := 20 + 4 * j) rfl rfl hi (by rw [hn]; exact if_pos hj) ?_
    iterate 4 refine fT_s rfl rfl ?_
    refine fT_qv (r' := ai_r5) (As := [.int (nI k), .int a, .int b, .int e]) (rest := []) rfl rfl rfl rfl hC.1 rfl (by omega) (show 19 + 6 ≤ w by omega) (Nat.le_of_ble_eq_true rfl) (Nat.le_of_ble_eq_true rfl) rfl rfl (s5 hX hC hf hk hcnt a b e (by omega) (show 47 ≤ w - (19 + 6) by omega)) (fun v m1 hq => ?_)
    obtain ⟨rfl, rfl⟩ := hq
    refine fT_r rfl rfl ?_
    exact Or.inr ⟨hf, rfl, rfl⟩
  · rw [decide_eq_false hf]
    iterate 2 refine fT_s rfl rfl ?_
    refine fT_r rfl rfl ?_
    exact Or.inl ⟨by omega, rfl, rfl⟩
theorem s68b (hX : X[1]? = some (39, ai_sh)) {j k p : Nat} (hj : j < 8) (hk : k < 13) (hp : p ≤ 24) (hcnt : m.1 (20 + 4 * j) 1 = nI p) (a b e : Int32) (hd : 3 ≤ d) (hw : 72 ≤ w) : fT X d w ai_r68 52 [some (.ref 0), some (.int (nI j)), some (.int (nI k)), some (.int a), some (.int b), some (.int e)] [] m (fun v m1 => ((win (shp k 1) a && win (shp k 2) b && win (shp k 3) e) = false ∧ v = some (.int (-102)) ∧ m1 = m) ∨ ((win (shp k 1) a && win (shp k 2) b && win (shp k 3) e) = true ∧ putQ m j k p a b e v m1)) := by
  iterate 3 refine fT_s rfl rfl ?_
  refine fT_qs (r' := ai_r92) (As := [.int (nI k), .int (nI 1), .int a]) (rest := []) rfl rfl rfl rfl rfl rfl (by omega) (show 19 + 3 ≤ w by omega) (Nat.le_of_ble_eq_true rfl) (Nat.le_of_ble_eq_true rfl) rfl rfl (s92 hX hk (by omega) (by omega) a (by omega) (show 21 ≤ w - (19 + 3) by omega)) (fun v m1 hq => ?_)
  obtain ⟨rfl, rfl⟩ := hq
  cases g1 : win (shp k 1) a with
  | false =>
    iterate 2 refine fT_s rfl rfl ?_
    refine fT_r rfl rfl ?_
    exact Or.inl ⟨rfl, rfl, rfl⟩
  | true =>
    iterate 4 refine fT_s rfl rfl ?_
    refine fT_qs (r' := ai_r92) (As := [.int (nI k), .int (nI 2), .int b]) (rest := []) rfl rfl rfl rfl rfl rfl (by omega) (show 19 + 3 ≤ w by omega) (Nat.le_of_ble_eq_true rfl) (Nat.le_of_ble_eq_true rfl) rfl rfl (s92 hX hk (by omega) (by omega) b (by omega) (show 21 ≤ w - (19 + 3) by omega)) (fun v m1 hq => ?_)
    obtain ⟨rfl, rfl⟩ := hq
    cases g2 : win (shp k 2) b with
    | false =>
      iterate 2 refine fT_s rfl rfl ?_
      refine fT_r rfl rfl ?_
      exact Or.inl ⟨rfl, rfl, rfl⟩
    | true =>
      iterate 4 refine fT_s rfl rfl ?_
      refine fT_qs (r' := ai_r92) (As := [.int (nI k), .int (nI 3), .int e]) (rest := []) rfl rfl rfl rfl rfl rfl (by omega) (show 19 + 3 ≤ w by omega) (Nat.le_of_ble_eq_true rfl) (Nat.le_of_ble_eq_true rfl) rfl rfl (s92 hX hk (by omega) (by omega) e (by omega) (show 21 ≤ w - (19 + 3) by omega)) (fun v m1 hq => ?_)
      obtain ⟨rfl, rfl⟩ := hq
      cases g3 : win (shp k 3) e with
      | false =>
        iterate 2 refine fT_s rfl rfl ?_
        refine fT_r rfl rfl ?_
        exact Or.inl ⟨rfl, rfl, rfl⟩
      | true =>
        refine fT_s rfl rfl ?_
        refine fT_w (s68c hX hj hk hp hcnt a b e hd hw) (fun v m1 hq => ?_)
        exact Or.inr ⟨rfl, hq⟩
end SP7
