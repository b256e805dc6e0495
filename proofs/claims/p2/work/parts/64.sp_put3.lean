section SP6
variable {X : ai_X} {d w : Nat} {m : fm}
theorem s5 (hX : X[1]? = some (39, ai_sh)) {c p k : Nat} (hc : isC c) (hp : p < 24) (hk : k < 13) (hcnt : m.1 c 1 = nI p) (a b e : Int32) (hd : 2 ≤ d) (hw : 47 ≤ w) : fT X d w ai_r5 0 [some (.ref c), some (.int (nI k)), some (.int a), some (.int b), some (.int e), none] [] m (fun v m1 => v = some (.int (nI p)) ∧ m1 = wri (fs1 m c 1 (nI (p + 1))) (c + 1) p k a b e) := by
  refine fT_s rfl rfl ?_
  refine fT_gi rfl hc.1 rfl ?_
  rw [hcnt]
  iterate 3 refine fT_s rfl rfl ?_
  refine fT_gi rfl hc.1 rfl ?_
  rw [hcnt]
  iterate 2 refine fT_s rfl rfl ?_
  refine fT_pi (y := nI p + 1) rfl hc.1 rfl rfl rfl ?_
  rw [nI_1]
  iterate 6 refine fT_s rfl rfl ?_
  refine fT_qv (r' := ai_r6) (As := [.int (nI p), .int (nI k), .int a, .int b, .int e]) (rest := []) rfl rfl rfl rfl hc.1 rfl (by omega) (show 19 + 7 ≤ w by omega) (Nat.le_of_ble_eq_true rfl) (Nat.le_of_ble_eq_true rfl) (by show ((Nat.blt c 72 || _) && true) = true; rw [hc.2.2.1]; rfl) rfl (s6 hX hc hp hk a b e (by omega) (show 21 ≤ w - (19 + 7) by omega)) (fun v m1 hq => ?_)
  obtain ⟨rfl, rfl⟩ := hq
  refine fT_s rfl rfl ?_
  refine fT_r rfl rfl ?_
  exact ⟨rfl, rfl⟩
end SP6
