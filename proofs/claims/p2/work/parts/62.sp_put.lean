/-- what a kind has as its a, b, c: 0 nothing, 1 a number, 2 a register, 3 a field, 4 a member, 5 a place -/
def shp (k wt : Nat) : Int32 := ai_sh (3 * k + wt - 1)
theorem shp_in : ∀ k, k < 13 → ∀ wt, wt < 4 → 0 < wt → shp k wt = 0 ∨ shp k wt = 1 ∨ shp k wt = 2 ∨ shp k wt = 3 ∨ shp k wt = 4 ∨ shp k wt = 5 := by decide
def thr (s v : Int32) : Bool := match ai_c .eq s 2 || ai_c .eq s 3 with
  | true => in4 v
  | false => (match ai_c .eq s 4 with
    | true => in8 v
    | false => true)
def win (s v : Int32) : Bool := match ai_c .ne s 5 with
  | true => true
  | false => inb v 0 24
section SP4
variable {X : ai_X} {d w : Nat} {m : fm}
theorem s88 (x : Int32) : fT X d w ai_r88 0 [some (.int x)] [] m (fun v m1 => v = some (bz (in4 x)) ∧ m1 = m) := by
  refine fT_s rfl rfl ?_
  refine fT_if (t := 13) rfl rfl (fun h1 => ?_) (fun h1 => ?_)
  · refine fT_s rfl rfl ?_
    refine fT_r rfl rfl ?_
    exact ⟨by simp only [in4, h1]; rfl, rfl⟩
  · iterate 2 refine fT_s rfl rfl ?_
    refine fT_ic (t := 13) rfl rfl (fun h2 => ?_) (fun h2 => ?_)
    · refine fT_s rfl rfl ?_
      refine fT_r rfl rfl ?_
      exact ⟨by simp only [in4, h1]; rw [show ai_c .ge x 4 = true from h2]; rfl, rfl⟩
    · iterate 2 refine fT_s rfl rfl ?_
      refine fT_r rfl rfl ?_
      exact ⟨by simp only [in4, h1]; rw [show ai_c .ge x 4 = false from h2]; rfl, rfl⟩
theorem s89 (x : Int32) : fT X d w ai_r89 0 [some (.int x)] [] m (fun v m1 => v = some (bz (in4 x)) ∧ m1 = m) := by
  refine fT_s rfl rfl ?_
  refine fT_if (t := 13) rfl rfl (fun h1 => ?_) (fun h1 => ?_)
  · refine fT_s rfl rfl ?_
    refine fT_r rfl rfl ?_
    exact ⟨by simp only [in4, h1]; rfl, rfl⟩
  · iterate 2 refine fT_s rfl rfl ?_
    refine fT_ic (t := 13) rfl rfl (fun h2 => ?_) (fun h2 => ?_)
    · refine fT_s rfl rfl ?_
      refine fT_r rfl rfl ?_
      exact ⟨by simp only [in4, h1]; rw [show ai_c .ge x 4 = true from h2]; rfl, rfl⟩
    · iterate 2 refine fT_s rfl rfl ?_
      refine fT_r rfl rfl ?_
      exact ⟨by simp only [in4, h1]; rw [show ai_c .ge x 4 = false from h2]; rfl, rfl⟩
theorem shp_ix {k wt : Nat} (hk : k < 13) (h1 : wt < 4) (h2 : 0 < wt) : nI k * 3 + nI wt - 1 = nI (3 * k + wt - 1) := by
  rw [show (3 : Int32) = nI 3 from rfl, pk_mul, nI_add, show (1 : Int32) = nI 1 from rfl, pk_sub (by omega), show k * 3 + wt - 1 = 3 * k + wt - 1 by omega]
theorem s90 (hX : X[1]? = some (39, ai_sh)) {k wt : Nat} (hk : k < 13) (h1 : wt < 4) (h2 : 0 < wt) : fT X d w ai_r90 0 [some (.int (nI k)), some (.int (nI wt))] [] m (fun v m1 => v = some (.int (shp k wt)) ∧ m1 = m) := by
  refine fT_gs rfl ?_
  iterate 7 refine fT_s rfl rfl ?_
  have e : nI k * 3 + nI wt - 1 = nI (3 * k + wt - 1) := shp_ix hk h1 h2
  have hin : ai_in (nI k * 3 + nI wt - 1) 39 = true := by
    rw [e]
    have h5 := vp_in_nI (n := 3 * k + wt - 1) (N := 39) (by omega) (by omega)
    unfold vp_in at h5
    unfold ai_in
    simpa using h5
  refine fT_sh (n := 39) (f := ai_sh) (j := nI k * 3 + nI wt - 1) rfl (Nat.ble_eq_true_of_le (Nat.le_add_right _ _)) (by rw [Nat.add_sub_cancel_left]; exact hX) hin ?_
  refine fT_r rfl rfl ?_
  refine ⟨?_, rfl⟩
  rw [e, nI_clamp (by omega)]
  rfl
theorem s91 (hX : X[1]? = some (39, ai_sh)) {k wt : Nat} (hk : k < 13) (h1 : wt < 4) (h2 : 0 < wt) (x : Int32) (hd : 1 ≤ d) (hw : 21 ≤ w) : fT X d w ai_r91 0 [some (.int (nI k)), some (.int (nI wt)), some (.int x)] [] m (fun v m1 => v = some (bz (thr (shp k wt) x)) ∧ m1 = m) := by
  iterate 2 refine fT_s rfl rfl ?_
  refine fT_qs (r' := ai_r90) (As := [.int (nI k), .int (nI wt)]) (rest := []) rfl rfl rfl rfl rfl rfl (by omega) (show 19 + 2 ≤ w from hw) (Nat.le_of_ble_eq_true rfl) (Nat.le_of_ble_eq_true rfl) rfl rfl (s90 hX hk h1 h2) (fun v m1 hq => ?_)
  obtain ⟨rfl, rfl⟩ := hq
  rcases shp_in k hk wt h1 h2 with e | e | e | e | e | e <;> rw [e]
  · iterate 2 refine fT_s rfl rfl ?_
    refine fT_r rfl rfl ?_
    exact ⟨rfl, rfl⟩
  · iterate 2 refine fT_s rfl rfl ?_
    refine fT_r rfl rfl ?_
    exact ⟨rfl, rfl⟩
  · iterate 2 refine fT_s rfl rfl ?_
    refine fT_qs (r' := ai_r88) (As := [.int x]) (rest := []) rfl rfl rfl rfl rfl rfl (by omega) (show 19 + 1 ≤ w by omega) (Nat.le_of_ble_eq_true rfl) (Nat.le_of_ble_eq_true rfl) rfl rfl (s88 x) (fun v m1 hq => ?_)
    obtain ⟨rfl, rfl⟩ := hq
    show fT _ _ _ _ _ _ _ _ (fun v m1 => v = some (bz (in4 x)) ∧ m1 = _)
    cases in4 x <;> (refine fT_r rfl rfl ?_; exact ⟨rfl, rfl⟩)
  · iterate 2 refine fT_s rfl rfl ?_
    refine fT_qs (r' := ai_r89) (As := [.int x]) (rest := []) rfl rfl rfl rfl rfl rfl (by omega) (show 19 + 1 ≤ w by omega) (Nat.le_of_ble_eq_true rfl) (Nat.le_of_ble_eq_true rfl) rfl rfl (s89 x) (fun v m1 hq => ?_)
    obtain ⟨rfl, rfl⟩ := hq
    show fT _ _ _ _ _ _ _ _ (fun v m1 => v = some (bz (in4 x)) ∧ m1 = _)
    cases in4 x <;> (refine fT_r rfl rfl ?_; exact ⟨rfl, rfl⟩)
  · iterate 2 refine fT_s rfl rfl ?_
    refine fT_qs (r' := ai_r87) (As := [.int x]) (rest := []) rfl rfl rfl rfl rfl rfl (by omega) (show 19 + 1 ≤ w by omega) (Nat.le_of_ble_eq_true rfl) (Nat.le_of_ble_eq_true rfl) rfl rfl (s87 x) (fun v m1 hq => ?_)
    obtain ⟨rfl, rfl⟩ := hq
    show fT _ _ _ _ _ _ _ _ (fun v m1 => v = some (bz (in8 x)) ∧ m1 = _)
    cases in8 x <;> (refine fT_r rfl rfl ?_; exact ⟨rfl, rfl⟩)
  · iterate 2 refine fT_s rfl rfl ?_
    refine fT_r rfl rfl ?_
    exact ⟨rfl, rfl⟩
end SP4
