/-- low ≤ x ≤ high, as the reference asks it -/
def inb (x lo hi : Int32) : Bool := !(ai_c .lt x lo) && !(ai_c .gt x hi)
theorem inb_8 (x : Int32) : inb x 0 7 = in8 x := by
  have e : ai_c .gt x 7 = ai_c .ge x 8 := by
    show decide (7 < x) = decide (8 ≤ x)
    apply decide_eq_decide.mpr
    rw [Int32.lt_iff_toInt_lt, Int32.le_iff_toInt_le]
    have e7 : (7 : Int32).toInt = 7 := rfl
    have e8 : (8 : Int32).toInt = 8 := rfl
    omega
  unfold inb in8
  rw [e]
theorem inb_4 (x : Int32) : inb x 0 3 = in4 x := by
  have e : ai_c .gt x 3 = ai_c .ge x 4 := by
    show decide (3 < x) = decide (4 ≤ x)
    apply decide_eq_decide.mpr
    rw [Int32.lt_iff_toInt_lt, Int32.le_iff_toInt_le]
    have e7 : (3 : Int32).toInt = 3 := rfl
    have e8 : (4 : Int32).toInt = 4 := rfl
    omega
  unfold inb in4
  rw [e]
section SP3
variable {X : ai_X} {d w : Nat} {m : fm}
theorem s95 (x lo hi : Int32) : fT X d w ai_r95 0 [some (.int x), some (.int lo), some (.int hi)] [] m (fun v m1 => v = some (bz (inb x lo hi)) ∧ m1 = m) := by
  iterate 2 refine fT_s rfl rfl ?_
  refine fT_ic (t := 14) rfl rfl (fun h1 => ?_) (fun h1 => ?_)
  · refine fT_s rfl rfl ?_
    refine fT_r rfl rfl ?_
    exact ⟨by simp only [inb, h1]; rfl, rfl⟩
  · iterate 2 refine fT_s rfl rfl ?_
    refine fT_ic (t := 14) rfl rfl (fun h2 => ?_) (fun h2 => ?_)
    · refine fT_s rfl rfl ?_
      refine fT_r rfl rfl ?_
      exact ⟨by simp only [inb, h1, h2]; rfl, rfl⟩
    · iterate 2 refine fT_s rfl rfl ?_
      refine fT_r rfl rfl ?_
      exact ⟨by simp only [inb, h1, h2]; rfl, rfl⟩
theorem s96 (x : Int32) (hd : 1 ≤ d) (hw : 22 ≤ w) : fT X d w ai_r96 0 [some (.int x)] [] m (fun v m1 => v = some (bz (in8 x)) ∧ m1 = m) := by
  iterate 3 refine fT_s rfl rfl ?_
  refine fT_qs (r' := ai_r95) (As := [.int x, .int 0, .int 7]) (rest := []) rfl rfl rfl rfl rfl rfl (by omega) (show 19 + 3 ≤ w from hw) (Nat.le_of_ble_eq_true rfl) (Nat.le_of_ble_eq_true rfl) rfl rfl (s95 x 0 7) (fun v m1 hq => ?_)
  obtain ⟨rfl, rfl⟩ := hq
  rw [inb_8]
  cases in8 x <;> (refine fT_r rfl rfl ?_; exact ⟨rfl, rfl⟩)
theorem s97 (x : Int32) (hd : 1 ≤ d) (hw : 22 ≤ w) : fT X d w ai_r97 0 [some (.int x)] [] m (fun v m1 => v = some (bz (in4 x)) ∧ m1 = m) := by
  iterate 3 refine fT_s rfl rfl ?_
  refine fT_qs (r' := ai_r95) (As := [.int x, .int 0, .int 3]) (rest := []) rfl rfl rfl rfl rfl rfl (by omega) (show 19 + 3 ≤ w from hw) (Nat.le_of_ble_eq_true rfl) (Nat.le_of_ble_eq_true rfl) rfl rfl (s95 x 0 3) (fun v m1 hq => ?_)
  obtain ⟨rfl, rfl⟩ := hq
  rw [inb_4]
  cases in4 x <;> (refine fT_r rfl rfl ?_; exact ⟨rfl, rfl⟩)
theorem s98 (a b c : Int32) : fT X d w ai_r98 0 [some (.int a), some (.int b), some (.int c)] [] m (fun v m1 => v = some (.int (24 * (8 * a + b) + c)) ∧ m1 = m) := by
  iterate 9 refine fT_s rfl rfl ?_
  refine fT_r rfl rfl ?_
  exact ⟨rfl, rfl⟩
theorem in8_16 {x : Int32} (h : in8 x = true) : ai_in x 16 = true := by
  have h1 := ai_inI (in8_in h)
  unfold vp_in at h1
  unfold ai_in
  simp only [not_or, Nat.not_le] at h1
  simp only [Bool.not_eq_true', Bool.or_eq_false_iff, decide_eq_false_iff_not]
  exact ⟨h1.1, by omega⟩
/-- the reference's cut -/
theorem s104 (x : Int32) (hd : 2 ≤ d) (hw : 42 ≤ w) : fT X d w ai_r104 0 [some (.ref 52), some (.int x), none] [] m (fun v m1 => (in8 x = false ∧ v = some (.int (-101)) ∧ m1 = m) ∨ (in8 x = true ∧ v = some (.int (m.1 57 x.toNatClampNeg)) ∧ m1 = fs1 m 57 x.toNatClampNeg 0)) := by
  refine fT_s rfl rfl ?_
  refine fT_qs (r' := ai_r96) (As := [.int x]) (rest := []) rfl rfl rfl rfl rfl rfl (by omega) (show 19 + 1 ≤ w by omega) (Nat.le_of_ble_eq_true rfl) (Nat.le_of_ble_eq_true rfl) rfl rfl (s96 x (by omega) (show 22 ≤ w - (19 + 1) by omega)) (fun v m1 hq => ?_)
  obtain ⟨rfl, rfl⟩ := hq
  cases hi : in8 x with
  | false =>
    iterate 2 refine fT_s rfl rfl ?_
    refine fT_r rfl rfl ?_
    exact Or.inl ⟨rfl, rfl, rfl⟩
  | true =>
    have hx := in8_16 hi
    iterate 2 refine fT_s rfl rfl ?_
    refine fT_gr rfl rfl rfl ?_
    refine fT_s rfl rfl ?_
    refine fT_ia rfl rfl rfl hx ?_
    iterate 2 refine fT_s rfl rfl ?_
    refine fT_gr rfl rfl rfl ?_
    iterate 2 refine fT_s rfl rfl ?_
    refine fT_is rfl rfl hx ?_
    refine fT_s rfl rfl ?_
    refine fT_r rfl rfl ?_
    exact Or.inr ⟨rfl, rfl, rfl⟩
/-- root: x the member, o the wish (0 or 1) -/
theorem s70 (x o : Int32) (hd : 1 ≤ d) (hw : 20 ≤ w) : fT X d w ai_r70 0 [some (.ref 0), some (.int x), some (.int o), none] [] m (fun v m1 => (in8 x = false ∧ v = some (.int (-101)) ∧ m1 = m) ∨ (in8 x = true ∧ v = some (bz (ai_c .ne (m.1 3 x.toNatClampNeg) o)) ∧ m1 = fs1 m 3 x.toNatClampNeg (vp_nar .boolean o))) := by
  refine fT_s rfl rfl ?_
  refine fT_qs (r' := ai_r87) (As := [.int x]) (rest := []) rfl rfl rfl rfl rfl rfl (by omega) (show 19 + 1 ≤ w by omega) (Nat.le_of_ble_eq_true rfl) (Nat.le_of_ble_eq_true rfl) rfl rfl (s87 x) (fun v m1 hq => ?_)
  obtain ⟨rfl, rfl⟩ := hq
  cases hi : in8 x with
  | false =>
    iterate 2 refine fT_s rfl rfl ?_
    refine fT_r rfl rfl ?_
    exact Or.inl ⟨rfl, rfl, rfl⟩
  | true =>
    have hx := in8_in hi
    iterate 2 refine fT_s rfl rfl ?_
    refine fT_gr rfl rfl rfl ?_
    refine fT_s rfl rfl ?_
    refine fT_ba rfl rfl hx ?_
    iterate 2 refine fT_s rfl rfl ?_
    refine fT_gr rfl rfl rfl ?_
    iterate 2 refine fT_s rfl rfl ?_
    refine fT_bs rfl rfl hx ?_
    iterate 2 refine fT_s rfl rfl ?_
    refine fT_ic (t := 33) rfl rfl (fun h2 => ?_) (fun h2 => ?_)
    · refine fT_s rfl rfl ?_
      refine fT_r rfl rfl ?_
      exact Or.inr ⟨rfl, by rw [h2]; rfl, rfl⟩
    · iterate 2 refine fT_s rfl rfl ?_
      refine fT_r rfl rfl ?_
      exact Or.inr ⟨rfl, by rw [h2]; rfl, rfl⟩
theorem s105 (x o : Int32) (hd : 2 ≤ d) (hw : 42 ≤ w) : fT X d w ai_r105 0 [some (.ref 52), some (.int x), some (.int o), none] [] m (fun v m1 => (in8 x = false ∧ v = some (.int (-101)) ∧ m1 = m) ∨ (in8 x = true ∧ v = some (bz (ai_c .ne (m.1 58 x.toNatClampNeg) o)) ∧ m1 = fs1 m 58 x.toNatClampNeg (vp_nar .boolean o))) := by
  refine fT_s rfl rfl ?_
  refine fT_qs (r' := ai_r96) (As := [.int x]) (rest := []) rfl rfl rfl rfl rfl rfl (by omega) (show 19 + 1 ≤ w by omega) (Nat.le_of_ble_eq_true rfl) (Nat.le_of_ble_eq_true rfl) rfl rfl (s96 x (by omega) (show 22 ≤ w - (19 + 1) by omega)) (fun v m1 hq => ?_)
  obtain ⟨rfl, rfl⟩ := hq
  cases hi : in8 x with
  | false =>
    iterate 2 refine fT_s rfl rfl ?_
    refine fT_r rfl rfl ?_
    exact Or.inl ⟨rfl, rfl, rfl⟩
  | true =>
    have hx := in8_in hi
    iterate 2 refine fT_s rfl rfl ?_
    refine fT_gr rfl rfl rfl ?_
    refine fT_s rfl rfl ?_
    refine fT_ba rfl rfl hx ?_
    refine fT_s rfl rfl ?_
    refine fT_ic (t := 24) rfl rfl (fun h2 => ?_) (fun h2 => ?_)
    · iterate 3 refine fT_s rfl rfl ?_
      refine fT_gr rfl rfl rfl ?_
      iterate 2 refine fT_s rfl rfl ?_
      refine fT_bs rfl rfl hx ?_
      refine fT_s rfl rfl ?_
      refine fT_r rfl rfl ?_
      exact Or.inr ⟨rfl, by rw [h2]; rfl, rfl⟩
    · iterate 4 refine fT_s rfl rfl ?_
      refine fT_gr rfl rfl rfl ?_
      iterate 2 refine fT_s rfl rfl ?_
      refine fT_bs rfl rfl hx ?_
      refine fT_s rfl rfl ?_
      refine fT_r rfl rfl ?_
      exact Or.inr ⟨rfl, by rw [h2]; rfl, rfl⟩
end SP3
