def bz (b : Bool) : Value := match b with
  | true => .int 1
  | false => .int 0
def in8 (x : Int32) : Bool := !(ai_c .lt x 0) && !(ai_c .ge x 8)
def in4 (x : Int32) : Bool := !(ai_c .lt x 0) && !(ai_c .ge x 4)
section SP
variable {X : ai_X} {d w : Nat} {m : fm}
theorem s87 (x : Int32) : fT X d w ai_r87 0 [some (.int x)] [] m (fun v m1 => v = some (bz (in8 x)) ∧ m1 = m) := by
  refine fT_s rfl rfl ?_
  refine fT_if (t := 14) rfl rfl (fun h1 => ?_) (fun h1 => ?_)
  · refine fT_s rfl rfl ?_
    refine fT_r rfl rfl ?_
    exact ⟨by simp only [in8, h1]; rfl, rfl⟩
  · refine fT_s rfl rfl ?_
    refine fT_s rfl rfl ?_
    refine fT_ic (t := 14) rfl rfl (fun h2 => ?_) (fun h2 => ?_)
    · refine fT_s rfl rfl ?_
      refine fT_r rfl rfl ?_
      exact ⟨by simp only [in8, h1]; rw [show ai_c .ge x 8 = true from h2]; rfl, rfl⟩
    · refine fT_s rfl rfl ?_
      refine fT_s rfl rfl ?_
      refine fT_r rfl rfl ?_
      exact ⟨by simp only [in8, h1]; rw [show ai_c .ge x 8 = false from h2]; rfl, rfl⟩
end SP
/-- k is the address of a Code -/
def isC (k : Nat) : Prop := fl_t[k]? = some (.inr (0, [.ref (k + 1), .int 0])) ∧ fl_t[k + 1]? = some (.inl (0, 96, .inl (fun _ => 0))) ∧ Nat.blt k 72 = true ∧ Nat.blt (k + 1) 72 = true
theorem isC_p : ∀ j, j < 8 → isC (20 + 4 * j)
  | 0, _ => ⟨rfl, rfl, rfl, rfl⟩
  | 1, _ => ⟨rfl, rfl, rfl, rfl⟩
  | 2, _ => ⟨rfl, rfl, rfl, rfl⟩
  | 3, _ => ⟨rfl, rfl, rfl, rfl⟩
  | 4, _ => ⟨rfl, rfl, rfl, rfl⟩
  | 5, _ => ⟨rfl, rfl, rfl, rfl⟩
  | 6, _ => ⟨rfl, rfl, rfl, rfl⟩
  | 7, _ => ⟨rfl, rfl, rfl, rfl⟩
  | j + 8, h => absurd h (by omega)
theorem in8_in {x : Int32} (h : in8 x = true) : ai_in x 8 = true := by
  unfold in8 ai_c at h
  unfold ai_in
  simp only [Bool.and_eq_true, Bool.not_eq_true', decide_eq_false_iff_not, Bool.or_eq_false_iff] at h ⊢
  refine ⟨h.1, ?_⟩
  have h1 := h.1
  have h2 := h.2
  rw [Int32.lt_iff_toInt_lt] at h1
  rw [Int32.le_iff_toInt_le] at h2
  have e0 : (0 : Int32).toInt = 0 := rfl
  have e8 : (8 : Int32).toInt = 8 := rfl
  rw [Int32.toNatClampNeg]
  omega
section SP2
variable {X : ai_X} {d w : Nat} {m : fm}
theorem s8 {k : Nat} (hk : isC k) (x : Int32) : fT X d w ai_r8 0 [some (.ref k), some (.int x), none] [] m (fun v m1 => v = some (.int (m.1 k 1)) ∧ m1 = fs1 m k 1 x) := by
  refine fT_s rfl rfl ?_ -- 0 .aload_n 0
  refine fT_gi rfl hk.1 rfl ?_ -- 1 DeadCode$Code.count
  refine fT_s rfl rfl ?_ -- 4 .istore_n 2
  refine fT_s rfl rfl ?_ -- 5 .aload_n 0
  refine fT_s rfl rfl ?_ -- 6 .iload_n 1
  refine fT_pi rfl hk.1 rfl rfl rfl ?_ -- 7 DeadCode$Code.count
  refine fT_s rfl rfl ?_ -- 10 .iload_n 2
  refine fT_r rfl rfl ?_ -- 11
  exact ⟨rfl, rfl⟩
theorem s7 {k : Nat} (hk : isC k) (hd : 1 ≤ d) (hw : 22 ≤ w) : fT X d w ai_r7 0 [some (.ref k)] [] m (fun v m1 => v = some (.int (m.1 k 1)) ∧ m1 = fs1 m k 1 0) := by
  refine fT_s rfl rfl ?_
  refine fT_s rfl rfl ?_
  refine fT_qv (r' := ai_r8) (rest := []) (As := [.int 0]) rfl rfl rfl rfl hk.1 rfl (by omega) (show 19 + 3 ≤ w from hw) (Nat.le_of_ble_eq_true rfl) (Nat.le_of_ble_eq_true rfl) (by show (Nat.blt k 72 || _) && true = true; rw [hk.2.2.1]; rfl) rfl (s8 hk 0) (fun v m1 hq => ?_)
  obtain ⟨rfl, rfl⟩ := hq
  refine fT_r rfl rfl ?_
  exact ⟨rfl, rfl⟩
/-- cut -/
theorem s69 (x : Int32) (hd : 2 ≤ d) (hw : 42 ≤ w) : fT X d w ai_r69 0 [some (.ref 0), some (.int x)] [] m (fun v m1 => (in8 x = false ∧ v = some (.int (-101)) ∧ m1 = m) ∨ (in8 x = true ∧ v = some (.int (m.1 (20 + 4 * x.toNatClampNeg) 1)) ∧ m1 = fs1 m (20 + 4 * x.toNatClampNeg) 1 0)) := by
  refine fT_s rfl rfl ?_ -- 0 .iload_n 1
  refine fT_qs (r' := ai_r87) (As := [.int x]) (rest := []) rfl rfl rfl rfl rfl rfl (by omega) (show 19 + 1 ≤ w by omega) (Nat.le_of_ble_eq_true rfl) (Nat.le_of_ble_eq_true rfl) rfl rfl (s87 x) (fun v m1 hq => ?_) -- 1 cX5_isMember
  obtain ⟨rfl, rfl⟩ := hq
  cases hi : in8 x with
  | false =>
    refine fT_s rfl rfl ?_ -- 4
    refine fT_s rfl rfl ?_ -- 19 .bipush (-101)
    refine fT_r rfl rfl ?_ -- 21
    exact Or.inl ⟨rfl, rfl, rfl⟩
  | true =>
    have hx := in8_in hi
    have hj : x.toNatClampNeg < 8 := ai_inlt (ai_inI hx)
    have hC := isC_p _ hj
    refine fT_s rfl rfl ?_ -- 4
    refine fT_s rfl rfl ?_ -- 7 .aload_n 0
    refine fT_gr rfl rfl rfl ?_ -- 8 DeadCode.program
    refine fT_s rfl rfl ?_ -- 11 .iload_n 1
    refine fT_aa (q := 20 + 4 * x.toNatClampNeg) rfl rfl hx (if_pos hj) ?_ -- 12
    refine fT_qv (r' := ai_r7) (As := []) (rest := []) rfl rfl rfl rfl hC.1 rfl (by omega) (show 19 + 1 ≤ w by omega) (Nat.le_of_ble_eq_true rfl) (Nat.le_of_ble_eq_true rfl) rfl rfl (s7 hC (by omega) (show 22 ≤ w - (19 + 1) by omega)) (fun v m1 hq => ?_) -- 13 cX0_drop
    obtain ⟨rfl, rfl⟩ := hq
    refine fT_s rfl rfl ?_ -- 16 .goto 5
    refine fT_r rfl rfl ?_ -- 21
    exact Or.inr ⟨rfl, rfl, rfl⟩
end SP2
