section LW
variable {m : fm} {i : Nat}
def Jn (i : Nat) (s : Int32 × fm) : Prop := ∃ mi, s = (nI (6 * i), mi) ∧ INV mi
theorem jn_1 (h : INV m) : Jn (i + 1) (nI (6 * i) + nI 6, m) := ⟨m, by rw [nI_add, show 6 * (i + 1) = 6 * i + 6 by omega], h⟩
theorem ok_go {α : Type} {o : Option (α × fm)} {g : fm → Option (α × fm)} (h : OK o g) : ob (cl2 o fun _ m1 => cl2 (g m1) fun _ m2 => (some (.inl (nI (6 * i) + nI 6, m2)) : Option ((Int32 × fm) ⊕ (Int32 × fm)))) (Sum.elim (Jn (i + 1)) (fun r => r.1 = nI 1)) :=
  ob_2 (ob_m h fun _ hr => ob_2 (ob_m hr fun _ hr' => jn_1 hr'.2))
theorem ok_cm {o : Option (Int32 × fm)} {g : fm → Option (Int32 × fm)} (h : OK o g) : ob (cl2 o fun v m1 => cl2 (g m1) fun v' m2 => bif ai_c .eq v v' then (some (.inl (nI (6 * i) + nI 6, m2)) : Option ((Int32 × fm) ⊕ (Int32 × fm))) else some (.inr (nI 0, m2))) (Sum.elim (Jn (i + 1)) (fun r => r.1 = nI 1)) :=
  ob_2 (ob_m h fun r hr => ob_2 (ob_m hr fun r' hr' => by
    show ob (bif ai_c .eq r.1 r'.1 then _ else _) _
    rw [hr'.1, dx_ceq, decide_eq_true rfl, cond_true]
    exact jn_1 hr'.2))
theorem ok_cl {o : Option (Int64 × fm)} {g : fm → Option (Int64 × fm)} (h : OK o g) : ob (cl2 o fun v m1 => cl2 (g m1) fun v' m2 => bif ai_c .eq (lg_cmp v v') 0 then (some (.inl (nI (6 * i) + nI 6, m2)) : Option ((Int32 × fm) ⊕ (Int32 × fm))) else some (.inr (nI 0, m2))) (Sum.elim (Jn (i + 1)) (fun r => r.1 = nI 1)) :=
  ob_2 (ob_m h fun r hr => ob_2 (ob_m hr fun r' hr' => by
    show ob (bif ai_c .eq (lg_cmp r.1 r'.1) 0 then _ else _) _
    rw [hr'.1, dx_leq, decide_eq_true rfl, cond_true]
    exact jn_1 hr'.2))
theorem ok_pt {α : Type} {o : Option (α × fm)} {g : fm → Option (α × fm)} (h : ob o (fun r => ob (g r.2) (fun r' => INV r'.2))) : ob (cl2 o fun _ m1 => cl2 (g m1) fun _ m2 => (some (.inl (nI (6 * i) + nI 6, m2)) : Option ((Int32 × fm) ⊕ (Int32 × fm)))) (Sum.elim (Jn (i + 1)) (fun r => r.1 = nI 1)) :=
  ob_2 (ob_m h fun _ hr => ob_2 (ob_m hr fun _ hr' => jn_1 hr'))
theorem ok_any {N : Nat} (hN : N < 6) : ai_c .gt (nI 0) (nI N - nI 6) = true := by
  have : ∀ N, N < 6 → ai_c .gt (nI 0) (nI N - nI 6) = true := by decide +kernel
  exact this N hN
set_option maxHeartbeats 4000000 in
theorem law_b {N : Nat} (hN : N ≤ 3072) (xs : Nat → Int32) (h6 : 6 * i + 6 ≤ N) (h : INV m) : ob (s143_18 N xs (nI (6 * i)) m) (Sum.elim (Jn (i + 1)) (fun r => r.1 = nI 1)) := by
  unfold s143_18
  have l0 : ∀ {f : Int32 → Option ((Int32 × fm) ⊕ (Int32 × fm))}, ldX N xs (nI (6 * i)) f = f (xs (6 * i)) := dx_ldX (by omega) (by omega)
  have l1 : ∀ {f : Int32 → Option ((Int32 × fm) ⊕ (Int32 × fm))}, ldX N xs (nI (6 * i) + nI 1) f = f (xs (6 * i + 1)) := by rw [nI_add]; exact dx_ldX (by omega) (by omega)
  have l2 : ∀ {f : Int32 → Option ((Int32 × fm) ⊕ (Int32 × fm))}, ldX N xs (nI (6 * i) + nI 2) f = f (xs (6 * i + 2)) := by rw [nI_add]; exact dx_ldX (by omega) (by omega)
  have l3 : ∀ {f : Int32 → Option ((Int32 × fm) ⊕ (Int32 × fm))}, ldX N xs (nI (6 * i) + nI 3) f = f (xs (6 * i + 3)) := by rw [nI_add]; exact dx_ldX (by omega) (by omega)
  have l4 : ∀ {f : Int32 → Option ((Int32 × fm) ⊕ (Int32 × fm))}, ldX N xs (nI (6 * i) + nI 4) f = f (xs (6 * i + 4)) := by rw [nI_add]; exact dx_ldX (by omega) (by omega)
  have l5 : ∀ {f : Int32 → Option ((Int32 × fm) ⊕ (Int32 × fm))}, ldX N xs (nI (6 * i) + nI 5) f = f (xs (6 * i + 5)) := by rw [nI_add]; exact dx_ldX (by omega) (by omega)
  rw [dx_sub (by omega), dx_gt (by omega) (by omega), decide_eq_false (by omega), cond_false, l0]
  unfold vl
  simp only [l1, l2, l3, l4, l5]
  generalize xs (6 * i) &&& nI 15 = v
  by_cases e0 : v = nI 0
  · rw [decide_eq_true e0, cond_true]
    first | exact ok_go (op_put h _ _ _ _ _) | exact ok_cm (op_put h _ _ _ _ _)
  rw [decide_eq_false e0, cond_false]
  by_cases e1 : v = nI 1
  · rw [decide_eq_true e1, cond_true]
    first | exact ok_go (op_cut h _) | exact ok_cm (op_cut h _)
  rw [decide_eq_false e1, cond_false]
  by_cases e2 : v = nI 2
  · rw [decide_eq_true e2, cond_true]
    unfold g143_217 g143_240 
    simp only [l1, l2]
    cases ai_c .eq (xs (6 * i + 2)) 0
    · first | exact ok_go (op_root h _ true) | exact ok_cm (op_root h _ true)
    · first | exact ok_go (op_root h _ false) | exact ok_cm (op_root h _ false)
  rw [decide_eq_false e2, cond_false]
  by_cases e3 : v = nI 3
  · rw [decide_eq_true e3, cond_true]
    first | exact ok_go (op_trial h) | exact ok_cm (op_trial h)
  rw [decide_eq_false e3, cond_false]
  by_cases e4 : v = nI 4
  · rw [decide_eq_true e4, cond_true]
    first | exact ok_go (op_run h _ _ _ _) | exact ok_cm (op_run h _ _ _ _) | exact ok_cl (op_run h _ _ _ _)
  rw [decide_eq_false e4, cond_false]
  by_cases e5 : v = nI 5
  · rw [decide_eq_true e5, cond_true]
    first | exact ok_go (op_told h _) | exact ok_cm (op_told h _) | exact ok_cl (op_told h _)
  rw [decide_eq_false e5, cond_false]
  by_cases e6 : v = nI 6
  · rw [decide_eq_true e6, cond_true]
    first | exact ok_go (op_said h _) | exact ok_cm (op_said h _) | exact ok_cl (op_said h _)
  rw [decide_eq_false e6, cond_false]
  by_cases e7 : v = nI 7
  · rw [decide_eq_true e7, cond_true]
    first | exact ok_go (op_marks h _ _) | exact ok_cm (op_marks h _ _)
  rw [decide_eq_false e7, cond_false]
  by_cases e8 : v = nI 8
  · rw [decide_eq_true e8, cond_true]
    first | exact ok_go (op_known h _ _ _) | exact ok_cm (op_known h _ _ _) | exact ok_cl (op_known h _ _ _)
  rw [decide_eq_false e8, cond_false]
  by_cases e9 : v = nI 9
  · rw [decide_eq_true e9, cond_true]
    first | exact ok_go (op_read h _ _ _) | exact ok_cm (op_read h _ _ _)
  rw [decide_eq_false e9, cond_false]
  by_cases e10 : v = nI 10
  · rw [decide_eq_true e10, cond_true]
    first | exact ok_go (op_used h _) | exact ok_cm (op_used h _)
  rw [decide_eq_false e10, cond_false]
  by_cases e11 : v = nI 11
  · rw [decide_eq_true e11, cond_true]
    first | exact ok_go (op_field h _) | exact ok_cm (op_field h _)
  rw [decide_eq_false e11, cond_false]
  by_cases e12 : v = nI 12
  · rw [decide_eq_true e12, cond_true]
    first | exact ok_go (op_doubled h _) | exact ok_cm (op_doubled h _)
  rw [decide_eq_false e12, cond_false]
  by_cases e13 : v = nI 13
  · rw [decide_eq_true e13, cond_true]
    first | exact ok_go (op_size h _ _) | exact ok_cm (op_size h _ _)
  rw [decide_eq_false e13, cond_false]
  by_cases e14 : v = nI 14
  · rw [decide_eq_true e14, cond_true]
    exact ok_pt (op_part h _ _ _ _)
  rw [decide_eq_false e14, cond_false]
  by_cases e15 : v = nI 15
  · rw [decide_eq_true e15, cond_true]
    first | exact ok_go (op_clear h) | exact ok_cm (op_clear h)
  rw [decide_eq_false e15, cond_false]
  exact jn_1 h
theorem law_s {N : Nat} (hN : N ≤ 3072) (xs : Nat → Int32) (h : INV m) : ob (g143 N xs m) (fun r => r.1 = nI 1) := by
  unfold g143 g143_18
  refine wl_c (f := fun s : Int32 × fm => s143_18 N xs s.1 s.2) Jn (N / 6) (by omega) (nI 0, m) ⟨m, rfl, h⟩ (fun i s hi hs => ?_) (fun s hs => ?_)
  · obtain ⟨mi, rfl, hI⟩ := hs
    exact law_b hN xs (by omega) hI
  · obtain ⟨mi, rfl, hI⟩ := hs
    show ob (s143_18 N xs (nI (6 * (N / 6))) mi) _
    unfold s143_18
    have hg : ai_c .gt (nI (6 * (N / 6))) (nI N - nI 6) = true := by
      by_cases h6 : N < 6
      · rw [show N / 6 = 0 by omega]
        exact ok_any h6
      · rw [dx_sub (by omega), dx_gt (by omega) (by omega)]
        exact decide_eq_true (by omega)
    rw [hg, cond_true]
    rfl
end LW
