/-! runs without fuel -/
theorem ai_dj_m {X : ai_X} {i : ClassFile.Instr} {a b pc nL : Nat} {L : List (Option Value)} {st : List Value} {M : List va_E} {o : Nat × List Value × List va_E} (h : ai_m X i a b st M = some o) : ai_s i pc nL L st = none := by
  cases i <;> first | rfl | (cases h; done)
theorem ai_dj_ans {X : ai_X} {i : ClassFile.Instr} {a b pc nL : Nat} {ty : Option FieldType} {L : List (Option Value)} {st : List Value} {M : List va_E} {o : Option Value} (h : ai_ans i ty st = some o) : ai_s i pc nL L st = none ∧ ai_m X i a b st M = none := by
  cases i <;> first | exact ⟨rfl, rfl⟩ | (cases h; done)
theorem ai_dj_q {X : ai_X} {i : ClassFile.Instr} {a b pc nL : Nat} {ty : Option FieldType} {L : List (Option Value)} {st : List Value} {M : List va_E} {o : ai_R × List Value × List Value} (h : ai_q i a b st M = some o) : ai_s i pc nL L st = none ∧ ai_m X i a b st M = none ∧ ai_ans i ty st = none := by
  cases i <;> first | exact ⟨rfl, rfl, rfl⟩ | (cases h; done)
theorem ai_dj_z {X : ai_X} {i : ClassFile.Instr} {a b pc nL : Nat} {ty : Option FieldType} {L : List (Option Value)} {st : List Value} {M : List va_E} {o : List Value × List va_E} (h : ai_z i a st M = some o) : ai_s i pc nL L st = none ∧ ai_m X i a b st M = none ∧ ai_ans i ty st = none ∧ ai_q i a b st M = none := by
  cases i <;> first
    | (cases h; done)
    | (refine ⟨rfl, rfl, rfl, ?_⟩
       simp only [ai_z] at h
       split at h
       · next h9 => simp only [ai_q, h9]
       · cases h)
theorem ai_dj_a {X : ai_X} {i : ClassFile.Instr} {a b pc nL : Nat} {ty : Option FieldType} {L : List (Option Value)} {st : List Value} {M : List va_E} {o : Nat × List Value × va_E × Nat} (h : ai_a i a st = some o) : ai_s i pc nL L st = none ∧ ai_m X i a b st M = none ∧ ai_ans i ty st = none ∧ ai_q i a b st M = none ∧ ai_z i a st M = none := by
  cases i <;> first | exact ⟨rfl, rfl, rfl, rfl, rfl⟩ | (cases h; done)
theorem ai_fuel1 (X : ai_X) : ∀ (n d w : Nat) (r : ai_R) (pc : Nat) (L : List (Option Value)) (st : List Value) (M : List va_E) (c s : Nat) (o : Nat × Option Value × List va_E × Nat × Nat), ai_x X n d w r pc L st M c s = some o → ai_x X (n + 1) d w r pc L st M c s = some o := by
  intro n
  induction n with
  | zero => intro d w r pc L st M c s o h; cases h
  | succ n ih =>
    intro d w r pc L st M c s o h
    obtain ⟨i, a, b, bm, hat, hh⟩ := ai_inv h
    unfold ai_x
    rw [hat]
    rcases hh with ⟨pc', L', st', hs, h⟩ | ⟨dp, st', M', hm, h⟩ | ⟨v', hv, h⟩ | ⟨r', As, rest, hq, g1, g2, g3, g4, g5, g6, q, v', M', kc, ks, h1, h2⟩ | ⟨st', M', hz, g1, g2, h⟩ | ⟨dp, st', e, ds, ha, g1, g2, g3, g4, h⟩
    · simp only [hs]
      exact ih _ _ _ _ _ _ _ _ _ _ h
    · simp only [ai_dj_m hm, hm]
      exact ih _ _ _ _ _ _ _ _ _ _ h
    · obtain ⟨d1, d2⟩ := ai_dj_ans (X := X) (a := a) (b := b) (pc := pc) (nL := r.2.2.2.1) (L := ai_mk bm L) (M := M) hv
      simp only [d1, d2, hv]
      rw [h]
    · obtain ⟨d1, d2, d3⟩ := ai_dj_q (X := X) (pc := pc) (nL := r.2.2.2.1) (ty := r.2.2.2.2.1) (L := ai_mk bm L) hq
      have hc : (Nat.blt 0 d && Nat.ble (19 + r'.2.2.2.1) w && Nat.ble (ai_cat rest) 8 && Nat.ble (ai_cat As) r'.2.2.2.1 && (ai_mk bm L).all (ai_kl M.length) && rest.all (ai_k M.length)) = true := by
        simp only [Bool.and_eq_true]
        exact ⟨⟨⟨⟨⟨Nat.ble_eq_true_of_le g1, Nat.ble_eq_true_of_le g2⟩, Nat.ble_eq_true_of_le g3⟩, Nat.ble_eq_true_of_le g4⟩, g5⟩, g6⟩
      simp only [d1, d2, d3, hq, hc, ih _ _ _ _ _ _ _ _ _ _ h1]
      exact ih _ _ _ _ _ _ _ _ _ _ h2
    · obtain ⟨d1, d2, d3, d4⟩ := ai_dj_z (X := X) (b := b) (pc := pc) (nL := r.2.2.2.1) (ty := r.2.2.2.2.1) (L := ai_mk bm L) hz
      have hc : (Nat.blt 0 d && Nat.ble 32 w) = true := by
        simp only [Bool.and_eq_true]
        exact ⟨Nat.ble_eq_true_of_le g1, Nat.ble_eq_true_of_le g2⟩
      simp only [d1, d2, d3, d4, hz, hc]
      exact ih _ _ _ _ _ _ _ _ _ _ h
    · obtain ⟨d1, d2, d3, d4, d5⟩ := ai_dj_a (X := X) (b := b) (pc := pc) (nL := r.2.2.2.1) (ty := r.2.2.2.2.1) (L := ai_mk bm L) (M := M) ha
      have hc : (Nat.blt M.length ai_B && M.all (ai_ke M.length) && (ai_mk bm L).all (ai_kl M.length) && st'.all (ai_k M.length)) = true := by
        simp only [Bool.and_eq_true]
        exact ⟨⟨⟨Nat.ble_eq_true_of_le g1, g2⟩, g3⟩, g4⟩
      simp only [d1, d2, d3, d4, d5, ha, hc]
      exact ih _ _ _ _ _ _ _ _ _ _ h
theorem ai_fuel {X : ai_X} {n m d w : Nat} {r : ai_R} {pc : Nat} {L : List (Option Value)} {st : List Value} {M : List va_E} {c s : Nat} {o : Nat × Option Value × List va_E × Nat × Nat} (h : ai_x X n d w r pc L st M c s = some o) (hm : n ≤ m) : ai_x X m d w r pc L st M c s = some o := by
  induction hm with
  | refl => exact h
  | step _ ih => exact ai_fuel1 _ _ _ _ _ _ _ _ _ _ _ _ ih
/-- from this state the run comes to an end, with this outcome -/
def ai_T (X : ai_X) (d w : Nat) (r : ai_R) (pc : Nat) (L : List (Option Value)) (st : List Value) (M : List va_E) (c s : Nat) (o : Nat × Option Value × List va_E × Nat × Nat) : Prop := ∃ n, ai_x X n d w r pc L st M c s = some o
section AIT
variable {X : ai_X} {d w : Nat} {r : ai_R} {pc : Nat} {L : List (Option Value)} {st : List Value} {M : List va_E} {c s : Nat} {o : Nat × Option Value × List va_E × Nat × Nat} {i : ClassFile.Instr} {a b : Nat} {bm : List Bool}
theorem ai_Ts (hat : ai_at r pc = some (i, a, b, bm)) {pc' : Nat} {L' : List (Option Value)} {st' : List Value} (hs : ai_s i pc r.2.2.2.1 (ai_mk bm L) st = some (pc', L', st')) (h : ai_T X d w r pc' L' st' M c s o) : ai_T X d w r pc L st M c s o := by
  obtain ⟨n, h⟩ := h
  exact ⟨n + 1, by unfold ai_x; rw [hat]; simp only [hs]; exact h⟩
theorem ai_Tm (hat : ai_at r pc = some (i, a, b, bm)) {dp : Nat} {st' : List Value} {M' : List va_E} (hm : ai_m X i a b st M = some (dp, st', M')) (h : ai_T X d w r (pc + dp) (ai_mk bm L) st' M' c s o) : ai_T X d w r pc L st M c s o := by
  obtain ⟨n, h⟩ := h
  exact ⟨n + 1, by unfold ai_x; rw [hat]; simp only [ai_dj_m hm, hm]; exact h⟩
theorem ai_Tr (hat : ai_at r pc = some (i, a, b, bm)) {v : Option Value} (hv : ai_ans i r.2.2.2.2.1 st = some v) : ai_T X d w r pc L st M c s (pc, v, M, c, s) := by
  obtain ⟨d1, d2⟩ := ai_dj_ans (X := X) (a := a) (b := b) (pc := pc) (nL := r.2.2.2.1) (L := ai_mk bm L) (M := M) hv
  exact ⟨1, by unfold ai_x; rw [hat]; simp only [d1, d2, hv]⟩
theorem ai_Tq (hat : ai_at r pc = some (i, a, b, bm)) {r' : ai_R} {As rest : List Value} (hq : ai_q i a b st M = some (r', As, rest)) (g1 : 0 < d) (g2 : 19 + r'.2.2.2.1 ≤ w) (g3 : ai_cat rest ≤ 8) (g4 : ai_cat As ≤ r'.2.2.2.1) (g5 : (ai_mk bm L).all (ai_kl M.length) = true) (g6 : rest.all (ai_k M.length) = true) {q : Nat} {v : Option Value} {M' : List va_E} {kc ks : Nat} (h1 : ai_T X (d - 1) (w - (19 + r'.2.2.2.1)) r' 0 (ai_en r'.2.2.2.1 As) [] M 0 0 (q, v, M', kc, ks)) (h2 : ai_T X d w r (pc + 3) (ai_mk bm L) (v.toList ++ rest) M' (c + kc) (s + ks) o) : ai_T X d w r pc L st M c s o := by
  obtain ⟨n1, h1⟩ := h1
  obtain ⟨n2, h2⟩ := h2
  have h1 := ai_fuel h1 (Nat.le_max_left n1 n2)
  have h2 := ai_fuel h2 (Nat.le_max_right n1 n2)
  obtain ⟨d1, d2, d3⟩ := ai_dj_q (X := X) (pc := pc) (nL := r.2.2.2.1) (ty := r.2.2.2.2.1) (L := ai_mk bm L) hq
  have hc : (Nat.blt 0 d && Nat.ble (19 + r'.2.2.2.1) w && Nat.ble (ai_cat rest) 8 && Nat.ble (ai_cat As) r'.2.2.2.1 && (ai_mk bm L).all (ai_kl M.length) && rest.all (ai_k M.length)) = true := by
    simp only [Bool.and_eq_true]
    exact ⟨⟨⟨⟨⟨Nat.ble_eq_true_of_le g1, Nat.ble_eq_true_of_le g2⟩, Nat.ble_eq_true_of_le g3⟩, Nat.ble_eq_true_of_le g4⟩, g5⟩, g6⟩
  exact ⟨max n1 n2 + 1, by unfold ai_x; rw [hat]; simp only [d1, d2, d3, hq, hc, h1]; exact h2⟩
theorem ai_Tz (hat : ai_at r pc = some (i, a, b, bm)) {st' : List Value} {M' : List va_E} (hz : ai_z i a st M = some (st', M')) (g1 : 0 < d) (g2 : 32 ≤ w) (h : ai_T X d w r (pc + 3) (ai_mk bm L) st' M' c s o) : ai_T X d w r pc L st M c s o := by
  obtain ⟨n, h⟩ := h
  obtain ⟨d1, d2, d3, d4⟩ := ai_dj_z (X := X) (b := b) (pc := pc) (nL := r.2.2.2.1) (ty := r.2.2.2.2.1) (L := ai_mk bm L) hz
  have hc : (Nat.blt 0 d && Nat.ble 32 w) = true := by
    simp only [Bool.and_eq_true]
    exact ⟨Nat.ble_eq_true_of_le g1, Nat.ble_eq_true_of_le g2⟩
  exact ⟨n + 1, by unfold ai_x; rw [hat]; simp only [d1, d2, d3, d4, hz, hc]; exact h⟩
theorem ai_Ta (hat : ai_at r pc = some (i, a, b, bm)) {dp ds : Nat} {st' : List Value} {e : va_E} (ha : ai_a i a st = some (dp, st', e, ds)) (g1 : M.length < ai_B) (g2 : M.all (ai_ke M.length) = true) (g3 : (ai_mk bm L).all (ai_kl M.length) = true) (g4 : st'.all (ai_k M.length) = true) (h : ai_T X d w r (pc + dp) (ai_mk bm L) (.ref M.length :: st') (M ++ [e]) (c + 1) (s + ds) o) : ai_T X d w r pc L st M c s o := by
  obtain ⟨n, h⟩ := h
  obtain ⟨d1, d2, d3, d4, d5⟩ := ai_dj_a (X := X) (b := b) (pc := pc) (nL := r.2.2.2.1) (ty := r.2.2.2.2.1) (L := ai_mk bm L) (M := M) ha
  have hc : (Nat.blt M.length ai_B && M.all (ai_ke M.length) && (ai_mk bm L).all (ai_kl M.length) && st'.all (ai_k M.length)) = true := by
    simp only [Bool.and_eq_true]
    exact ⟨⟨⟨Nat.ble_eq_true_of_le g1, g2⟩, g3⟩, g4⟩
  exact ⟨n + 1, by unfold ai_x; rw [hat]; simp only [d1, d2, d3, d4, d5, ha, hc]; exact h⟩
end AIT
