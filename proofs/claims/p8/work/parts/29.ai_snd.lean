/-- one step of the interpreter, by its kinds -/
theorem ai_inv {X : ai_X} {n d w : Nat} {r : ai_R} {pc : Nat} {L0 : List (Option Value)} {st : List Value} {M : List va_E} {c s : Nat} {o : Nat × Option Value × List va_E × Nat × Nat} (h : ai_x X (n + 1) d w r pc L0 st M c s = some o) : ∃ i a b bm, ai_at r pc = some (i, a, b, bm) ∧
    ((∃ pc' L' st', ai_s i pc r.2.2.2.1 (ai_mk bm L0) st = some (pc', L', st') ∧ ai_x X n d w r pc' L' st' M c s = some o) ∨
     (∃ dp st' M', ai_m X i a b st M = some (dp, st', M') ∧ ai_x X n d w r (pc + dp) (ai_mk bm L0) st' M' c s = some o) ∨
     (∃ v, ai_ans i r.2.2.2.2.1 st = some v ∧ o = (pc, v, M, c, s)) ∨
     (∃ r' As rest, ai_q i a b st M = some (r', As, rest) ∧ 0 < d ∧ 19 + r'.2.2.2.1 ≤ w ∧ ai_cat rest ≤ 8 ∧ ai_cat As ≤ r'.2.2.2.1 ∧ (ai_mk bm L0).all (ai_kl M.length) = true ∧ rest.all (ai_k M.length) = true ∧ ∃ q v M' kc ks, ai_x X n (d - 1) (w - (19 + r'.2.2.2.1)) r' 0 (ai_en r'.2.2.2.1 As) [] M 0 0 = some (q, v, M', kc, ks) ∧ ai_x X n d w r (pc + 3) (ai_mk bm L0) (v.toList ++ rest) M' (c + kc) (s + ks) = some o) ∨
     (∃ st' M', ai_z i a st M = some (st', M') ∧ 0 < d ∧ 32 ≤ w ∧ ai_x X n d w r (pc + 3) (ai_mk bm L0) st' M' c s = some o) ∨
     (∃ dp st' e ds, ai_a i a st = some (dp, st', e, ds) ∧ M.length < ai_B ∧ M.all (ai_ke M.length) = true ∧ (ai_mk bm L0).all (ai_kl M.length) = true ∧ st'.all (ai_k M.length) = true ∧ ai_x X n d w r (pc + dp) (ai_mk bm L0) (.ref M.length :: st') (M ++ [e]) (c + 1) (s + ds) = some o)) := by
  unfold ai_x at h
  split at h
  · cases h
  · next i a b bm hat =>
    refine ⟨i, a, b, bm, hat, ?_⟩
    split at h
    · next pc' L' st' hs => exact Or.inl ⟨pc', L', st', hs, h⟩
    · split at h
      · next dp st' M' hm => exact Or.inr (Or.inl ⟨dp, st', M', hm, h⟩)
      · split at h
        · next v hv => exact Or.inr (Or.inr (Or.inl ⟨v, hv, (Option.some.inj h).symm⟩))
        · split at h
          · next r' As rest hq =>
            split at h
            · next hc =>
              simp only [Bool.and_eq_true] at hc
              obtain ⟨⟨⟨⟨⟨h1, h2⟩, h3⟩, h4⟩, h5⟩, h6⟩ := hc
              split at h
              · next q v M' kc ks hx => exact Or.inr (Or.inr (Or.inr (Or.inl ⟨r', As, rest, hq, Nat.le_of_ble_eq_true h1, Nat.le_of_ble_eq_true h2, Nat.le_of_ble_eq_true h3, Nat.le_of_ble_eq_true h4, h5, h6, q, v, M', kc, ks, hx, h⟩)))
              · cases h
            · cases h
          · split at h
            · next st' M' hz =>
              split at h
              · next hc =>
                simp only [Bool.and_eq_true] at hc
                exact Or.inr (Or.inr (Or.inr (Or.inr (Or.inl ⟨st', M', hz, Nat.le_of_ble_eq_true hc.1, Nat.le_of_ble_eq_true hc.2, h⟩))))
              · cases h
            · split at h
              · next dp st' e ds ha =>
                split at h
                · next hc =>
                  simp only [Bool.and_eq_true] at hc
                  obtain ⟨⟨⟨h1, h2⟩, h3⟩, h4⟩ := hc
                  exact Or.inr (Or.inr (Or.inr (Or.inr (Or.inr ⟨dp, st', e, ds, ha, Nat.le_of_ble_eq_true h1, h2, h3, h4, h⟩))))
                · cases h
              · cases h
theorem ai_m_len {X : ai_X} {i : ClassFile.Instr} {a b dp : Nat} {st st' : List Value} {M M' : List va_E} (h : ai_m X i a b st M = some (dp, st', M')) : M'.length = M.length := by
  unfold ai_m at h
  repeat' split at h
  all_goals first
    | (cases h; done)
    | (cases h; rfl)
    | (cases h; exact List.length_set)
    | (obtain ⟨v, -, -, -, rfl⟩ := ai_ret3I h; rfl)
theorem ai_z_len {i : ClassFile.Instr} {a : Nat} {st st' : List Value} {M M' : List va_E} (h : ai_z i a st M = some (st', M')) : M'.length = M.length := by
  unfold ai_z at h
  repeat' split at h
  all_goals first
    | (cases h; done)
    | (cases h; rfl)
    | (cases h; exact List.length_set)
theorem ai_mono (X : ai_X) : ∀ (n d w : Nat) (r : ai_R) (pc : Nat) (L : List (Option Value)) (st : List Value) (M : List va_E) (c0 s0 pc1 : Nat) (v : Option Value) (M1 : List va_E) (c1 s1 : Nat), ai_x X n d w r pc L st M c0 s0 = some (pc1, v, M1, c1, s1) → M.length ≤ M1.length ∧ c0 ≤ c1 ∧ s0 ≤ s1 := by
  intro n
  induction n with
  | zero => intro d w r pc L st M c0 s0 pc1 v M1 c1 s1 h; cases h
  | succ n ih =>
    intro d w r pc L st M c0 s0 pc1 v M1 c1 s1 h
    obtain ⟨i, a, b, bm, hat, hh⟩ := ai_inv h
    rcases hh with ⟨pc', L', st', -, h⟩ | ⟨dp, st', M', hm, h⟩ | ⟨v', -, h⟩ | ⟨r', As, rest, hq, -, -, -, -, -, -, q, v', M', kc, ks, h1, h2⟩ | ⟨st', M', hz, -, -, h⟩ | ⟨dp, st', e, ds, -, -, -, -, -, h⟩
    · exact ih _ _ _ _ _ _ _ _ _ _ _ _ _ _ h
    · have := ih _ _ _ _ _ _ _ _ _ _ _ _ _ _ h
      rw [ai_m_len hm] at this
      exact this
    · cases h
      exact ⟨Nat.le_refl _, Nat.le_refl _, Nat.le_refl _⟩
    · have a1 := ih _ _ _ _ _ _ _ _ _ _ _ _ _ _ h1
      have a2 := ih _ _ _ _ _ _ _ _ _ _ _ _ _ _ h2
      exact ⟨by omega, by omega, by omega⟩
    · have := ih _ _ _ _ _ _ _ _ _ _ _ _ _ _ h
      rw [ai_z_len hz] at this
      exact this
    · have := ih _ _ _ _ _ _ _ _ _ _ _ _ _ _ h
      rw [List.length_append] at this
      exact ⟨by have := this.1; simp at this; omega, by omega, by omega⟩
theorem ai_tol (v : Option Value) (ad : Nat → Nat) : (v.map (ai_v ad)).toList = v.toList.map (ai_v ad) := by cases v <;> rfl
theorem ai_ansI {i : ClassFile.Instr} {ty : Option FieldType} {st : List Value} {v : Option Value} (h : ai_ans i ty st = some v) : st = v.toList := by
  unfold ai_ans at h
  repeat' split at h
  all_goals first
    | (cases h; done)
    | (cases h; rfl)
set_option maxHeartbeats 4000000 in
theorem ai_snd (l : Launch) (X : ai_X) : ∀ n, ai_Snd l X n := by
  intro n
  induction n with
  | zero => intro d w r pc L st M c0 s0 pc1 v M1 c1 s1 h; cases h
  | succ n ih =>
    intro d w r pc L st M c0 s0 pc1 v M1 c1 s1 h hr p e s m args below meth c R D ac ad A H locs ls Q C hd hw hc hs Wc hA hP hD hS hl hend
    obtain ⟨i, a, b, bm, hat, hh⟩ := ai_inv h
    have hch := ai_atI hr hat
    have hl' := ai_lmk bm hl
    have hAf : ∀ q, va_A (ai_w ad ac M) H.size q → A q := fun q hq => by
      rcases hq with ⟨k, e', hk⟩ | hk
      · exact hD.2 k (q, e') hk
      · exact hA q (Nat.le_trans hS.1 hk)
    rcases hh with ⟨pc', L', st', hst, h⟩ | ⟨dp, st', M', hm, h⟩ | ⟨v', hv, h⟩ | ⟨r', As, rest, hq, hd0, hw0, hre, hca, hk1, hk2, q, v', M', kc, ks, h1, h2⟩ | ⟨st', M', hz, hd0, hw0, h⟩ | ⟨dp, st', e0, ds, ha, hB, hMk, hk1, hk2, h⟩
    · obtain ⟨len, hdec, hlen⟩ := ai_decI hch.1
      exact ai_s_ok C.1 C.2.1 hst hdec hlen hl' (fun ls' hl2 => ih _ _ _ _ _ _ _ _ _ _ _ _ _ _ h hr p e s m args below meth c R D ac ad A H locs ls' Q C hd hw hc hs Wc hA hP hD hS hl2 hend)
    · refine ai_m_ok C hch Wc hP hD hS hm (fun H' locs' a1 a2 a3 => ih _ _ _ _ _ _ _ _ _ _ _ _ _ _ h hr p e s m args below meth c R D ac ad A H' locs' ls Q C hd hw hc hs Wc hA a1 a2 a3 hl' ?_)
      rw [ai_m_len hm]
      exact hend
    · cases h
      have hst := ai_ansI hv
      subst hst
      exact hend ad H locs ls ai_ex.rf hP hD hS ⟨i, a, b, bm, hat, hv⟩
    · have m1 := ai_mono _ _ _ _ _ _ _ _ _ _ _ _ _ _ _ _ h1
      have m2 := ai_mono _ _ _ _ _ _ _ _ _ _ _ _ _ _ _ _ h2
      have hr' : r' ∈ ai_ms := by
        unfold ai_q at hq
        repeat' split at hq
        all_goals first
          | (cases hq; done)
          | (cases hq; exact List.mem_of_getElem? (by assumption))
      have hM := ai_met ih h1 hr' hca D ac ad H.size
      refine ai_callk (ai_run C hch Wc hP hD hS hAf hl'.1 hq hM hd0 hw0 hd hw hre (by omega) (by omega)) hS hAf (fun ad' H1 locs1 hex a1 a2 a3 => ?_)
      have e1 : (v'.map (ai_v ad')).toList ++ rest.map (ai_v ad) = (v'.toList ++ rest).map (ai_v ad') := by
        rw [List.map_append, ai_tol, ai_ex_st hex hk2]
      rw [e1]
      refine ih _ _ _ _ _ _ _ _ _ _ _ _ _ _ h2 hr p e s m args below meth c R D ac ad' A H1 locs1 ls Q C hd hw hc hs (Wc.ex hex) hA a1 a2 a3 (by rw [ai_ex_l hex _ 0 hk1]; exact hl') (fun ad2 H' locs' ls' hex2 => hend ad2 H' locs' ls' (hex.tr hex2 m1.1))
    · refine ai_z_ok C hch Wc hP hD hS hl'.1 hz (by omega) (by omega) (fun H' locs' a1 a2 a3 => ih _ _ _ _ _ _ _ _ _ _ _ _ _ _ h hr p e s m args below meth c R D ac ad A H' locs' ls Q C hd hw hc hs Wc hA a1 a2 a3 hl' ?_)
      rw [ai_z_len hz]
      exact hend
    · have m2 := ai_mono _ _ _ _ _ _ _ _ _ _ _ _ _ _ _ _ h
      refine ai_a_ok C hch Wc hA hP hD hS ha hB hMk (by omega) (by omega) (fun q H' hex a1 a2 a3 => ?_)
      have e1 : (Value.ref q :: st'.map (ai_v ad)) = (Value.ref M.length :: st').map (ai_v (va_up ad M.length q)) := by
        rw [List.map_cons, ai_ex_st hex hk2]
        show _ = Value.ref (va_up ad M.length q M.length) :: _
        unfold va_up
        rw [if_pos rfl]
      rw [e1]
      refine ih _ _ _ _ _ _ _ _ _ _ _ _ _ _ h hr p e s m args below meth c R D ac _ A H' locs ls Q C hd hw hc hs (Wc.ex hex) hA a1 a2 a3 (by rw [ai_ex_l hex _ 0 hk1]; exact hl') (fun ad2 H2 locs' ls' hex2 => hend ad2 H2 locs' ls' (hex.tr hex2 (by simp)))
