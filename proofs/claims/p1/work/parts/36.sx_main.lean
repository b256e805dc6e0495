theorem sy_regI (cd : ClassFile.Cond) (x y : Int32) {lo hi : Int} (h1 : lo ≤ x.toInt) (h2 : x.toInt ≤ hi) : ∃ t ∈ sy_reg cd y.toInt lo hi, t.2.1 ≤ x.toInt ∧ x.toInt ≤ t.2.2 ∧ ai_c cd x y = t.1 := by
  have e1 : (x = y) ↔ x.toInt = y.toInt := Int32.toInt_inj.symm
  have e2 : (x < y) ↔ x.toInt < y.toInt := Int32.lt_iff_toInt_lt
  have e3 : (y < x) ↔ y.toInt < x.toInt := Int32.lt_iff_toInt_lt
  have e4 : (x ≤ y) ↔ x.toInt ≤ y.toInt := Int32.le_iff_toInt_le
  have e5 : (y ≤ x) ↔ y.toInt ≤ x.toInt := Int32.le_iff_toInt_le
  have m1 : ∀ {a b c : Bool × Int × Int}, b ∈ [a, b, c] := List.mem_cons_of_mem _ List.mem_cons_self
  have m2 : ∀ {a b c : Bool × Int × Int}, c ∈ [a, b, c] := List.mem_cons_of_mem _ (List.mem_cons_of_mem _ List.mem_cons_self)
  have m3 : ∀ {a b : Bool × Int × Int}, b ∈ [a, b] := List.mem_cons_of_mem _ List.mem_cons_self
  cases cd with
  | eq =>
    rcases Int.lt_trichotomy x.toInt y.toInt with h | h | h
    · exact ⟨_, m1, h1, by show _ ≤ min hi (y.toInt - 1); omega, by show decide (x = y) = false; rw [decide_eq_false_iff_not, e1]; omega⟩
    · exact ⟨_, List.mem_cons_self, by show max lo y.toInt ≤ _; omega, by show _ ≤ min hi y.toInt; omega, by show decide (x = y) = true; rw [decide_eq_true_eq, e1]; omega⟩
    · exact ⟨_, m2, by show max lo (y.toInt + 1) ≤ _; omega, h2, by show decide (x = y) = false; rw [decide_eq_false_iff_not, e1]; omega⟩
  | ne =>
    rcases Int.lt_trichotomy x.toInt y.toInt with h | h | h
    · exact ⟨_, m1, h1, by show _ ≤ min hi (y.toInt - 1); omega, by show decide (¬ x = y) = true; rw [decide_eq_true_eq, e1]; omega⟩
    · exact ⟨_, List.mem_cons_self, by show max lo y.toInt ≤ _; omega, by show _ ≤ min hi y.toInt; omega, by show decide (¬ x = y) = false; rw [decide_eq_false_iff_not, e1]; omega⟩
    · exact ⟨_, m2, by show max lo (y.toInt + 1) ≤ _; omega, h2, by show decide (¬ x = y) = true; rw [decide_eq_true_eq, e1]; omega⟩
  | lt =>
    by_cases h : x.toInt < y.toInt
    · exact ⟨_, List.mem_cons_self, h1, by show _ ≤ min hi (y.toInt - 1); omega, by show decide (x < y) = true; rw [decide_eq_true_eq, e2]; omega⟩
    · exact ⟨_, m3, by show max lo y.toInt ≤ _; omega, h2, by show decide (x < y) = false; rw [decide_eq_false_iff_not, e2]; omega⟩
  | ge =>
    by_cases h : x.toInt < y.toInt
    · exact ⟨_, List.mem_cons_self, h1, by show _ ≤ min hi (y.toInt - 1); omega, by show decide (y ≤ x) = false; rw [decide_eq_false_iff_not, e5]; omega⟩
    · exact ⟨_, m3, by show max lo y.toInt ≤ _; omega, h2, by show decide (y ≤ x) = true; rw [decide_eq_true_eq, e5]; omega⟩
  | gt =>
    by_cases h : x.toInt ≤ y.toInt
    · exact ⟨_, List.mem_cons_self, h1, by show _ ≤ min hi y.toInt; omega, by show decide (y < x) = false; rw [decide_eq_false_iff_not, e3]; omega⟩
    · exact ⟨_, m3, by show max lo (y.toInt + 1) ≤ _; omega, h2, by show decide (y < x) = true; rw [decide_eq_true_eq, e3]; omega⟩
  | le =>
    by_cases h : x.toInt ≤ y.toInt
    · exact ⟨_, List.mem_cons_self, h1, by show _ ≤ min hi y.toInt; omega, by show decide (x ≤ y) = true; rw [decide_eq_true_eq, e4]; omega⟩
    · exact ⟨_, m3, by show max lo (y.toInt + 1) ≤ _; omega, h2, by show decide (x ≤ y) = false; rw [decide_eq_false_iff_not, e4]; omega⟩
theorem sy_flipI (cd : ClassFile.Cond) (x y : Int32) : ai_c cd x y = ai_c (sy_flip cd) y x := by
  cases cd with
  | eq => show decide (x = y) = decide (y = x); exact decide_eq_decide.mpr ⟨Eq.symm, Eq.symm⟩
  | ne => show decide (¬ x = y) = decide (¬ y = x); exact decide_eq_decide.mpr ⟨fun h z => h z.symm, fun h z => h z.symm⟩
  | _ => rfl
section SM
variable {p : Nat → Int32}
theorem sy_okS {E : sy_E} (h : sy_ok p E) {q : Nat} {lo hi : Int} (h1 : lo ≤ (p q).toInt) (h2 : (p q).toInt ≤ hi) : sy_ok p (E.set q (lo, hi)) := by
  intro k lo' hi' hk
  by_cases hq : q = k
  · subst hq
    by_cases hl : q < E.length
    · rw [List.getElem?_set_self hl] at hk
      cases hk
      exact ⟨h1, h2⟩
    · rw [List.getElem?_eq_none (by rw [List.length_set]; omega)] at hk
      cases hk
  · rw [List.getElem?_set_ne hq] at hk
    exact h _ _ _ hk
theorem sy_singI {lo : Int} {q : Nat} {E : sy_E} {pc : Nat} {st : List Value} : ∀ (n k : Nat), k < n → (pc, st, E.set q (lo + k, lo + k)) ∈ sy_sing lo q E pc st n
  | 0, _, h => absurd h (Nat.not_lt_zero _)
  | n + 1, k, h => by
    by_cases hk : k = n
    · subst hk; exact List.mem_cons_self
    · exact List.mem_cons_of_mem _ (sy_singI n k (by omega))
theorem sy_allI {q : Nat} {E : sy_E} {pc : Nat} {st : List Value} {l : List (Nat × List Value × sy_E)} (h : sy_all q E pc st = some l) (hE : sy_ok p E) : ∃ z ∈ l, sy_ok p z.2.2 ∧ z.1 = pc ∧ z.2.1 = st := by
  unfold sy_all at h
  split at h
  · next lo hi he =>
    split at h
    · next hc =>
      cases h
      have h1 := hE _ _ _ he
      refine ⟨_, sy_singI _ ((p q).toInt - lo).toNat (by omega), sy_okS hE (by omega) (by omega), rfl, rfl⟩
    · cases h
  · cases h
theorem sy_anyI {E : sy_E} {pc : Nat} {st0 : List Value} {l : List (Nat × List Value × sy_E)} : ∀ (t : List Value), sy_any E pc st0 t = some l → ∃ q, sy_all q E pc st0 = some l := by
  intro t
  induction t with
  | nil => intro h; cases h
  | cons v t ih =>
    intro h
    cases v with
    | float q =>
      simp only [sy_any] at h
      split at h
      · next x hx => exact ⟨_, by rw [hx]; exact h⟩
      · exact ih h
    | _ => exact ih h
theorem sy_jmpI {pc : Nat} {off : Int} {t : Bool × Int × Int} {q : Nat} {E : sy_E} {st : List Value} (h : t.2.1 ≤ t.2.2) : ((match t.1 with
    | true => ((pc : Int) + off).toNat
    | false => pc + 3), st, E.set q t.2) ∈ sy_jmp pc off t q E st := by
  unfold sy_jmp
  rw [decide_eq_true h]
  exact List.mem_cons_self
theorem sy_ajI {b : Bool} {pc : Nat} {off : Int} {L : List (Option Value)} {st : List Value} (h : 0 ≤ (pc : Int) + off) : ai_j b pc off L st = some ((match b with
    | true => ((pc : Int) + off).toNat
    | false => pc + 3), L, st) := by
  unfold ai_j
  cases hz : (pc : Int) + off with
  | ofNat t => cases b <;> rfl
  | negSucc t => rw [hz] at h; exact absurd h (by omega)
theorem sy_toI {pc : Nat} {off : Int} {L : List (Option Value)} {st : List Value} (h : 0 ≤ (pc : Int) + off) : ai_to pc off L st = some (((pc : Int) + off).toNat, L, st) := by
  unfold ai_to
  cases hz : (pc : Int) + off with
  | ofNat t => rfl
  | negSucc t => rw [hz] at h; exact absurd h (by omega)
theorem sy_2_ok {i : ClassFile.Instr} {pc : Nat} {st : List Value} {E : sy_E} {l : List (Nat × List Value × sy_E)} (h : sy_2 i pc st E = some l) (hE : sy_ok p E) : ∃ z ∈ l, sy_ok p z.2.2 ∧ ((z.1 = pc ∧ z.2.1 = st) ∨ ∀ (nL : Nat) (L : List (Option Value)), ai_s i pc nL L (st.map (sy_c p)) = some (z.1, L, z.2.1.map (sy_c p))) := by
  have dflt : ∀ st2 : List Value, sy_any E pc st st2 = some l → ∃ z ∈ l, sy_ok p z.2.2 ∧ ((z.1 = pc ∧ z.2.1 = st) ∨ ∀ (nL : Nat) (L : List (Option Value)), ai_s i pc nL L (st.map (sy_c p)) = some (z.1, L, z.2.1.map (sy_c p))) := fun st2 hh => by
    obtain ⟨q, hq⟩ := sy_anyI _ hh
    obtain ⟨z, h1, h2, h3, h4⟩ := sy_allI hq hE
    exact ⟨z, h1, h2, Or.inl ⟨h3, h4⟩⟩
  cases i with
  | ifCond cd off =>
    simp only [sy_2] at h
    split at h
    · next q r =>
      split at h
      · next lo hi he ho =>
        cases h
        have ho := of_decide_eq_true ho
        have h1 := hE _ _ _ he
        obtain ⟨t, ht, t1, t2, t3⟩ := sy_regI cd (p q.toNat) 0 h1.1 h1.2
        refine ⟨_, List.mem_flatMap.mpr ⟨t, ht, sy_jmpI (by omega)⟩, sy_okS hE t1 t2, Or.inr (fun nL L => ?_)⟩
        show ai_j (ai_c cd (p q.toNat) 0) pc off L (r.map (sy_c p)) = _
        rw [t3, sy_ajI ho]
      · cases h
    · cases h
  | if_icmp cd off =>
    simp only [sy_2] at h
    split at h
    · next y q r =>
      split at h
      · next lo hi he ho =>
        cases h
        have ho := of_decide_eq_true ho
        have h1 := hE _ _ _ he
        obtain ⟨t, ht, t1, t2, t3⟩ := sy_regI cd (p q.toNat) y h1.1 h1.2
        refine ⟨_, List.mem_flatMap.mpr ⟨t, ht, sy_jmpI (by omega)⟩, sy_okS hE t1 t2, Or.inr (fun nL L => ?_)⟩
        show ai_j (ai_c cd (p q.toNat) y) pc off L (r.map (sy_c p)) = _
        rw [t3, sy_ajI ho]
      · cases h
    · next q x r =>
      split at h
      · next lo hi he ho =>
        cases h
        have ho := of_decide_eq_true ho
        have h1 := hE _ _ _ he
        obtain ⟨t, ht, t1, t2, t3⟩ := sy_regI (sy_flip cd) (p q.toNat) x h1.1 h1.2
        refine ⟨_, List.mem_flatMap.mpr ⟨t, ht, sy_jmpI (by omega)⟩, sy_okS hE t1 t2, Or.inr (fun nL L => ?_)⟩
        show ai_j (ai_c cd x (p q.toNat)) pc off L (r.map (sy_c p)) = _
        rw [sy_flipI, t3, sy_ajI ho]
      · cases h
    · cases h
  | tableswitch df tl th offs =>
    simp only [sy_2] at h
    split at h
    · next q r =>
      split at h
      · next lo hi he ho =>
        have ho := of_decide_eq_true ho
        have h1 := hE _ _ _ he
        split at h
        · obtain ⟨z, h3, h4, h5, h6⟩ := sy_allI h hE
          exact ⟨z, h3, h4, Or.inl ⟨h5, h6⟩⟩
        · have hl := Option.some.inj h
          rw [← hl]
          by_cases c1 : (p q.toNat).toInt < tl
          · refine ⟨_, List.mem_append_left _ (List.mem_append_left _ (sy_jmpI (t := (true, lo, min hi (tl - 1))) (by show lo ≤ min hi (tl - 1); omega))), sy_okS hE h1.1 (by show _ ≤ min hi (tl - 1); omega), Or.inr (fun nL L => ?_)⟩
            show (if (p q.toNat).toInt < tl ∨ th < (p q.toNat).toInt then ai_to pc df L (r.map (sy_c p)) else _) = _
            rw [if_pos (Or.inl c1), sy_toI ho]
          · by_cases c2 : th < (p q.toNat).toInt
            · refine ⟨_, List.mem_append_left _ (List.mem_append_right _ (sy_jmpI (t := (true, max lo (th + 1), hi)) (by show max lo (th + 1) ≤ hi; omega))), sy_okS hE (by show max lo (th + 1) ≤ _; omega) h1.2, Or.inr (fun nL L => ?_)⟩
              show (if (p q.toNat).toInt < tl ∨ th < (p q.toNat).toInt then ai_to pc df L (r.map (sy_c p)) else _) = _
              rw [if_pos (Or.inr c2), sy_toI ho]
            · have c3 : max lo tl ≤ min hi th := by omega
              rw [decide_eq_true c3]
              exact ⟨_, List.mem_append_right _ List.mem_cons_self, sy_okS hE (by omega) (by omega), Or.inl ⟨rfl, rfl⟩⟩
      · cases h
    · cases h
  | _ => exact dflt _ h
theorem sy_q {P : List (Nat × Nat)} {M Mc : List va_E} {i : ClassFile.Instr} {a b : Nat} {st As rest : List Value} {r' : ai_R} (h : sy_M P M Mc) (hq : ai_q i a b st M = some (r', As, rest)) : ai_q i a b (st.map (sy_c p)) Mc = some (r', As.map (sy_c p), rest.map (sy_c p)) := by
  have e1 : ∀ n, ((st.map (sy_c p)).take n).reverse = ((st.take n).reverse).map (sy_c p) := fun n => by rw [← List.map_take, List.map_reverse]
  have e2 : ∀ n, (st.map (sy_c p)).drop n = (st.drop n).map (sy_c p) := fun n => by rw [← List.map_drop]
  cases i with
  | invokevirtual x =>
    simp only [ai_q] at hq ⊢
    split at hq
    · next r2 hr2 =>
      split at hq
      · next k As' hAs =>
        split at hq
        · next ci fs hk =>
          split at hq
          · next hc =>
            have hM : Mc[k]? = some (.inr (ci, fs)) := sy_Rat h hk
            have hx := Option.some.inj hq
            simp only [hr2, e1, hAs, e2, List.map_cons, sy_c, hM, List.length_map, hc]
            cases hx
            rfl
          · cases hq
        · cases hq
      · cases hq
    · cases hq
  | invokespecial x =>
    simp only [ai_q] at hq ⊢
    split at hq
    · next r2 h9 hr2 =>
      split at hq
      · next k As' hAs =>
        split at hq
        · next hc =>
          have hx := Option.some.inj hq
          simp only [h9, hr2, e1, hAs, e2, List.map_cons, sy_c, List.length_map, hc]
          cases hx
          rfl
        · cases hq
      · cases hq
    · cases hq
  | invokestatic x =>
    simp only [ai_q] at hq ⊢
    split at hq
    · next r2 h9 hr2 =>
      split at hq
      · next hc =>
        have hx := Option.some.inj hq
        have e3 : ((st.map (sy_c p)).take r2.2.2.2.2.2.1).length = (st.take r2.2.2.2.2.2.1).length := by rw [← List.map_take, List.length_map]
        simp only [h9, hr2, e1, e2, e3, hc]
        cases hx
        rfl
      · cases hq
    · cases hq
  | _ => cases hq
theorem sy_z {P : List (Nat × Nat)} {M M' Mc : List va_E} {x a : Nat} {st st' : List Value} (h : sy_M P M Mc) (hz : ai_z (.invokespecial x) a st M = some (st', M')) : M' = M ∧ ai_z (.invokespecial x) a (st.map (sy_c p)) Mc = some (st'.map (sy_c p), Mc) := by
  simp only [ai_z] at hz
  split at hz
  · next k r h9 =>
    split at hz
    · next h8 =>
      have hx := Option.some.inj hz
      have e1 : r = st' := congrArg Prod.fst hx
      have e2 : M = M' := congrArg Prod.snd hx
      rw [← e1, ← e2]
      refine ⟨rfl, ?_⟩
      simp only [ai_z, List.map_cons, sy_c, h9, sy_catl, h8]
    · cases hz
  · cases hz
theorem sy_a {i : ClassFile.Instr} {a dp ds : Nat} {st st' : List Value} {e : va_E} (h : ai_a i a st = some (dp, st', e, ds)) : ai_a i a (st.map (sy_c p)) = some (dp, st'.map (sy_c p), e, ds) := by
  unfold ai_a at h ⊢
  repeat' split at h
  all_goals first
    | (cases h; done)
    | (next hh => cases h; simp only [List.map_cons, sy_c, hh]; done)
    | (next hh => simp only [hh]; cases h; rfl)
theorem sy_bI {α : Type} {f : α → Option (List sy_O)} : ∀ (l : List α) (outs : List sy_O), sy_b f l = some outs → ∀ x ∈ l, ∃ u, f x = some u ∧ ∀ o ∈ u, o ∈ outs := by
  intro l
  induction l with
  | nil => intro outs h x hx; cases hx
  | cons y t ih =>
    intro outs h x hx
    simp only [sy_b] at h
    split at h
    · next u hu =>
      split at h
      · next v hv =>
        have hh := Option.some.inj h
        rcases List.mem_cons.mp hx with e1 | e1
        · rw [e1]
          exact ⟨u, hu, fun o ho => by rw [← hh]; exact List.mem_append_left _ ho⟩
        · obtain ⟨u2, g1, g2⟩ := ih v hv x e1
          exact ⟨u2, g1, fun o ho => by rw [← hh]; exact List.mem_append_right _ (g2 o ho)⟩
      · cases h
    · cases h
theorem sy_mk2 : ∀ (b : List Bool) (L : List (Option Value)), ai_mk b (ai_mk b L) = ai_mk b L
  | [], _ => rfl
  | true :: _, [] => rfl
  | false :: _, [] => rfl
  | true :: b, x :: t => by
    show x :: ai_mk b (ai_mk b t) = x :: ai_mk b t
    rw [sy_mk2 b t]
  | false :: b, x :: t => by
    show none :: ai_mk b (ai_mk b t) = none :: ai_mk b t
    rw [sy_mk2 b t]
theorem ai_Tmk {X : ai_X} {d w : Nat} {r : ai_R} {pc : Nat} {L : List (Option Value)} {st : List Value} {M : List va_E} {c s : Nat} {o : Nat × Option Value × List va_E × Nat × Nat} {i : ClassFile.Instr} {a b : Nat} {bm : List Bool} (hat : ai_at r pc = some (i, a, b, bm)) (h : ai_T X d w r pc (ai_mk bm L) st M c s o) : ai_T X d w r pc L st M c s o := by
  obtain ⟨n, h⟩ := h
  cases n with
  | zero => cases h
  | succ n =>
    refine ⟨n + 1, ?_⟩
    unfold ai_x at h ⊢
    rw [hat] at h ⊢
    simp only [sy_mk2] at h
    exact h
end SM
set_option maxHeartbeats 2000000 in
theorem sx_ok (Ln : Nat) (xs : Nat → Int32) : ∀ (n d w : Nat) (r : ai_R) (pc : Nat) (L0 : List (Option Value)) (st : List Value) (M : List va_E) (P : List (Nat × Nat)) (c s : Nat) (E : sy_E) (outs : List sy_O), sx Ln n d w r pc L0 st M P c s E = some outs → ∀ Mc : List va_E, sy_ok (sy_p xs) E → sy_M P M Mc → ∃ o ∈ outs, sy_ok (sy_p xs) o.1 ∧ ∃ (pc1 : Nat) (Mc' : List va_E), sy_M o.2.2.2.1 o.2.2.1 Mc' ∧ ai_T (ai_XX Ln xs) d w r pc (sy_L (sy_p xs) L0) (st.map (sy_c (sy_p xs))) Mc c s (pc1, o.2.1.map (sy_c (sy_p xs)), Mc', o.2.2.2.2.1, o.2.2.2.2.2) := by
  intro n
  induction n with
  | zero => intro d w r pc L0 st M P c s E outs h; cases h
  | succ n ih =>
    intro d w r pc L0 st M P c s E outs h Mc hE hM
    rw [← sy_rst hE st]
    unfold sx at h
    split at h
    · cases h
    · next i a b bm hat =>
      generalize st.map (sy_r E) = st2 at h ⊢
      split at h
      · next pc2 L2 st3 M2 P2 h1 =>
        obtain ⟨Mc2, hM2, hK⟩ := sy_1_ok (xs := xs) hM hat h1
        obtain ⟨o, ho, hE', pc1, Mc3, hM3, hT⟩ := ih _ _ _ _ _ _ _ _ _ _ _ _ h Mc2 hE hM2
        exact ⟨o, ho, hE', pc1, Mc3, hM3, hK _ _ _ _ _ hT⟩
      · split at h
        · next v hv =>
          have hh := Option.some.inj h
          rw [← hh]
          exact ⟨_, List.mem_cons_self, hE, pc, Mc, hM, ai_Tr hat (sy_ans hv)⟩
        · split at h
          · next r2 As rest hq =>
            split at h
            · next hc =>
              simp only [Bool.and_eq_true] at hc
              obtain ⟨⟨⟨⟨⟨g1, g2⟩, g3⟩, g4⟩, g5⟩, g6⟩ := hc
              split at h
              · next outs1 h1 =>
                obtain ⟨o1, ho1, hE1, pc1, Mc1, hM1, hT1⟩ := ih _ _ _ _ _ _ _ _ _ _ _ _ h1 Mc hE hM
                obtain ⟨u, hu, hsub⟩ := sy_bI _ _ h o1 ho1
                obtain ⟨o, ho, hE', pc2, Mc2, hM2, hT2⟩ := ih _ _ _ _ _ _ _ _ _ _ _ _ hu Mc1 hE1 hM1
                refine ⟨o, hsub o ho, hE', pc2, Mc2, hM2, ai_Tq hat (sy_q hM hq) (Nat.le_of_ble_eq_true g1) (Nat.le_of_ble_eq_true g2) (by rw [sy_catl]; exact Nat.le_of_ble_eq_true g3) (by rw [sy_catl]; exact Nat.le_of_ble_eq_true g4) (by rw [← sy_mk, sy_kL, ← hM.1]; exact g5) (by rw [sy_kst, ← hM.1]; exact g6) (by rw [sy_en]; exact hT1) ?_⟩
                have e1 : (o1.2.1.map (sy_c (sy_p xs))).toList ++ rest.map (sy_c (sy_p xs)) = (o1.2.1.toList ++ rest).map (sy_c (sy_p xs)) := by
                  rw [List.map_append]
                  congr 1
                  cases o1.2.1 <;> rfl
                rw [e1, ← sy_mk]
                exact hT2
              · cases h
            · cases h
          · split at h
            · next st3 M3 hz =>
              split at h
              · next hc =>
                simp only [Bool.and_eq_true] at hc
                unfold sy_zz at hz
                split at hz
                · obtain ⟨hM3, hz2⟩ := sy_z (p := sy_p xs) hM hz
                  rw [hM3] at h
                  obtain ⟨o, ho, hE', pc1, Mc3, hM4, hT⟩ := ih _ _ _ _ _ _ _ _ _ _ _ _ h Mc hE hM
                  exact ⟨o, ho, hE', pc1, Mc3, hM4, ai_Tz hat hz2 (Nat.le_of_ble_eq_true hc.1) (Nat.le_of_ble_eq_true hc.2) (by rw [← sy_mk]; exact hT)⟩
                · cases hz
              · cases h
            · split at h
              · next dp st3 e ds ha =>
                split at h
                · next hc =>
                  simp only [Bool.and_eq_true] at hc
                  obtain ⟨⟨⟨g1, g2⟩, g3⟩, g4⟩ := hc
                  obtain ⟨o, ho, hE', pc1, Mc3, hM4, hT⟩ := ih _ _ _ _ _ _ _ _ _ _ _ _ h (Mc ++ [e]) hE (sy_Mpush hM e)
                  refine ⟨o, ho, hE', pc1, Mc3, hM4, ai_Ta hat (sy_a ha) (by rw [← hM.1]; exact Nat.le_of_ble_eq_true g1) (by rw [← hM.1]; exact sy_keM hM g2) (by rw [← sy_mk, sy_kL, ← hM.1]; exact g3) (by rw [sy_kst, ← hM.1]; exact g4) ?_⟩
                  rw [← sy_mk, ← hM.1]
                  exact hT
                · cases h
              · split at h
                · next l hl =>
                  obtain ⟨z, hz, hEz, hcase⟩ := sy_2_ok hl hE
                  obtain ⟨u, hu, hsub⟩ := sy_bI _ _ h z hz
                  obtain ⟨o, ho, hE', pc1, Mc3, hM4, hT⟩ := ih _ _ _ _ _ _ _ _ _ _ _ _ hu Mc hEz hM
                  refine ⟨o, hsub o ho, hE', pc1, Mc3, hM4, ?_⟩
                  rcases hcase with ⟨e1, e2⟩ | hs
                  · rw [e1, e2, sy_mk] at hT
                    exact ai_Tmk hat hT
                  · refine ai_Ts hat (hs _ _) ?_
                    rw [← sy_mk]
                    exact hT
                · cases h
theorem sy_fin {Ln n : Nat} {E : sy_E} (hg : sy_good (sy_run Ln n E) = true) {xs : Nat → Int32} (hE : sy_ok (sy_p xs) E) : ∃ n pc1 M1 c1 s1, ai_x (ai_XX Ln xs) n 9 350 ai_r143 0 (ai_en 4 [.ref ai_B]) [] [] 0 0 = some (pc1, some (.int 1), M1, c1, s1) ∧ c1 ≤ 600000 ∧ s1 ≤ 7302250 := by
  unfold sy_good at hg
  split at hg
  · next l hl =>
    obtain ⟨o, ho, -, pc1, Mc', -, n, hT⟩ := sx_ok Ln xs _ _ _ _ _ _ _ _ _ _ _ _ _ hl [] hE ⟨rfl, fun k => by simp [sy_Re]⟩
    have h1 := List.all_eq_true.mp hg o ho
    simp only [Bool.and_eq_true, decide_eq_true_eq] at h1
    rw [h1.1.1] at hT
    exact ⟨n, pc1, Mc', _, _, hT, Nat.le_of_ble_eq_true h1.1.2, Nat.le_of_ble_eq_true h1.2⟩
  · cases hg
theorem sy_range (x : Int32) : -2147483648 ≤ x.toInt ∧ x.toInt ≤ 2147483647 := ⟨Int32.le_toInt x, by have := Int32.toInt_lt x; omega⟩
theorem sy_and15 (x : Int32) : ∃ j : Nat, j < 16 ∧ x &&& 15 = nI j := pk_andE x 4 (by decide)
theorem sy_E00 (xs : Nat → Int32) : sy_ok (sy_p xs) sy_E0 := by
  obtain ⟨j, hj, h⟩ := sy_and15 (xs 0)
  intro k lo hi hk
  match k, hk with
  | 0, hk => cases hk; exact sy_range _
  | 1, hk => cases hk; exact sy_range _
  | 2, hk => cases hk; exact sy_range _
  | 3, hk => cases hk; exact sy_range _
  | 4, hk => cases hk; exact sy_range _
  | 5, hk => cases hk; exact sy_range _
  | 6, hk =>
    cases hk
    show 0 ≤ (xs 0 &&& 15).toInt ∧ (xs 0 &&& 15).toInt ≤ 15
    rw [h, nI_toInt (by omega)]
    omega
  | k + 7, hk => cases hk
theorem sy_E0ok (xs : Nat → Int32) {j : Nat} (h : xs 0 &&& 15 = nI j) (hj : j < 16) : sy_ok (sy_p xs) (sy_E0.set 6 ((j : Int), (j : Int))) := by
  have h0 : sy_ok (sy_p xs) sy_E0 := sy_E00 xs
  have e : (sy_p xs 6).toInt = (j : Int) := by
    show (xs 0 &&& 15).toInt = _
    rw [h, nI_toInt (by omega)]
  exact sy_okS h0 (by rw [e]; exact Int.le_refl _) (by rw [e]; exact Int.le_refl _)
