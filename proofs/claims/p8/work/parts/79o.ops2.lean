section O2
variable {m m' : fm} {N : Nat → Nat} {P : Nat → cod} {R : Nat → Bool}
theorem LK_self {I : cod} {n : Nat} : LK I n I n = true := by
  unfold LK
  rw [decide_eq_true rfl, Bool.true_and, bne_self_eq_false]
  have h3 : ∀ p q, p3 I I false p q = true := by
    intro p q
    induction q with
    | zero => exact decide_eq_true rfl
    | succ q ih =>
      rw [p3_1, ih, Bool.true_and]
      unfold pq
      rw [Bool.false_and, Bool.false_and, if_neg Bool.false_ne_true]
      exact decide_eq_true rfl
  have : ∀ p, al I I false p = true := by
    intro p
    induction p with
    | zero => rfl
    | succ p ih => rw [al_1, ih, h3]; rfl
  exact this n
theorem op_doubled (h : INV m) (x : Int32) : OK (g80 x m) (g130 x) := by
  obtain ⟨N, P, R, h⟩ := h
  obtain ⟨e1, e2, e3, e4⟩ := e10
  rcases dx_of (x := x) (n := 8) (by omega) with ⟨j, hj, rfl⟩ | hx
  · have hcl : ob (g80_12 (nI j) (nI 0) m) (fun r => r.2 = m ∧ ∃ k, k ≤ j ∧ r.1 = nI k ∧ (∀ i, i < k → LK (P i) (N i) (P j) (N j) = false) ∧ LK (P k) (N k) (P j) (N j) = true) := by
      unfold g80_12
      refine wl_c (f := fun s : Int32 × fm => s80_12 (nI j) s.1 s.2) (fun i s => s = (nI i, m) ∧ ∀ q, q < i → LK (P q) (N q) (P j) (N j) = false) j (by omega) (nI 0, m) ⟨rfl, fun q hq => absurd hq (by omega)⟩ (fun i s hi hss => ?_) (fun s hss => ?_)
      · obtain ⟨rfl, hh⟩ := hss
        show ob (s80_12 (nI j) (nI i) m) _
        unfold s80_12
        rw [dx_ge (by omega) (by omega), decide_eq_false (by omega), cond_false, dx_ldA (by omega), dx_ldA hj, g12_s (h.1 i (by omega)) (h.2.2.1 i (by omega)) (h.1 j hj) (h.2.2.1 j hj), dx_cl2, bI_eq, nI_add]
        cases hl : LK (P i) (N i) (P j) (N j) with
        | true => exact ⟨rfl, i, by omega, rfl, hh, hl⟩
        | false =>
          refine ⟨rfl, fun q hq => ?_⟩
          by_cases e : q = i
          · subst e; exact hl
          · exact hh q (by omega)
      · obtain ⟨rfl, hh⟩ := hss
        show ob (s80_12 (nI j) (nI j) m) _
        unfold s80_12
        rw [dx_ge (by omega) (by omega), decide_eq_true (Nat.le_refl _), cond_true]
        exact ⟨rfl, j, Nat.le_refl _, rfl, hh, LK_self⟩
    unfold OK g80
    rw [(mem_y hj).1, dx_cl2, e2, cond_true]
    refine ob_m hcl (fun r hr => ?_)
    obtain ⟨rv, rm⟩ := r
    obtain ⟨rfl, k, hk, rfl, hno, hyes⟩ := hr
    show ob (g130 (nI j) rm) _
    unfold g130
    rw [(mem_y hj).2, dx_cl2, e2, cond_true]
    unfold g130_12
    refine wl_c (f := fun s : Int32 × fm => s130_12 (nI j) s.1 s.2) (fun i s => s = (nI i, rm)) k (by omega) (nI 0, rm) rfl (fun i s hi hss => ?_) (fun s hss => ?_)
    · subst hss
      show ob (s130_12 (nI j) (nI i) rm) _
      unfold s130_12
      rw [g129_s hj (by omega) h.2.1 h.2.2.1, dx_cl2, hno i hi, bI_ne, cond_false, nI_add]
      rfl
    · subst hss
      show ob (s130_12 (nI j) (nI k) rm) _
      unfold s130_12
      rw [g129_s hj (by omega) h.2.1 h.2.2.1, dx_cl2, hyes, bI_ne, cond_true]
      exact ⟨rfl, N, P, R, h⟩
  · refine OK_e (a := -101) (m := m) ?_ ?_ ⟨N, P, R, h⟩
    · unfold g80
      rw [(mem_n hx).1, dx_cl2, e4, cond_false]
    · unfold g130
      rw [(mem_n hx).2, dx_cl2, e4, cond_false]
theorem op_trial (h : INV m) : OK (g71 m) g133 := by
  obtain ⟨N, P, R, h⟩ := h
  unfold OK
  refine ob_m (g71_s h.1 h.2.2.1 h.2.2.2.1 h.2.2.2.2.1 (fun j hj => (h.2.2.2.2.2.1 j hj).1)) (fun r hr => ?_)
  obtain ⟨U, hU, hf, fX, z1, C1, T1, h07⟩ := hr
  have hR1 : ALLR r.2 N P := fun j hj => RR_f (h.2.1 j hj) (by rw [fX.1 57 (by omega)]) (fX.1 53 (by omega)) (fX.1 54 (by omega)) (fX.1 55 (by omega)) (fX.1 56 (by omega))
  refine ob_m (g133_r (R := R) hR1 h.2.2.1 h.2.2.2.1 (fun j hj => by rw [fX.1 58 (by omega)]; exact (h.2.2.2.2.2.1 j hj).2)) (fun r' hr' => ?_)
  obtain ⟨U', hU', hf', fY, R2, Q2, h6⟩ := hr'
  have hUU : ∀ j, j < 8 → U j = U' j := fun j hj => LU_uniq hU hU' hj
  refine ⟨by rw [hf, hf']; exact fwd_e 8 hUU, N, P, R, fun j hj => CR_f (C1 j hj) (fY.1 _ (by omega)) (fY.1 _ (by omega)), R2, h.2.2.1, h.2.2.2.1, fun i hi => by rw [fY.2.1 5 (by omega)]; exact z1 i hi, fun j hj => ⟨by rw [fY.1 3 (by omega), fX.2.2.1]; exact (h.2.2.2.2.2.1 j hj).1, by rw [fY.2.2.1, fX.1 58 (by omega)]; exact (h.2.2.2.2.2.1 j hj).2⟩, ⟨true, by rw [fY.1 0 (by omega)]; exact h07, h6, fun _ => ?_⟩, ?_⟩
  · have hch : ∀ j : Nat, ∃ J : cod, j < 8 → CR r.2 (22 + 4 * j) (RT P N U j).2 J ∧ TRL J (RT P N U j).1 (RT P N U j).2 ∧ WF (RT P N U j).2 J := fun j => by
      by_cases hj : j < 8
      · obtain ⟨J, hJ⟩ := T1 j hj
        exact ⟨J, fun _ => hJ⟩
      · exact ⟨P 0, fun h => absurd h hj⟩
    obtain ⟨JT, hJT⟩ := Classical.axiomOfChoice hch
    refine ⟨fun j => (RT P N U j).2, JT, fun j => (RT P N U j).1, fun j hj => ?_⟩
    obtain ⟨a, b, c⟩ := hJT j hj
    have q := Q2 j hj
    rw [show TQ r'.2 P N U' j = TQ r'.2 P N U j by unfold TQ; rw [RT_e (hUU j hj)]] at q
    exact ⟨CR_f a (fY.1 _ (by omega)) (fY.1 _ (by omega)), q.1, c, q.2, RLx_T b⟩
  · unfold SP
    rw [fY.1 14 (by omega), fX.2.2.2 14 (by omega) (by omega), fY.2.2.2.2 21 (by omega), fY.2.2.2.2 20 (by omega), fY.2.2.2.2 22 (by omega), fX.1 52 (by omega), fY.1 16 (by omega), fX.2.2.2 16 (by omega) (by omega), fY.2.2.2.1 67 (by omega), fX.1 67 (by omega), fY.1 15 (by omega), fX.2.2.2 15 (by omega) (by omega), fY.2.2.2.1 66 (by omega), fX.1 66 (by omega)]
    exact h.2.2.2.2.2.2.2
/-- which program? -/
theorem wh_s (h : IN m N P R) (x : Int32) : (∃ w, w < 2 ∧ x = nI w ∧ (w = 0 ∨ ∃ ht : Bool, m.1 0 7 = bI ht ∧ m.1 52 6 = bI ht ∧ (ht = true → HT m))) ∨ (x < 0 ∨ nI 2 ≤ x) := by
  rcases dx_of (x := x) (n := 2) (by omega) with ⟨w, hw, rfl⟩ | hx
  · refine Or.inl ⟨w, hw, rfl, ?_⟩
    by_cases h0 : w = 0
    · exact Or.inl h0
    · exact Or.inr h.2.2.2.2.2.2.1
  · exact Or.inr hx
theorem ne01 {x : Int32} (h : x < 0 ∨ nI 2 ≤ x) : ai_c .eq x 0 = false ∧ ai_c .eq x (nI 1) = false := by
  have h1 : ∀ k, k < 2 → ¬ x = nI k := fun k hk e => by
    rw [e] at h
    rcases h with h | h
    · exact nI_pos (by omega) h
    · exact absurd ((nI_leI (by omega) (by omega)).mp h) (by omega)
  exact ⟨decide_eq_false (by rw [dx_z]; exact h1 0 (by omega)), decide_eq_false (h1 1 (by omega))⟩
theorem g84_m {x y : Int32} (hy : y < 0 ∨ nI 8 ≤ y) : g84 x y m = some (-101, m) := by
  obtain ⟨e1, e2, e3, e4⟩ := e10
  unfold g84
  rw [(mem_n hy).1, dx_cl2, e4, cond_false]
theorem g84_w {x : Int32} {j : Nat} (hj : j < 8) (hx : x < 0 ∨ nI 2 ≤ x) : g84 x (nI j) m = some (-102, m) := by
  obtain ⟨e1, e2, e3, e4⟩ := e10
  unfold g84
  rw [(mem_y hj).1, dx_cl2, e2, cond_true, (ne01 hx).1, cond_false, (ne01 hx).2, cond_false]
theorem g84_0 {j : Nat} (hj : j < 8) : g84 (nI 0) (nI j) m = some (nI 0, m) := by
  obtain ⟨e1, e2, e3, e4⟩ := e10
  unfold g84 g84_22
  rw [(mem_y hj).1, dx_cl2, e2, cond_true, e3, cond_true, show ai_c .ne (nI 0) (nI 1) = true by decide +kernel, cond_true]
theorem g84_1 {j : Nat} {ht : Bool} (hj : j < 8) (h : m.1 0 7 = bI ht) : g84 (nI 1) (nI j) m = some (if ht = true then nI 0 else -103, m) := by
  obtain ⟨e1, e2, e3, e4⟩ := e10
  unfold g84 g84_22
  rw [(mem_y hj).1, dx_cl2, e2, cond_true, e1, cond_false, show ai_c .eq (nI 1) (nI 1) = true by decide +kernel, cond_true, show ai_c .ne (nI 1) (nI 1) = false by decide +kernel, cond_false, dx_gfI, h, bI_ne]
  cases ht <;> rfl
theorem ge_m : ai_c .ge (-101) 0 = false ∧ ai_c .ge (-102) 0 = false ∧ ai_c .ge (-103) 0 = false ∧ ai_c .ge (nI 0) 0 = true := by decide +kernel
theorem plk_0 {β : Type} {f : Nat → Option β} : plk (nI 0) f = f 20 := by unfold plk; rw [e10.2.2.2]; rfl
theorem plk_1 {β : Type} {f : Nat → Option β} : plk (nI 1) f = f 22 := by unfold plk; rw [e10.2.1]; rfl
theorem op_size (h : INV m) (x y : Int32) : OK (g81 x y m) (g140 x y) := by
  obtain ⟨N, P, R, h⟩ := h
  obtain ⟨e1, e2, e3, e4⟩ := e10
  obtain ⟨q1, q2, q3, q4⟩ := ge_m
  rcases dx_of (x := y) (n := 8) (by omega) with ⟨j, hj, rfl⟩ | hy
  · rcases wh_s h x with ⟨w, hw, rfl, hwh⟩ | hx
    · have e01 : w = 0 ∨ w = 1 := by omega
      rcases e01 with rfl | rfl
      · refine OK_e (a := nI (N j)) (m := m) ?_ ?_ ⟨N, P, R, h⟩
        · unfold g81
          rw [g84_0 hj, dx_cl2, q4, cond_true, plk_0, dx_ldA hj, g1_s (h.1 j hj), dx_cl2]
        · unfold g140 g140_39
          rw [(mem_y hj).2, dx_cl2, e2, cond_true, show (nI 1) = nI (2 - 1) from rfl, g95_y (by omega) (by omega), dx_cl2, e2, cond_true, show ai_c .ne (nI 0) (nI (2 - 1)) = true by decide +kernel, cond_true, pk_mul, nI_add, dx_ldI (by omega) (by omega), show 8 * 0 + j = j by omega, (h.2.1 j hj).2.1]
      · obtain ⟨ht, t1, t2, t3⟩ := hwh.resolve_left (by omega)
        cases ht with
        | false =>
          refine OK_e (a := -103) (m := m) ?_ ?_ ⟨N, P, R, h⟩
          · unfold g81
            rw [g84_1 hj t1, dx_cl2, if_neg Bool.false_ne_true, q3, cond_false]
          · unfold g140
            rw [(mem_y hj).2, dx_cl2, e2, cond_true, show g95 (nI 1) (nI 0) (nI 1) m = some (nI 1, m) from g95_y (n := 2) (by omega) (by omega), dx_cl2, e2, cond_true, show ai_c .ne (nI 1) (nI 1) = false by decide +kernel, cond_false, dx_gfI, t2, bI_ne, cond_false]
        | true =>
          obtain ⟨NT, JT, PT, hT⟩ := t3 rfl
          obtain ⟨a, b, c⟩ := hT j hj
          refine OK_e (a := nI (NT j)) (m := m) ?_ ?_ ⟨N, P, R, h⟩
          · unfold g81
            rw [g84_1 hj t1, dx_cl2, if_pos rfl, q4, cond_true, plk_1, dx_ldA hj, g1_s a, dx_cl2]
          · unfold g140 g140_39
            rw [(mem_y hj).2, dx_cl2, e2, cond_true, show g95 (nI 1) (nI 0) (nI 1) m = some (nI 1, m) from g95_y (n := 2) (by omega) (by omega), dx_cl2, e2, cond_true, show ai_c .ne (nI 1) (nI 1) = false by decide +kernel, cond_false, dx_gfI, t2, bI_ne, cond_true, pk_mul, nI_add, dx_ldI (by omega) (by omega), show 8 * 1 + j = 8 + j by omega, b.2.1]
    · refine OK_e (a := -102) (m := m) ?_ ?_ ⟨N, P, R, h⟩
      · unfold g81
        rw [g84_w hj hx, dx_cl2, q2, cond_false]
      · unfold g140
        rw [(mem_y hj).2, dx_cl2, e2, cond_true, show g95 x (nI 0) (nI 1) m = some (nI 0, m) from g95_n (n := 2) (by omega) (by omega) hx, dx_cl2, e4, cond_false]
  · refine OK_e (a := -101) (m := m) ?_ ?_ ⟨N, P, R, h⟩
    · unfold g81
      rw [g84_m hy, dx_cl2, q1, cond_false]
    · unfold g140
      rw [(mem_n hy).2, dx_cl2, e4, cond_false]
/-- run -/
theorem op_run (h : INV m) (x y u v : Int32) : OK (g72 x y u v m) (g137 x y u v) := by
  obtain ⟨N, P, R, h⟩ := h
  obtain ⟨e1, e2, e3, e4⟩ := e10
  obtain ⟨q1, q2, q3, q4⟩ := ge_m
  have core : ∀ (b w j : Nat) (nn : Nat → Nat) (Jc Jr : Nat → cod), 20 ≤ b → w < 2 → j < 8 → HC b w nn Jc Jr m m → ob (g42 b (nI j) u v m) (fun r => ob (g137_40 (nI w) (nI j) u v (nI 0) r.2) (fun r' => r.1 = r'.1 ∧ INV r'.2)) := by
    intro b w j nn Jc Jr hb hw hj H
    obtain ⟨r, er, hh⟩ := ob_ex (rn_s hb hw H hj u v)
    obtain ⟨r0, -, -, fc, -⟩ := ob_ex hh
    have H2 : HC b w nn Jc Jr m r.2 := fun i hi => by
      obtain ⟨a, b', c⟩ := H i hi
      exact ⟨a, RR_f b' (by rw [fc.1 57 (by omega)]) (fc.1 53 (by omega)) (fc.1 54 (by omega)) (fc.1 55 (by omega)) (fc.1 56 (by omega)), c⟩
    have hh2 := rn_s hb hw H2 hj u v
    rw [er] at hh2 ⊢
    show ob (g137_40 (nI w) (nI j) u v (nI 0) r.2) _
    refine ob_m hh2 (fun r' hr' => ?_)
    obtain ⟨g1, g2, g3, t, s, e, hS⟩ := hr'
    refine ⟨g1, N, P, R, ?_⟩
    obtain ⟨h1, h2, h3, h4, h5, h6, ⟨ht, h7, h8, h9⟩, h10⟩ := h
    have kc : ∀ k, k < 14 ∨ 19 < k → k < 52 → r'.2.1 k = m.1 k := fun k hk hk2 => by rw [g3.1 k (by omega) (by omega), g2.1 k hk]
    have kr : ∀ k, 52 < k → k < 66 → r'.2.1 k = m.1 k := fun k a b => by rw [g3.1 k (by omega) (by omega), g2.1 k (by omega)]
    refine ⟨fun i hi => CR_f (h1 i hi) (kc _ (by omega) (by omega)) (kc _ (by omega) (by omega)), fun i hi => RR_f (h2 i hi) (by rw [kr 57 (by omega) (by omega)]) (kr 53 (by omega) (by omega)) (kr 54 (by omega) (by omega)) (kr 55 (by omega) (by omega)) (kr 56 (by omega) (by omega)), h3, h4, fun i hi => by rw [g3.2.2, g2.2]; exact h5 i hi, fun i hi => by rw [kc 3 (by omega) (by omega), kr 58 (by omega) (by omega)]; exact h6 i hi, ⟨ht, by rw [kc 0 (by omega) (by omega)]; exact h7, by rw [g3.2.1 6 (by omega), g2.1 52 (by omega)]; exact h8, fun z => HT_f (h9 z) (fun k a b => kc k (by omega) (by omega)) (fun k a b => kr k (by omega) (by omega))⟩, ?_⟩
    obtain ⟨o1, o2, o3, o4, o5, o6, o7, o8, o9, o10, o11⟩ := hS
    have k14 : ∀ k, k < 52 → r'.2.1 k = r.2.1 k := fun k hk => g3.1 k (by omega) (by omega)
    exact ⟨t, s, by rw [k14 14 (by omega)]; exact o1, o2, o3, by rw [k14 14 (by omega)]; exact o4, o5, o6, fun i a b => by rw [k14 16 (by omega)]; exact o7 i a b, by rw [k14 14 (by omega)]; exact o8, fun f hf => by rw [k14 15 (by omega)]; exact o11 f hf⟩
  rcases dx_of (x := y) (n := 8) (by omega) with ⟨j, hj, rfl⟩ | hy
  · rcases wh_s h x with ⟨w, hw, rfl, hwh⟩ | hx
    · have e01 : w = 0 ∨ w = 1 := by omega
      rcases e01 with rfl | rfl
      · have H : HC 20 0 N P P m m := fun i hi => ⟨h.1 i hi, RR0 (h.2.1 i hi), h.2.2.1 i hi, h.2.2.1 i hi, RLx_r⟩
        have hc := core 20 0 j N P P (by omega) (by omega) hj H
        unfold OK g72
        rw [g84_0 hj, dx_cl2, q4, cond_true, plk_0]
        refine ob_2 (ob_m hc (fun r hr => ?_))
        show ob (g137 (nI 0) (nI j) u v r.2) _
        unfold g137
        rw [(mem_y hj).2, dx_cl2, e2, cond_true, show g95 (nI 0) (nI 0) (nI 1) r.2 = some (nI 1, r.2) from g95_y (n := 2) (by omega) (by omega), dx_cl2, e2, cond_true, show ai_c .ne (nI 0) (nI 1) = true by decide +kernel, cond_true]
        exact hr
      · obtain ⟨ht, t1, t2, t3⟩ := hwh.resolve_left (by omega)
        cases ht with
        | false =>
          refine OK_e (a := -103) (m := m) ?_ ?_ ⟨N, P, R, h⟩
          · unfold g72
            rw [g84_1 hj t1, dx_cl2, if_neg Bool.false_ne_true, q3, cond_false]
          · unfold g137
            rw [(mem_y hj).2, dx_cl2, e2, cond_true, show g95 (nI 1) (nI 0) (nI 1) m = some (nI 1, m) from g95_y (n := 2) (by omega) (by omega), dx_cl2, e2, cond_true, show ai_c .ne (nI 1) (nI 1) = false by decide +kernel, cond_false, dx_gfI, t2, bI_ne, cond_false]
        | true =>
          obtain ⟨NT, JT, PT, hT⟩ := t3 rfl
          have H : HC 22 1 NT JT PT m m := fun i hi => by
            obtain ⟨a, b, c, d, e⟩ := hT i hi
            exact ⟨a, b, c, d, e⟩
          obtain ⟨rc, erc, hrc⟩ := ob_ex (core 22 1 j NT JT PT (by omega) (by omega) hj H)
          obtain ⟨r0, -, -, fc, -⟩ := ob_ex ((ob_ex (rn_s (by omega) (by omega) H hj u v)).choose_spec.2)
          have er0 := (ob_ex (rn_s (by omega) (by omega) H hj u v)).choose_spec.1
          have e52 : rc.2.1 52 6 = bI true := by
            have eq := Option.some.inj (erc.symm.trans er0)
            rw [eq, fc.1 52 (by omega)]; exact t2
          unfold OK g72
          rw [g84_1 hj t1, dx_cl2, if_pos rfl, q4, cond_true, plk_1, erc]
          show ob (g137 (nI 1) (nI j) u v rc.2) _
          unfold g137
          rw [(mem_y hj).2, dx_cl2, e2, cond_true, show g95 (nI 1) (nI 0) (nI 1) rc.2 = some (nI 1, rc.2) from g95_y (n := 2) (by omega) (by omega), dx_cl2, e2, cond_true, show ai_c .ne (nI 1) (nI 1) = false by decide +kernel, cond_false, dx_gfI, e52, bI_ne, cond_true]
          exact hrc
    · refine OK_e (a := -102) (m := m) ?_ ?_ ⟨N, P, R, h⟩
      · unfold g72
        rw [g84_w hj hx, dx_cl2, q2, cond_false]
      · unfold g137
        rw [(mem_y hj).2, dx_cl2, e2, cond_true, show g95 x (nI 0) (nI 1) m = some (nI 0, m) from g95_n (n := 2) (by omega) (by omega) hx, dx_cl2, e4, cond_false]
  · refine OK_e (a := -101) (m := m) ?_ ?_ ⟨N, P, R, h⟩
    · unfold g72
      rw [g84_m hy, dx_cl2, q1, cond_false]
    · unfold g137
      rw [(mem_n hy).2, dx_cl2, e4, cond_false]
end O2
