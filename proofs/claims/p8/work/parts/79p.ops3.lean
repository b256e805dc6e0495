section O3
variable {m m' : fm} {N : Nat → Nat} {P : Nat → cod} {R : Nat → Bool}
theorem op_told (h : INV m) (x : Int32) : OK (g73 x m) (g138 x) := by
  obtain ⟨N, P, R, h⟩ := h
  obtain ⟨e1, e2, e3, e4⟩ := e10
  obtain ⟨t, s, s1, s2, s3, s4, s5, s6, s7, s8, s9⟩ := id h.2.2.2.2.2.2.2
  have hI : INV m := ⟨N, P, R, h⟩
  rcases dx_of (x := x) (n := 7) (by omega) with ⟨k, hk, rfl⟩ | hx
  · have ek : k = 0 ∨ k = 1 ∨ k = 2 ∨ 3 ≤ k := by omega
    rcases ek with rfl | rfl | rfl | h3
    · refine OK_e (a := (m.1 14 8).toInt64) (m := m) rfl ?_ hI
      unfold g138
      rw [s8]
      rfl
    · refine OK_e (a := (m.1 14 6).toInt64) (m := m) rfl ?_ hI
      unfold g138
      rw [s1, ← s2]
      rfl
    · refine OK_e (a := (m.1 14 7).toInt64) (m := m) rfl ?_ hI
      unfold g138
      rw [s4, ← s5]
      rfl
    · refine OK_e (a := (m.1 15 (k - 3)).toInt64) (m := m) ?_ ?_ hI
      · unfold g73 g39
        simp only [dx_de (show k < 2147483648 by omega) (show 0 < 2147483648 by omega), dx_de (show k < 2147483648 by omega) (show 1 < 2147483648 by omega), dx_de (show k < 2147483648 by omega) (show 2 < 2147483648 by omega)]
        rw [decide_eq_false (by omega), decide_eq_false (by omega), decide_eq_false (by omega), cond_false, cond_false, cond_false, dx_lt (by omega) (by omega), decide_eq_false (by omega), cond_false, dx_ge (by omega) (by omega), decide_eq_false (by omega), cond_false, dx_sub (by omega), dx_ldI (by omega) (by omega), dx_cl2]
      · unfold g138 g95
        simp only [dx_de (show k < 2147483648 by omega) (show 0 < 2147483648 by omega), dx_de (show k < 2147483648 by omega) (show 1 < 2147483648 by omega), dx_de (show k < 2147483648 by omega) (show 2 < 2147483648 by omega)]
        rw [decide_eq_false (by omega), decide_eq_false (by omega), decide_eq_false (by omega), cond_false, cond_false, cond_false, dx_lt (by omega) (by omega), decide_eq_false (by omega), cond_false, dx_gt (by omega) (by omega), decide_eq_false (by omega), cond_false, dx_cl2, e1, cond_false, dx_sub (by omega), dx_ldI (by omega) (by omega), s9 _ (by omega)]
  · have hne : ∀ k, k < 7 → ¬ x = nI k := fun k hk e => by
      rw [e] at hx
      rcases hx with h | h
      · exact nI_pos (by omega) h
      · exact absurd ((nI_leI (by omega) (by omega)).mp h) (by omega)
    have hlt : ai_c .lt x (nI 3) = true ∨ (ai_c .lt x (nI 3) = false ∧ ai_c .ge x (nI 7) = true ∧ ai_c .gt x (nI 6) = true) := by
      by_cases h0 : x < 0
      · left
        refine decide_eq_true ?_
        rw [Int32.lt_iff_toInt_lt] at h0 ⊢
        have e0 : (0 : Int32).toInt = 0 := rfl
        have e1 : (nI 3).toInt = 3 := nI_toInt (by omega)
        omega
      · obtain ⟨j, hj, e⟩ := nI_of h0
        have hle := hx.resolve_left h0
        rw [e] at hle
        have hle : 7 ≤ j := (nI_leI (by omega) (by omega)).mp hle
        right
        rw [e]
        exact ⟨by rw [dx_lt (by omega) (by omega)]; exact decide_eq_false (by omega), by rw [dx_ge (by omega) (by omega)]; exact decide_eq_true (by omega), by rw [dx_gt (by omega) (by omega)]; exact decide_eq_true (by omega)⟩
    refine OK_e (a := Int64.ofNat 18446744073709551514) (m := m) ?_ ?_ hI
    · unfold g73
      rw [decide_eq_false (hne 0 (by omega)), decide_eq_false (hne 1 (by omega)), decide_eq_false (hne 2 (by omega)), cond_false, cond_false, cond_false]
      rcases hlt with h | ⟨h1, h2, h3⟩
      · rw [h, cond_true]
      · rw [h1, cond_false, h2, cond_true]
    · unfold g138 g95
      rw [decide_eq_false (hne 0 (by omega)), decide_eq_false (hne 1 (by omega)), decide_eq_false (hne 2 (by omega)), cond_false, cond_false, cond_false]
      rcases hlt with h | ⟨h1, h2, h3⟩
      · rw [h, cond_true, dx_cl2, e3, cond_true]
      · rw [h1, cond_false, h3, cond_true, dx_cl2, e3, cond_true]
theorem op_said (h : INV m) (x : Int32) : OK (g74 x m) (g139 x) := by
  obtain ⟨N, P, R, h⟩ := h
  obtain ⟨e1, e2, e3, e4⟩ := e10
  obtain ⟨t, s, s1, s2, s3, s4, s5, s6, s7, s8, s9⟩ := id h.2.2.2.2.2.2.2
  have hI : INV m := ⟨N, P, R, h⟩
  -- the reference
  have hr : g139 x m = cl2 (g95 x (nI 0) (nI (min s 60) - nI 1) m) (fun v m2 => bif ai_c .eq v 0 then some (nI 0, m2) else ldI m2 67 60 x fun v4 => some (v4, m2)) := by
    unfold g139 g139_20
    simp only [dx_gfI]
    rw [s5, dx_ge (by omega) (by omega)]
    by_cases h60 : 60 ≤ s
    · rw [decide_eq_true h60, cond_true, Nat.min_eq_right h60]
    · rw [decide_eq_false h60, cond_false, Nat.min_eq_left (by omega)]
  by_cases hx : ∃ i, i < min s 60 ∧ x = nI i
  · obtain ⟨i, hi, rfl⟩ := hx
    refine OK_e (a := m.1 16 i) (m := m) ?_ ?_ hI
    · unfold g74 g40
      rw [dx_lt0 (by omega), cond_false, dx_gfI, s4, dx_ge (by omega) (by omega), decide_eq_false (by omega), cond_false, dx_ge (by omega) (by omega), decide_eq_false (by omega), cond_false, dx_ldI (by omega) (by omega), dx_cl2]
    · rw [hr, dx_sub (by omega), g95_y hi (by omega), dx_cl2, e1, cond_false, dx_ldI (by omega) (by omega), s7 i (by omega) (by omega)]
  · have hx' : x < 0 ∨ nI (min s 60) ≤ x := by
      rcases dx_of (x := x) (n := min s 60) (by omega) with h | h
      · exact absurd h hx
      · exact h
    refine OK_e (a := nI 0) (m := m) ?_ ?_ hI
    · unfold g74 g40
      rw [dx_gfI, s4]
      by_cases h0 : x < 0
      · rw [show ai_c .lt x 0 = true from decide_eq_true h0, cond_true, dx_cl2]
      · rw [show ai_c .lt x 0 = false from decide_eq_false h0, cond_false]
        obtain ⟨j, hj, e⟩ := nI_of h0
        have hle := hx'.resolve_left h0
        rw [e] at hle ⊢
        have hle : min s 60 ≤ j := (nI_leI (by omega) (by omega)).mp hle
        rw [dx_ge (by omega) (by omega), dx_ge (by omega) (by omega)]
        by_cases hs : s ≤ j
        · rw [decide_eq_true hs, cond_true, dx_cl2]
        · rw [decide_eq_false hs, cond_false, decide_eq_true (by omega), cond_true, dx_cl2]
    · rw [hr]
      by_cases h0 : min s 60 = 0
      · rw [h0]
        have h2 := (pl_of (x := x) (n := 0) (by omega)).resolve_left (fun h => absurd h.choose_spec.1 (by omega))
        rw [h2.2 m, dx_cl2, e3, cond_true]
      · rw [dx_sub (by omega), g95_n (by omega) (by omega) hx', dx_cl2, e3, cond_true]
/-- part: both come to their ends -/
theorem op_part (h : INV m) (x y z u : Int32) : ob (g82 x y z u m) (fun r => ob (g141 x y z u r.2) (fun r' => INV r'.2)) := by
  obtain ⟨N, P, R, h⟩ := h
  obtain ⟨e1, e2, e3, e4⟩ := e10
  obtain ⟨q1, q2, q3, q4⟩ := ge_m
  have hI : INV m := ⟨N, P, R, h⟩
  have fin : ∀ (o1 o2 : Int64) , g82 x y z u m = some (o1, m) → g141 x y z u m = some (o2, m) → ob (g82 x y z u m) (fun r => ob (g141 x y z u r.2) (fun r' => INV r'.2)) := by
    intro o1 o2 h1 h2
    rw [h1]
    show ob (g141 x y z u m) _
    rw [h2]
    exact hI
  rcases dx_of (x := y) (n := 8) (by omega) with ⟨j, hj, rfl⟩ | hy
  · rcases dx_of (x := u) (n := 4) (by omega) with ⟨q, hq, rfl⟩ | hu
    · have hc0 : g82 x (nI j) z (nI q) m = g82_22 x (nI j) z (nI q) m := by
        unfold g82
        rw [(mem_y hj).1, dx_cl2, e1, cond_false, dx_lt0 (by omega), cond_false, dx_lt (by omega) (by omega), decide_eq_true (by omega), cond_true]
      have h3 : g95 (nI q) (nI 0) (nI 3) m = some (nI 1, m) := g95_y (n := 4) (by omega) (by omega)
      -- with code on both sides
      have both : ∀ (b w n : Nat) (J I : cod), b + 4 * j < 60 → w < 2 → CR m (b + 4 * j) n J → RR m (8 * w + j) n I → n ≤ 24 → ∃ o1 o2 : Int64, (ldA b (nI j) fun c6 => cl2 (g2 c6 z m) fun v8 m7 => bif ai_c .eq v8 0 then some (Int64.ofNat 18446744073709551515, m7) else cl2 (g4 c6 z (nI q) m7) fun v10 m9 => some (v10.toInt64, m9)) = some (o1, m) ∧ g141_50 (nI w) (nI j) z (nI q) m = some (o2, m) := by
        intro b w n J I hb hw hc hr hn
        unfold g141_50 g98
        rw [dx_ldA hj, pk_mul, nI_add, dx_ldI (by omega) (by omega), hr.2.1]
        rcases pl_of (x := z) hn with ⟨p, hp, rfl⟩ | ⟨h1, h2⟩
        · have hi := ix_o hr.1 (show p < 24 by omega)
          rw [g2_s hc hn (by omega), dx_cl2, bI_eq, decide_eq_true hp, Bool.not_true, cond_false, g4_s (by omega), dx_cl2, pl_y hn hp, dx_cl2, e2, cond_true, dx_cl2, pk_mul, nI_add, dx_ldI hi (by omega), dx_ldI hi (by omega), dx_ldI hi (by omega), dx_ldI hi (by omega)]
          cases ai_c .ne (nI q) 0 with
          | false => exact ⟨_, _, rfl, rfl⟩
          | true =>
            cases ai_c .ne (nI q) (nI 1) with
            | false => exact ⟨_, _, rfl, rfl⟩
            | true =>
              cases ai_c .ne (nI q) (nI 2) with
              | false => exact ⟨_, _, rfl, rfl⟩
              | true => exact ⟨_, _, rfl, rfl⟩
        · rw [h1 _ _ _ hc, dx_cl2, e3, cond_true, h2 m, dx_cl2, e4, cond_false]
          exact ⟨_, _, rfl, rfl⟩
      rcases wh_s h x with ⟨w, hw, rfl, hwh⟩ | hx
      · have h95 : g95 (nI w) (nI 0) (nI 1) m = some (nI 1, m) := g95_y (n := 2) hw (by omega)
        have e01 : w = 0 ∨ w = 1 := by omega
        rcases e01 with rfl | rfl
        · obtain ⟨o1, o2, b1, b2⟩ := both 20 0 (N j) (P j) (P j) (by omega) (by omega) (h.1 j hj) (RR0 (h.2.1 j hj)) (h.2.2.1 j hj).1
          refine fin o1 o2 ?_ ?_
          · rw [hc0]
            unfold g82_22
            rw [g84_0 hj, dx_cl2, q4, cond_true, plk_0]
            exact b1
          · unfold g141
            rw [(mem_y hj).2, dx_cl2, e2, cond_true, h95, dx_cl2, e1, cond_false, h3, dx_cl2, e2, cond_true, show ai_c .ne (nI 0) (nI 1) = true by decide +kernel, cond_true]
            exact b2
        · obtain ⟨ht, t1, t2, t3⟩ := hwh.resolve_left (by omega)
          cases ht with
          | false =>
            refine fin ((-103 : Int32)).toInt64 (Int64.ofNat 18446744073709551513) ?_ ?_
            · rw [hc0]
              unfold g82_22
              rw [g84_1 hj t1, dx_cl2, if_neg Bool.false_ne_true, q3, cond_false]
            · unfold g141
              rw [(mem_y hj).2, dx_cl2, e2, cond_true, h95, dx_cl2, e1, cond_false, h3, dx_cl2, e2, cond_true, show ai_c .ne (nI 1) (nI 1) = false by decide +kernel, cond_false, dx_gfI, t2, bI_ne, cond_false]
          | true =>
            obtain ⟨NT, JT, PT, hT⟩ := t3 rfl
            obtain ⟨a, b, c⟩ := hT j hj
            obtain ⟨o1, o2, b1, b2⟩ := both 22 1 (NT j) (JT j) (PT j) (by omega) (by omega) a b c.1.1
            refine fin o1 o2 ?_ ?_
            · rw [hc0]
              unfold g82_22
              rw [g84_1 hj t1, dx_cl2, if_pos rfl, q4, cond_true, plk_1]
              exact b1
            · unfold g141
              rw [(mem_y hj).2, dx_cl2, e2, cond_true, h95, dx_cl2, e1, cond_false, h3, dx_cl2, e2, cond_true, show ai_c .ne (nI 1) (nI 1) = false by decide +kernel, cond_false, dx_gfI, t2, bI_ne, cond_true]
              exact b2
      · refine fin ((-102 : Int32)).toInt64 (Int64.ofNat 18446744073709551514) ?_ ?_
        · rw [hc0]
          unfold g82_22
          rw [g84_w hj hx, dx_cl2, q2, cond_false]
        · unfold g141
          rw [(mem_y hj).2, dx_cl2, e2, cond_true, show g95 x (nI 0) (nI 1) m = some (nI 0, m) from g95_n (n := 2) (by omega) (by omega) hx, dx_cl2, e3, cond_true]
    · have hu2 : g82 x (nI j) z u m = some (Int64.ofNat 18446744073709551514, m) := by
        unfold g82
        rw [(mem_y hj).1, dx_cl2, e1, cond_false]
        rcases lt_of (n := 4) (by omega) (by omega) hu with h | ⟨h1, h2, h3, h4⟩
        · rw [h, cond_true]
        · rw [h1, cond_false, h4, cond_false]
      have h3 : g95 u (nI 0) (nI 3) m = some (nI 0, m) := g95_n (n := 4) (by omega) (by omega) hu
      refine fin _ (Int64.ofNat 18446744073709551514) hu2 ?_
      unfold g141
      rw [(mem_y hj).2, dx_cl2, e2, cond_true]
      rcases wh_s h x with ⟨w, hw, rfl, hwh⟩ | hx
      · rw [show g95 (nI w) (nI 0) (nI 1) m = some (nI 1, m) from g95_y (n := 2) hw (by omega), dx_cl2, e1, cond_false, h3, dx_cl2, e4, cond_false]
      · rw [show g95 x (nI 0) (nI 1) m = some (nI 0, m) from g95_n (n := 2) (by omega) (by omega) hx, dx_cl2, e3, cond_true]
  · refine fin ((-101 : Int32)).toInt64 (Int64.ofNat 18446744073709551515) ?_ ?_
    · unfold g82 g82_22
      rw [(mem_n hy).1, dx_cl2, e3, cond_true, g84_m hy, dx_cl2, q1, cond_false]
    · unfold g141
      rw [(mem_n hy).2, dx_cl2, e4, cond_false]
/-- clear -/
def sum8 (N : Nat → Nat) : Nat → Int32
  | 0 => nI 0
  | i + 1 => sum8 N i + nI (N i)
theorem op_clear (h : INV m) : OK (g83 m) g142 := by
  obtain ⟨N, P, R, h⟩ := h
  have hc : ob (g83 m) (fun r => r.1 = sum8 N 8 ∧ (∀ k, 52 ≤ k → r.2.1 k = m.1 k) ∧ r.2.2 = m.2 ∧ (∀ j, j < 8 → r.2.1 3 j = nI 0 ∧ r.2.1 (20 + 4 * j) 1 = nI 0) ∧ r.2.1 0 7 = nI 0 ∧ (∀ f, f < 4 → r.2.1 15 f = nI 0) ∧ r.2.1 14 6 = nI 0 ∧ r.2.1 14 7 = nI 0 ∧ r.2.1 14 8 = nI 0) := by
    unfold g83 g83_4
    refine wl_c (f := fun s : Int32 × Int32 × fm => s83_4 s.1 s.2.1 s.2.2) (fun i s => ∃ mi, s = (sum8 N i, nI i, mi) ∧ (∀ k, 52 ≤ k → mi.1 k = m.1 k) ∧ mi.2 = m.2 ∧ (∀ j, i ≤ j → j < 8 → CR mi (20 + 4 * j) (N j) (P j)) ∧ (∀ j, j < i → mi.1 3 j = nI 0 ∧ mi.1 (20 + 4 * j) 1 = nI 0)) 8 (by omega) (nI 0, nI 0, m) ⟨m, rfl, fun _ _ => rfl, rfl, fun j _ hj => h.1 j hj, fun j hj => absurd hj (by omega)⟩ (fun i s hi hss => ?_) (fun s hss => ?_)
    · obtain ⟨mi, rfl, f1, f2, hC, hz⟩ := hss
      show ob (s83_4 (sum8 N i) (nI i) mi) _
      unfold s83_4
      rw [dx_ge (by omega) (by omega), decide_eq_false (by omega), cond_false, dx_ldA hi, g7_s (hC i (Nat.le_refl i) hi), dx_cl2, dx_stB hi (by omega) (by omega), nI_add]
      refine ⟨_, rfl, fun k hk => by rw [fs1_k (by omega), fs1_k (by omega)]; exact f1 k hk, f2, fun j a b => CR_f (hC j (by omega) b) (by rw [fs1_k (by omega), fs1_k (by omega)]) (by rw [fs1_k (by omega), fs1_k (by omega)]), fun j hj => ?_⟩
      by_cases e : j = i
      · subst e
        exact ⟨fs1_at, by rw [fs1_k (by omega), fs1_at]⟩
      · refine ⟨by rw [fs1_i e, fs1_k (by omega)]; exact (hz j (by omega)).1, by rw [fs1_k (by omega), fs1_k (by omega)]; exact (hz j (by omega)).2⟩
    · obtain ⟨mi, rfl, f1, f2, hC, hz⟩ := hss
      show ob (s83_4 (sum8 N 8) (nI 8) mi) _
      unfold s83_4
      rw [dx_ge (by omega) (by omega), decide_eq_true (by omega), cond_true, dx_pfB (by omega)]
      refine ob_1 (ob_m g41_s (fun m2 h2 => ?_))
      obtain ⟨g1, g2, g3, g4, g5, g6⟩ := h2
      refine ⟨rfl, fun k hk => by show m2.1 k = _; rw [g1.1 k (by omega), fs1_k (by omega)]; exact f1 k hk, by show m2.2 = _; rw [g1.2]; exact f2, fun j hj => ⟨by show m2.1 3 j = _; rw [g1.1 3 (by omega), fs1_k (by omega)]; exact (hz j hj).1, by show m2.1 (20 + 4 * j) 1 = _; rw [g1.1 _ (by omega), fs1_k (by omega)]; exact (hz j hj).2⟩, by show m2.1 0 7 = _; rw [g1.1 0 (by omega), fs1_at], g2, g4, g5, g6⟩
  unfold OK
  refine ob_m hc (fun r hr => ?_)
  obtain ⟨rv, rm⟩ := r
  obtain ⟨hr1, hr2, hr3, hr4, hr5, hr6, hr7, hr8, hr9⟩ := hr
  have hr1 : rv = sum8 N 8 := hr1
  subst hr1
  show ob (g142 rm) _
  have h56 : ∀ mi : fm, (∀ k, k < 52 → mi.1 k = rm.1 k) → mi.2 = rm.2 → (∀ j, j < 8 → mi.1 57 j = nI 0 ∧ mi.1 58 j = nI 0) → mi.1 52 6 = nI 0 → ob (g142_56 (sum8 N 8) (nI 0) mi) (fun r' => sum8 N 8 = r'.1 ∧ INV r'.2) := by
    intro mi k1 k2 k3 k4
    unfold g142_56
    refine wl_c (f := fun s : Int32 × fm => s142_56 (sum8 N 8) s.1 s.2) (fun i s => ∃ mj, s = (nI i, mj) ∧ (∀ k, ¬ k = 66 → mj.1 k = mi.1 k) ∧ mj.2 = mi.2 ∧ ∀ f, f < i → mj.1 66 f = nI 0) 4 (by omega) (nI 0, mi) ⟨mi, rfl, fun _ _ => rfl, rfl, fun f hf => absurd hf (by omega)⟩ (fun i s hi hss => ?_) (fun s hss => ?_)
    · obtain ⟨mj, rfl, f1, f2, hz⟩ := hss
      show ob (s142_56 _ (nI i) mj) _
      unfold s142_56
      rw [dx_ge (by omega) (by omega), decide_eq_false (by omega), cond_false, dx_stI hi (by omega), nI_add]
      refine ⟨fs1 mj 66 i (nI 0), rfl, fun k hk => by rw [fs1_k hk]; exact f1 k hk, f2, fun f hf => ?_⟩
      by_cases e : f = i
      · subst e; exact fs1_at
      · rw [fs1_i e]; exact hz f (by omega)
    · obtain ⟨mj, rfl, f1, f2, hz⟩ := hss
      show ob (s142_56 _ (nI 4) mj) _
      unfold s142_56
      simp only [dx_pfI]
      rw [dx_ge (by omega) (by omega), decide_eq_true (by omega), cond_true]
      generalize hm4 : fs1 (fs1 (fs1 mj 52 20 (nI 0)) 52 21 (nI 0)) 52 22 (nI 0) = m4
      have a1 : ∀ k, ¬ k = 52 → m4.1 k = mj.1 k := fun k hk => by rw [← hm4, fs1_k hk, fs1_k hk, fs1_k hk]
      have a2 : m4.2 = mj.2 := by rw [← hm4]; rfl
      have a20 : m4.1 52 20 = nI 0 := by rw [← hm4, fs1_i (by omega), fs1_i (by omega), fs1_at]
      have a21 : m4.1 52 21 = nI 0 := by rw [← hm4, fs1_i (by omega), fs1_at]
      have a22 : m4.1 52 22 = nI 0 := by rw [← hm4, fs1_at]
      have a6 : m4.1 52 6 = nI 0 := by rw [← hm4, fs1_i (by omega), fs1_i (by omega), fs1_i (by omega), f1 52 (by omega)]; exact k4
      have ac : ∀ k, k < 52 → m4.1 k = rm.1 k := fun k hk => by rw [a1 k (by omega), f1 k (by omega), k1 k hk]
      refine ⟨rfl, fun _ => 0, P, fun _ => false, fun j hj => ⟨by show m4.1 (20 + 4 * j) 1 = nI 0; rw [ac _ (by omega)]; exact (hr4 j hj).2, fun p hp => absurd hp (Nat.not_lt_zero _)⟩, fun j hj => ⟨by omega, by show m4.1 57 j = nI 0; rw [a1 57 (by omega), f1 57 (by omega)]; exact (k3 j hj).1, fun p hp => absurd hp (Nat.not_lt_zero _)⟩, fun j hj => WF_0, fun j hj => NZ_0, fun i hi => by show m4.2 5 i = 0; rw [a2, f2, k2]; show rm.2 5 i = 0; rw [show rm.2 = m.2 from hr3]; exact h.2.2.2.2.1 i hi, fun j hj => ⟨by show m4.1 3 j = bI false; rw [ac 3 (by omega)]; exact (hr4 j hj).1, by show m4.1 58 j = bI false; rw [a1 58 (by omega), f1 58 (by omega)]; exact (k3 j hj).2⟩, ⟨false, by show m4.1 0 7 = bI false; rw [ac 0 (by omega)]; exact hr5, a6, (fun z => absurd z Bool.false_ne_true)⟩, 0, 0, by show m4.1 14 6 = _; rw [ac 14 (by omega)]; exact hr7, a21, by omega, by show m4.1 14 7 = _; rw [ac 14 (by omega)]; exact hr8, a20, by omega, fun i _ hi => absurd hi (by omega), by show m4.1 14 8 = m4.1 52 22; rw [ac 14 (by omega), a22]; exact hr9, fun f hf => by show m4.1 15 f = m4.1 66 f; rw [ac 15 (by omega), a1 66 (by omega), hz f hf]; exact hr6 f hf⟩
  unfold g142 g142_4
  refine wl_c (f := fun s : Int32 × Int32 × fm => s142_4 s.1 s.2.1 s.2.2) (fun i s => ∃ mi, s = (sum8 N i, nI i, mi) ∧ (∀ k, k < 52 → mi.1 k = rm.1 k) ∧ mi.2 = rm.2 ∧ (∀ j, i ≤ j → j < 8 → mi.1 57 j = nI (N j)) ∧ (∀ j, j < i → mi.1 57 j = nI 0 ∧ mi.1 58 j = nI 0)) 8 (by omega) (nI 0, nI 0, rm) ⟨rm, rfl, fun _ _ => rfl, rfl, fun j _ hj => by rw [show rm.1 57 = m.1 57 from hr2 57 (by omega)]; exact (h.2.1 j hj).2.1, fun j hj => absurd hj (by omega)⟩ (fun i s hi hss => ?_) (fun s hss => ?_)
  · obtain ⟨mi, rfl, f1, f2, hC, hz⟩ := hss
    show ob (s142_4 (sum8 N i) (nI i) mi) _
    unfold s142_4
    rw [dx_ge (by omega) (by omega), decide_eq_false (by omega), cond_false, dx_ldI (by omega) (by omega), dx_stI (by omega) (by omega), nI_add, dx_stI (by omega) (by omega), dx_stB hi (by omega) (by omega), hC i (Nat.le_refl i) hi, nI_add]
    refine ⟨_, rfl, fun k hk => by rw [fs1_k (by omega), fs1_k (by omega), fs1_k (by omega)]; exact f1 k hk, f2, fun j a b => by rw [fs1_k (by omega), fs1_i (by omega), fs1_i (by omega)]; exact hC j (by omega) b, fun j hj => ?_⟩
    by_cases e : j = i
    · subst e
      exact ⟨by rw [fs1_k (by omega), fs1_i (by omega), fs1_at], fs1_at⟩
    · refine ⟨by rw [fs1_k (by omega), fs1_i (by omega), fs1_i e]; exact (hz j (by omega)).1, by rw [fs1_i e, fs1_k (by omega), fs1_k (by omega)]; exact (hz j (by omega)).2⟩
  · obtain ⟨mi, rfl, f1, f2, hC, hz⟩ := hss
    show ob (s142_4 (sum8 N 8) (nI 8) mi) _
    unfold s142_4
    rw [dx_ge (by omega) (by omega), decide_eq_true (by omega), cond_true, dx_pfB (by omega)]
    refine ob_mp (h56 _ (fun k hk => by rw [fs1_k (by omega)]; exact f1 k hk) f2 (fun j hj => by rw [fs1_k (by omega), fs1_k (by omega)]; exact hz j hj) fs1_at)
end O3
