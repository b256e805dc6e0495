def FD (m m' : fm) : Prop := (∀ k, k ≠ 52 → k ≠ 59 → k ≠ 62 → k ≠ 63 → m'.1 k = m.1 k) ∧ (∀ f, f ≠ 7 → f ≠ 8 → f ≠ 11 → m'.1 52 f = m.1 52 f) ∧ (∀ k, k ≠ 60 → k ≠ 61 → m'.2 k = m.2 k)
theorem FD_t {m m' m'' : fm} (h1 : FD m m') (h2 : FD m' m'') : FD m m'' := ⟨fun k a b c d => (h2.1 k a b c d).trans (h1.1 k a b c d), fun f a b c => (h2.2.1 f a b c).trans (h1.2.1 f a b c), fun k a b => (h2.2.2 k a b).trans (h1.2.2 k a b)⟩
theorem FD_K {m m' : fm} (h : FK m m') : FD m m' := ⟨fun k a b _ _ => h.1 k a b, h.2.1, h.2.2⟩
theorem FD_2 {m m' : fm} (h : F2 m m') : FD m m' := ⟨fun k _ _ c d => h.1 k c d, fun f _ _ _ => by rw [h.1 52 (by omega) (by omega)], fun k _ _ => by rw [h.2]⟩
section F3
variable {m : fm} {o n p : Nat} {I : cod} {A : Nat → Int64} {U : (Nat → Nat) × (Nat → Nat)}
theorem g50_r (hs : KS m o n I) (hw : WF n I) (hR : RA m A) (hU : RU m U.1 U.2) : ob (g116_50 (bI false) (nI n - nI 1) m) (fun b => ∃ m', b = .inl (bI (qf I n A U n), m') ∧ F2 m m' ∧ RU m' (qs I n A U n).1 (qs I n A U n).2) := by
  have hn := hw.1
  unfold g116_50
  have ei : ∀ i, i < n → nI (n - 1 - i) + (-1) = nI (n - 1) - nI (i + 1) := fun i hi => by
    by_cases h : i + 1 < n
    · rw [dx_sub (by omega), show n - 1 - i = (n - 1 - (i + 1)) + 1 by omega, dx_m1]
    · have e : i = n - 1 := by omega
      subst e
      rw [show n - 1 - (n - 1) = 0 by omega, dx_m0, dx_sm]
  by_cases h0 : n = 0
  · subst h0
    have em : nI 0 - nI 1 = -1 := by decide +kernel
    rw [em]
    refine wl_c (f := fun s : Int32 × Int32 × fm => s116_50 s.1 s.2.1 s.2.2) (fun _ s => s = (bI false, -1, m)) 0 (by omega) (bI false, -1, m) rfl (fun i s hi _ => absurd hi (by omega)) (fun s hss => ?_)
    subst hss
    show ob (s116_50 _ (-1) m) _
    unfold s116_50
    rw [dx_ltm]
    exact ⟨m, rfl, F2_r m, hU⟩
  · have e0 : nI n - nI 1 = nI (n - 1) - nI 0 := by rw [dx_sub (by omega), dx_sub (by omega)]; rfl
    rw [e0]
    refine wl_c (f := fun s : Int32 × Int32 × fm => s116_50 s.1 s.2.1 s.2.2) (fun i s => ∃ mi, s = (bI (qf I n A U i), nI (n - 1) - nI i, mi) ∧ F2 m mi ∧ RU mi (qs I n A U i).1 (qs I n A U i).2) n (by omega) (bI false, nI (n - 1) - nI 0, m) ⟨m, rfl, F2_r m, hU⟩ (fun i s hi hss => ?_) (fun s hss => ?_)
    · obtain ⟨mi, rfl, hF, hVi⟩ := hss
      have hsi := KS_2 hs hF
      have hRi := RA_2 hR hF
      show ob (s116_50 _ (nI (n - 1) - nI i) mi) _
      rw [dx_sub (by omega)]
      rcases RA_N hRi (show n - 1 - i < 24 by omega) with h | h
      · unfold s116_50
        rw [dx_lt0 (by omega), cond_false, dx_ldI (by omega) (by omega), h.1, dx_eq0 (by omega), decide_eq_true rfl, cond_true, ei i hi]
        refine ⟨mi, ?_, hF, ?_⟩
        · rw [qf_1, if_pos h.2]
        · rw [qs_1, if_pos h.2]; exact hVi
      · rw [s50_r hsi hw hRi hVi (by omega) h.1, ei i hi]
        refine ⟨fs1 (fs1 mi 63 (n - 1 - i) (nI (ah I (bb I n A (qs I n A U i).1 (n - 1 - i)) (n - 1 - i)))) 62 (n - 1 - i) (nI (bb I n A (qs I n A U i).1 (n - 1 - i))), ?_, F2_t hF ⟨fun k h1 h2 => by rw [fs1_k h1, fs1_k h2], rfl⟩, ?_⟩
        · rw [qf_1, if_neg h.2]
        · rw [qs_1, if_neg h.2]
          have hb := bb_16 (I := I) (n := n) (A := A) (p := n - 1 - i) hVi.1
          refine ⟨fun q => ?_, fun q => ?_, fun q hq => ?_⟩
          · show upN _ _ _ q < 16
            unfold upN
            split
            · exact ah_16 hw (by omega) hb
            · exact hVi.1 q
          · show upN _ _ _ q < 16
            unfold upN
            split
            · exact hb
            · exact hVi.2.1 q
          · show _ = nI (upN _ _ _ q) ∧ _ = nI (upN _ _ _ q)
            by_cases e : q = n - 1 - i
            · subst e
              rw [upN_s, upN_s, fs1_k (by omega), fs1_at, fs1_at]
              exact ⟨rfl, rfl⟩
            · rw [upN_n e, upN_n e, fs1_k (by omega), fs1_i e, fs1_i e, fs1_k (by omega)]
              exact hVi.2.2 q hq
    · obtain ⟨mi, rfl, hF, hVi⟩ := hss
      show ob (s116_50 _ (nI (n - 1) - nI n) mi) _
      have em : nI (n - 1) - nI n = -1 := by
        have := dx_sm (a := n - 1)
        rw [show n - 1 + 1 = n by omega] at this
        exact this
      unfold s116_50
      rw [em, dx_ltm]
      exact ⟨mi, rfl, hF, hVi⟩
theorem g36_r (hw : WF n I) (hC : CL I n A) (k : Nat) : ∀ (U : (Nat → Nat) × (Nat → Nat)) (m : fm) (fuel : Nat), KS m o n I → RA m A → RU m U.1 U.2 → JR I n A U → 192 < k + (pct U.1 + pct U.2) → k + 1 < fuel → ob (wl (fun s : Int32 × fm => s116_36 s.1 s.2) fuel (bI true, m)) (fun m' => F2 m m' ∧ ∃ V, LFP I n A V ∧ ∀ p, p < 24 → m'.1 62 p = nI (V p)) := by
  induction k with
  | zero => intro U m fuel _ _ _ _ h; have := pct_96 U.1; have := pct_96 U.2; exact absurd h (by omega)
  | succ k ih =>
    intro U m fuel hs hR hU hJ h h3
    have hn := hw.1
    obtain ⟨fuel, rfl⟩ : ∃ f, fuel = f + 2 := ⟨fuel - 2, by omega⟩
    have e := g50_r hs hw hR hU
    have hst : s116_36 (bI true) m = g116_50 (bI false) (nI n - nI 1) m := by
      unfold s116_36
      rw [bI_eq, dx_gfI, hs.2.1]
      rfl
    obtain ⟨b, h1, m', rfl, hF, hU'⟩ := ob_ex e
    obtain ⟨a1, a2, a2', a3, a4⟩ := qs_J hw hJ n (Nat.le_refl n)
    unfold wl
    rw [hst, h1]
    show ob (wl _ (fuel + 1) (bI (qf I n A U n), m')) _
    cases hsw : qf I n A U n with
    | true =>
      have := a3 hsw
      exact ob_m (ih (qs I n A U n) m' (fuel + 1) (KS_2 hs hF) (RA_2 hR hF) hU' a1 (by omega) (by omega)) (fun m'' hm => ⟨F2_t hF hm.1, hm.2⟩)
    | false =>
      obtain ⟨c1, c2⟩ := a4 hsw
      rw [c1] at hU'
      unfold wl s116_36
      rw [bI_eq]
      exact ⟨hF, U.2, LFP_r hw hJ hC c2, fun p hp => (hU'.2.2 p (by omega)).2⟩
theorem g116_r {w j : Nat} (hr : RR m (8 * w + j) n I) (hw : WF n I) (hj : j < 8) (hw2 : w < 2) : ob (g116 (nI w) (nI j) m) (fun m' => FD m m' ∧ KS m' (8 * w + j) n I ∧ RA m' (FV I n) ∧ ∃ V, LFP I n (FV I n) V ∧ ∀ p, p < 24 → m'.1 62 p = nI (V p)) := by
  have hn := hw.1
  unfold g116
  refine ob_1 (ob_m (g113_r hr hw hj hw2) (fun m1 h => ?_))
  obtain ⟨f1, s1, r1⟩ := h
  unfold g116_8
  refine wl_c (f := fun s : Int32 × fm => s116_8 s.1 s.2) (fun i s => ∃ mi, s = (nI i, mi) ∧ F2 m1 mi ∧ ∀ p, p < i → mi.1 63 p = nI 0 ∧ mi.1 62 p = nI 0) 25 (by omega) (nI 0, m1) ⟨m1, rfl, F2_r m1, fun p hp => absurd hp (by omega)⟩ (fun i s hi hss => ?_) (fun s hss => ?_)
  · obtain ⟨mi, rfl, hF, hz⟩ := hss
    show ob (s116_8 (nI i) mi) _
    unfold s116_8
    rw [dx_gt (by omega) (by omega), decide_eq_false (by omega), cond_false, dx_stI (by omega) (by omega), dx_stI (by omega) (by omega), nI_add]
    refine ⟨_, rfl, F2_t hF ⟨fun k h1 h2 => by rw [fs1_k h1, fs1_k h2], rfl⟩, fun p hp => ?_⟩
    by_cases e : p = i
    · subst e
      exact ⟨by rw [fs1_k (by omega), fs1_at], fs1_at⟩
    · exact ⟨by rw [fs1_k (by omega), fs1_i e]; exact (hz p (by omega)).1, by rw [fs1_i e, fs1_k (by omega)]; exact (hz p (by omega)).2⟩
  · obtain ⟨mi, rfl, hF, hz⟩ := hss
    show ob (s116_8 (nI 25) mi) _
    unfold s116_8
    rw [dx_gt (by omega) (by omega), decide_eq_true (by omega), cond_true]
    refine ob_mp ?_
    exact ob_m (g36_r hw (CL_FV hw r1) 193 (fun _ => 0, fun _ => 0) mi lf (KS_2 s1 hF) (RA_2 r1 hF) ⟨fun _ => (show 0 < 16 by omega), fun _ => (show 0 < 16 by omega), hz⟩ JR_0 (by omega) (by rw [lf_eq]; omega)) (fun m'' hm => ⟨FD_t (FD_K f1) (FD_t (FD_2 hF) (FD_2 hm.1)), KS_2 (KS_2 s1 hF) hm.1, RA_2 (RA_2 r1 hF) hm.1, hm.2⟩)
end F3
