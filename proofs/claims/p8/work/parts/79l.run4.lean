section R4
variable {b w : Nat} {nn : Nat → Nat} {Jc Jr : Nat → cod} {mc mr : fm} {M : Nat → Nat} {q pc pr t s j p : Nat} {e : Int32}
theorem tn_s (hb : 20 ≤ b) (hw2 : w < 2) (H : HC b w nn Jc Jr mc mr) (hO : SO mc mr t s (-1)) (hF : SF nn Jr mc mr q M pc pr) : ob (g44 b mc) (fun mc' => ob (s137_94 (nI w) mr) (Sum.elim (fun mr' => ST nn Jr mc mr mc' mr' t q) (fun _ => False))) := by
  obtain ⟨a1, a2, a3, a4, a5, a6, a7, a8, a9, a10, a11⟩ := id hF
  obtain ⟨o1, o2, o3, o4, o5, o6, o7, o8, o9, o10, o11⟩ := id hO
  obtain ⟨m1, m2, m3⟩ := a4 q (Nat.le_refl q)
  obtain ⟨Cj, Rj, Wc, Wr, Lj⟩ := H (M q) m1
  have hn := Wc.1
  have hr : s137_94 (nI w) mr = (bif decide (pr < nn (M q)) then bif decide (¬ t = 2000) then cl1 (g136 (nI (24 * (8 * w + M q) + pr)) (fs1 mr 52 21 (nI (t + 1)))) (fun m23 => some (.inl m23)) else some (.inl (fs1 mr 52 24 (nI 4))) else cl1 (g135 (nI 0) mr) (fun m25 => some (.inl m25))) := by
    unfold s137_94 g98
    simp only [dx_gfI, dx_pfI, dx_cl2]
    rw [o10, ge_m1, cond_false, a2, dx_sub (by omega), show q + 1 - 1 = q by omega, dx_ldI (by omega) (by omega), m3, dx_ldI (by omega) (by omega), a9, pk_mul, nI_add, dx_ldI (by omega) (by omega), Rj.2.1, dx_lt (by omega) (by omega), o2, dx_ne (by omega) (by omega), nI_add, pk_mul, nI_add]
  unfold g44
  simp only [dx_gfI, dx_pfI]
  rw [a1, dx_sub (by omega), show q + 1 - 1 = q by omega, dx_ldI (by omega) (by omega), m2, dx_ldA m1, dx_ldI (by omega) (by omega), a8, g2_s Cj hn (by omega), dx_cl2, bI_ne]
  by_cases hp : pc < nn (M q)
  · have e : pc = pr := by
      rcases a10 with e | e
      · exact e
      · omega
    subst e
    rw [decide_eq_true hp, cond_true, o1, dx_lt (by omega) (by omega), nI_add]
    by_cases ht : t < 2000
    · rw [decide_eq_true ht, cond_true]
      have fc : FRc mc (fs1 mc 14 6 (nI (t + 1))) := FRc_s (by omega) (by omega)
      have fr : FRr mr (fs1 mr 52 21 (nI (t + 1))) := FRr_52 (by omega)
      refine ob_1 (ob_m (ks_s (t := t + 1) hb hw2 (HC_f hb H fc fr) (SO_d hO ht) (by omega) (SF_d hF) rfl hp (by omega)) (fun mc' h => ?_))
      show ob (s137_94 (nI w) mr) _
      rw [hr, decide_eq_true hp, cond_true, decide_eq_true (by omega), cond_true]
      refine ob_1 (ob_m h (fun mr' h => ?_))
      obtain ⟨f1, f2, h⟩ := h
      exact ⟨FRc_t fc f1, FRr_t fr f2, h⟩
    · rw [decide_eq_false ht, cond_false]
      show ob (s137_94 (nI w) mr) _
      rw [hr, decide_eq_true hp, cond_true, decide_eq_false (by omega), cond_false]
      exact ⟨FRc_s (by omega) (by omega), FRr_52 (by omega), t, s, nI 4, SO_e hO, Or.inl ⟨4, by omega, rfl⟩⟩
  · have hp' : ¬ pr < nn (M q) := by
      rcases a10 with e | e
      · omega
      · omega
    rw [decide_eq_false hp, cond_false]
    obtain ⟨mc', mr', e1, e2, f1, f2, e', o', hh⟩ := lv_s hb H hO a1 a2 a3 a4 a5 a11 (nI 0)
    rw [e1, dx_cl1]
    show ob (s137_94 (nI w) mr) _
    rw [hr, decide_eq_false hp', cond_false, e2, dx_cl1]
    refine ⟨f1, f2, t, s, e', o', ?_⟩
    rcases hh with hh | ⟨hh, q', M', pc', pr', sf, hq'⟩
    · exact Or.inl ⟨0, by omega, hh⟩
    · exact Or.inr ⟨hh, q', M', pc', pr', sf, by omega⟩
theorem ne_m1 : ∀ k, k < 5 → ai_c .ne (nI k) (-1) = true ∧ ai_c .ge (nI k) 0 = true := by decide +kernel
theorem rl_s (hb : 20 ≤ b) (hw2 : w < 2) (k : Nat) : ∀ (mc mr : fm) (t s q : Nat) (M : Nat → Nat) (pc pr x5 f1 f2 : Nat), HC b w nn Jc Jr mc mr → SO mc mr t s (-1) → SF nn Jr mc mr q M pc pr → 2 * (2000 - t) + q < k → x5 + k < 10000 → k + 1 < f1 → k + 1 < f2 → ob (wl (fun s : Int32 × fm => s42_20 b s.1 s.2) f1 (nI x5, mc)) (fun r => ob (wl (fun s : fm => s137_94 (nI w) s) f2 mr) (fun r' => r.1 = r'.1 ∧ FRc mc r.2 ∧ FRr mr r'.2 ∧ ∃ t s e, SO r.2 r'.2 t s e)) := by
  induction k with
  | zero => intro mc mr t s q M pc pr x5 f1 f2 _ _ _ h; exact absurd h (Nat.not_lt_zero _)
  | succ k ih =>
    intro mc mr t s q M pc pr x5 f1 f2 H hO hF hk hx h1 h2
    obtain ⟨f1, rfl⟩ : ∃ f, f1 = f + 2 := ⟨f1 - 2, by omega⟩
    obtain ⟨f2, rfl⟩ : ∃ f, f2 = f + 2 := ⟨f2 - 2, by omega⟩
    obtain ⟨mc', e1, hh⟩ := ob_ex (tn_s hb hw2 H hO hF)
    obtain ⟨z, e2, hh⟩ := ob_ex hh
    cases z with
    | inr z => exact hh.elim
    | inl mr' =>
      obtain ⟨fc, fr, t', s', e', o', hcase⟩ := (show ST nn Jr mc mr mc' mr' t q from hh)
      have hst : s42_20 b (nI x5) mc = some (.inl (nI (x5 + 1), mc')) := by
        unfold s42_20
        rw [dx_gfI, hO.2.2.2.2.2.2.2.2.1, show ai_c .ne (-1) (-1) = false by decide +kernel, cond_false, dx_ge (by omega) (by omega), decide_eq_false (by omega), cond_false, e1, dx_cl1, nI_add]
      rw [show f1 + 2 = f1 + 1 + 1 from rfl, show f2 + 2 = f2 + 1 + 1 from rfl, wl_step hst, wl_step e2]
      rcases hcase with ⟨kk, hkk, rfl⟩ | ⟨rfl, q', M', pc', pr', sf, hm⟩
      · obtain ⟨n1, n2⟩ := ne_m1 kk hkk
        have x1 : wl (fun s : Int32 × fm => s42_20 b s.1 s.2) (f1 + 1) (nI (x5 + 1), mc') = some (nI kk, mc') := by
          unfold wl s42_20
          simp only [dx_gfI]
          rw [o'.2.2.2.2.2.2.2.2.1, n1]
          rfl
        have x2 : wl (fun s : fm => s137_94 (nI w) s) (f2 + 1) mr' = some (nI kk, mr') := by
          unfold wl s137_94
          simp only [dx_gfI]
          rw [o'.2.2.2.2.2.2.2.2.2.1, n2]
          rfl
        rw [x1, x2]
        exact ⟨rfl, fc, fr, t', s', _, o'⟩
      · have hh := ih mc' mr' t' s' q' M' pc' pr' (x5 + 1) (f1 + 1) (f2 + 1) (HC_f hb H fc fr) o' sf (by omega) (by omega) (by omega) (by omega)
        exact ob_m hh (fun r hr => ob_m hr (fun r' hr => ⟨hr.1, FRc_t fc hr.2.1, FRr_t fr hr.2.2.1, hr.2.2.2⟩))
theorem g41_s {m : fm} : ob (g41 m) (fun m' => FRc m m' ∧ (∀ f, f < 4 → m'.1 15 f = nI 0) ∧ m'.1 14 5 = nI 0 ∧ m'.1 14 6 = nI 0 ∧ m'.1 14 7 = nI 0 ∧ m'.1 14 8 = nI 0) := by
  unfold g41 g41_2
  refine wl_c (f := fun s : Int32 × fm => s41_2 s.1 s.2) (fun i s => ∃ mi, s = (nI i, mi) ∧ FRc m mi ∧ ∀ f, f < i → mi.1 15 f = nI 0) 4 (by omega) (nI 0, m) ⟨m, rfl, FRc_r m, fun f hf => absurd hf (by omega)⟩ (fun i s hi hss => ?_) (fun s hss => ?_)
  · obtain ⟨mi, rfl, hF, hz⟩ := hss
    show ob (s41_2 (nI i) mi) _
    unfold s41_2
    rw [dx_ge (by omega) (by omega), decide_eq_false (by omega), cond_false, dx_stI hi (by omega), nI_add]
    refine ⟨_, rfl, FRc_t hF (FRc_s (by omega) (by omega)), fun f hf => ?_⟩
    by_cases e : f = i
    · subst e; exact fs1_at
    · rw [fs1_i e]; exact hz f (by omega)
  · obtain ⟨mi, rfl, hF, hz⟩ := hss
    show ob (s41_2 (nI 4) mi) _
    unfold s41_2
    simp only [dx_pfI]
    rw [dx_ge (by omega) (by omega), decide_eq_true (by omega), cond_true]
    refine ⟨FRc_t hF (FRc_t (FRc_s (by omega) (by omega)) (FRc_t (FRc_s (by omega) (by omega)) (FRc_t (FRc_s (by omega) (by omega)) (FRc_s (by omega) (by omega))))), fun f hf => ?_, ?_, ?_, ?_, fs1_at⟩
    · rw [fs1_k (by omega), fs1_k (by omega), fs1_k (by omega), fs1_k (by omega)]; exact hz f hf
    · rw [fs1_i (by omega), fs1_i (by omega), fs1_i (by omega), fs1_at]
    · rw [fs1_i (by omega), fs1_i (by omega), fs1_at]
    · rw [fs1_i (by omega), fs1_at]
/-- a RUN, both -/
theorem rn_s (hb : 20 ≤ b) (hw2 : w < 2) (H : HC b w nn Jc Jr mc mr) (hj : j < 8) (x y : Int32) : ob (g42 b (nI j) x y mc) (fun r => ob (g137_40 (nI w) (nI j) x y (nI 0) mr) (fun r' => r.1 = r'.1 ∧ FRc mc r.2 ∧ FRr mr r'.2 ∧ ∃ t s e, SO r.2 r'.2 t s e)) := by
  unfold g42
  refine ob_1 (ob_m g41_s (fun m1 h1 => ?_))
  obtain ⟨f1, z15, z5, z6, z7, z8⟩ := h1
  rw [dx_pfI]
  unfold g43
  simp only [dx_gfI, dx_pfI]
  rw [fs1_i (by omega), z5, dx_lt (by omega) (by omega), decide_eq_true (by omega), cond_true]
  simp only [pk_mul, nI_add]
  rw [dx_stI (by omega) (by omega), dx_stI (by omega) (by omega), dx_stI (by omega) (by omega), dx_stI (by omega) (by omega)]
  simp only [fs1_k (show ¬ 14 = 17 by omega), fs1_k (show ¬ 14 = 18 by omega), fs1_k (show ¬ 14 = 19 by omega), fs1_i (show ¬ 5 = 9 by omega), z5]
  rw [dx_stI (by omega) (by omega)]
  simp only [fs1_k (show ¬ 14 = 17 by omega), fs1_k (show ¬ 14 = 18 by omega), fs1_k (show ¬ 14 = 19 by omega), fs1_i (show ¬ 5 = 9 by omega), z5]
  rw [dx_stI (by omega) (by omega)]
  simp only [fs1_k (show ¬ 14 = 17 by omega), fs1_k (show ¬ 14 = 18 by omega), fs1_k (show ¬ 14 = 19 by omega), fs1_i (show ¬ 5 = 9 by omega), z5, nI_add]
  rw [dx_cl1]
  generalize hm2 : fs1 (fs1 (fs1 (fs1 (fs1 (fs1 (fs1 (fs1 m1 14 9 (-1)) 17 (0 * 4) x) 17 (0 * 4 + 1) y) 17 (0 * 4 + 2) (nI 0)) 17 (0 * 4 + 3) (nI 0)) 18 0 (nI 0)) 19 0 (nI j)) 14 5 (nI (0 + 1)) = m2
  have em : m2 = fs1 (fs1 (fs1 (r4 (fs1 m1 14 9 (-1)) 17 0 x y (nI 0) (nI 0)) 18 0 (nI 0)) 19 0 (nI j)) 14 5 (nI 1) := hm2.symm
  have c1 : FRc mc m2 := by
    rw [em]
    exact FRc_t f1 (FRc_t (FRc_s (by omega) (by omega)) (FRc_t (FRc_t (FRc_s (by omega) (by omega)) (FRc_t (FRc_s (by omega) (by omega)) (FRc_t (FRc_s (by omega) (by omega)) (FRc_s (by omega) (by omega))))) (FRc_t (FRc_s (by omega) (by omega)) (FRc_t (FRc_s (by omega) (by omega)) (FRc_s (by omega) (by omega))))))
  have k14 : ∀ i, ¬ i = 5 → ¬ i = 9 → m2.1 14 i = m1.1 14 i := fun i h5 h9 => by rw [em, fs1_i h5, fs1_k (by omega), fs1_k (by omega), r4_k (by omega), fs1_i h9]
  have k149 : m2.1 14 9 = -1 := by rw [em, fs1_i (by omega), fs1_k (by omega), fs1_k (by omega), r4_k (by omega), fs1_at]
  have k145 : m2.1 14 5 = nI 1 := by rw [em]; exact fs1_at
  have k15 : m2.1 15 = m1.1 15 := by rw [em, fs1_k (by omega), fs1_k (by omega), fs1_k (by omega), r4_k (by omega), fs1_k (by omega)]
  have k17 : m2.1 17 = (r4 (fs1 m1 14 9 (-1)) 17 0 x y (nI 0) (nI 0)).1 17 := by rw [em, fs1_k (by omega), fs1_k (by omega), fs1_k (by omega)]
  have k18 : m2.1 18 0 = nI 0 := by rw [em, fs1_k (by omega), fs1_k (by omega), fs1_at]
  have k19 : m2.1 19 0 = nI j := by rw [em, fs1_k (by omega), fs1_at]
  clear hm2 em
  -- the reference's beginning
  have hre : ob (g137_40 (nI w) (nI j) x y (nI 0) mr) (fun r' => ∃ m3, wl (fun s : fm => s137_94 (nI w) s) lf m3 = some r' ∧ FRr mr m3 ∧ HC b w nn Jc Jr m2 m3 ∧ SO m2 m3 0 0 (-1) ∧ SF nn Jr m2 m3 0 (fun _ => j) 0 0) ∨ True := Or.inr trivial
  clear hre
  have main : ∀ mi : fm, FRr mr mi → (∀ f, f < 4 → mi.1 66 f = nI 0) → ob (g42_20 b (nI 0) m2) (fun r => ob (s137_40 (nI w) (nI j) x y (nI 4) mi) (Sum.elim (fun _ => False) (fun r' => r.1 = r'.1 ∧ FRc mc r.2 ∧ FRr mr r'.2 ∧ ∃ t s e, SO r.2 r'.2 t s e))) := by
    intro mi fi z66
    unfold s137_40 g134
    simp only [dx_gfI, dx_pfI]
    rw [dx_ge (by omega) (by omega), decide_eq_true (by omega), cond_true]
    have e23 : ∀ (m : fm) (v : Int32), (fs1 (fs1 m 52 23 (nI 0)) 52 24 v).1 52 23 = nI 0 := fun m v => by rw [fs1_i (by omega), fs1_at]
    simp only [e23]
    rw [dx_stI (by omega) (by omega)]
    simp only [fs1_k (show ¬ 52 = 69 by omega), fs1_k (show ¬ 52 = 68 by omega), fs1_k (show ¬ 52 = 70 by omega), fs1_k (show ¬ 52 = 71 by omega), e23, pk_mul, nI_add]
    rw [dx_stI (by omega) (by omega)]
    simp only [fs1_k (show ¬ 52 = 69 by omega), fs1_k (show ¬ 52 = 68 by omega), fs1_k (show ¬ 52 = 70 by omega), fs1_k (show ¬ 52 = 71 by omega), e23, pk_mul, nI_add]
    rw [dx_stI (by omega) (by omega)]
    simp only [fs1_k (show ¬ 52 = 69 by omega), fs1_k (show ¬ 52 = 68 by omega), fs1_k (show ¬ 52 = 70 by omega), fs1_k (show ¬ 52 = 71 by omega), e23, pk_mul, nI_add]
    rw [dx_stI (by omega) (by omega)]
    simp only [fs1_k (show ¬ 52 = 69 by omega), fs1_k (show ¬ 52 = 68 by omega), fs1_k (show ¬ 52 = 70 by omega), fs1_k (show ¬ 52 = 71 by omega), e23, pk_mul, nI_add]
    rw [dx_stI (by omega) (by omega)]
    simp only [fs1_k (show ¬ 52 = 69 by omega), fs1_k (show ¬ 52 = 68 by omega), fs1_k (show ¬ 52 = 70 by omega), fs1_k (show ¬ 52 = 71 by omega), e23, pk_mul, nI_add]
    rw [dx_stI (by omega) (by omega)]
    simp only [fs1_k (show ¬ 52 = 69 by omega), fs1_k (show ¬ 52 = 68 by omega), fs1_k (show ¬ 52 = 70 by omega), fs1_k (show ¬ 52 = 71 by omega), e23, pk_mul, nI_add]
    rw [dx_stI (by omega) (by omega)]
    simp only [fs1_k (show ¬ 52 = 69 by omega), fs1_k (show ¬ 52 = 68 by omega), fs1_k (show ¬ 52 = 70 by omega), fs1_k (show ¬ 52 = 71 by omega), e23, pk_mul, nI_add]
    rw [dx_cl1]
    generalize hm3 : fs1 (fs1 (fs1 (fs1 (fs1 (fs1 (fs1 (fs1 (fs1 (fs1 (fs1 (fs1 (fs1 mi 52 20 (nI 0)) 52 21 (nI 0)) 52 22 (nI 0)) 52 23 (nI 0)) 52 24 (-1)) 68 0 (nI j)) 69 0 (nI 0)) 70 0 (nI 0)) 71 (4 * 0) x) 71 (4 * 0 + 1) y) 71 (4 * 0 + 2) (nI 0)) 71 (4 * 0 + 3) (nI 0)) 52 23 (nI (0 + 1)) = m3
    have en : m3 = fs1 (r4 (fs1 (fs1 (fs1 (fs1 (fs1 (fs1 (fs1 (fs1 mi 52 20 (nI 0)) 52 21 (nI 0)) 52 22 (nI 0)) 52 23 (nI 0)) 52 24 (-1)) 68 0 (nI j)) 69 0 (nI 0)) 70 0 (nI 0)) 71 0 x y (nI 0) (nI 0)) 52 23 (nI 1) := hm3.symm
    have fr4 : ∀ (m : fm), FRr m (r4 m 71 0 x y (nI 0) (nI 0)) := fun m => FRr_t (FRr_s (by omega) (by omega)) (FRr_t (FRr_s (by omega) (by omega)) (FRr_t (FRr_s (by omega) (by omega)) (FRr_s (by omega) (by omega))))
    have c3 : FRr mr m3 := by
      rw [en]
      exact FRr_t fi (FRr_t (FRr_52 (by omega)) (FRr_t (FRr_52 (by omega)) (FRr_t (FRr_52 (by omega)) (FRr_t (FRr_52 (by omega)) (FRr_t (FRr_52 (by omega)) (FRr_t (FRr_s (by omega) (by omega)) (FRr_t (FRr_s (by omega) (by omega)) (FRr_t (FRr_s (by omega) (by omega)) (FRr_t (fr4 _) (FRr_52 (by omega)))))))))))
    have q52 : ∀ i, ¬ i = 23 → m3.1 52 i = (fs1 (fs1 (fs1 (fs1 (fs1 mi 52 20 (nI 0)) 52 21 (nI 0)) 52 22 (nI 0)) 52 23 (nI 0)) 52 24 (-1)).1 52 i := fun i hi => by rw [en, fs1_i hi, r4_k (by omega), fs1_k (by omega), fs1_k (by omega), fs1_k (by omega)]
    have q20 : m3.1 52 20 = nI 0 := by rw [q52 20 (by omega), fs1_i (by omega), fs1_i (by omega), fs1_i (by omega), fs1_i (by omega), fs1_at]
    have q21 : m3.1 52 21 = nI 0 := by rw [q52 21 (by omega), fs1_i (by omega), fs1_i (by omega), fs1_i (by omega), fs1_at]
    have q22 : m3.1 52 22 = nI 0 := by rw [q52 22 (by omega), fs1_i (by omega), fs1_i (by omega), fs1_at]
    have q24 : m3.1 52 24 = -1 := by rw [q52 24 (by omega), fs1_at]
    have q23 : m3.1 52 23 = nI 1 := by rw [en]; exact fs1_at
    have q66 : m3.1 66 = mi.1 66 := by rw [en, fs1_k (by omega), r4_k (by omega), fs1_k (by omega), fs1_k (by omega), fs1_k (by omega), fs1_k (by omega), fs1_k (by omega), fs1_k (by omega), fs1_k (by omega), fs1_k (by omega)]
    have q68 : m3.1 68 0 = nI j := by rw [en, fs1_k (by omega), r4_k (by omega), fs1_k (by omega), fs1_k (by omega), fs1_at]
    have q69 : m3.1 69 0 = nI 0 := by rw [en, fs1_k (by omega), r4_k (by omega), fs1_k (by omega), fs1_at]
    have q71 : ∀ r, r < 4 → m3.1 71 (4 * 0 + r) = m2.1 17 (4 * 0 + r) := fun r hr => by
      rw [k17, en, fs1_k (by omega), show 4 * 0 + r = 0 + r by omega, r4_s hr, r4_s hr]
    have hO : SO m2 m3 0 0 (-1) := ⟨by rw [k14 6 (by omega) (by omega)]; exact z6, q21, by omega, by rw [k14 7 (by omega) (by omega)]; exact z7, q20, by omega, fun i _ h => absurd h (by omega), by rw [k14 8 (by omega) (by omega), z8, q22], k149, q24, fun f hf => by rw [k15, q66, z15 f hf, z66 f hf]⟩
    have hF : SF nn Jr m2 m3 0 (fun _ => j) 0 0 := ⟨k145, q23, by omega, fun i hi => by
        have : i = 0 := by omega
        subst this
        exact ⟨hj, k19, q68⟩, fun i hi r hr => by
        have : i = 0 := by omega
        subst this
        exact (q71 r hr).symm, by omega, by omega, k18, q69, Or.inl rfl, fun i hi => absurd hi (by omega)⟩
    have hh := rl_s hb hw2 4001 m2 m3 0 0 0 (fun _ => j) 0 0 0 lf lf (HC_f hb H c1 c3) hO hF (by omega) (by omega) (by rw [lf_eq]; omega) (by rw [lf_eq]; omega)
    unfold g42_20 g137_94
    exact ob_m hh (fun r hr => ob_mp (ob_m hr (fun r' hr => ⟨hr.1, FRc_t c1 hr.2.1, FRr_t c3 hr.2.2.1, hr.2.2.2⟩)))
  -- the loop over the fields
  have fin : ∀ r : Int32 × fm, (∀ mi : fm, FRr mr mi → (∀ f, f < 4 → mi.1 66 f = nI 0) → ob (s137_40 (nI w) (nI j) x y (nI 4) mi) (Sum.elim (fun _ => False) (fun r' => r.1 = r'.1 ∧ FRc mc r.2 ∧ FRr mr r'.2 ∧ ∃ t s e, SO r.2 r'.2 t s e))) → ob (g137_40 (nI w) (nI j) x y (nI 0) mr) (fun r' => r.1 = r'.1 ∧ FRc mc r.2 ∧ FRr mr r'.2 ∧ ∃ t s e, SO r.2 r'.2 t s e) := by
    intro r hall
    unfold g137_40
    refine wl_c (f := fun s : Int32 × fm => s137_40 (nI w) (nI j) x y s.1 s.2) (fun i s => ∃ mi, s = (nI i, mi) ∧ FRr mr mi ∧ ∀ f, f < i → mi.1 66 f = nI 0) 4 (by omega) (nI 0, mr) ⟨mr, rfl, FRr_r mr, fun f hf => absurd hf (by omega)⟩ (fun i s hi hss => ?_) (fun s hss => ?_)
    · obtain ⟨mi, rfl, hF, hz⟩ := hss
      show ob (s137_40 _ _ x y (nI i) mi) _
      unfold s137_40
      rw [dx_ge (by omega) (by omega), decide_eq_false (by omega), cond_false, dx_stI hi (by omega), nI_add]
      refine ⟨_, rfl, FRr_t hF (FRr_s (by omega) (by omega)), fun f hf => ?_⟩
      by_cases e : f = i
      · subst e; exact fs1_at
      · rw [fs1_i e]; exact hz f (by omega)
    · obtain ⟨mi, rfl, hF, hz⟩ := hss
      exact hall mi hF hz
  -- the class's loop has one outcome
  have hsome : ∃ r, g42_20 b (nI 0) m2 = some r := by
    obtain ⟨r, e, _⟩ := ob_ex (main (fs1 (fs1 (fs1 (fs1 mr 66 0 (nI 0)) 66 1 (nI 0)) 66 2 (nI 0)) 66 3 (nI 0)) (FRr_t (FRr_s (by omega) (by omega)) (FRr_t (FRr_s (by omega) (by omega)) (FRr_t (FRr_s (by omega) (by omega)) (FRr_s (by omega) (by omega))))) (fun f hf => by
      have e : f = 0 ∨ f = 1 ∨ f = 2 ∨ f = 3 := by omega
      rcases e with rfl | rfl | rfl | rfl
      · rw [fs1_i (by omega), fs1_i (by omega), fs1_i (by omega), fs1_at]
      · rw [fs1_i (by omega), fs1_i (by omega), fs1_at]
      · rw [fs1_i (by omega), fs1_at]
      · exact fs1_at))
    exact ⟨r, e⟩
  obtain ⟨r, er⟩ := hsome
  rw [er]
  refine fin r (fun mi a b => ?_)
  have := main mi a b
  rw [er] at this
  exact this
end R4
