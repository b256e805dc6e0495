theorem cntv_mono {u w : Nat → Bool} : ∀ n, (∀ j, j < n → u j = true → w j = true) → cntv u n ≤ cntv w n
  | 0, _ => Nat.le_refl _
  | n + 1, h => by
    have h1 := cntv_mono n (fun j hj => h j (by omega))
    show cntv u n + (u n).toNat ≤ cntv w n + (w n).toNat
    cases hu : u n with
    | false => simp; omega
    | true => rw [h n (by omega) hu]; omega
theorem cntv_lt {u w : Nat → Bool} : ∀ n, (∀ j, j < n → u j = true → w j = true) → (∃ j, j < n ∧ ¬ u j = w j) → cntv u n < cntv w n
  | 0, _, h => absurd h.choose_spec.1 (by omega)
  | n + 1, h, hx => by
    obtain ⟨j, hj, hne⟩ := hx
    have h1 := cntv_mono n (fun j hj => h j (by omega))
    show cntv u n + (u n).toNat < cntv w n + (w n).toNat
    by_cases e : j = n
    · subst e
      cases hu : u j with
      | false =>
        cases hw : w j with
        | false => exact absurd (hu.trans hw.symm) hne
        | true => simp; omega
      | true => exact absurd (hu.trans (h j (by omega) hu).symm) hne
    · have h2 := cntv_lt n (fun j hj => h j (by omega)) ⟨j, by omega, hne⟩
      cases hu : u n with
      | false => simp; omega
      | true => rw [h n (by omega) hu]; omega
section U4
variable {m : fm} {R : Nat → Bool} {N : Nat → Nat} {P : Nat → cod} {x : Nat} {u : Nat → Bool}
theorem stp_sub {b : Nat → Bool} : ∀ (i : Nat) (j : Nat), u j = true → stp P N b u i j = true
  | 0, _, h => h
  | i + 1, j, h => by
    rw [stp_1]
    split
    · show (stp P N b u i j || _) = true
      rw [stp_sub i j h]; rfl
    · exact stp_sub i j h
theorem stp_hit {b : Nat → Bool} : ∀ (i k t : Nat), k < i → b k = true → hit (P k) (N k) 9 t = true → stp P N b u i t = true
  | 0, k, _, hk, _, _ => absurd hk (by omega)
  | i + 1, k, t, hk, hb, hh => by
    rw [stp_1]
    by_cases e : k = i
    · subst e
      rw [if_pos hb]
      show (stp P N b u k t || hit (P k) (N k) 9 t) = true
      rw [hh, Bool.or_true]
    · have := stp_hit (b := b) i k t (by omega) hb hh
      split
      · show (stp P N b u i t || _) = true
        rw [this]; rfl
      · exact this
theorem stp_le {b W : Nat → Bool} (hc : clo P N W) (hb : ∀ j, j < 8 → b j = true → W j = true) (hu : ∀ j, j < 8 → u j = true → W j = true) : ∀ (i : Nat), i ≤ 8 → ∀ j, j < 8 → stp P N b u i j = true → W j = true
  | 0, _, j, hj, h => hu j hj h
  | i + 1, hi, j, hj, h => by
    rw [stp_1] at h
    by_cases e : b i = true
    · rw [if_pos e] at h
      rcases Bool.or_eq_true_iff.mp h with h | h
      · exact stp_le hc hb hu i (by omega) j hj h
      · exact hc i j (by omega) hj (hb i (by omega) e) h
    · rw [if_neg e] at h
      exact stp_le hc hb hu i (by omega) j hj h
set_option maxRecDepth 100000 in
theorem um_m1 : ∀ x, x < 256 → ai_c .eq (-1) (nI x) = false := by decide +kernel
def UX (m m' : fm) (R : Nat → Bool) (P : Nat → cod) (N : Nat → Nat) : Prop := FW m m' ∧ ∃ x U, LU R P N U ∧ UM m' x U
theorem g46_r (hW : ALLW N P) (k : Nat) : ∀ (u : Nat → Bool) (m : fm) (x : Nat) (x1 : Int32) (fuel : Nat), ALLR m N P → UM m x u → (∀ j, j < 8 → R j = true → u j = true) → (∀ W, (∀ j, j < 8 → R j = true → W j = true) → clo P N W → ∀ j, j < 8 → u j = true → W j = true) → ai_c .eq x1 (nI x) = false → 8 < k + cntv u 8 → k + 1 < fuel → ob (wl (fun s : Int32 × fm => s123_46 s.1 s.2) fuel (x1, m)) (fun m' => UX m m' R P N) := by
  induction k with
  | zero => intro u m x x1 fuel _ _ _ _ _ h; have := cntv_le u 8; exact absurd h (by omega)
  | succ k ih =>
    intro u m x x1 fuel hR hu h1 h2 hne h h3
    obtain ⟨fuel, rfl⟩ : ∃ f, fuel = f + 2 := ⟨fuel - 2, by omega⟩
    have hst : s123_46 x1 m = g123_61 (nI x) (nI 0) m := by
      unfold s123_46
      rw [dx_gfI, dx_gfI, hu.1, hne]
      rfl
    obtain ⟨z, e1, m', x', rfl, hF, hu'⟩ := ob_ex (g61_r hu.2.1 hu.2.2 hR hW hu)
    unfold wl
    rw [hst, e1]
    show ob (wl _ (fuel + 1) (nI x, m')) _
    have l1 : ∀ j, j < 8 → R j = true → stp P N u u 8 j = true := fun j hj hr => stp_sub 8 j (h1 j hj hr)
    have l2 : ∀ W, (∀ j, j < 8 → R j = true → W j = true) → clo P N W → ∀ j, j < 8 → stp P N u u 8 j = true → W j = true := fun W hRW hc j hj hh => stp_le hc (h2 W hRW hc) (h2 W hRW hc) 8 (Nat.le_refl _) j hj hh
    by_cases e : x = x'
    · subst e
      have hq : ∀ j, j < 8 → stp P N u u 8 j = u j := fun j hj => by rw [← hu'.2.2 j hj, hu.2.2 j hj]
      unfold wl s123_46
      rw [dx_gfI, hu'.1, dx_eq (by have := hu.2.1; omega) (by have := hu.2.1; omega), decide_eq_true rfl]
      refine ⟨hF, x, _, ⟨l1, fun j t hj ht hw hh => ?_, l2⟩, hu'⟩
      rw [hq j hj] at hw
      exact stp_hit 8 j t hj hw hh
    · have hx := hu.2.1
      have hx' := hu'.2.1
      have hlt : cntv u 8 < cntv (stp P N u u 8) 8 := by
        refine cntv_lt 8 (fun j _ hj => stp_sub 8 j hj) ?_
        apply Decidable.byContradiction
        intro hno
        apply e
        refine um_ext0 x hx x' hx' (fun s hs => ?_)
        rw [hu.2.2 s hs, hu'.2.2 s hs]
        exact Decidable.byContradiction (fun hne => hno ⟨s, hs, hne⟩)
      exact ob_m (ih (stp P N u u 8) m' x' (nI x) (fuel + 1) (ALLR_f hR hF) hu' l1 l2 (by rw [dx_eq (by omega) (by omega)]; exact decide_eq_false e) (by omega) (by omega)) (fun m'' hm => ⟨FW_t hF hm.1, hm.2⟩)
def ur (R : Nat → Bool) (i j : Nat) : Bool := decide (j < i) && R j
theorem g123_r (hR : ALLR m N P) (hW : ALLW N P) (hr : ∀ j, j < 8 → m.1 58 j = bI (R j)) : ob (g123 m) (fun m' => UX m m' R P N) := by
  unfold g123
  rw [dx_pfI]
  have f1 : F15 m (fs1 m 52 15 (nI 0)) := F15_s
  unfold g123_7
  refine wl_c (f := fun s : Int32 × fm => s123_7 s.1 s.2) (fun i s => ∃ mi x, s = (nI i, mi) ∧ F15 m mi ∧ UM mi x (ur R i)) 8 (by omega) (nI 0, _) ⟨_, 0, rfl, f1, fs1_at, by omega, fun j hj => by unfold ur; rw [decide_eq_false (by omega), Nat.zero_testBit]; rfl⟩ (fun i s hi hss => ?_) (fun s hss => ?_)
  · obtain ⟨mi, x, rfl, hF, h1, h2, h3⟩ := hss
    show ob (s123_7 (nI i) mi) _
    unfold s123_7
    rw [dx_ge (by omega) (by omega), decide_eq_false (by omega), cond_false, dx_gfI, h1, dx_ldI hi (by omega), hF.1 58 (by omega), hr i hi, bI_eq, um_z0 x h2, (um_or0 i hi x h2).1, dx_pfI, dx_pfI, nI_add]
    cases hri : R i with
    | false =>
      refine ⟨_, x, rfl, F15_t hF F15_s, fs1_at, h2, fun j hj => ?_⟩
      rw [h3 j hj]
      unfold ur
      by_cases e : j = i
      · subst e; rw [hri, Bool.and_false, Bool.and_false]
      · congr 1; exact decide_eq_decide.mpr (by omega)
    | true =>
      refine ⟨_, x ||| 2 ^ i, rfl, F15_t hF F15_s, fs1_at, (um_or0 i hi x h2).2, fun j hj => ?_⟩
      rw [um_tb0 i hi x h2 j hj, h3 j hj]
      unfold ur
      by_cases e : j = i
      · subst e; rw [hri, decide_eq_true rfl, Bool.or_true, decide_eq_true (by omega)]; rfl
      · rw [decide_eq_false e, Bool.or_false]
        congr 1; exact decide_eq_decide.mpr (by omega)
  · obtain ⟨mi, x, rfl, hF, hu⟩ := hss
    show ob (s123_7 (nI 8) mi) _
    unfold s123_7
    rw [dx_ge (by omega) (by omega), decide_eq_true (by omega), cond_true]
    refine ob_mp ?_
    unfold g123_46
    have hu' : ∀ j, j < 8 → ur R 8 j = R j := fun j hj => by unfold ur; rw [decide_eq_true hj]; rfl
    exact ob_m (g46_r (R := R) hW 9 (ur R 8) mi x (-1) lf (ALLR_f hR (F15_W hF)) hu (fun j hj h => by rw [← hu' j hj] at h; exact h) (fun W hRW _ j hj h => hRW j hj ((hu' j hj) ▸ h)) (um_m1 x hu.2.1) (by omega) (by rw [lf_eq]; omega)) (fun m'' hm => ⟨FW_t (F15_W hF) hm.1, hm.2⟩)
/-- field -/
theorem w2_0 {a b : Bool} : nI (w2 a b) ||| nI 0 = nI (w2 a b) := by cases a <;> cases b <;> decide +kernel
theorem g45f_r {I : cod} {o n f : Nat} {a b : Bool} {x3 : Int32} (hs : KS m o n I) (hw : WF n I) (hRA : RA m (FV I n)) (hf : f < 4) : ob (g125_45 (nI f) (nI (w2 a b)) x3 (nI 0) m) (fun z => z = .inl (nI (w2 (a || hit I n 7 f) (b || hit I n 8 f)), x3 + nI 1, m)) := by
  have hn := hw.1
  unfold g125_45
  refine wl_c (f := fun s : Int32 × Int32 × fm => s125_45 (nI f) s.1 x3 s.2.1 s.2.2) (fun i s => s = (nI (w2 (a || anyp (ht I n 7 f) i) (b || anyp (ht I n 8 f) i)), nI i, m)) n (by omega) (_, nI 0, m) (by show _ = (nI (w2 (a || false) (b || false)), nI 0, m); rw [Bool.or_false, Bool.or_false]) (fun i s hi hss => ?_) (fun s hss => ?_)
  · subst hss
    have hio := ix_o hs.1.1 (show i < 24 by omega)
    obtain ⟨ek, -, eb, -⟩ := hs.1.2.2 i hi
    have hk := WF_k hw hi
    show ob (s125_45 (nI f) _ x3 (nI i) m) _
    unfold s125_45 g125_92 g125_113
    simp only [dx_gfI]
    rw [hs.2.1, hs.2.2, dx_ge (by omega) (by omega), decide_eq_false (by omega), cond_false, nI_add, nI_add, dx_ldI hio (by omega), ek, dx_ldI (by omega) (by omega), dx_ldI hio (by omega), eb, w2_0, w2_1, w2_2, dx_eq (by omega) (by omega), dx_ne (by omega) (by omega), dx_ne (by omega) (by omega), anyp_1, anyp_1]
    rcases RA_N hRA (show i < 24 by omega) with h | h
    · have hno : ∀ k, ht I n k f i = false := fun k => by
        unfold ht
        rw [decide_eq_false (fun z => z h.2)]; rfl
      rw [h.1, hno, hno, Bool.or_false, Bool.or_false]
      rfl
    · rw [h.1, dx_eq0 (by omega), decide_eq_false (by omega), cond_false]
      by_cases h7 : kd I i = 7
      · have hb := WF_b hw hi (by omega)
        have e8 : ht I n 8 f i = false := by unfold ht; rw [decide_eq_false (show ¬ kd I i = 8 by omega), Bool.and_false, Bool.false_and]
        rw [h7, hb.1, dx_ne (by omega) (by omega), e8, Bool.or_false]
        by_cases ef : bn I i = f
        · have e7 : ht I n 7 f i = true := by unfold ht; rw [decide_eq_true h.2, decide_eq_true h7, decide_eq_true ef]; rfl
          rw [e7, Bool.or_true, Bool.or_true, decide_eq_false (show ¬ ¬ bn I i = f from fun z => z ef)]
          rfl
        · have e7 : ht I n 7 f i = false := by unfold ht; rw [decide_eq_false ef, Bool.and_false]
          rw [e7, Bool.or_false, decide_eq_true ef]
          rfl
      · have e7 : ht I n 7 f i = false := by unfold ht; rw [decide_eq_false h7, Bool.and_false, Bool.false_and]
        rw [e7, Bool.or_false, decide_eq_false h7, decide_eq_true h7]
        by_cases h8 : kd I i = 8
        · have hb := WF_b hw hi (by omega)
          rw [decide_eq_false (show ¬ ¬ kd I i = 8 from fun z => z h8), hb.1, dx_ne (by omega) (by omega)]
          by_cases ef : bn I i = f
          · have e8 : ht I n 8 f i = true := by unfold ht; rw [decide_eq_true h.2, decide_eq_true h8, decide_eq_true ef]; rfl
            rw [e8, Bool.or_true, Bool.or_true, decide_eq_false (show ¬ ¬ bn I i = f from fun z => z ef)]
            rfl
          · have e8 : ht I n 8 f i = false := by unfold ht; rw [decide_eq_false ef, Bool.and_false]
            rw [e8, Bool.or_false, decide_eq_true ef]
            rfl
        · have e8 : ht I n 8 f i = false := by unfold ht; rw [decide_eq_false h8, Bool.and_false, Bool.false_and]
          rw [e8, Bool.or_false, decide_eq_true h8]
          rfl
  · subst hss
    show ob (s125_45 (nI f) _ x3 (nI n) m) _
    unfold s125_45
    rw [dx_gfI, hs.2.1, dx_ge (by omega) (by omega), decide_eq_true (Nat.le_refl _), cond_true]
    rfl
theorem g18f_r {f : Nat} {U : Nat → Bool} (hR : ALLR m N P) (hW : ALLW N P) (hu : UM m x U) (hf : f < 4) : ob (g125_18 (nI f) (nI 0) (nI 0) m) (fun r => FW m r.2 ∧ r.1 = nI (w2 (FL P N U 7 f) (FL P N U 8 f))) := by
  unfold g125_18
  refine wl_c (f := fun s : Int32 × Int32 × fm => s125_18 (nI f) s.1 s.2.1 s.2.2) (fun i s => ∃ mi, s = (nI (w2 (anyp (fun j => U j && hit (P j) (N j) 7 f) i) (anyp (fun j => U j && hit (P j) (N j) 8 f) i)), nI i, mi) ∧ FW m mi ∧ mi.1 52 15 = m.1 52 15) 8 (by omega) (_, nI 0, m) ⟨m, rfl, FW_r m, rfl⟩ (fun i s hi hss => ?_) (fun s hss => ?_)
  · obtain ⟨mi, rfl, hF, h15⟩ := hss
    show ob (s125_18 (nI f) _ (nI i) mi) _
    unfold s125_18
    rw [dx_ge (by omega) (by omega), decide_eq_false (by omega), cond_false, dx_gfI, h15, hu.1, um_bit0 i hi x hu.2.1, hu.2.2 i hi, nI_add, dx_ne (by have := bt2 (U i); omega) (by omega)]
    cases hbi : U i with
    | false =>
      rw [show decide (¬ (false.toNat = 1)) = true by decide, cond_true]
      refine ⟨mi, ?_, hF, h15.trans hu.1⟩
      rw [anyp_1, anyp_1, hbi, Bool.false_and, Bool.false_and, Bool.or_false, Bool.or_false]
    | true =>
      rw [show decide (¬ (true.toNat = 1)) = false by decide, cond_false]
      have hr : RR mi (8 * 0 + i) (N i) (P i) := by rw [show 8 * 0 + i = i by omega]; exact ALLR_f hR hF i hi
      refine ob_1 (ob_m (g113_r hr (hW i hi) hi (by omega)) (fun m1 h1 => ?_))
      obtain ⟨f1, s1, r1⟩ := h1
      refine ob_m (g45f_r s1 (hW i hi) r1 hf) (fun z hz => ?_)
      subst hz
      rw [nI_add]
      refine ⟨m1, ?_, FW_t hF (FW_K f1), by rw [f1.2.1 15 (by omega) (by omega) (by omega)]; exact h15.trans hu.1⟩
      rw [anyp_1, anyp_1, hbi, Bool.true_and, Bool.true_and]
  · obtain ⟨mi, rfl, hF, h15⟩ := hss
    show ob (s125_18 (nI f) _ (nI 8) mi) _
    unfold s125_18
    rw [dx_ge (by omega) (by omega), decide_eq_true (by omega), cond_true]
    exact ⟨hF, rfl⟩
end U4
