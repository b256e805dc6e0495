def FK (m m' : fm) : Prop := (∀ k, k ≠ 52 → k ≠ 59 → m'.1 k = m.1 k) ∧ (∀ f, f ≠ 7 → f ≠ 8 → f ≠ 11 → m'.1 52 f = m.1 52 f) ∧ (∀ k, k ≠ 60 → k ≠ 61 → m'.2 k = m.2 k)
theorem FK_0 {m m' : fm} (h : FK0 m m') : FK m m' := ⟨h.1, fun f _ _ h3 => h.2.1 f h3, h.2.2⟩
theorem FK_t {m m' m'' : fm} (h1 : FK m m') (h2 : FK m' m'') : FK m m'' := ⟨fun k a b => (h2.1 k a b).trans (h1.1 k a b), fun f a b c => (h2.2.1 f a b c).trans (h1.2.1 f a b c), fun k a b => (h2.2.2 k a b).trans (h1.2.2 k a b)⟩
theorem fs2_4k {m : fm} {k : Nat} {a b c d : Int64} : fs2 (fs2 (fs2 (fs2 m k 0 a) k 1 b) k 2 c) k 3 d = sr2 m k (fun j => if j = 3 then d else if j = 2 then c else if j = 1 then b else if j = 0 then a else m.2 k j) := by
  simp only [fs2_sr, sr2_s, sr2_r]
section K2
variable {m : fm} {o n p : Nat} {I : cod} {A B : Nat → Int64}
theorem RA_N (hR : RA m A) (hp : p < 24) : (m.1 59 p = nI 0 ∧ A (4 * p) = vN) ∨ (m.1 59 p = nI 1 ∧ ¬ A (4 * p) = vN) := by
  rcases hR p hp with h | h
  · exact Or.inl ⟨h.1, h.2 0 (by omega)⟩
  · refine Or.inr ⟨h.1, fun e => ?_⟩
    have := (h.2 0 (by omega)).1
    rw [show 4 * p + 0 = 4 * p by omega, e] at this
    exact okv_N this
theorem g102_r (hs : KS m o n I) (hw : WF n I) (hR : RA m A) (hb : m.1 52 11 = bI false) : ob (g113_102 (nI 0) m) (fun b => ∃ m', b = .inl m' ∧ FK0 m m' ∧ RA m' (sw I n A n) ∧ m'.1 52 11 = bI (swf I n A n)) := by
  have hn := hw.1
  unfold g113_102
  refine wl_c (f := fun s : Int32 × fm => s113_102 s.1 s.2) (fun i s => ∃ mi, s = (nI i, mi) ∧ FK0 m mi ∧ RA mi (sw I n A i) ∧ mi.1 52 11 = bI (swf I n A i)) n (by omega) (nI 0, m) ⟨m, rfl, FK0_r m, hR, hb⟩ (fun i s hi hss => ?_) (fun s hss => ?_)
  · obtain ⟨mi, rfl, hF, hRi, hbi⟩ := hss
    have hsi := KS_f hs hF
    show ob (s113_102 (nI i) mi) _
    unfold s113_102
    rw [dx_gfI, hsi.2.1, dx_ge (by omega) (by omega), decide_eq_false (by omega), cond_false, dx_ldI (by omega) (by omega), nI_add]
    rcases RA_N hRi (show i < 24 by omega) with h | h
    · rw [h.1, dx_eq0 (by omega), decide_eq_true rfl, cond_true]
      exact ⟨mi, rfl, hF, by rw [sw_1, if_pos h.2]; exact hRi, by rw [swf_1, if_pos h.2]; exact hbi⟩
    · rw [h.1, dx_eq0 (by omega), decide_eq_false (by omega), cond_false]
      refine ob_1 (ob_m (g112_r hsi hw hi hRi h.1 hbi) (fun m' hm => ?_))
      exact ⟨m', rfl, FK0_t hF hm.1, by rw [sw_1, if_neg h.2]; exact hm.2.1, by rw [swf_1, if_neg h.2]; exact hm.2.2⟩
  · obtain ⟨mi, rfl, hF, hRi, hbi⟩ := hss
    have hsi := KS_f hs hF
    show ob (s113_102 (nI n) mi) _
    unfold s113_102
    rw [dx_gfI, hsi.2.1, dx_ge (by omega) (by omega), decide_eq_true (Nat.le_refl _), cond_true]
    exact ⟨mi, rfl, hF, hRi, hbi⟩
theorem g88_r (hw : WF n I) (k : Nat) : ∀ (A : Nat → Int64) (m : fm) (fuel : Nat), KS m o n I → RA m A → m.1 52 11 = bI true → mu A < k → k + 1 < fuel → ob (wl (fun s : fm => s113_88 s) fuel m) (fun m' => FK0 m m' ∧ RA m' (itr I n k A)) := by
  induction k with
  | zero => intro A m fuel _ _ _ h; exact absurd h (Nat.not_lt_zero _)
  | succ k ih =>
    intro A m fuel hs hR hb h h3
    obtain ⟨fuel, rfl⟩ : ∃ f, fuel = f + 2 := ⟨fuel - 2, by omega⟩
    have hF1 : FK0 m (fs1 m 52 11 (bI false)) := ⟨fun k h1 _ => fs1_k h1, fun f hf => fs1_i hf, fun _ _ _ => rfl⟩
    have e := g102_r (KS_f hs hF1) hw (RA_c (fs1_k (by omega)) rfl hR) fs1_at
    have hst : s113_88 m = g113_102 (nI 0) (fs1 m 52 11 (bI false)) := by
      unfold s113_88
      rw [dx_gfI, hb, bI_eq, Bool.not_true, cond_false, dx_pfB (by omega)]
      rfl
    obtain ⟨b, h1, m', rfl, hF, hR', hb'⟩ := ob_ex e
    unfold wl
    rw [hst, h1]
    show ob (wl _ (fuel + 1) m') _
    unfold itr
    cases hsw : swf I n A n with
    | true =>
      rw [hsw] at hb'
      have := swf_t hw.1 n hsw
      rw [if_pos rfl]
      exact ob_m (ih (sw I n A n) m' (fuel + 1) (KS_f (KS_f hs hF1) hF) hR' hb' (by omega) (by omega)) (fun m'' hm => ⟨FK0_t hF1 (FK0_t hF hm.1), hm.2⟩)
    | false =>
      rw [hsw] at hb'
      rw [if_neg Bool.false_ne_true]
      unfold wl s113_88
      rw [dx_gfI, hb', bI_eq]
      exact ⟨FK0_t hF1 hF, hR'⟩
set_option maxHeartbeats 1000000 in
theorem g113_r {w j : Nat} (hr : RR m (8 * w + j) n I) (hw : WF n I) (hj : j < 8) (hw2 : w < 2) : ob (g113 (nI w) (nI j) m) (fun m' => FK m m' ∧ KS m' (8 * w + j) n I ∧ RA m' (FV I n)) := by
  have hn := hw.1
  unfold g113 g98
  rw [pk_mul, nI_add, dx_ldI (by omega) (by omega), hr.2.1, dx_pfI, dx_cl2, dx_pfI, pk_mul, nI_add]
  generalize hm5 : fs1 (fs1 m 52 7 (nI n)) 52 8 (nI (24 * (8 * w + j) + 0)) = m5
  have e1 : ∀ k, k ≠ 52 → m5.1 k = m.1 k := fun k hk => by rw [← hm5, fs1_k hk, fs1_k hk]
  have e2 : m5.2 = m.2 := by rw [← hm5]; rfl
  have e7 : m5.1 52 7 = nI n := by rw [← hm5, fs1_i (by omega), fs1_at]
  have e8 : m5.1 52 8 = nI (24 * (8 * w + j)) := by rw [← hm5, fs1_at]; rfl
  have ef : ∀ f, f ≠ 7 → f ≠ 8 → m5.1 52 f = m.1 52 f := fun f h7 h8 => by rw [← hm5, fs1_i h8, fs1_i h7]
  have hF5 : FK m m5 := ⟨fun k h1 _ => e1 k h1, fun f h7 h8 _ => ef f h7 h8, fun k _ _ => by rw [e2]⟩
  have hs5 : KS m5 (8 * w + j) n I := by
    refine ⟨⟨hr.1, by rw [e1 57 (by omega)]; exact hr.2.1, fun p hp => ?_⟩, e7, e8⟩
    rw [e1 53 (by omega), e1 54 (by omega), e1 55 (by omega), e1 56 (by omega)]
    exact hr.2.2 p hp
  unfold g113_27
  refine wl_c (f := fun s : Int32 × fm => s113_27 s.1 s.2) (fun i s => ∃ mi, s = (nI i, mi) ∧ FK0 m5 mi ∧ ∀ p, p < i → mi.1 59 p = nI 0) 25 (by omega) (nI 0, m5) ⟨m5, rfl, FK0_r m5, fun p hp => absurd hp (by omega)⟩ (fun i s hi hss => ?_) (fun s hss => ?_)
  · obtain ⟨mi, rfl, hF, hz⟩ := hss
    show ob (s113_27 (nI i) mi) _
    unfold s113_27
    rw [dx_gt (by omega) (by omega), decide_eq_false (by omega), cond_false, dx_stB hi (by omega) (by omega), nI_add]
    refine ⟨_, rfl, FK0_t hF ⟨fun k _ h2 => fs1_k h2, fun f _ => by rw [fs1_k (by omega)], fun _ _ _ => rfl⟩, fun p hp => ?_⟩
    by_cases e : p = i
    · subst e; exact fs1_at
    · rw [fs1_i e]; exact hz p (by omega)
  · obtain ⟨mi, rfl, hF, hz⟩ := hss
    show ob (s113_27 (nI 25) mi) _
    unfold s113_27
    rw [dx_gt (by omega) (by omega), decide_eq_true (by omega), cond_true, dx_stL (by omega) (by omega), dx_stL (by omega) (by omega), dx_stL (by omega) (by omega), dx_stL (by omega) (by omega), fs2_4k, dx_pfB (by omega)]
    generalize hB1 : (fun j => if j = 3 then Int64.ofNat 0 else if j = 2 then Int64.ofNat 0 else if j = 1 then Int64.ofNat 1000000000000 else if j = 0 then Int64.ofNat 1000000000000 else mi.2 61 j) = B1
    have hB : ∀ r, r < 4 → B1 r = B00 r := by
      intro r hr
      rw [← hB1]
      have e : r = 0 ∨ r = 1 ∨ r = 2 ∨ r = 3 := by omega
      rcases e with rfl | rfl | rfl | rfl <;> rfl
    have hFa : FK0 mi (fs1 (sr2 mi 61 B1) 52 11 (nI 0)) := ⟨fun k h1 _ => by rw [fs1_k h1]; rfl, fun f hf => by rw [fs1_i hf]; rfl, fun k _ h2 => sr2_n h2⟩
    have hsa := KS_f hs5 (FK0_t hF hFa)
    have e61 : (fs1 (sr2 mi 61 B1) 52 11 (nI 0)).2 61 = B1 := by
      show (sr2 mi 61 B1).2 61 = _
      exact sr2_s
    have hRa : RA (fs1 (sr2 mi 61 B1) 52 11 (nI 0)) A00 := by
      intro p hp
      refine Or.inl ⟨?_, fun r hr => if_pos (by omega)⟩
      rw [fs1_k (by omega)]
      exact hz p (by omega)
    refine ob_1 (ob_m (g106_r (t := 0) hsa hn hRa (fun r hr => ?_) (by omega) (b := false) fs1_at) (fun m' hm => ?_))
    · rw [e61, hB r hr]
      unfold B00
      split
      · exact Or.inl rfl
      · exact Or.inr ⟨0, by decide +kernel⟩
    · obtain ⟨f1, R1, -, b1⟩ := hm
      rw [e61, brg_cg hB] at R1
      rw [e61, chg_cg hB, Bool.false_or] at b1
      have hFt := FK_t hF5 (FK_0 (FK0_t hF (FK0_t hFa f1)))
      refine ob_mp ?_
      unfold g113_88 FV
      by_cases h0 : n = 0
      · rw [if_pos h0]
        have hb0 : m'.1 52 11 = bI false := by
          rw [b1]
          unfold chg
          rw [decide_eq_false (by omega)]; rfl
        have e0 : brg n A00 B00 0 = A00 := if_neg (by omega)
        rw [e0] at R1
        rw [lf_eq]
        unfold wl s113_88
        rw [dx_gfI, hb0, bI_eq]
        exact ⟨hFt, KS_f hsa f1, R1⟩
      · rw [if_neg h0]
        have hb1 : m'.1 52 11 = bI true := by
          rw [b1]
          unfold chg
          rw [decide_eq_true (by omega), chi_00]; rfl
        refine ob_m (g88_r hw 192 (brg n A00 B00 0) m' lf (KS_f hsa f1) R1 hb1 (mus_0b hn (by omega)) (by rw [lf_eq]; omega)) (fun m'' hm => ?_)
        exact ⟨FK_t hFt (FK_0 hm.1), KS_f (KS_f hsa f1) hm.1, hm.2⟩
end K2
