theorem nzs_1 : ∀ k, k < 13 → nzs k 1 = true := by decide +kernel
theorem nzs_2 : ∀ k, k < 13 → nzs k 2 = true ∨ (k = 6 ∨ 10 ≤ k) := by decide +kernel
theorem nzs_3 : ∀ k, k < 13 → nzs k 3 = true ∨ ¬ (2 ≤ k ∧ k ≤ 5) := by decide +kernel
section S2
variable {m : fm} {c n p t k : Nat} {I J : cod}
theorem ov_1 (hk : k < 13) {a : Int32} : ov k 1 a = a := if_pos (nzs_1 k hk)
theorem ov_2 (hk : k < 13) {b : Int32} {e : Nat} (h : NZ1 k b e) : ov k 2 b = b := by
  unfold ov
  rcases nzs_2 k hk with h2 | h2
  · rw [if_pos h2]
  · rw [h.1 h2]; split <;> rfl
theorem ov_3 (hk : k < 13) {b : Int32} {e : Nat} (h : NZ1 k b e) : ov k 3 (nI e) = nI e := by
  unfold ov
  rcases nzs_3 k hk with h2 | h2
  · rw [if_pos h2]
  · rw [h.2 h2]; split <;> rfl
theorem wr4_k {r : Nat} {x a b e : Int32} {q : Nat} (h : ¬ q = r) : (wr4 m r t x a b e).1 q = m.1 q := by
  unfold wr4
  rw [fs1_k h, fs1_k h, fs1_k h, fs1_k h]
theorem CR_w {a e : Nat} {b : Int32} (hc : CR m c n J) (ht : t < n) : CR (wr4 m (c + 1) t (nI k) (nI a) b (nI e)) c n (seI J t (k, a, b, e)) := by
  refine ⟨by rw [wr4_k (by omega)]; exact hc.1, fun q hq => ?_⟩
  unfold wr4
  by_cases h : q = t
  · subst h
    obtain ⟨h1, h2, h3, h4⟩ := seI_s (J := J) (t := q) (x := (k, a, b, e))
    rw [h1, h2, h3, h4, fs1_i (by omega), fs1_i (by omega), fs1_i (by omega), fs1_at, fs1_i (by omega), fs1_i (by omega), fs1_at, fs1_i (by omega), fs1_at, fs1_at]
    exact ⟨rfl, rfl, rfl, rfl⟩
  · obtain ⟨h1, h2, h3, h4⟩ := seI_n (J := J) (t := t) (x := (k, a, b, e)) (q := q) h
    rw [h1, h2, h3, h4]
    have e0 : ∀ j, (j < 4 * t ∨ 4 * t + 3 < j) → (fs1 (fs1 (fs1 (fs1 m (c + 1) (4 * t) (nI k)) (c + 1) (4 * t + 1) (nI a)) (c + 1) (4 * t + 2) b) (c + 1) (4 * t + 3) (nI e)).1 (c + 1) j = m.1 (c + 1) j := fun j hj => by
      rw [fs1_i (by omega), fs1_i (by omega), fs1_i (by omega), fs1_i (by omega)]
    rw [e0 _ (by omega), e0 _ (by omega), e0 _ (by omega), e0 _ (by omega)]
    exact hc.2 q hq
set_option maxHeartbeats 1000000 in
theorem g59_s (hc : CR m c n J) (hw : WF n J) (hwI : WF n I) (hz : NZ n I) (h20 : 20 ≤ c) (hp : p < n) (hJ : kd J p = kd I p ∧ ra J p = ra I p ∧ rb J p = rb I p ∧ rc J p = rc I p) (h13 : ∀ t, t ≤ 24 → m.1 13 t = nI (sa I n t)) : g59 c (nI p) (bI (decide (MK I n p = 3))) m = some (bI (chf I n p), wr4 m (c + 1) (sa I n p) (nI (tr I n p).1) (nI (tr I n p).2.1) (tr I n p).2.2.1 (nI (tr I n p).2.2.2)) := by
  have hn := hw.1
  have hk := WF_k hwI hp
  have ht := WF_t hwI hp
  have l0 := sa_le (I := I) (n := n) p
  have l1 := sa_le (I := I) (n := n) (ra I p)
  have l2 := sa_le (I := I) (n := n) (rc I p)
  have hnz := tr_NZ hz hp
  obtain ⟨j1, j2, j3, j4⟩ := hJ
  unfold g59
  rw [dx_ldI (by omega) (by omega), h13 p (by omega), g4_0 hc hn hp, dx_cl2, g4_1 hc hn hp, dx_cl2, g4_2 hc hn hp, dx_cl2, g4_3 hc hn hp, dx_cl2, j1, j2, j3, j4, dx_ne (by omega) (by omega), dx_ne (by omega) (by omega), bI_eq]
  have h131 : ∀ (a y : Nat) (b : Int32), y ≤ 24 → NZ1 (kd I p) b y → g59_131 c (nI (sa I n p)) (nI (kd I p)) (nI a) b (nI (rc I p)) (nI y) m = some (bI (decide (¬ y = rc I p)), wr4 m (c + 1) (sa I n p) (nI (kd I p)) (nI a) b (nI y)) := by
    intro a y b hy hnz1
    unfold g59_131
    rw [g6_s (by omega) hk, ov_1 hk, ov_2 hk hnz1, ov_3 hk hnz1, dx_cl1, dx_eq (by omega) (by omega), dx_cif]
    by_cases e : y = rc I p
    · rw [if_pos e, decide_eq_false (fun z => z e)]; rfl
    · rw [if_neg e, decide_eq_true e]; rfl
  unfold tr at hnz ⊢
  unfold chf
  by_cases h6 : kd I p = 6
  · rw [if_pos h6] at hnz
    rw [if_pos h6, if_pos h6, decide_eq_false (fun z => z h6), cond_false, dx_ldI (by omega) (by omega), h13 _ ht.1, g6_s (by omega) (by omega), dx_cl1, dx_ldI (by omega) (by omega), wr4_k (by omega), h13 _ ht.1, dx_eq (by omega) (by omega), dx_cif, ov_1 (by omega)]
    have e2 : ov 6 2 (rb I p) = nI 0 := by unfold ov; rw [show nzs 6 2 = false by decide +kernel]; rfl
    have e3 : ov 6 3 (nI (rc I p)) = nI 0 := by unfold ov; rw [show nzs 6 3 = false by decide +kernel]; rfl
    rw [e2, e3]
    by_cases e : sa I n (ra I p) = ra I p
    · rw [if_pos e, decide_eq_false (fun z => z e)]; rfl
    · rw [if_neg e, decide_eq_true e]; rfl
  · rw [if_neg h6] at hnz
    rw [if_neg h6, if_neg h6, decide_eq_true h6, cond_true]
    by_cases h5 : kd I p = 5
    · rw [if_pos h5] at hnz
      rw [if_pos h5, if_pos h5, decide_eq_false (fun z => z h5), cond_false]
      by_cases h3 : MK I n p = 3
      · rw [if_pos h3, if_pos h3, decide_eq_true h3, Bool.not_true, cond_false, dx_ldI (by omega) (by omega), h13 _ ht.2, g6_s (by omega) (by omega), dx_cl1, ov_1 (by omega)]
        have e2 : ov 6 2 (nI 0) = nI 0 := by unfold ov; split <;> rfl
        have e3 : ov 6 3 (nI 0) = nI 0 := by unfold ov; split <;> rfl
        rw [e2, e3]; rfl
      · rw [if_neg h3] at hnz
        rw [if_neg h3, if_neg h3, decide_eq_false h3, Bool.not_false, cond_true]
        unfold g59_113
        have e5 := h131 (ra I p) (sa I n (rc I p)) (rb I p) (by omega) (by rw [h5]; exact hnz)
        rw [h5] at e5 ⊢
        rw [show ai_c .ne (nI 5) (nI 5) = false by decide +kernel, cond_false, dx_ldI (by omega) (by omega), h13 _ ht.2, e5]
    · rw [if_neg h5] at hnz
      rw [if_neg h5, if_neg h5, decide_eq_true h5, cond_true]
      unfold g59_113
      rw [dx_ne (by omega) (by omega), decide_eq_true h5, cond_true, h131 (ra I p) (rc I p) (rb I p) ht.2 hnz, decide_eq_false (fun z => z rfl)]
def FS (c : Nat) (m m' : fm) : Prop := (∀ k, k ≠ 6 → k ≠ 13 → k ≠ c → k ≠ c + 1 → m'.1 k = m.1 k) ∧ (∀ k, k ≠ 5 → k ≠ 7 → m'.2 k = m.2 k)
theorem FS_r (m : fm) : FS c m m := ⟨fun _ _ _ _ _ => rfl, fun _ _ _ => rfl⟩
theorem FS_t {m m' m'' : fm} (h1 : FS c m m') (h2 : FS c m' m'') : FS c m m'' := ⟨fun k a b d e => (h2.1 k a b d e).trans (h1.1 k a b d e), fun k a b => (h2.2 k a b).trans (h1.2 k a b)⟩
theorem and2_0 : ∀ k, k < 18 → stb k = true → ai_c .eq (nI k &&& nI 2) 0 = !(decide (k = 3)) := by decide +kernel
theorem g58_s (hc : CR m c n I) (hw : WF n I) (hz : NZ n I) (h20 : 20 ≤ c) (h5 : m.2 5 = FV I n) (hV : RV m (VV I n)) (h13 : ∀ t, t ≤ 24 → m.1 13 t = nI (sa I n t)) : ob (g58 c m) (fun r => (∀ k, k ≠ c → k ≠ c + 1 → r.2.1 k = m.1 k) ∧ r.2.2 = m.2 ∧ CR r.2 c (sa I n n) (wI I n n) ∧ r.1 = bI (decide (¬ n = sa I n n) || cf I n n)) := by
  have hn := hw.1
  unfold g58 g58_5
  refine wl_c (f := fun s : Int32 × Int32 × fm => s58_5 c s.1 s.2.1 s.2.2) (fun i s => ∃ mi, s = (bI (cf I n i), nI i, mi) ∧ (∀ k, k ≠ c + 1 → mi.1 k = m.1 k) ∧ mi.2 = m.2 ∧ CR mi c n (wI I n i)) n (by omega) (nI 0, nI 0, m) ⟨m, rfl, fun _ _ => rfl, rfl, hc⟩ (fun i s hi hss => ?_) (fun s hss => ?_)
  · obtain ⟨mi, rfl, hF, h2, hci⟩ := hss
    have hwi : WF n (wI I n i) := wI_WF hw (by omega)
    have ho := wI_o (I := I) (n := n) i i (Nat.le_refl i)
    show ob (s58_5 c _ (nI i) mi) _
    unfold s58_5
    rw [g1_s hci, dx_cl2, dx_ge (by omega) (by omega), decide_eq_false (by omega), cond_false, g19_s hci hwi (RV_f hV (hF 6 (by omega))) hi, dx_cl2, h2, h5, mk_cg ho, show mk I (FV I n) (VV I n) i = MK I n i from rfl]
    have hm18 : MK I n i < 18 := mk_18
    rw [g57_s hm18, dx_cl2, bI_eq, nI_add]
    have es : sty I n i = stb (MK I n i) := by unfold sty; rw [decide_eq_true hi]; rfl
    cases hst : stb (MK I n i) with
    | false =>
      refine ⟨mi, ?_, hF, h2, ?_⟩
      · rw [cf_1, es, hst]; rfl
      · rw [wI_1, es, hst]; exact hci
    | true =>
      rw [Bool.not_true, cond_false, and2_0 _ hm18 hst]
      have h47 : ∀ b : Bool, b = decide (MK I n i = 3) → ob (g58_47 c (bI (cf I n i)) (nI i) (bI b) (nI i) c mi) (Sum.elim (fun s => ∃ mi, s = (bI (cf I n (i + 1)), nI (i + 1), mi) ∧ (∀ k, k ≠ c + 1 → mi.1 k = m.1 k) ∧ mi.2 = m.2 ∧ CR mi c n (wI I n (i + 1))) (fun r => (∀ k, k ≠ c → k ≠ c + 1 → r.2.1 k = m.1 k) ∧ r.2.2 = m.2 ∧ CR r.2 c (sa I n n) (wI I n n) ∧ r.1 = bI (decide (¬ n = sa I n n) || cf I n n))) := by
        intro b hb
        subst hb
        unfold g58_47 g58_57
        rw [g59_s hci hwi hw hz h20 hi ho (fun t ht => by rw [hF 13 (by omega)]; exact h13 t ht), dx_cl2, bI_ne, bI_eq, nI_add]
        have hl := sa_le (I := I) (n := n) i
        have hcr : CR (wr4 mi (c + 1) (sa I n i) (nI (tr I n i).1) (nI (tr I n i).2.1) (tr I n i).2.2.1 (nI (tr I n i).2.2.2)) c n (wI I n (i + 1)) := by
          rw [wI_1, es, hst]
          exact CR_w hci (by omega)
        have hfr : ∀ k, k ≠ c + 1 → (wr4 mi (c + 1) (sa I n i) (nI (tr I n i).1) (nI (tr I n i).2.1) (tr I n i).2.2.1 (nI (tr I n i).2.2.2)).1 k = m.1 k := fun k hk => by rw [wr4_k hk]; exact hF k hk
        have ec : cf I n (i + 1) = (chf I n i || cf I n i) := by rw [cf_1, es, hst]; rfl
        cases h1 : chf I n i with
        | true => exact ⟨_, by rw [ec, h1]; rfl, hfr, h2, hcr⟩
        | false =>
          cases h3 : cf I n i with
          | true => exact ⟨_, by rw [ec, h1, h3]; rfl, hfr, h2, hcr⟩
          | false => exact ⟨_, by rw [ec, h1, h3]; rfl, hfr, h2, hcr⟩
      cases h3 : decide (MK I n i = 3) with
      | true => exact h47 true h3.symm
      | false => exact h47 false h3.symm
  · obtain ⟨mi, rfl, hF, h2, hci⟩ := hss
    have hl := sa_le (I := I) (n := n) n
    show ob (s58_5 c _ (nI n) mi) _
    unfold s58_5 g8
    rw [g1_s hci, dx_cl2, dx_ge (by omega) (by omega), decide_eq_true (Nat.le_refl _), cond_true, dx_ldI (by omega) (by omega), hF 13 (by omega), h13 24 (by omega), sa_hi hn, dx_gfI, dx_pfI, dx_cl2, hci.1, dx_ne (by omega) (by omega), bI_eq]
    have fin : ∀ b : Bool, b = (decide (¬ n = sa I n n) || cf I n n) → ob (some (.inr (bI b, fs1 mi c 1 (nI (sa I n n)))) : Option ((Int32 × Int32 × fm) ⊕ (Int32 × fm))) (Sum.elim (fun _ => False) (fun r => (∀ k, k ≠ c → k ≠ c + 1 → r.2.1 k = m.1 k) ∧ r.2.2 = m.2 ∧ CR r.2 c (sa I n n) (wI I n n) ∧ r.1 = bI (decide (¬ n = sa I n n) || cf I n n))) := by
      intro b hb
      refine ⟨fun k h1 h3 => ?_, h2, ⟨fs1_at, fun q hq => ?_⟩, by rw [hb]⟩
      · show (fs1 mi c 1 (nI (sa I n n))).1 k = m.1 k
        rw [fs1_k h1]; exact hF k h3
      · show (fs1 mi c 1 (nI (sa I n n))).1 (c + 1) _ = _ ∧ (fs1 mi c 1 (nI (sa I n n))).1 (c + 1) _ = _ ∧ (fs1 mi c 1 (nI (sa I n n))).1 (c + 1) _ = _ ∧ (fs1 mi c 1 (nI (sa I n n))).1 (c + 1) _ = _
        rw [fs1_k (by omega)]
        exact hci.2 q (by omega)
    revert fin
    generalize decide (¬ n = sa I n n) = d1
    generalize cf I n n = d2
    intro fin
    cases d1 <;> cases d2 <;> exact fin _ rfl
/-- a round -/
theorem rnd_s (hc : CR m c n I) (hw : WF n I) (hz : NZ n I) (h20 : 20 ≤ c) (h5 : hz5 m) : ob (cl1 (g25 c m) fun m1 => cl1 (g32 c m1) fun m2 => cl1 (g56 c m2) fun m3 => g58 c m3) (fun r => FS c m r.2 ∧ hz5 r.2 ∧ CR r.2 c (sa I n n) (wI I n n) ∧ r.1 = bI (decide (¬ n = sa I n n) || cf I n n)) := by
  obtain ⟨B, hB⟩ := g25_s hc hw h5
  rw [hB, dx_cl1]
  have f1 : FS c m (sr2 (sr2 m 5 (FV I n)) 7 B) := ⟨fun _ _ _ _ _ => rfl, fun k a b => by rw [sr2_n b, sr2_n a]⟩
  have e1 : (sr2 (sr2 m 5 (FV I n)) 7 B).2 5 = FV I n := by rw [sr2_n (by omega), sr2_s]
  have c1 : CR (sr2 (sr2 m 5 (FV I n)) 7 B) c n I := hc
  generalize sr2 (sr2 m 5 (FV I n)) 7 B = m1 at *
  refine ob_1 (ob_m (g32_s c1 hw h20) (fun m2 h2 => ?_))
  obtain ⟨f2, V, hV, rV⟩ := h2
  rw [e1] at hV
  rw [VV_e hV] at rV
  have f2' : FS c m1 m2 := ⟨fun k a _ _ _ => f2.1 k a, fun k _ _ => by rw [f2.2]⟩
  have c2 : CR m2 c n I := CR_f c1 (f2.1 c (by omega)) (f2.1 (c + 1) (by omega))
  have e2 : m2.2 5 = FV I n := by rw [f2.2]; exact e1
  refine ob_1 (ob_m (g56_s c2 hw h20 e2 rV) (fun m3 h3 => ?_))
  obtain ⟨f3, r3⟩ := h3
  have f3' : FS c m2 m3 := ⟨fun k _ b _ _ => f3.1 k b, fun k _ _ => by rw [f3.2]⟩
  have c3 : CR m3 c n I := CR_f c2 (f3.1 c (by omega)) (f3.1 (c + 1) (by omega))
  have e3 : m3.2 5 = FV I n := by rw [f3.2]; exact e2
  refine ob_m (g58_s c3 hw hz h20 e3 (RV_f rV (f3.1 6 (by omega))) r3) (fun r hr => ?_)
  obtain ⟨a1, a2, a3, a4⟩ := hr
  refine ⟨FS_t f1 (FS_t f2' (FS_t f3' ⟨fun k _ _ d e => a1 k d e, fun k _ _ => by rw [a2]⟩)), fun i hi => ?_, a3, a4⟩
  rw [a2, e3]
  exact FV_hi hw.1 hi
end S2
