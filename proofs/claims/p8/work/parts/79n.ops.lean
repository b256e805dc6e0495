section OP
variable {m m' : fm} {N : Nat → Nat} {P : Nat → cod} {R : Nat → Bool}
theorem HT_g (h : HT m) (hc : ∀ j, j < 8 → m'.1 (22 + 4 * j) = m.1 (22 + 4 * j) ∧ m'.1 (22 + 4 * j + 1) = m.1 (22 + 4 * j + 1)) (hr : ∀ k, 53 ≤ k → k ≤ 56 → ∀ i, 192 ≤ i → m'.1 k i = m.1 k i) (h57 : ∀ i, 8 ≤ i → m'.1 57 i = m.1 57 i) : HT m' := by
  obtain ⟨NT, JT, PT, h⟩ := h
  refine ⟨NT, JT, PT, fun j hj => ?_⟩
  obtain ⟨a, b, c⟩ := h j hj
  refine ⟨CR_f a (hc j hj).1 (hc j hj).2, ⟨b.1, by rw [h57 _ (by omega)]; exact b.2.1, fun p hp => ?_⟩, c⟩
  rw [hr 53 (by omega) (by omega) _ (by omega), hr 54 (by omega) (by omega) _ (by omega), hr 55 (by omega) (by omega) _ (by omega), hr 56 (by omega) (by omega) _ (by omega)]
  exact b.2.2 p hp
def upC (P : Nat → cod) (j : Nat) (I : cod) : Nat → cod := fun i => if i = j then I else P i
theorem upC_s {j : Nat} {I : cod} : upC P j I j = I := if_pos rfl
theorem upC_n {j i : Nat} {I : cod} (h : ¬ i = j) : upC P j I i = P i := if_neg h
/-- one member is another one -/
theorem IN_u (h : IN m N P R) {j n' : Nat} {I' : cod} (hj : j < 8) (hc : CR m' (20 + 4 * j) n' I') (hr : RR m' j n' I') (hw : WF n' I') (hz : NZ n' I') (f1 : ∀ k, ¬ k = 20 + 4 * j → ¬ k = 20 + 4 * j + 1 → k < 53 ∨ 57 < k → m'.1 k = m.1 k) (f2 : m'.2 = m.2) (f3 : ∀ k, 53 ≤ k → k ≤ 56 → ∀ i, i < 24 * j ∨ 24 * j + 24 ≤ i → m'.1 k i = m.1 k i) (f4 : ∀ i, ¬ i = j → m'.1 57 i = m.1 57 i) : IN m' (upN N j n') (upC P j I') R := by
  obtain ⟨h1, h2, h3, h4, h5, h6, ⟨b, h7, h8, h9⟩, h10⟩ := h
  refine ⟨fun i hi => ?_, fun i hi => ?_, fun i hi => ?_, fun i hi => ?_, fun i hi => by rw [f2]; exact h5 i hi, fun i hi => by rw [f1 3 (by omega) (by omega) (by omega), f1 58 (by omega) (by omega) (by omega)]; exact h6 i hi, ⟨b, by rw [f1 0 (by omega) (by omega) (by omega)]; exact h7, by rw [f1 52 (by omega) (by omega) (by omega)]; exact h8, fun z => HT_g (h9 z) (fun i hi => ⟨f1 _ (by omega) (by omega) (by omega), f1 _ (by omega) (by omega) (by omega)⟩) (fun k a b i hi => f3 k a b i (by omega)) (fun i hi => f4 i (by omega))⟩, ?_⟩
  · by_cases e : i = j
    · subst e; rw [upN_s, upC_s]; exact hc
    · rw [upN_n e, upC_n e]
      exact CR_f (h1 i hi) (f1 _ (by omega) (by omega) (by omega)) (f1 _ (by omega) (by omega) (by omega))
  · by_cases e : i = j
    · subst e; rw [upN_s, upC_s]; exact hr
    · rw [upN_n e, upC_n e]
      have hn := (h3 i hi).1
      refine ⟨(h2 i hi).1, by rw [f4 i e]; exact (h2 i hi).2.1, fun p hp => ?_⟩
      rw [f3 53 (by omega) (by omega) _ (by omega), f3 54 (by omega) (by omega) _ (by omega), f3 55 (by omega) (by omega) _ (by omega), f3 56 (by omega) (by omega) _ (by omega)]
      exact (h2 i hi).2.2 p hp
  · by_cases e : i = j
    · subst e; rw [upN_s, upC_s]; exact hw
    · rw [upN_n e, upC_n e]; exact h3 i hi
  · by_cases e : i = j
    · subst e; rw [upN_s, upC_s]; exact hz
    · rw [upN_n e, upC_n e]; exact h4 i hi
  · unfold SP
    rw [f1 14 (by omega) (by omega) (by omega), f1 52 (by omega) (by omega) (by omega), f1 16 (by omega) (by omega) (by omega), f1 67 (by omega) (by omega) (by omega), f1 15 (by omega) (by omega) (by omega), f1 66 (by omega) (by omega) (by omega)]
    exact h10
theorem op_cut (h : INV m) (x : Int32) : OK (g69 x m) (g104 x) := by
  obtain ⟨N, P, R, h⟩ := h
  obtain ⟨e1, e2, e3, e4⟩ := e10
  rcases dx_of (x := x) (n := 8) (by omega) with ⟨j, hj, rfl⟩ | hx
  · unfold OK g69
    rw [(mem_y hj).1, dx_cl2, e1, cond_false, dx_ldA hj, g7_s (h.1 j hj), dx_cl2]
    show ob (g104 (nI j) (fs1 m (20 + 4 * j) 1 (nI 0))) _
    unfold g104
    rw [(mem_y hj).2, dx_cl2, e2, cond_true, dx_ldI (by omega) (by omega), dx_stI (by omega) (by omega), fs1_k (by omega), (h.2.1 j hj).2.1]
    refine ⟨rfl, _, _, R, IN_u (n' := 0) (I' := P j) h hj ⟨by rw [fs1_k (by omega), fs1_at], fun p hp => absurd hp (by omega)⟩ ⟨by omega, fs1_at, fun p hp => absurd hp (by omega)⟩ WF_0 NZ_0 (fun k a b c => by rw [fs1_k (by omega), fs1_k a]) rfl (fun k a b i _ => by rw [fs1_k (by omega), fs1_k (by omega)]) (fun i hi => by rw [fs1_i hi, fs1_k (by omega)])⟩
  · refine OK_e (a := -101) (m := m) ?_ ?_ ⟨N, P, R, h⟩
    · unfold g69
      rw [(mem_n hx).1, dx_cl2, e3, cond_true]
    · unfold g104
      rw [(mem_n hx).2, dx_cl2, e4, cond_false]
theorem op_root (h : INV m) (x : Int32) (v : Bool) : OK (g70 x (bI v) m) (g105 x (bI v)) := by
  obtain ⟨N, P, R, h⟩ := h
  obtain ⟨e1, e2, e3, e4⟩ := e10
  rcases dx_of (x := x) (n := 8) (by omega) with ⟨j, hj, rfl⟩ | hx
  · have hb := bt2 v
    have hb2 := bt2 (R j)
    unfold OK g70
    rw [(mem_y hj).1, dx_cl2, e2, cond_true, dx_ldI (by omega) (by omega), (h.2.2.2.2.2.1 j hj).1]
    show ob (stB m 3 8 (nI j) (nI v.toNat) _) _
    rw [dx_stB (by omega) (by omega) hb]
    have key : ∀ y : Int32, ob (g105_25 (nI j) (bI v) y (fs1 m 3 j (nI v.toNat))) (fun r' => y = r'.1 ∧ INV r'.2) := by
      intro y
      unfold g105_25
      show ob (stB _ 58 8 (nI j) (nI v.toNat) _) _
      rw [dx_stB (by omega) (by omega) hb]
      refine ⟨rfl, N, P, fun i => if i = j then v else R i, ?_⟩
      obtain ⟨h1, h2, h3, h4, h5, h6, ⟨b, h7, h8, h9⟩, h10⟩ := h
      have fk : ∀ k, ¬ k = 3 → ¬ k = 58 → (fs1 (fs1 m 3 j (nI v.toNat)) 58 j (nI v.toNat)).1 k = m.1 k := fun k a b => by rw [fs1_k b, fs1_k a]
      refine ⟨fun i hi => CR_f (h1 i hi) (fk _ (by omega) (by omega)) (fk _ (by omega) (by omega)), fun i hi => RR_f (h2 i hi) (by rw [fk 57 (by omega) (by omega)]) (fk 53 (by omega) (by omega)) (fk 54 (by omega) (by omega)) (fk 55 (by omega) (by omega)) (fk 56 (by omega) (by omega)), h3, h4, h5, fun i hi => ?_, ⟨b, by rw [fk 0 (by omega) (by omega)]; exact h7, by rw [fk 52 (by omega) (by omega)]; exact h8, fun z => HT_f (h9 z) (fun k _ _ => fk k (by omega) (by omega)) (fun k _ _ => fk k (by omega) (by omega))⟩, ?_⟩
      · by_cases e : i = j
        · subst e
          rw [fs1_k (by omega), fs1_at, fs1_at]
          show _ = bI (if i = i then v else R i) ∧ _ = bI (if i = i then v else R i)
          rw [if_pos rfl]
          exact ⟨rfl, rfl⟩
        · rw [fs1_k (by omega), fs1_i e, fs1_i e, fs1_k (by omega)]
          show _ = bI (if i = j then v else R i) ∧ _ = bI (if i = j then v else R i)
          rw [if_neg e]
          exact h6 i hi
      · unfold SP
        rw [fk 14 (by omega) (by omega), fk 52 (by omega) (by omega), fk 16 (by omega) (by omega), fk 67 (by omega) (by omega), fk 15 (by omega) (by omega), fk 66 (by omega) (by omega)]
        exact h10
    have hg : g105 (nI j) (bI v) (fs1 m 3 j (nI v.toNat)) = (bif ai_c .ne (bI (R j)) (bI v) then g105_25 (nI j) (bI v) (nI 1) (fs1 m 3 j (nI v.toNat)) else g105_25 (nI j) (bI v) (nI 0) (fs1 m 3 j (nI v.toNat))) := by
      unfold g105
      rw [(mem_y hj).2, dx_cl2, e2, cond_true, dx_ldI (by omega) (by omega), fs1_k (by omega), (h.2.2.2.2.2.1 j hj).2]
    cases hne : ai_c .ne (bI (R j)) (bI v) with
    | true =>
      rw [cond_true]
      show ob (g105 (nI j) (bI v) (fs1 m 3 j (nI v.toNat))) _
      rw [hg, hne, cond_true]
      exact key (nI 1)
    | false =>
      rw [cond_false]
      show ob (g105 (nI j) (bI v) (fs1 m 3 j (nI v.toNat))) _
      rw [hg, hne, cond_false]
      exact key (nI 0)
  · refine OK_e (a := -101) (m := m) ?_ ?_ ⟨N, P, R, h⟩
    · unfold g70
      rw [(mem_n hx).1, dx_cl2, e4, cond_false]
    · unfold g105
      rw [(mem_n hx).2, dx_cl2, e4, cond_false]
/-- findValues and know behind it, of a member of the program -/
theorem fc25 (h : IN m N P R) {j : Nat} (hj : j < 8) : ∃ m1, g25 (20 + 4 * j) m = some m1 ∧ FCs m m1 ∧ m1.2 5 = FV (P j) (N j) := by
  obtain ⟨B, e⟩ := g25_s (h.1 j hj) (h.2.2.1 j hj) h.2.2.2.2.1
  have e5 : (sr2 (sr2 m 5 (FV (P j) (N j))) 7 B).2 5 = FV (P j) (N j) := by rw [sr2_n (by omega), sr2_s]
  exact ⟨_, e, ⟨fun _ _ => rfl, fun k a b => by rw [sr2_n b, sr2_n a], fun i hi => by rw [e5]; exact FV_hi (h.2.2.1 j hj).1 hi⟩, e5⟩
theorem fc32 {j : Nat} (h : IN m N P R) (hj : j < 8) (h5 : m.2 5 = FV (P j) (N j)) : ∃ m1, g32 (20 + 4 * j) m = some m1 ∧ FCs m m1 ∧ m1.2 5 = FV (P j) (N j) ∧ RV m1 (VV (P j) (N j)) := by
  obtain ⟨m1, e, f, V, hV, rV⟩ := ob_ex (g32_s (h.1 j hj) (h.2.2.1 j hj) (by omega))
  rw [h5] at hV
  rw [VV_e hV] at rV
  exact ⟨m1, e, ⟨fun k hk => f.1 k (by omega), fun k _ _ => by rw [f.2], fun i hi => by rw [f.2]; exact h.2.2.2.2.1 i hi⟩, by rw [f.2]; exact h5, rV⟩
theorem RR0 {j n : Nat} {I : cod} (h : RR m j n I) : RR m (8 * 0 + j) n I := by rw [show 8 * 0 + j = j by omega]; exact h
theorem op_known (h : INV m) (x y z : Int32) : OK (g76 x y z m) (g121 x y z) := by
  obtain ⟨N, P, R, h⟩ := h
  obtain ⟨e1, e2, e3, e4⟩ := e10
  rcases ip_s h x y with ⟨j, p, hj, hp, rfl, rfl, hg, hr⟩ | ⟨h1, h2⟩
  · have hn := (h.2.2.1 j hj).1
    rcases dx_of (x := z) (n := 4) (by omega) with ⟨r, hr4, rfl⟩ | hz
    · obtain ⟨m1, ea, fa, ev⟩ := fc25 h hj
      have hI1 := IN_c h fa
      unfold OK g76
      rw [hg, dx_cl2, e1, cond_false, (reg_y hr4).1, dx_cl2, e2, cond_true, dx_ldA hj, ea, dx_cl1, g17_s (by omega), dx_cl2, ev]
      show ob (g121 (nI j) (nI p) (nI r) m1) _
      unfold g121
      rw [hr m1 (hI1.2.1 j hj), dx_cl2, e1, cond_false, (reg_y hr4).2.2, dx_cl2, e2, cond_true]
      refine ob_1 (ob_m (g113_r (RR0 (hI1.2.1 j hj)) (h.2.2.1 j hj) hj (by omega)) (fun m2 h2 => ?_))
      obtain ⟨f2, s2, r2⟩ := h2
      have hI2 : INV m2 := ⟨N, P, R, IN_r hI1 (FRs_W (FW_K f2))⟩
      rw [dx_ldI (by omega) (by omega), pk_mul, nI_add, dx_ldL (by omega) (by omega)]
      rcases r2 p (by omega) with hh | hh
      · rw [hh.1, e3, cond_true]
        exact ⟨hh.2 r hr4, hI2⟩
      · rw [hh.1, e1, cond_false]
        exact ⟨(hh.2 r hr4).2.symm, hI2⟩
    · refine OK_e (a := Int64.ofNat 18446744073709551515) (m := m) ?_ ?_ ⟨N, P, R, h⟩
      · unfold g76
        rw [hg, dx_cl2, e1, cond_false, (reg_n hz).1, dx_cl2, e4, cond_false]
      · unfold g121
        rw [hr m (h.2.1 j hj), dx_cl2, e1, cond_false, (reg_n hz).2.2, dx_cl2, e4, cond_false]
  · refine OK_e (a := Int64.ofNat 18446744073709551515) (m := m) ?_ ?_ ⟨N, P, R, h⟩
    · unfold g76
      rw [h1, dx_cl2, e3, cond_true]
    · unfold g121
      rw [h2, dx_cl2, e3, cond_true]
theorem op_marks (h : INV m) (x y : Int32) : OK (g75 x y m) (g120 x y) := by
  obtain ⟨N, P, R, h⟩ := h
  obtain ⟨e1, e2, e3, e4⟩ := e10
  rcases ip_s h x y with ⟨j, p, hj, hp, rfl, rfl, hg, hr⟩ | ⟨h1, h2⟩
  · have hw := h.2.2.1 j hj
    have hn := hw.1
    obtain ⟨m1, ea, fa, ev⟩ := fc25 h hj
    have hI1 := IN_c h fa
    obtain ⟨m2, eb, fb, ev2, rV⟩ := fc32 hI1 hj ev
    have hI2 := IN_c hI1 fb
    unfold OK g75
    rw [hg, dx_cl2, e2, cond_true, dx_ldA hj, ea, dx_cl1, dx_ldA hj, eb, dx_cl1, dx_ldA hj, g19_s (hI2.1 j hj) hw rV hp, dx_cl2, ev2]
    show ob (g120 (nI j) (nI p) m2) _
    unfold g120
    rw [hr m2 (hI2.2.1 j hj), dx_cl2, e2, cond_true]
    refine ob_1 (ob_m (g116_r (RR0 (hI2.2.1 j hj)) hw hj (by omega)) (fun m3 h3 => ?_))
    obtain ⟨f3, s3, r3, V, hV, h62⟩ := h3
    have hV16 := hV.1
    rw [VV_e hV] at h62 hV16
    rw [g118_r s3 hw r3 hp (hV16 p) (h62 p (by omega)), dx_cl2]
    exact ⟨rfl, N, P, R, IN_r hI2 (FRs_D f3)⟩
  · refine OK_e (a := -101) (m := m) ?_ ?_ ⟨N, P, R, h⟩
    · unfold g75
      rw [h1, dx_cl2, e4, cond_false]
    · unfold g120
      rw [h2, dx_cl2, e4, cond_false]
theorem op_read (h : INV m) (x y z : Int32) : OK (g77 x y z m) (g122 x y z) := by
  obtain ⟨N, P, R, h⟩ := h
  obtain ⟨e1, e2, e3, e4⟩ := e10
  rcases ip_s h x y with ⟨j, p, hj, hp, rfl, rfl, hg, hr⟩ | ⟨h1, h2⟩
  · have hw := h.2.2.1 j hj
    have hn := hw.1
    rcases dx_of (x := z) (n := 4) (by omega) with ⟨r, hr4, rfl⟩ | hz
    · obtain ⟨m1, ea, fa, ev⟩ := fc25 h hj
      have hI1 := IN_c h fa
      obtain ⟨m2, eb, fb, ev2, rV⟩ := fc32 hI1 hj ev
      have hI2 := IN_c hI1 fb
      unfold OK g77
      rw [hg, dx_cl2, e1, cond_false, (reg_y hr4).1, dx_cl2, e2, cond_true, dx_ldA hj, ea, dx_cl1, dx_ldA hj, eb, dx_cl1, g18_V rV (by omega) hr4, dx_cl2, bI_eq]
      have key : ob (g122 (nI j) (nI p) (nI r) m2) (fun r' => bI (decide (¬ VV (P j) (N j) p &&& 2 ^ r = 0)) = r'.1 ∧ INV r'.2) := by
        unfold g122
        rw [hr m2 (hI2.2.1 j hj), dx_cl2, e1, cond_false, (reg_y hr4).2.2, dx_cl2, e2, cond_true]
        refine ob_1 (ob_m (g116_r (RR0 (hI2.2.1 j hj)) hw hj (by omega)) (fun m3 h3 => ?_))
        obtain ⟨f3, s3, r3, V, hV, h62⟩ := h3
        have hV0 := hV
        have hV16 := hV.1
        rw [VV_e hV] at h62 hV16 hV0
        have hI3 : INV m3 := ⟨N, P, R, IN_r hI2 (FRs_D f3)⟩
        rw [dx_ldI (by omega) (by omega), dx_ldI (by omega) (by omega), h62 p (by omega), nshr0 _ (hV16 p) _ hr4]
        rcases r3 p (by omega) with hh | hh
        · rw [hh.1, e3, cond_true]
          have hv0 : VV (P j) (N j) p = 0 := by
            rw [← hV0.2.2.1 p hp]
            unfold TT
            rw [if_pos (show FV (P j) (N j) (4 * p) = vN from hh.2 0 (by omega))]
          refine ⟨?_, hI3⟩
          rw [hv0, Nat.zero_and]; rfl
        · rw [hh.1, e1, cond_false]
          refine ⟨?_, hI3⟩
          by_cases ez : VV (P j) (N j) p &&& 2 ^ r = 0
          · rw [if_pos ez, decide_eq_false (fun z => z ez)]; rfl
          · rw [if_neg ez, decide_eq_true ez]; rfl
      by_cases ez : VV (P j) (N j) p &&& 2 ^ r = 0
      · rw [decide_eq_false (fun z => z ez)] at key ⊢
        exact key
      · rw [decide_eq_true ez] at key ⊢
        exact key
    · refine OK_e (a := -101) (m := m) ?_ ?_ ⟨N, P, R, h⟩
      · unfold g77
        rw [hg, dx_cl2, e1, cond_false, (reg_n hz).1, dx_cl2, e4, cond_false]
      · unfold g122
        rw [hr m (h.2.1 j hj), dx_cl2, e1, cond_false, (reg_n hz).2.2, dx_cl2, e4, cond_false]
  · refine OK_e (a := -101) (m := m) ?_ ?_ ⟨N, P, R, h⟩
    · unfold g77
      rw [h1, dx_cl2, e3, cond_true]
    · unfold g122
      rw [h2, dx_cl2, e3, cond_true]
theorem op_used (h : INV m) (x : Int32) : OK (g78 x m) (g124 x) := by
  obtain ⟨N, P, R, h⟩ := h
  obtain ⟨e1, e2, e3, e4⟩ := e10
  rcases dx_of (x := x) (n := 8) (by omega) with ⟨j, hj, rfl⟩ | hx
  · unfold OK g78
    rw [(mem_y hj).1, dx_cl2, e2, cond_true]
    refine ob_1 (ob_m (g63_s h.1 h.2.2.1 h.2.2.2.2.1 (fun j hj => (h.2.2.2.2.2.1 j hj).1)) (fun m1 h1 => ?_))
    obtain ⟨f1, z1, U, hU, u9, -⟩ := h1
    have hI1 := IN_c h (FCs_U f1 z1)
    have key : ob (g124 (nI j) m1) (fun r' => bI (U j) = r'.1 ∧ INV r'.2) := by
      unfold g124
      rw [(mem_y hj).2, dx_cl2, e2, cond_true]
      refine ob_1 (ob_m (g123_r hI1.2.1 hI1.2.2.1 (fun j hj => (hI1.2.2.2.2.2.1 j hj).2)) (fun m2 h2 => ?_))
      obtain ⟨f2, x, U', hU', um⟩ := h2
      rw [dx_gfI, um.1, um_bit0 j hj x um.2.1, um.2.2 j hj, LU_uniq hU' hU hj]
      exact ⟨rfl, N, P, R, IN_r hI1 (FRs_W f2)⟩
    unfold g61
    rw [dx_ldI hj (by omega), u9 j hj, show rtB (bI (U j)) = rtB (nI (U j).toNat) from rfl, dx_rtB (bt2 _), dx_cl2, bI_eq]
    cases hu : U j with
    | true => rw [hu] at key; exact key
    | false => rw [hu] at key; exact key
  · refine OK_e (a := -101) (m := m) ?_ ?_ ⟨N, P, R, h⟩
    · unfold g78
      rw [(mem_n hx).1, dx_cl2, e4, cond_false]
    · unfold g124
      rw [(mem_n hx).2, dx_cl2, e4, cond_false]
theorem op_field (h : INV m) (x : Int32) : OK (g79 x m) (g125 x) := by
  obtain ⟨N, P, R, h⟩ := h
  obtain ⟨e1, e2, e3, e4⟩ := e10
  rcases dx_of (x := x) (n := 4) (by omega) with ⟨f, hf, rfl⟩ | hx
  · unfold OK g79
    rw [(reg_y hf).2.1, dx_cl2, e2, cond_true]
    refine ob_1 (ob_m (g63_s h.1 h.2.2.1 h.2.2.2.2.1 (fun j hj => (h.2.2.2.2.2.1 j hj).1)) (fun m1 h1 => ?_))
    obtain ⟨f1, z1, U, hU, -, u11⟩ := h1
    have hI1 := IN_c h (FCs_U f1 z1)
    unfold g62
    rw [dx_ldI hf (by omega), u11 f hf, dx_cl2]
    show ob (g125 (nI f) m1) _
    unfold g125
    rw [(reg_y hf).2.2, dx_cl2, e2, cond_true]
    refine ob_1 (ob_m (g123_r hI1.2.1 hI1.2.2.1 (fun j hj => (hI1.2.2.2.2.2.1 j hj).2)) (fun m2 h2 => ?_))
    obtain ⟨f2, x, U', hU', um⟩ := h2
    have hI2 := IN_r hI1 (FRs_W f2)
    refine ob_m (g18f_r hI2.2.1 hI2.2.2.1 um hf) (fun r hr => ?_)
    refine ⟨?_, N, P, R, IN_r hI2 (FRs_W hr.1)⟩
    rw [hr.2, FL_e (fun j hj => LU_uniq hU hU' hj), FL_e (fun j hj => LU_uniq hU hU' hj)]
  · refine OK_e (a := -101) (m := m) ?_ ?_ ⟨N, P, R, h⟩
    · unfold g79
      rw [(reg_n hx).2.1, dx_cl2, e4, cond_false]
    · unfold g125
      rw [(reg_n hx).2.2, dx_cl2, e4, cond_false]
end OP
