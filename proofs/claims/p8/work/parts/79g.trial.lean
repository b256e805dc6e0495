/-! trial -/
noncomputable def RT (P : Nat → cod) (N : Nat → Nat) (U : Nat → Bool) (j : Nat) : cod × Nat := Rf 49 (P j) (if U j = true then N j else 0)
noncomputable def fwd (P : Nat → cod) (N : Nat → Nat) (U : Nat → Bool) : Nat → Int32
  | 0 => nI 0
  | i + 1 => fwd P N U i + (nI (N i) - nI (RT P N U i).2)
theorem Rf_0 {I : cod} : Rf 49 I 0 = (I, 0) := by
  unfold Rf
  have e : isf I 0 = false := rfl
  rw [e, if_neg Bool.false_ne_true]
def ALLZ (N : Nat → Nat) (P : Nat → cod) : Prop := ∀ j, j < 8 → NZ (N j) (P j)
theorem WF_0 {I : cod} : WF 0 I := ⟨by omega, fun p hp => absurd hp (by omega)⟩
theorem NZ_0 {I : cod} : NZ 0 I := fun p hp => absurd hp (by omega)
section TR
variable {m : fm} {N : Nat → Nat} {P : Nat → cod} {R U : Nat → Bool}
theorem WF_u (hW : ALLW N P) {j : Nat} (hj : j < 8) : WF (if U j = true then N j else 0) (P j) := by
  split
  · exact hW j hj
  · exact WF_0
theorem NZ_u (hZ : ALLZ N P) {j : Nat} (hj : j < 8) : NZ (if U j = true then N j else 0) (P j) := by
  split
  · exact hZ j hj
  · exact NZ_0
theorem Rf_le {I : cod} (k : Nat) : ∀ (I : cod) (n : Nat), (Rf k I n).2 ≤ n := by
  induction k with
  | zero => intro I n; exact Nat.le_refl _
  | succ k ih =>
    intro I n
    unfold Rf
    split
    · exact Nat.le_trans (ih _ _) (sa_le n)
    · exact Nat.le_refl _
/-! the class -/
def TC (m : fm) (P : Nat → cod) (N : Nat → Nat) (U : Nat → Bool) (j : Nat) : Prop := ∃ J, CR m (22 + 4 * j) (RT P N U j).2 J ∧ TRL J (RT P N U j).1 (RT P N U j).2 ∧ WF (RT P N U j).2 J
def FX (m m' : fm) : Prop := (∀ k, 52 ≤ k → m'.1 k = m.1 k) ∧ (∀ k, 52 ≤ k → m'.2 k = m.2 k) ∧ m'.1 3 = m.1 3 ∧ (∀ k, 14 ≤ k → k ≤ 19 → m'.1 k = m.1 k)
theorem FX_r (m : fm) : FX m m := ⟨fun _ _ => rfl, fun _ _ => rfl, rfl, fun _ _ _ => rfl⟩
theorem FX_t {m m' m'' : fm} (h1 : FX m m') (h2 : FX m' m'') : FX m m'' := ⟨fun k a => (h2.1 k a).trans (h1.1 k a), fun k a => (h2.2.1 k a).trans (h1.2.1 k a), h2.2.2.1.trans h1.2.2.1, fun k a b => (h2.2.2.2 k a b).trans (h1.2.2.2 k a b)⟩
theorem FX_U {m m' : fm} (h : FU m m') : FX m m' := ⟨fun k a => h.1 k (by omega) (by omega) (by omega), fun k a => h.2 k (by omega) (by omega), h.1 3 (by omega) (by omega) (by omega), fun k a b => h.1 k (by omega) (by omega) (by omega)⟩
/-- only the Code c (at 22 or beyond) and scratch change -/
def FC (c : Nat) (m m' : fm) : Prop := (∀ k, k ≠ 6 → k ≠ 13 → k ≠ c → k ≠ c + 1 → m'.1 k = m.1 k) ∧ (∀ k, k ≠ 5 → k ≠ 7 → m'.2 k = m.2 k)
theorem FC_X {c : Nat} {m m' : fm} (hc : 20 ≤ c) (hc2 : c ≤ 50) (h : FC c m m') : FX m m' := ⟨fun k a => h.1 k (by omega) (by omega) (by omega) (by omega), fun k a => h.2 k (by omega) (by omega), h.1 3 (by omega) (by omega) (by omega) (by omega), fun k a b => h.1 k (by omega) (by omega) (by omega) (by omega)⟩
theorem FC_t {c : Nat} {m m' m'' : fm} (h1 : FC c m m') (h2 : FC c m' m'') : FC c m m'' := FS_t h1 h2
theorem g9_s {c c' n : Nat} {I : cod} (hne : ¬ c' = c) (hne2 : ¬ c' = c + 1) (hne3 : ¬ c' + 1 = c) (hc : CR m c' n I) (hn : n ≤ 24) : ob (g9 c c' m) (fun m' => FC c m m' ∧ m'.2 = m.2 ∧ CR m' c n I) := by
  unfold g9 cpI cpok
  have e2 : decide (nI 0 < 0) = false := by decide +kernel
  have e3 : decide (nI 96 < 0) = false := by decide +kernel
  rw [dx_cl (show 0 < 2147483648 by omega), dx_cl (show 96 < 2147483648 by omega), e2, e3, Nat.ble_eq_true_of_le (show 0 + 96 ≤ 96 by omega)]
  show ob (some (fs1 (cpy1 m (c' + 1) 0 (c + 1) 0 96) c 1 ((cpy1 m (c' + 1) 0 (c + 1) 0 96).1 c' 1))) _
  have ek : ∀ k, ¬ k = c + 1 → (cpy1 m (c' + 1) 0 (c + 1) 0 96).1 k = m.1 k := fun k hk => funext fun b => if_neg (fun z => hk z.1)
  have ec : ∀ b, b < 96 → (cpy1 m (c' + 1) 0 (c + 1) 0 96).1 (c + 1) b = m.1 (c' + 1) b := fun b hb => by
    show (if c + 1 = c + 1 ∧ 0 ≤ b ∧ b < 0 + 96 then m.1 (c' + 1) (0 + (b - 0)) else _) = _
    rw [if_pos ⟨rfl, by omega, by omega⟩, show 0 + (b - 0) = b by omega]
  refine ⟨⟨fun k _ _ h3 h4 => by rw [fs1_k h3, ek k h4], fun _ _ _ => rfl⟩, rfl, by rw [fs1_at, ek c' hne2]; exact hc.1, fun p hp => ?_⟩
  rw [fs1_k (by omega), ec _ (by omega), ec _ (by omega), ec _ (by omega), ec _ (by omega)]
  exact hc.2 p hp
theorem g7_s {c n : Nat} {I : cod} (hc : CR m c n I) : g7 c m = some (nI n, fs1 m c 1 (nI 0)) := by
  unfold g7 g8
  rw [dx_gfI, dx_pfI, dx_cl2, hc.1]
theorem TC_f {m' : fm} {j : Nat} (h : TC m P N U j) (h1 : m'.1 (22 + 4 * j) = m.1 (22 + 4 * j)) (h2 : m'.1 (22 + 4 * j + 1) = m.1 (22 + 4 * j + 1)) : TC m' P N U j := by
  obtain ⟨J, a, b⟩ := h
  exact ⟨J, CR_f a h1 h2, b⟩
set_option maxHeartbeats 1000000 in
theorem g71_23_s (hC : ALLC m N P) (hW : ALLW N P) (hZ : ALLZ N P) (hz : hz5 m) (hU : ∀ j, j < 8 → m.1 9 j = bI (U j)) : ob (g71_23 (nI 0) (nI 0) m) (fun r => r.1 = fwd P N U 8 ∧ FX m r.2 ∧ hz5 r.2 ∧ ALLC r.2 N P ∧ (∀ j, j < 8 → TC r.2 P N U j) ∧ r.2.1 0 7 = nI 1) := by
  unfold g71_23
  refine wl_c (f := fun s : Int32 × Int32 × fm => s71_23 s.1 s.2.1 s.2.2) (fun i s => ∃ mi, s = (fwd P N U i, nI i, mi) ∧ FX m mi ∧ hz5 mi ∧ ALLC mi N P ∧ (∀ j, j < 8 → mi.1 9 j = bI (U j)) ∧ (∀ j, j < i → TC mi P N U j)) 8 (by omega) (nI 0, nI 0, m) ⟨m, rfl, FX_r m, hz, hC, hU, fun j hj => absurd hj (by omega)⟩ (fun i s hi hss => ?_) (fun s hss => ?_)
  · obtain ⟨mi, rfl, hF, hzi, hCi, hUi, hT⟩ := hss
    show ob (s71_23 _ (nI i) mi) _
    unfold s71_23
    rw [dx_ge (by omega) (by omega), decide_eq_false (by omega), cond_false, dx_ldA hi]
    have e7 : g7 (22 + 4 * i) mi = some (mi.1 (22 + 4 * i) 1, fs1 mi (22 + 4 * i) 1 (nI 0)) := by
      unfold g7 g8
      rw [dx_gfI, dx_pfI, dx_cl2]
    rw [e7, dx_cl2]
    have f1 : FC (22 + 4 * i) mi (fs1 mi (22 + 4 * i) 1 (nI 0)) := ⟨fun k _ _ h _ => fs1_k h, fun _ _ _ => rfl⟩
    have C1 : ALLC (fs1 mi (22 + 4 * i) 1 (nI 0)) N P := fun j hj => CR_f (hCi j hj) (fs1_k (by omega)) (fs1_k (by omega))
    have fin : ∀ m6 : fm, FC (22 + 4 * i) mi m6 → hz5 m6 → TC m6 P N U i → ob (g71_82 (fwd P N U i) (nI i) m6) (Sum.elim (fun s => ∃ mi, s = (fwd P N U (i + 1), nI (i + 1), mi) ∧ FX m mi ∧ hz5 mi ∧ ALLC mi N P ∧ (∀ j, j < 8 → mi.1 9 j = bI (U j)) ∧ (∀ j, j < i + 1 → TC mi P N U j)) (fun r => r.1 = fwd P N U 8 ∧ FX m r.2 ∧ hz5 r.2 ∧ ALLC r.2 N P ∧ (∀ j, j < 8 → TC r.2 P N U j) ∧ r.2.1 0 7 = nI 1)) := by
      intro m6 f6 z6 t6
      have C6 : ALLC m6 N P := fun j hj => CR_f (hCi j hj) (f6.1 _ (by omega) (by omega) (by omega) (by omega)) (f6.1 _ (by omega) (by omega) (by omega) (by omega))
      obtain ⟨J, c6, t6', w6⟩ := id t6
      unfold g71_82
      rw [dx_ldA hi, g1_s (C6 i hi), dx_cl2, dx_ldA hi, g1_s c6, dx_cl2, nI_add]
      refine ⟨m6, rfl, FX_t hF (FC_X (by omega) (by omega) f6), z6, C6, fun j hj => by rw [f6.1 9 (by omega) (by omega) (by omega) (by omega)]; exact hUi j hj, fun j hj => ?_⟩
      by_cases e : j = i
      · subst e; exact t6
      · exact TC_f (hT j (by omega)) (f6.1 _ (by omega) (by omega) (by omega) (by omega)) (f6.1 _ (by omega) (by omega) (by omega) (by omega))
    unfold g61
    rw [dx_ldI hi (by omega), fs1_k (by omega), hUi i hi, show rtB (bI (U i)) = rtB (nI (U i).toNat) from rfl, dx_rtB (bt2 _), dx_cl2, bI_eq]
    cases hu : U i with
    | false =>
      rw [Bool.not_false, cond_true]
      refine fin _ f1 hzi ?_
      refine ⟨P i, ?_⟩
      unfold RT
      rw [hu, if_neg Bool.false_ne_true, Rf_0]
      exact ⟨⟨fs1_at, fun p hp => absurd hp (Nat.not_lt_zero _)⟩, fun p hp => absurd hp (Nat.not_lt_zero _), WF_0⟩
    | true =>
      rw [Bool.not_true, cond_false, dx_ldA hi, dx_ldA hi]
      refine ob_1 (ob_m (g9_s (c := 22 + 4 * i) (by omega) (by omega) (by omega) (C1 i hi) (hW i hi).1) (fun m4 h4 => ?_))
      obtain ⟨f4, e4, c4⟩ := h4
      rw [dx_ldA hi]
      refine ob_1 (ob_m (g55_s c4 (hW i hi) (hZ i hi) (by omega) (fun q hq => by rw [e4]; exact hzi q hq)) (fun m6 h6 => ?_))
      obtain ⟨f6, z6, J, c6, t6, w6⟩ := h6
      refine fin m6 (FC_t f1 (FC_t f4 f6)) z6 ⟨J, ?_⟩
      unfold RT
      rw [hu, if_pos rfl]
      exact ⟨c6, t6, w6⟩
  · obtain ⟨mi, rfl, hF, hzi, hCi, hUi, hT⟩ := hss
    show ob (s71_23 _ (nI 8) mi) _
    unfold s71_23
    rw [dx_ge (by omega) (by omega), decide_eq_true (by omega), cond_true, dx_pfB (by omega)]
    refine ⟨rfl, FX_t hF ⟨fun k hk => fs1_k (by omega), fun _ _ => rfl, fs1_k (by omega), fun k _ _ => fs1_k (by omega)⟩, hzi, fun j hj => CR_f (hCi j hj) (fs1_k (by omega)) (fs1_k (by omega)), fun j hj => TC_f (hT j hj) (fs1_k (by omega)) (fs1_k (by omega)), fs1_at⟩
theorem g71_s (hC : ALLC m N P) (hW : ALLW N P) (hZ : ALLZ N P) (hz : hz5 m) (hR : ∀ j, j < 8 → m.1 3 j = bI (R j)) : ob (g71 m) (fun r => ∃ U, LU R P N U ∧ r.1 = fwd P N U 8 ∧ FX m r.2 ∧ hz5 r.2 ∧ ALLC r.2 N P ∧ (∀ j, j < 8 → TC r.2 P N U j) ∧ r.2.1 0 7 = nI 1) := by
  unfold g71
  refine ob_1 (ob_m (g63_s hC hW hz hR) (fun m1 h1 => ?_))
  obtain ⟨f1, z1, U, hU, h9, -⟩ := h1
  exact ob_m (g71_23_s (ALLC_f hC f1) hW hZ z1 h9) (fun r h => ⟨U, hU, h.1, FX_t (FX_U f1) h.2.1, h.2.2⟩)
end TR
