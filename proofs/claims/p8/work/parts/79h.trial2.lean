/-! trial of the reference -/
def FY (m m' : fm) : Prop := (∀ k, k < 52 → m'.1 k = m.1 k) ∧ (∀ k, k < 52 → m'.2 k = m.2 k) ∧ m'.1 58 = m.1 58 ∧ (∀ k, 66 ≤ k → m'.1 k = m.1 k) ∧ (∀ f, 20 ≤ f → m'.1 52 f = m.1 52 f)
theorem FY_r (m : fm) : FY m m := ⟨fun _ _ => rfl, fun _ _ => rfl, rfl, fun _ _ => rfl, fun _ _ => rfl⟩
theorem FY_t {m m' m'' : fm} (h1 : FY m m') (h2 : FY m' m'') : FY m m'' := ⟨fun k a => (h2.1 k a).trans (h1.1 k a), fun k a => (h2.2.1 k a).trans (h1.2.1 k a), h2.2.2.1.trans h1.2.2.1, fun k a => (h2.2.2.2.1 k a).trans (h1.2.2.2.1 k a), fun f a => (h2.2.2.2.2 f a).trans (h1.2.2.2.2 f a)⟩
theorem FY_W {m m' : fm} (h : FW m m') : FY m m' := ⟨fun k a => h.1 k (by omega) (by omega), fun k a => h.2.2 k (by omega) (by omega), h.1 58 (by omega) (by omega), fun k a => h.1 k (by omega) (by omega), fun f a => h.2.1 f (by omega) (by omega) (by omega) (by omega)⟩
theorem FY_B {o : Nat} {m m' : fm} (h : FB o m m') : FY m m' := ⟨fun k a => h.1 k (by omega) (by omega) (by omega) (by omega), fun k a => h.2.2.2.2 k (by omega) (by omega), h.1 58 (by omega) (by omega) (by omega) (by omega), fun k a => h.1 k (by omega) (by omega) (by omega) (by omega), fun f a => h.2.1 f (by omega) (by omega) (by omega)⟩
section T2
variable {m : fm} {N : Nat → Nat} {P : Nat → cod} {R U : Nat → Bool} {o n : Nat} {I : cod}
theorem RR_B {m' : fm} {o' : Nat} (h : RR m o n I) (hn : n ≤ 24) (hne : ¬ o = o') (hF : FB o' m m') : RR m' o n I := by
  refine ⟨h.1, by rw [hF.2.2.2.1 o hne]; exact h.2.1, fun p hp => ?_⟩
  rw [hF.2.2.1 53 (by omega) (by omega) _ (by omega), hF.2.2.1 54 (by omega) (by omega) _ (by omega), hF.2.2.1 55 (by omega) (by omega) _ (by omega), hF.2.2.1 56 (by omega) (by omega) _ (by omega)]
  exact h.2.2 p hp
theorem cp5 {i q : Nat} (h : ¬ i = q) (h384 : i < 384) (hq : q < 384) {β : Type} {f : fm → Option β} : (ldI m 53 384 (nI i) fun v14 => stI m 53 384 (nI q) v14 fun m15 => ldI m15 54 384 (nI i) fun v16 => stI m15 54 384 (nI q) v16 fun m17 => ldI m17 55 384 (nI i) fun v18 => stI m17 55 384 (nI q) v18 fun m19 => ldI m19 56 384 (nI i) fun v20 => stI m19 56 384 (nI q) v20 fun m21 => f m21) = f (wr5 m q (m.1 53 i) (m.1 54 i) (m.1 55 i) (m.1 56 i)) := by
  have h3 : 384 < 2147483648 := by omega
  rw [dx_ldI h384 h3, dx_stI hq h3, dx_ldI h384 h3, dx_stI hq h3, dx_ldI h384 h3, dx_stI hq h3, dx_ldI h384 h3, dx_stI hq h3]
  rw [fs1_k (by omega), fs1_k (by omega), fs1_k (by omega), fs1_k (by omega), fs1_k (by omega), fs1_k (by omega)]
  rfl
set_option maxHeartbeats 1000000 in
theorem g52_r {j nt : Nat} {x1 : Int32} (hj : j < 8) (hr : RR m j (N j) (P j)) (h57 : m.1 57 (8 + j) = nI nt) (hnt : nt ≤ N j) (hN : N j ≤ 24) (hw : WF nt (P j)) (hz : NZ nt (P j)) : ob (g133_52 x1 (nI j) (nI 0) m) (fun z => ∃ m', z = .inl (x1 + (nI (N j) - nI (Rf 49 (P j) nt).2), nI (j + 1), m') ∧ FB (8 + j) m m' ∧ RR m' (8 + j) (Rf 49 (P j) nt).2 (Rf 49 (P j) nt).1 ∧ WF (Rf 49 (P j) nt).2 (Rf 49 (P j) nt).1) := by
  unfold g133_52
  refine wl_c (f := fun s : Int32 × fm => s133_52 x1 (nI j) s.1 s.2) (fun i s => ∃ mi, s = (nI i, mi) ∧ (∀ k, k < 53 ∨ 56 < k → mi.1 k = m.1 k) ∧ mi.2 = m.2 ∧ (∀ k, 53 ≤ k → k ≤ 56 → ∀ q, q < 24 * (8 + j) ∨ 24 * (8 + j) + 24 ≤ q → mi.1 k q = m.1 k q) ∧ RC mi (8 + j) i (P j)) nt (by omega) (nI 0, m) ⟨m, rfl, fun _ _ => rfl, rfl, fun _ _ _ _ _ => rfl, fun p hp => absurd hp (by omega)⟩ (fun i s hi hss => ?_) (fun s hss => ?_)
  · obtain ⟨mi, rfl, hF, h2, ho, hc⟩ := hss
    show ob (s133_52 x1 (nI j) (nI i) mi) _
    unfold s133_52 g98
    rw [nI_add, dx_ldI (by omega) (by omega), hF 57 (by omega), h57, dx_ge (by omega) (by omega), decide_eq_false (by omega), cond_false, dx_cl2, dx_cl2, pk_mul, nI_add, pk_mul, nI_add, pk_mul, nI_add, pk_mul, nI_add, nI_add, show 24 * (8 * 0 + j) + i = 24 * j + i by omega, show 24 * (8 * 1 + j) + i = 24 * (8 + j) + i by omega, cp5 (by omega) (by omega) (by omega)]
    obtain ⟨r1, r2, r3, r4⟩ := hr.2.2 i (by omega)
    rw [ho 53 (by omega) (by omega) _ (by omega), ho 54 (by omega) (by omega) _ (by omega), ho 55 (by omega) (by omega) _ (by omega), ho 56 (by omega) (by omega) _ (by omega), r1, r2, r3, r4]
    refine ⟨wr5 mi (24 * (8 + j) + i) (nI (kd (P j) i)) (nI (ra (P j) i)) (rb (P j) i) (nI (rc (P j) i)), rfl, fun k hk => by rw [wr5_k (by omega)]; exact hF k hk, h2, fun k a b q hq => by rw [wr5_i a b (by omega)]; exact ho k a b q hq, fun p hp => ?_⟩
    by_cases e : p = i
    · subst e; exact wr5_s
    · rw [wr5_i (by omega) (by omega) (by omega), wr5_i (by omega) (by omega) (by omega), wr5_i (by omega) (by omega) (by omega), wr5_i (by omega) (by omega) (by omega)]
      exact hc p (by omega)
  · obtain ⟨mi, rfl, hF, h2, ho, hc⟩ := hss
    show ob (s133_52 x1 (nI j) (nI nt) mi) _
    unfold s133_52
    rw [nI_add, dx_ldI (by omega) (by omega), hF 57 (by omega), h57, dx_ge (by omega) (by omega), decide_eq_true (Nat.le_refl _), cond_true]
    have hrr : RR mi (8 + j) nt (P j) := ⟨by omega, by rw [hF 57 (by omega)]; exact h57, hc⟩
    have hFB : FB (8 + j) m mi := ⟨fun k _ h _ _ => hF k (by omega), fun f _ _ _ => by rw [hF 52 (by omega)], ho, fun i _ => by rw [hF 57 (by omega)], fun k _ _ => by rw [h2]⟩
    refine ob_mp ?_
    unfold g133_145
    have := Wz_2 (I := P j) nt
    have := hw.1
    exact ob_m (g145_r hj 49 (P j) nt mi lf hrr hw hz (by rw [hF 57 (by omega)]; exact hr.2.1) (by omega) (by rw [lf_eq]; omega)) (fun z hz => by
      obtain ⟨m', b1, b2, b3⟩ := hz
      exact ⟨m', b1, FB_t hFB b2, b3⟩)
def TQ (m : fm) (P : Nat → cod) (N : Nat → Nat) (U : Nat → Bool) (j : Nat) : Prop := RR m (8 + j) (RT P N U j).2 (RT P N U j).1 ∧ WF (RT P N U j).2 (RT P N U j).1
set_option maxHeartbeats 1000000 in
theorem g13t_r {x : Nat} (hR : ALLR m N P) (hW : ALLW N P) (hZ : ALLZ N P) (hu : UM m x U) : ob (g133_13 (nI 0) (nI 0) m) (fun r => r.1 = fwd P N U 8 ∧ FY m r.2 ∧ ALLR r.2 N P ∧ (∀ j, j < 8 → TQ r.2 P N U j) ∧ r.2.1 52 6 = m.1 52 6) := by
  unfold g133_13
  refine wl_c (f := fun s : Int32 × Int32 × fm => s133_13 s.1 s.2.1 s.2.2) (fun i s => ∃ mi, s = (fwd P N U i, nI i, mi) ∧ FY m mi ∧ ALLR mi N P ∧ UM mi x U ∧ (∀ j, j < i → TQ mi P N U j) ∧ mi.1 52 6 = m.1 52 6) 8 (by omega) (nI 0, nI 0, m) ⟨m, rfl, FY_r m, hR, hu, fun j hj => absurd hj (by omega), rfl⟩ (fun i s hi hss => ?_) (fun s hss => ?_)
  · obtain ⟨mi, rfl, hF, hRi, hui, hT, h6⟩ := hss
    show ob (s133_13 _ (nI i) mi) _
    have h57i := (hRi i hi).2.1
    have hwi := hW i hi
    have fin : ∀ nt : Nat, nt = (if U i = true then N i else 0) → ob (g133_52 (fwd P N U i) (nI i) (nI 0) (fs1 mi 57 (8 + i) (nI nt))) (Sum.elim (fun s => ∃ mi, s = (fwd P N U (i + 1), nI (i + 1), mi) ∧ FY m mi ∧ ALLR mi N P ∧ UM mi x U ∧ (∀ j, j < i + 1 → TQ mi P N U j) ∧ mi.1 52 6 = m.1 52 6) (fun r => r.1 = fwd P N U 8 ∧ FY m r.2 ∧ ALLR r.2 N P ∧ (∀ j, j < 8 → TQ r.2 P N U j) ∧ r.2.1 52 6 = m.1 52 6)) := by
      intro nt hnt
      have hf1 : FB (8 + i) mi (fs1 mi 57 (8 + i) (nI nt)) := ⟨fun k _ h _ _ => fs1_k (by omega), fun f _ _ _ => by rw [fs1_k (by omega)], fun k a b q _ => by rw [fs1_k (by omega)], fun q h => fs1_i h, fun _ _ _ => rfl⟩
      have hle : nt ≤ N i := by rw [hnt]; split <;> omega
      have hwn : WF nt (P i) := by rw [hnt]; exact WF_u hW hi
      have hzn : NZ nt (P i) := by rw [hnt]; exact NZ_u hZ hi
      refine ob_m (g52_r hi (RR_B (hRi i hi) hwi.1 (by omega) hf1) fs1_at hle hwi.1 hwn hzn) (fun z hz => ?_)
      obtain ⟨m', rfl, b2, b3, b4⟩ := hz
      have hFB := FB_t hf1 b2
      rw [hnt] at b3 b4 ⊢
      refine ⟨m', rfl, FY_t hF (FY_B hFB), fun j hj => RR_B (hRi j hj) (hW j hj).1 (by omega) hFB, ⟨by rw [hFB.2.1 15 (by omega) (by omega) (by omega)]; exact hui.1, hui.2⟩, fun j hj => ?_, by rw [hFB.2.1 6 (by omega) (by omega) (by omega)]; exact h6⟩
      by_cases e : j = i
      · subst e; exact ⟨b3, b4⟩
      · have ht := hT j (by omega)
        exact ⟨RR_B ht.1 ht.2.1 (by omega) hFB, ht.2⟩
    unfold s133_13
    rw [dx_ge (by omega) (by omega), decide_eq_false (by omega), cond_false, dx_gfI, hui.1, um_bit0 i hi x hui.2.1, hui.2.2 i hi, nI_add, dx_ne (by have := bt2 (U i); omega) (by omega), dx_stI (by omega) (by omega), dx_ldI (by omega) (by omega), dx_stI (by omega) (by omega), h57i]
    cases hbi : U i with
    | false =>
      rw [show decide (¬ (false.toNat = 1)) = true by decide, cond_true]
      exact fin 0 (by rw [hbi]; rfl)
    | true =>
      rw [show decide (¬ (true.toNat = 1)) = false by decide, cond_false]
      exact fin (N i) (by rw [hbi]; rfl)
  · obtain ⟨mi, rfl, hF, hRi, hui, hT, h6⟩ := hss
    show ob (s133_13 _ (nI 8) mi) _
    unfold s133_13
    rw [dx_ge (by omega) (by omega), decide_eq_true (by omega), cond_true]
    exact ⟨rfl, hF, hRi, hT, h6⟩
theorem g133_r (hR : ALLR m N P) (hW : ALLW N P) (hZ : ALLZ N P) (hr : ∀ j, j < 8 → m.1 58 j = bI (R j)) : ob (g133 m) (fun r => ∃ U, LU R P N U ∧ r.1 = fwd P N U 8 ∧ FY m r.2 ∧ ALLR r.2 N P ∧ (∀ j, j < 8 → TQ r.2 P N U j) ∧ r.2.1 52 6 = nI 1) := by
  unfold g133
  refine ob_1 (ob_m (g123_r hR hW hr) (fun m1 h1 => ?_))
  obtain ⟨f1, x, U, hU, hum⟩ := h1
  rw [dx_pfB (by omega)]
  have hR2 : ALLR (fs1 m1 52 6 (nI 1)) N P := fun j hj => RR_f (ALLR_f hR f1 j hj) (by rw [fs1_k (by omega)]) (fs1_k (by omega)) (fs1_k (by omega)) (fs1_k (by omega)) (fs1_k (by omega))
  have hum2 : UM (fs1 m1 52 6 (nI 1)) x U := ⟨by rw [fs1_i (by omega)]; exact hum.1, hum.2⟩
  have f2 : FY m1 (fs1 m1 52 6 (nI 1)) := ⟨fun k _ => fs1_k (by omega), fun _ _ => rfl, fs1_k (by omega), fun k _ => fs1_k (by omega), fun f hf => fs1_i (by omega)⟩
  exact ob_m (g13t_r hR2 hW hZ hum2) (fun r h => ⟨U, hU, h.1, FY_t (FY_W f1) (FY_t f2 h.2.1), h.2.2.1, h.2.2.2.1, by rw [h.2.2.2.2]; exact fs1_at⟩)
theorem RT_e {U U' : Nat → Bool} {j : Nat} (h : U j = U' j) : RT P N U j = RT P N U' j := by unfold RT; rw [h]
theorem fwd_e {U U' : Nat → Bool} : ∀ i, (∀ j, j < i → U j = U' j) → fwd P N U i = fwd P N U' i
  | 0, _ => rfl
  | i + 1, h => by
    show fwd P N U i + _ = fwd P N U' i + _
    rw [fwd_e i (fun j hj => h j (by omega)), RT_e (h i (by omega))]
end T2
