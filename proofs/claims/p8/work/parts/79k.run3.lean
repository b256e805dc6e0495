section R3
variable {b w : Nat} {nn : Nat → Nat} {Jc Jr : Nat → cod} {mc mr : fm} {M : Nat → Nat} {q pc pr t s j p : Nat} {e : Int32}
/-- it goes on at the next place, register a set or not -/
theorem nx_g (hO : SO mc mr t s (-1)) (hF : SF nn Jr mc mr q M p p) (hp : p + 1 ≤ 24) {a : Nat} (ha : a < 4) {x : Int32} : ST nn Jr mc mr (fs1 (fs1 mc 17 (4 * q + a) x) 18 q (nI (p + 1))) (fs1 (fs1 mr 69 q (nI (p + 1))) 71 (4 * q + a) x) (t - 1) q ∨ t = 0 := by
  by_cases h0 : t = 0
  · exact Or.inr h0
  · refine Or.inl ⟨FRc_t (FRc_s (by omega) (by omega)) (FRc_s (by omega) (by omega)), FRr_t (FRr_s (by omega) (by omega)) (FRr_s (by omega) (by omega)), t, s, -1, ?_, Or.inr ⟨rfl, q, M, p + 1, p + 1, ?_, ?_⟩⟩
    · exact SO_k hO ⟨by rw [fs1_k (by omega), fs1_k (by omega)], by rw [fs1_k (by omega), fs1_k (by omega)], by rw [fs1_k (by omega), fs1_k (by omega)], by rw [fs1_k (by omega), fs1_k (by omega)]⟩ (by rw [fs1_k (by omega), fs1_k (by omega)]) (by rw [fs1_k (by omega), fs1_k (by omega)]) ⟨by rw [fs1_k (by omega), fs1_k (by omega)], by rw [fs1_k (by omega), fs1_k (by omega)], by rw [fs1_k (by omega), fs1_k (by omega)], by rw [fs1_k (by omega), fs1_k (by omega)]⟩ (by rw [fs1_k (by omega), fs1_k (by omega)]) (by rw [fs1_k (by omega), fs1_k (by omega)])
    · rw [fs1_cm (k := 69) (by omega)]
      exact SF_p (SF_g hF ha) hp hp (Or.inl rfl)
    · have := hO.2.2.1; omega
theorem nx_p (hO : SO mc mr t s (-1)) (hF : SF nn Jr mc mr q M p p) {pc' pr' : Nat} (h1 : pc' ≤ 24) (h2 : pr' ≤ 24) (hr : pc' = pr' ∨ (nn (M q) ≤ pc' ∧ nn (M q) ≤ pr')) (h0 : ¬ t = 0) {y : Int32} : ST nn Jr mc mr (fs1 mc 18 q (nI pc')) (fs1 (fs1 mr 69 q y) 69 q (nI pr')) (t - 1) q := by
  rw [fs1_2]
  refine ⟨FRc_s (by omega) (by omega), FRr_s (by omega) (by omega), t, s, -1, ?_, Or.inr ⟨rfl, q, M, pc', pr', SF_p hF h1 h2 hr, ?_⟩⟩
  · exact SO_k hO ⟨by rw [fs1_k (by omega)], by rw [fs1_k (by omega)], by rw [fs1_k (by omega)], by rw [fs1_k (by omega)]⟩ (by rw [fs1_k (by omega)]) (by rw [fs1_k (by omega)]) ⟨by rw [fs1_k (by omega)], by rw [fs1_k (by omega)], by rw [fs1_k (by omega)], by rw [fs1_k (by omega)]⟩ (by rw [fs1_k (by omega)]) (by rw [fs1_k (by omega)])
  · have := hO.2.2.1; omega
theorem en_s (hO : SO mc mr t s (-1)) {y : Int32} {k : Nat} (hk : k < 5) : ST nn Jr mc mr (fs1 mc 14 9 (nI k)) (fs1 (fs1 mr 69 q y) 52 24 (nI k)) (t - 1) q := by
  refine ⟨FRc_s (by omega) (by omega), FRr_t (FRr_s (by omega) (by omega)) (FRr_52 (by omega)), t, s, nI k, ?_, Or.inl ⟨k, hk, rfl⟩⟩
  rw [fs1_cm (by omega)]
  exact SO_k (SO_e hO) ⟨rfl, rfl, rfl, rfl⟩ rfl rfl ⟨by rw [fs1_k (by omega)], by rw [fs1_k (by omega)], by rw [fs1_k (by omega)], by rw [fs1_k (by omega)]⟩ (fs1_k (by omega)) (fs1_k (by omega))
theorem dv_nz {β : Type} {x y : Int32} {f : Int32 → Option β} (h : ¬ y = 0) : dvI x y f = f (x / y) := if_neg h
/-- four registers in a row -/
def r4 (m : fm) (k B : Nat) (x0 x1 x2 x3 : Int32) : fm := fs1 (fs1 (fs1 (fs1 m k B x0) k (B + 1) x1) k (B + 2) x2) k (B + 3) x3
theorem r4_k {m : fm} {k B k' : Nat} {x0 x1 x2 x3 : Int32} (h : ¬ k' = k) : (r4 m k B x0 x1 x2 x3).1 k' = m.1 k' := by
  unfold r4
  rw [fs1_k h, fs1_k h, fs1_k h, fs1_k h]
theorem r4_n {m : fm} {k B i : Nat} {x0 x1 x2 x3 : Int32} (h : i < B ∨ B + 3 < i) : (r4 m k B x0 x1 x2 x3).1 k i = m.1 k i := by
  unfold r4
  rw [fs1_i (by omega), fs1_i (by omega), fs1_i (by omega), fs1_i (by omega)]
theorem r4_s {m : fm} {k B r : Nat} {x0 x1 x2 x3 : Int32} (h : r < 4) : (r4 m k B x0 x1 x2 x3).1 k (B + r) = if r = 0 then x0 else if r = 1 then x1 else if r = 2 then x2 else x3 := by
  unfold r4
  have e : r = 0 ∨ r = 1 ∨ r = 2 ∨ r = 3 := by omega
  rcases e with rfl | rfl | rfl | rfl
  · rw [fs1_i (by omega), fs1_i (by omega), fs1_i (by omega)]; exact fs1_at
  · rw [fs1_i (by omega), fs1_i (by omega)]; exact fs1_at
  · rw [fs1_i (by omega)]; exact fs1_at
  · exact fs1_at
theorem cl_s (hO : SO mc mr t s (-1)) (hF : SF nn Jr mc mr q M p p) (h0 : ¬ t = 0) (hj : M q = j) (hp : p < nn j) (h9 : kd (Jr j) p = 9) {z : Nat} (ha : ra (Jr j) p < 4) (hz : z < 8) (h8 : ¬ q + 1 = 8) {x0 x1 : Int32} {mc' mr' : fm} (ec : mc' = fs1 (fs1 (fs1 (r4 mc 17 ((q + 1) * 4) x0 x1 (nI 0) (nI 0)) 18 (q + 1) (nI 0)) 19 (q + 1) (nI z)) 14 5 (nI (q + 1 + 1))) (er : mr' = fs1 (r4 (fs1 (fs1 (fs1 (fs1 mr 69 q (nI (p + 1))) 68 (q + 1) (nI z)) 69 (q + 1) (nI 0)) 70 (q + 1) (nI (ra (Jr j) p))) 71 (4 * (q + 1)) x0 x1 (nI 0) (nI 0)) 52 23 (nI (q + 1 + 1))) : ST nn Jr mc mr mc' mr' (t - 1) q := by
  have ht2 := hO.2.2.1
  obtain ⟨a1, a2, a3, a4, a5, a6, a7, a8, a9, a10, a11⟩ := hF
  have frr4c : ∀ (m : fm) (B : Nat) (y0 y1 y2 y3 : Int32), FRc m (r4 m 17 B y0 y1 y2 y3) := fun m B y0 y1 y2 y3 => FRc_t (FRc_s (by omega) (by omega)) (FRc_t (FRc_s (by omega) (by omega)) (FRc_t (FRc_s (by omega) (by omega)) (FRc_s (by omega) (by omega))))
  have frr4r : ∀ (m : fm) (B : Nat) (y0 y1 y2 y3 : Int32), FRr m (r4 m 71 B y0 y1 y2 y3) := fun m B y0 y1 y2 y3 => FRr_t (FRr_s (by omega) (by omega)) (FRr_t (FRr_s (by omega) (by omega)) (FRr_t (FRr_s (by omega) (by omega)) (FRr_s (by omega) (by omega))))
  have k14 : ∀ i, ¬ i = 5 → mc'.1 14 i = mc.1 14 i := fun i hi => by rw [ec, fs1_i hi, fs1_k (by omega), fs1_k (by omega), r4_k (by omega)]
  have k15 : ∀ k, k < 14 ∨ k = 15 ∨ k = 16 ∨ 19 < k → mc'.1 k = mc.1 k := fun k hk => by rw [ec, fs1_k (by omega), fs1_k (by omega), fs1_k (by omega), r4_k (by omega)]
  have k17 : mc'.1 17 = (r4 mc 17 ((q + 1) * 4) x0 x1 (nI 0) (nI 0)).1 17 := by rw [ec, fs1_k (by omega), fs1_k (by omega), fs1_k (by omega)]
  have k18 : ∀ i, ¬ i = q + 1 → mc'.1 18 i = mc.1 18 i := fun i hi => by rw [ec, fs1_k (by omega), fs1_k (by omega), fs1_i hi, r4_k (by omega)]
  have k18s : mc'.1 18 (q + 1) = nI 0 := by rw [ec, fs1_k (by omega), fs1_k (by omega), fs1_at]
  have k19 : ∀ i, ¬ i = q + 1 → mc'.1 19 i = mc.1 19 i := fun i hi => by rw [ec, fs1_k (by omega), fs1_i hi, fs1_k (by omega), r4_k (by omega)]
  have k19s : mc'.1 19 (q + 1) = nI z := by rw [ec, fs1_k (by omega), fs1_at]
  have n52 : ∀ i, ¬ i = 23 → mr'.1 52 i = mr.1 52 i := fun i hi => by rw [er, fs1_i hi, r4_k (by omega), fs1_k (by omega), fs1_k (by omega), fs1_k (by omega), fs1_k (by omega)]
  have n66 : ∀ k, k = 66 ∨ k = 67 → mr'.1 k = mr.1 k := fun k hk => by rw [er, fs1_k (by omega), r4_k (by omega), fs1_k (by omega), fs1_k (by omega), fs1_k (by omega), fs1_k (by omega)]
  have n68 : ∀ i, ¬ i = q + 1 → mr'.1 68 i = mr.1 68 i := fun i hi => by rw [er, fs1_k (by omega), r4_k (by omega), fs1_k (by omega), fs1_k (by omega), fs1_i hi, fs1_k (by omega)]
  have n68s : mr'.1 68 (q + 1) = nI z := by rw [er, fs1_k (by omega), r4_k (by omega), fs1_k (by omega), fs1_k (by omega), fs1_at]
  have n69 : ∀ i, ¬ i = q + 1 → ¬ i = q → mr'.1 69 i = mr.1 69 i := fun i hi hi2 => by rw [er, fs1_k (by omega), r4_k (by omega), fs1_k (by omega), fs1_i hi, fs1_k (by omega), fs1_i hi2]
  have n69q : mr'.1 69 q = nI (p + 1) := by rw [er, fs1_k (by omega), r4_k (by omega), fs1_k (by omega), fs1_i (by omega), fs1_k (by omega), fs1_at]
  have n69s : mr'.1 69 (q + 1) = nI 0 := by rw [er, fs1_k (by omega), r4_k (by omega), fs1_k (by omega), fs1_at]
  have n70 : ∀ i, ¬ i = q + 1 → mr'.1 70 i = mr.1 70 i := fun i hi => by rw [er, fs1_k (by omega), r4_k (by omega), fs1_i hi, fs1_k (by omega), fs1_k (by omega), fs1_k (by omega)]
  have n70s : mr'.1 70 (q + 1) = nI (ra (Jr j) p) := by rw [er, fs1_k (by omega), r4_k (by omega), fs1_at]
  have n71 : mr'.1 71 = (r4 (fs1 (fs1 (fs1 (fs1 mr 69 q (nI (p + 1))) 68 (q + 1) (nI z)) 69 (q + 1) (nI 0)) 70 (q + 1) (nI (ra (Jr j) p))) 71 (4 * (q + 1)) x0 x1 (nI 0) (nI 0)).1 71 := by rw [er, fs1_k (by omega)]
  refine ⟨by rw [ec]; exact FRc_t (frr4c _ _ _ _ _ _) (FRc_t (FRc_s (by omega) (by omega)) (FRc_t (FRc_s (by omega) (by omega)) (FRc_s (by omega) (by omega)))), by rw [er]; exact FRr_t (FRr_s (by omega) (by omega)) (FRr_t (FRr_s (by omega) (by omega)) (FRr_t (FRr_s (by omega) (by omega)) (FRr_t (FRr_s (by omega) (by omega)) (FRr_t (frr4r _ _ _ _ _ _) (FRr_52 (by omega)))))), t, s, -1, ?_, Or.inr ⟨rfl, q + 1, upN M (q + 1) z, 0, 0, ?_, by omega⟩⟩
  · exact SO_k hO ⟨k14 6 (by omega), k14 7 (by omega), k14 8 (by omega), k14 9 (by omega)⟩ (k15 15 (by omega)) (k15 16 (by omega)) ⟨n52 20 (by omega), n52 21 (by omega), n52 22 (by omega), n52 24 (by omega)⟩ (n66 66 (by omega)) (n66 67 (by omega))
  · refine ⟨by rw [ec]; exact fs1_at, by rw [er]; exact fs1_at, by omega, fun i hi => ?_, fun i hi r hr => ?_, by omega, by omega, k18s, n69s, Or.inl rfl, fun i hi => ?_⟩
    · by_cases e : i = q + 1
      · subst e
        rw [upN_s, k19s, n68s]
        exact ⟨hz, rfl, rfl⟩
      · rw [upN_n e, k19 i e, n68 i e]
        exact a4 i (by omega)
    · rw [k17, n71]
      by_cases e : i = q + 1
      · subst e
        rw [show (q + 1) * 4 = 4 * (q + 1) by omega, r4_s hr, r4_s hr]
      · rw [r4_n (by omega), r4_n (by omega), fs1_k (by omega), fs1_k (by omega), fs1_k (by omega), fs1_k (by omega)]
        exact a5 i (by omega) r hr
    · rw [upN_n (by omega), k18 i (by omega)]
      by_cases e : i = q
      · subst e
        rw [n69q, n70s, hj]
        exact ⟨p, hp, h9, a8, rfl, rfl⟩
      · rw [n69 i (by omega) e, n70 (i + 1) (by omega)]
        exact a11 i (by omega)
set_option maxHeartbeats 4000000 in
theorem ks_s (hb : 20 ≤ b) (hw2 : w < 2) (H : HC b w nn Jc Jr mc mr) (hO : SO mc mr t s (-1)) (h0 : ¬ t = 0) (hF : SF nn Jr mc mr q M p p) (hj : M q = j) (hp : p < nn j) (hst : s < t) : ob (g46 b (b + 4 * j) (nI p) mc) (fun mc' => ob (g136 (nI (24 * (8 * w + j) + p)) mr) (fun mr' => ST nn Jr mc mr mc' mr' (t - 1) q)) := by
  obtain ⟨a1, a2, a3, a4, a5, a6, a7, a8, a9, a10, a11⟩ := id hF
  have hj8 : j < 8 := by rw [← hj]; exact (a4 q (Nat.le_refl q)).1
  obtain ⟨Cj, Rj, Wc, Wr, Lj⟩ := H j hj8
  have hn := Wc.1
  obtain ⟨l1, l2, l3, l4, l5, l6⟩ := Lj p hp
  have hk := WF_k Wr hp
  have htr := WF_t Wr hp
  have htc := WF_t Wc hp
  have hi := ix_o Rj.1 (show p < 24 by omega)
  obtain ⟨ek, ea, eb, ec⟩ := Rj.2.2 p hp
  have h3 : 384 < 2147483648 := by omega
  have hreg : ∀ r, r < 4 → ∀ {β : Type} (f : Int32 → Option β), ldI (fs1 mr 69 q (nI (p + 1))) 71 36 (nI 4 * nI q + nI r) f = f (mc.1 17 (4 * q + r)) := fun r hr β f => by
    rw [pk_mul, nI_add, dx_ldI (by omega) (by omega), fs1_k (by omega), a5 q (Nat.le_refl q) r hr]
  have hset : ∀ r, r < 4 → ∀ {β : Type} (x : Int32) (f : fm → Option β), stI (fs1 mr 69 q (nI (p + 1))) 71 36 (nI 4 * nI q + nI r) x f = f (fs1 (fs1 mr 69 q (nI (p + 1))) 71 (4 * q + r) x) := fun r hr β x f => by
    rw [pk_mul, nI_add, dx_stI (by omega) (by omega)]
  have nxg : ∀ a, a < 4 → ∀ x : Int32, ST nn Jr mc mr (fs1 (fs1 mc 17 (4 * q + a) x) 18 q (nI (p + 1))) (fs1 (fs1 mr 69 q (nI (p + 1))) 71 (4 * q + a) x) (t - 1) q := fun a ha x => (nx_g hO hF (by omega) ha).resolve_right h0
  have nxt : ST nn Jr mc mr (fs1 mc 18 q (nI (p + 1))) (fs1 mr 69 q (nI (p + 1))) (t - 1) q := by
    have := nx_p (pc' := p + 1) (pr' := p + 1) hO hF (by omega) (by omega) (Or.inl rfl) h0 (y := nI (p + 1))
    rw [fs1_2] at this
    exact this
  have gget : ∀ r, r < 4 → g50 (nI r) mc = some (mc.1 17 (4 * q + r), mc) := fun r hr => g50_e a1 a3 hr
  have gset : ∀ r, r < 4 → ∀ x, g52 (nI r) x mc = some (fs1 (fs1 mc 17 (4 * q + r) x) 18 q (nI (p + 1))) := fun r hr x => g52_e a1 a3 a8 hr
  have gnx : g53 mc = some (fs1 mc 18 q (nI (p + 1))) := g53_e a1 a3 a8
  unfold g46 g46_122
  simp only [g4_0 Cj hn hp, g4_1 Cj hn hp, g4_2 Cj hn hp, g4_3 Cj hn hp, dx_cl2, l1, l2]
  rcases k13 hk with h | h | h | h | h | h | h | h | h | h | h | h | h
  case inl =>
    have ha := WF_a Wr hp (by omega)
    rw [l3 (by omega), h]
    simp (disch := decide) only [dx_de, decide_false, decide_true, cond_false, cond_true, Nat.reduceEqDiff]
    rw [gset _ ha, dx_cl1]
    show ob (g136 (nI (24 * (8 * w + j) + p)) mr) _
    unfold g136
    rw [dx_gfI, dx_ldI hi h3, ea, dx_ldI hi h3, eb, dx_ldI hi h3, ec, a2, dx_sub (by omega), show q + 1 - 1 = q by omega, dx_ldI (by omega) (by omega), a9, dx_stI (by omega) (by omega), nI_add, dx_ldI hi h3, fs1_k (by omega), ek, h]
    simp (disch := decide) only [dx_de, decide_false, decide_true, cond_false, cond_true, Nat.reduceEqDiff]
    rw [hset _ ha]
    exact nxg _ ha _
  case inr.inl =>
    have ha := WF_a Wr hp (by omega)
    have hbb := WF_b Wr hp (by omega)
    rw [l3 (by omega), h]
    simp (disch := decide) only [dx_de, decide_false, decide_true, cond_false, cond_true, Nat.reduceEqDiff]
    rw [hbb.1, gget _ hbb.2, dx_cl2, gset _ ha, dx_cl1]
    show ob (g136 (nI (24 * (8 * w + j) + p)) mr) _
    unfold g136
    rw [dx_gfI, dx_ldI hi h3, ea, dx_ldI hi h3, eb, dx_ldI hi h3, ec, a2, dx_sub (by omega), show q + 1 - 1 = q by omega, dx_ldI (by omega) (by omega), a9, dx_stI (by omega) (by omega), nI_add, dx_ldI hi h3, fs1_k (by omega), ek, h]
    simp (disch := decide) only [dx_de, decide_false, decide_true, cond_false, cond_true, Nat.reduceEqDiff]
    rw [hbb.1, hreg _ hbb.2, hset _ ha]
    exact nxg _ ha _
  case inr.inr.inl =>
    have ha := WF_a Wr hp (by omega)
    have hbb := WF_b Wr hp (by omega)
    have hcc := WF_c Wr hp (by omega)
    rw [l3 (by omega), l4 (by omega), h]
    simp (disch := decide) only [dx_de, decide_false, decide_true, cond_false, cond_true, Nat.reduceEqDiff]
    rw [hbb.1, gget _ hbb.2, dx_cl2, gget _ hcc, dx_cl2, g93_s (by omega), dx_cl2, gset _ ha, dx_cl1]
    show ob (g136 (nI (24 * (8 * w + j) + p)) mr) _
    unfold g136
    rw [dx_gfI, dx_ldI hi h3, ea, dx_ldI hi h3, eb, dx_ldI hi h3, ec, a2, dx_sub (by omega), show q + 1 - 1 = q by omega, dx_ldI (by omega) (by omega), a9, dx_stI (by omega) (by omega), nI_add, dx_ldI hi h3, fs1_k (by omega), ek, h]
    simp (disch := decide) only [dx_de, decide_false, decide_true, cond_false, cond_true, Nat.reduceEqDiff]
    rw [hbb.1, hreg _ hbb.2, hreg _ hcc, hset _ ha]
    exact nxg _ ha _
  case inr.inr.inr.inl =>
    have ha := WF_a Wr hp (by omega)
    have hbb := WF_b Wr hp (by omega)
    have hcc := WF_c Wr hp (by omega)
    rw [l3 (by omega), l4 (by omega), h]
    simp (disch := decide) only [dx_de, decide_false, decide_true, cond_false, cond_true, Nat.reduceEqDiff]
    rw [hbb.1, gget _ hbb.2, dx_cl2, gget _ hcc, dx_cl2, g93_s (by omega), dx_cl2, gset _ ha, dx_cl1]
    show ob (g136 (nI (24 * (8 * w + j) + p)) mr) _
    unfold g136
    rw [dx_gfI, dx_ldI hi h3, ea, dx_ldI hi h3, eb, dx_ldI hi h3, ec, a2, dx_sub (by omega), show q + 1 - 1 = q by omega, dx_ldI (by omega) (by omega), a9, dx_stI (by omega) (by omega), nI_add, dx_ldI hi h3, fs1_k (by omega), ek, h]
    simp (disch := decide) only [dx_de, decide_false, decide_true, cond_false, cond_true, Nat.reduceEqDiff]
    rw [hbb.1, hreg _ hbb.2, hreg _ hcc, hset _ ha]
    exact nxg _ ha _
  case inr.inr.inr.inr.inl =>
    have ha := WF_a Wr hp (by omega)
    have hbb := WF_b Wr hp (by omega)
    have hcc := WF_c Wr hp (by omega)
    rw [l3 (by omega), l4 (by omega), h]
    simp (disch := decide) only [dx_de, decide_false, decide_true, cond_false, cond_true, Nat.reduceEqDiff]
    rw [hbb.1, gget _ hbb.2, dx_cl2, gget _ hcc, dx_cl2]
    unfold g47
    rw [dx_cne]
    by_cases hz : mc.1 17 (4 * q + rc (Jr j) p) = 0
    · rw [decide_eq_false (fun z => z hz), cond_false, dx_pfI, dx_cl1]
      show ob (g136 (nI (24 * (8 * w + j) + p)) mr) _
      unfold g136
      rw [dx_gfI, dx_ldI hi h3, ea, dx_ldI hi h3, eb, dx_ldI hi h3, ec, a2, dx_sub (by omega), show q + 1 - 1 = q by omega, dx_ldI (by omega) (by omega), a9, dx_stI (by omega) (by omega), nI_add, dx_ldI hi h3, fs1_k (by omega), ek, h]
      simp (disch := decide) only [dx_de, decide_false, decide_true, cond_false, cond_true, Nat.reduceEqDiff]
      rw [hreg _ hcc, dx_cne, decide_eq_false (fun z => z hz), cond_false, dx_pfI]
      exact en_s hO (by omega)
    · rw [decide_eq_true hz, cond_true, g93_s (by omega), dx_cl2, gset _ ha, dx_cl1, dx_cl1]
      show ob (g136 (nI (24 * (8 * w + j) + p)) mr) _
      unfold g136
      rw [dx_gfI, dx_ldI hi h3, ea, dx_ldI hi h3, eb, dx_ldI hi h3, ec, a2, dx_sub (by omega), show q + 1 - 1 = q by omega, dx_ldI (by omega) (by omega), a9, dx_stI (by omega) (by omega), nI_add, dx_ldI hi h3, fs1_k (by omega), ek, h]
      simp (disch := decide) only [dx_de, decide_false, decide_true, cond_false, cond_true, Nat.reduceEqDiff]
      rw [hreg _ hcc, dx_cne, decide_eq_true hz, cond_true, hbb.1, hreg _ hbb.2, hreg _ hcc, dv_nz hz, hset _ ha]
      have et : tog 4 (mc.1 17 (4 * q + bn (Jr j) p)) (mc.1 17 (4 * q + rc (Jr j) p)) = mc.1 17 (4 * q + bn (Jr j) p) / mc.1 17 (4 * q + rc (Jr j) p) := by
        unfold tog
        rw [if_neg (by omega), if_neg (by omega), if_neg hz]
      rw [et]
      exact nxg _ ha _
  case inr.inr.inr.inr.inr.inl =>
    have ha := WF_a Wr hp (by omega)
    have hbb := WF_b Wr hp (by omega)
    rw [l3 (by omega), h]
    simp (disch := decide) only [dx_de, decide_false, decide_true, cond_false, cond_true, Nat.reduceEqDiff]
    rw [hbb.1, dx_gfI, a1, gget _ ha, dx_cl2, gget _ hbb.2, dx_cl2, dx_sub (by omega), show q + 1 - 1 = q by omega, dx_stI (by omega) (by omega), dx_stI (by omega) (by omega), nI_add]
    cases hge : ai_c .ge (mc.1 17 (4 * q + ra (Jr j) p)) (mc.1 17 (4 * q + bn (Jr j) p)) with
    | true =>
      rw [cond_true]
      show ob (g136 (nI (24 * (8 * w + j) + p)) mr) _
      unfold g136
      rw [dx_gfI, dx_ldI hi h3, ea, dx_ldI hi h3, eb, dx_ldI hi h3, ec, a2, dx_sub (by omega), show q + 1 - 1 = q by omega, dx_ldI (by omega) (by omega), a9, dx_stI (by omega) (by omega), nI_add, dx_ldI hi h3, fs1_k (by omega), ek, h]
      simp (disch := decide) only [dx_de, decide_false, decide_true, cond_false, cond_true, Nat.reduceEqDiff]
      rw [hreg _ ha, hbb.1, hreg _ hbb.2, hge, cond_true, dx_ldI (by omega) (by omega), fs1_at, dx_stI (by omega) (by omega)]
      exact nx_p hO hF (by omega) (by omega) (Or.inl rfl) h0
    | false =>
      rw [cond_false]
      show ob (g136 (nI (24 * (8 * w + j) + p)) mr) _
      unfold g136
      rw [dx_gfI, dx_ldI hi h3, ea, dx_ldI hi h3, eb, dx_ldI hi h3, ec, a2, dx_sub (by omega), show q + 1 - 1 = q by omega, dx_ldI (by omega) (by omega), a9, dx_stI (by omega) (by omega), nI_add, dx_ldI hi h3, fs1_k (by omega), ek, h]
      simp (disch := decide) only [dx_de, decide_false, decide_true, cond_false, cond_true, Nat.reduceEqDiff]
      rw [hreg _ ha, hbb.1, hreg _ hbb.2, hge, cond_false, dx_stI (by omega) (by omega)]
      exact nx_p hO hF (by omega) (by omega) (by rw [hj]; exact l6) h0
  case inr.inr.inr.inr.inr.inr.inl =>
    rw [h]
    simp (disch := decide) only [dx_de, decide_false, decide_true, cond_false, cond_true, Nat.reduceEqDiff]
    rw [dx_gfI, a1, dx_sub (by omega), show q + 1 - 1 = q by omega, dx_stI (by omega) (by omega)]
    show ob (g136 (nI (24 * (8 * w + j) + p)) mr) _
    unfold g136
    rw [dx_gfI, dx_ldI hi h3, ea, dx_ldI hi h3, eb, dx_ldI hi h3, ec, a2, dx_sub (by omega), show q + 1 - 1 = q by omega, dx_ldI (by omega) (by omega), a9, dx_stI (by omega) (by omega), nI_add, dx_ldI hi h3, fs1_k (by omega), ek, h]
    simp (disch := decide) only [dx_de, decide_false, decide_true, cond_false, cond_true, Nat.reduceEqDiff]
    rw [dx_stI (by omega) (by omega)]
    exact nx_p hO hF (by omega) (by omega) (by rw [hj]; exact l5) h0
  case inr.inr.inr.inr.inr.inr.inr.inl =>
    have ha := WF_a Wr hp (by omega)
    have hbb := WF_b Wr hp (by omega)
    rw [l3 (by omega), h]
    simp (disch := decide) only [dx_de, decide_false, decide_true, cond_false, cond_true, Nat.reduceEqDiff]
    rw [hbb.1, dx_ldI hbb.2 (by omega), gset _ ha, dx_cl1]
    show ob (g136 (nI (24 * (8 * w + j) + p)) mr) _
    unfold g136
    rw [dx_gfI, dx_ldI hi h3, ea, dx_ldI hi h3, eb, dx_ldI hi h3, ec, a2, dx_sub (by omega), show q + 1 - 1 = q by omega, dx_ldI (by omega) (by omega), a9, dx_stI (by omega) (by omega), nI_add, dx_ldI hi h3, fs1_k (by omega), ek, h]
    simp (disch := decide) only [dx_de, decide_false, decide_true, cond_false, cond_true, Nat.reduceEqDiff]
    rw [hbb.1, dx_ldI hbb.2 (by omega), fs1_k (by omega), ← hO.2.2.2.2.2.2.2.2.2.2 _ hbb.2, hset _ ha]
    exact nxg _ ha _
  case inr.inr.inr.inr.inr.inr.inr.inr.inl =>
    have ha := WF_a Wr hp (by omega)
    have hbb := WF_b Wr hp (by omega)
    rw [l3 (by omega), h]
    simp (disch := decide) only [dx_de, decide_false, decide_true, cond_false, cond_true, Nat.reduceEqDiff]
    rw [hbb.1, gget _ ha, dx_cl2, dx_stI hbb.2 (by omega), g53_e (q := q) (pc := p) (by rw [fs1_k (by omega)]; exact a1) a3 (by rw [fs1_k (by omega)]; exact a8), dx_cl1]
    show ob (g136 (nI (24 * (8 * w + j) + p)) mr) _
    unfold g136
    rw [dx_gfI, dx_ldI hi h3, ea, dx_ldI hi h3, eb, dx_ldI hi h3, ec, a2, dx_sub (by omega), show q + 1 - 1 = q by omega, dx_ldI (by omega) (by omega), a9, dx_stI (by omega) (by omega), nI_add, dx_ldI hi h3, fs1_k (by omega), ek, h]
    simp (disch := decide) only [dx_de, decide_false, decide_true, cond_false, cond_true, Nat.reduceEqDiff]
    rw [hreg _ ha, hbb.1, dx_stI hbb.2 (by omega)]
    refine ⟨FRc_t (FRc_s (by omega) (by omega)) (FRc_s (by omega) (by omega)), FRr_t (FRr_s (by omega) (by omega)) (FRr_s (by omega) (by omega)), t, s, -1, ?_, Or.inr ⟨rfl, q, M, p + 1, p + 1, ?_, by have := hO.2.2.1; omega⟩⟩
    · obtain ⟨o1, o2, o3, o4, o5, o6, o7, o8, o9, o10, o11⟩ := hO
      refine ⟨by rw [fs1_k (by omega), fs1_k (by omega)]; exact o1, by rw [fs1_k (by omega), fs1_k (by omega)]; exact o2, o3, by rw [fs1_k (by omega), fs1_k (by omega)]; exact o4, by rw [fs1_k (by omega), fs1_k (by omega)]; exact o5, o6, fun i u v => by rw [fs1_k (by omega), fs1_k (by omega), fs1_k (by omega), fs1_k (by omega)]; exact o7 i u v, by rw [fs1_k (by omega), fs1_k (by omega), fs1_k (by omega), fs1_k (by omega)]; exact o8, by rw [fs1_k (by omega), fs1_k (by omega)]; exact o9, by rw [fs1_k (by omega), fs1_k (by omega)]; exact o10, fun f hf => ?_⟩
      rw [fs1_k (by omega)]
      by_cases ef : f = bn (Jr j) p
      · rw [ef, fs1_at, fs1_at]
      · rw [fs1_i ef, fs1_i ef, fs1_k (by omega)]; exact o11 f hf
    · rw [fs1_cm (k := 69) (by omega)]
      exact SF_p (SF_c hF (by rw [fs1_k (by omega)]) (by rw [fs1_k (by omega)]) ⟨fs1_k (by omega), fs1_k (by omega), fs1_k (by omega)⟩ ⟨fs1_k (by omega), fs1_k (by omega), fs1_k (by omega), fs1_k (by omega)⟩) (by omega) (by omega) (Or.inl rfl)
  case inr.inr.inr.inr.inr.inr.inr.inr.inr.inl =>
    have ha := WF_a Wr hp (by omega)
    have hbb := WF_m Wr hp (by omega)
    rw [l3 (by omega), h]
    simp (disch := decide) only [dx_de, decide_false, decide_true, cond_false, cond_true, Nat.reduceEqDiff]
    rw [hbb.1, gget 0 (by omega), dx_cl2, gget 1 (by omega), dx_cl2]
    have e0 : ∀ {β : Type} (f : Int32 → Option β), ldI (fs1 mr 69 q (nI (p + 1))) 71 36 (nI 4 * nI q) f = f (mc.1 17 (4 * q)) := fun {β} f => by
      rw [pk_mul, dx_ldI (by omega) (by omega), fs1_k (by omega)]
      exact congrArg f (a5 q (Nat.le_refl q) 0 (by omega)).symm
    unfold g43
    simp only [dx_gfI, dx_pfI]
    rw [a1, dx_lt (by omega) (by omega)]
    by_cases h8 : q + 1 = 8
    · rw [decide_eq_false (by omega), cond_false, dx_cl1]
      show ob (g136 (nI (24 * (8 * w + j) + p)) mr) _
      unfold g136
      rw [dx_gfI, dx_ldI hi h3, ea, dx_ldI hi h3, eb, dx_ldI hi h3, ec, a2, dx_sub (by omega), show q + 1 - 1 = q by omega, dx_ldI (by omega) (by omega), a9, dx_stI (by omega) (by omega), nI_add, dx_ldI hi h3, fs1_k (by omega), ek, h]
      simp (disch := decide) only [dx_de, decide_false, decide_true, cond_false, cond_true, Nat.reduceEqDiff]
      rw [dx_gfI, fs1_k (by omega), a2, dx_ne (by omega) (by omega), decide_eq_false (fun z => z h8), cond_false, dx_pfI]
      exact en_s hO (by omega)
    · rw [decide_eq_true (by omega), cond_true]
      simp only [pk_mul, nI_add]
      rw [dx_stI (by omega) (by omega), dx_stI (by omega) (by omega), dx_stI (by omega) (by omega), dx_stI (by omega) (by omega)]
      simp only [fs1_k (show ¬ 14 = 17 by omega), fs1_k (show ¬ 14 = 18 by omega), fs1_k (show ¬ 14 = 19 by omega), a1]
      rw [dx_stI (by omega) (by omega)]
      simp only [fs1_k (show ¬ 14 = 17 by omega), fs1_k (show ¬ 14 = 18 by omega), fs1_k (show ¬ 14 = 19 by omega), a1]
      rw [dx_stI (by omega) (by omega)]
      simp only [fs1_k (show ¬ 14 = 17 by omega), fs1_k (show ¬ 14 = 18 by omega), fs1_k (show ¬ 14 = 19 by omega), a1, nI_add]
      rw [dx_cl1]
      show ob (g136 (nI (24 * (8 * w + j) + p)) mr) _
      unfold g136
      rw [dx_gfI, dx_ldI hi h3, ea, dx_ldI hi h3, eb, dx_ldI hi h3, ec, a2, dx_sub (by omega), show q + 1 - 1 = q by omega, dx_ldI (by omega) (by omega), a9, dx_stI (by omega) (by omega), nI_add, dx_ldI hi h3, fs1_k (by omega), ek, h]
      simp (disch := decide) only [dx_de, decide_false, decide_true, cond_false, cond_true, Nat.reduceEqDiff]
      rw [dx_gfI, fs1_k (by omega), a2, dx_ne (by omega) (by omega), decide_eq_true h8, cond_true, e0, hreg 1 (by omega), hbb.1]
      unfold g134
      simp only [dx_gfI, dx_pfI]
      rw [fs1_k (by omega), a2, dx_stI (by omega) (by omega)]
      simp only [fs1_k (show ¬ 52 = 69 by omega), fs1_k (show ¬ 52 = 68 by omega), fs1_k (show ¬ 52 = 70 by omega), fs1_k (show ¬ 52 = 71 by omega), a2, pk_mul, nI_add]
      rw [dx_stI (by omega) (by omega)]
      simp only [fs1_k (show ¬ 52 = 69 by omega), fs1_k (show ¬ 52 = 68 by omega), fs1_k (show ¬ 52 = 70 by omega), fs1_k (show ¬ 52 = 71 by omega), a2, pk_mul, nI_add]
      rw [dx_stI (by omega) (by omega)]
      simp only [fs1_k (show ¬ 52 = 69 by omega), fs1_k (show ¬ 52 = 68 by omega), fs1_k (show ¬ 52 = 70 by omega), fs1_k (show ¬ 52 = 71 by omega), a2, pk_mul, nI_add]
      rw [dx_stI (by omega) (by omega)]
      simp only [fs1_k (show ¬ 52 = 69 by omega), fs1_k (show ¬ 52 = 68 by omega), fs1_k (show ¬ 52 = 70 by omega), fs1_k (show ¬ 52 = 71 by omega), a2, pk_mul, nI_add]
      rw [dx_stI (by omega) (by omega)]
      simp only [fs1_k (show ¬ 52 = 69 by omega), fs1_k (show ¬ 52 = 68 by omega), fs1_k (show ¬ 52 = 70 by omega), fs1_k (show ¬ 52 = 71 by omega), a2, pk_mul, nI_add]
      rw [dx_stI (by omega) (by omega)]
      simp only [fs1_k (show ¬ 52 = 69 by omega), fs1_k (show ¬ 52 = 68 by omega), fs1_k (show ¬ 52 = 70 by omega), fs1_k (show ¬ 52 = 71 by omega), a2, pk_mul, nI_add]
      rw [dx_stI (by omega) (by omega)]
      simp only [fs1_k (show ¬ 52 = 69 by omega), fs1_k (show ¬ 52 = 68 by omega), fs1_k (show ¬ 52 = 70 by omega), fs1_k (show ¬ 52 = 71 by omega), a2, pk_mul, nI_add]
      rw [dx_cl1]
      exact cl_s hO hF h0 hj hp h ha hbb.2 h8 rfl rfl
  case inr.inr.inr.inr.inr.inr.inr.inr.inr.inr.inl =>
    have ha := WF_a Wr hp (by omega)
    rw [l3 (by omega), h]
    simp (disch := decide) only [dx_de, decide_false, decide_true, cond_false, cond_true, Nat.reduceEqDiff]
    rw [gget _ ha, dx_cl2]
    have f69 : FRr mr (fs1 mr 69 q (nI (p + 1))) := FRr_s (by omega) (by omega)
    obtain ⟨mc', mr', e1, e2, f1, f2, e', o', hh⟩ := lv_s hb (HC_f hb H (FRc_r mc) f69) (SO_k hO ⟨rfl, rfl, rfl, rfl⟩ rfl rfl ⟨by rw [fs1_k (by omega)], by rw [fs1_k (by omega)], by rw [fs1_k (by omega)], by rw [fs1_k (by omega)]⟩ (fs1_k (by omega)) (fs1_k (by omega))) a1 (by rw [fs1_k (by omega)]; exact a2) a3 (fun i hi => by rw [fs1_k (by omega)]; exact a4 i hi) (fun i hi r hr => by rw [fs1_k (by omega)]; exact a5 i hi r hr) (fun i hi => by rw [fs1_i (by omega), fs1_k (by omega)]; exact a11 i hi) (mc.1 17 (4 * q + ra (Jr j) p))
    rw [e1, dx_cl1]
    show ob (g136 (nI (24 * (8 * w + j) + p)) mr) _
    unfold g136
    rw [dx_gfI, dx_ldI hi h3, ea, dx_ldI hi h3, eb, dx_ldI hi h3, ec, a2, dx_sub (by omega), show q + 1 - 1 = q by omega, dx_ldI (by omega) (by omega), a9, dx_stI (by omega) (by omega), nI_add, dx_ldI hi h3, fs1_k (by omega), ek, h]
    simp (disch := decide) only [dx_de, decide_false, decide_true, cond_false, cond_true, Nat.reduceEqDiff]
    rw [hreg _ ha, e2, dx_cl1]
    refine ⟨f1, FRr_t f69 f2, t, s, e', o', ?_⟩
    rcases hh with hh | ⟨hh, q', M', pc', pr', sf, hq'⟩
    · exact Or.inl ⟨0, by omega, hh⟩
    · exact Or.inr ⟨hh, q', M', pc', pr', sf, by have := hO.2.2.1; omega⟩
  case inr.inr.inr.inr.inr.inr.inr.inr.inr.inr.inr.inl =>
    have ha := WF_a Wr hp (by omega)
    rw [l3 (by omega), h]
    simp (disch := decide) only [dx_de, decide_false, decide_true, cond_false, cond_true, Nat.reduceEqDiff]
    rw [gget _ ha, dx_cl2]
    unfold g48
    rw [dx_cne]
    by_cases hz : mc.1 17 (4 * q + ra (Jr j) p) = 0
    · rw [decide_eq_false (fun z => z hz), cond_false, dx_pfI, dx_cl1]
      show ob (g136 (nI (24 * (8 * w + j) + p)) mr) _
      unfold g136
      rw [dx_gfI, dx_ldI hi h3, ea, dx_ldI hi h3, eb, dx_ldI hi h3, ec, a2, dx_sub (by omega), show q + 1 - 1 = q by omega, dx_ldI (by omega) (by omega), a9, dx_stI (by omega) (by omega), nI_add, dx_ldI hi h3, fs1_k (by omega), ek, h]
      simp (disch := decide) only [dx_de, decide_false, decide_true, cond_false, cond_true, Nat.reduceEqDiff]
      rw [hreg _ ha, dx_cne, decide_eq_false (fun z => z hz), cond_false, dx_pfI]
      exact en_s hO (by omega)
    · rw [decide_eq_true hz, cond_true, gnx, dx_cl1, dx_cl1]
      show ob (g136 (nI (24 * (8 * w + j) + p)) mr) _
      unfold g136
      rw [dx_gfI, dx_ldI hi h3, ea, dx_ldI hi h3, eb, dx_ldI hi h3, ec, a2, dx_sub (by omega), show q + 1 - 1 = q by omega, dx_ldI (by omega) (by omega), a9, dx_stI (by omega) (by omega), nI_add, dx_ldI hi h3, fs1_k (by omega), ek, h]
      simp (disch := decide) only [dx_de, decide_false, decide_true, cond_false, cond_true, Nat.reduceEqDiff]
      rw [hreg _ ha, dx_cne, decide_eq_true hz, cond_true, dx_gfI, dx_pfI]
      have e24 : fs1 (fs1 mr 69 q (nI (p + 1))) 52 24 ((fs1 mr 69 q (nI (p + 1))).1 52 24) = fs1 mr 69 q (nI (p + 1)) := by
        refine Prod.ext ?_ rfl
        funext a i
        show (if a = 52 ∧ i = 24 then _ else _) = _
        by_cases hai : a = 52 ∧ i = 24
        · rw [if_pos hai, hai.1, hai.2]
        · rw [if_neg hai]
      rw [e24]
      exact nxt
  case inr.inr.inr.inr.inr.inr.inr.inr.inr.inr.inr.inr =>
    have ha := WF_a Wr hp (by omega)
    rw [l3 (by omega), h]
    simp (disch := decide) only [dx_de, decide_false, decide_true, cond_false, cond_true, Nat.reduceEqDiff]
    rw [gget _ ha, dx_cl2]
    obtain ⟨o1, o2, o3, o4, o5, o6, o7, o8, o9, o10, o11⟩ := id hO
    unfold g49 g49_19
    simp only [dx_gfI, dx_pfI]
    rw [o4, dx_ge (by omega) (by omega)]
    by_cases h60 : 60 ≤ s
    · rw [decide_eq_true h60, cond_true, nI_add, g53_e (q := q) (pc := p) (by rw [fs1_i (by omega)]; exact a1) a3 (by rw [fs1_k (by omega)]; exact a8), dx_cl1, dx_cl1]
      show ob (g136 (nI (24 * (8 * w + j) + p)) mr) _
      unfold g136
      rw [dx_gfI, dx_ldI hi h3, ea, dx_ldI hi h3, eb, dx_ldI hi h3, ec, a2, dx_sub (by omega), show q + 1 - 1 = q by omega, dx_ldI (by omega) (by omega), a9, dx_stI (by omega) (by omega), nI_add, dx_ldI hi h3, fs1_k (by omega), ek, h]
      simp (disch := decide) only [dx_de, decide_false, decide_true, cond_false, cond_true, Nat.reduceEqDiff]
      unfold g136_462
      simp only [dx_gfI, dx_pfI]
      rw [fs1_k (by omega), o5, dx_ge (by omega) (by omega), decide_eq_true h60, cond_true, nI_add]
      refine ⟨FRc_t (FRc_s (by omega) (by omega)) (FRc_s (by omega) (by omega)), FRr_t (FRr_s (by omega) (by omega)) (FRr_52 (by omega)), t, s + 1, -1, ?_, Or.inr ⟨rfl, q, M, p + 1, p + 1, ?_, by omega⟩⟩
      · refine ⟨by rw [fs1_k (by omega), fs1_i (by omega)]; exact o1, by rw [fs1_i (by omega), fs1_k (by omega)]; exact o2, o3, by rw [fs1_k (by omega), fs1_at], fs1_at, by omega, fun i u v => by rw [fs1_k (by omega), fs1_k (by omega), fs1_k (by omega), fs1_k (by omega)]; exact o7 i u (by omega), by rw [fs1_k (by omega), fs1_i (by omega), fs1_i (by omega), fs1_k (by omega)]; exact o8, by rw [fs1_k (by omega), fs1_i (by omega)]; exact o9, by rw [fs1_i (by omega), fs1_k (by omega)]; exact o10, fun f hf => by rw [fs1_k (by omega), fs1_k (by omega), fs1_k (by omega), fs1_k (by omega)]; exact o11 f hf⟩
      · rw [fs1_cm (k := 69) (by omega)]
        exact SF_p (SF_c hF (fs1_i (by omega)) (fs1_i (by omega)) ⟨fs1_k (by omega), fs1_k (by omega), fs1_k (by omega)⟩ ⟨fs1_k (by omega), fs1_k (by omega), fs1_k (by omega), fs1_k (by omega)⟩) (by omega) (by omega) (Or.inl rfl)
    · rw [decide_eq_false h60, cond_false, dx_stI (by omega) (by omega), fs1_k (by omega), o4, nI_add, g53_e (q := q) (pc := p) (by rw [fs1_i (by omega), fs1_k (by omega)]; exact a1) a3 (by rw [fs1_k (by omega), fs1_k (by omega)]; exact a8), dx_cl1, dx_cl1]
      show ob (g136 (nI (24 * (8 * w + j) + p)) mr) _
      unfold g136
      rw [dx_gfI, dx_ldI hi h3, ea, dx_ldI hi h3, eb, dx_ldI hi h3, ec, a2, dx_sub (by omega), show q + 1 - 1 = q by omega, dx_ldI (by omega) (by omega), a9, dx_stI (by omega) (by omega), nI_add, dx_ldI hi h3, fs1_k (by omega), ek, h]
      simp (disch := decide) only [dx_de, decide_false, decide_true, cond_false, cond_true, Nat.reduceEqDiff]
      unfold g136_462
      simp only [dx_gfI, dx_pfI]
      rw [fs1_k (by omega), o5, dx_ge (by omega) (by omega), decide_eq_false h60, cond_false, hreg _ ha, dx_stI (by omega) (by omega), fs1_k (by omega), fs1_k (by omega), o5, nI_add]
      refine ⟨FRc_t (FRc_s (by omega) (by omega)) (FRc_t (FRc_s (by omega) (by omega)) (FRc_s (by omega) (by omega))), FRr_t (FRr_s (by omega) (by omega)) (FRr_t (FRr_s (by omega) (by omega)) (FRr_52 (by omega))), t, s + 1, -1, ?_, Or.inr ⟨rfl, q, M, p + 1, p + 1, ?_, by omega⟩⟩
      · refine ⟨by rw [fs1_k (by omega), fs1_i (by omega), fs1_k (by omega)]; exact o1, by rw [fs1_i (by omega), fs1_k (by omega), fs1_k (by omega)]; exact o2, o3, by rw [fs1_k (by omega), fs1_at], fs1_at, by omega, fun i u v => ?_, by rw [fs1_k (by omega), fs1_i (by omega), fs1_k (by omega), fs1_i (by omega), fs1_k (by omega), fs1_k (by omega)]; exact o8, by rw [fs1_k (by omega), fs1_i (by omega), fs1_k (by omega)]; exact o9, by rw [fs1_i (by omega), fs1_k (by omega), fs1_k (by omega)]; exact o10, fun f hf => by rw [fs1_k (by omega), fs1_k (by omega), fs1_k (by omega), fs1_k (by omega), fs1_k (by omega), fs1_k (by omega)]; exact o11 f hf⟩
        have ex : (fs1 (fs1 (fs1 mr 69 q (nI (p + 1))) 67 s (mc.1 17 (4 * q + ra (Jr j) p))) 52 20 (nI (s + 1))).1 67 = (fs1 (fs1 mr 69 q (nI (p + 1))) 67 s (mc.1 17 (4 * q + ra (Jr j) p))).1 67 := fs1_k (by omega)
        rw [ex, fs1_k (by omega), fs1_k (by omega)]
        by_cases ei : i = s
        · rw [ei, fs1_at, fs1_at]
        · rw [fs1_i ei, fs1_i ei, fs1_k (by omega)]; exact o7 i u (by omega)
      · rw [fs1_cm (k := 69) (by omega), fs1_cm (k := 69) (by omega)]
        exact SF_p (SF_c hF (by rw [fs1_i (by omega), fs1_k (by omega)]) (by rw [fs1_i (by omega), fs1_k (by omega)]) ⟨by rw [fs1_k (by omega), fs1_k (by omega)], by rw [fs1_k (by omega), fs1_k (by omega)], by rw [fs1_k (by omega), fs1_k (by omega)]⟩ ⟨by rw [fs1_k (by omega), fs1_k (by omega)], by rw [fs1_k (by omega), fs1_k (by omega)], by rw [fs1_k (by omega), fs1_k (by omega)], by rw [fs1_k (by omega), fs1_k (by omega)]⟩) (by omega) (by omega) (Or.inl rfl)
end R3
