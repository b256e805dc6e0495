theorem fs1_cm {m : fm} {k i k' i' : Nat} {x y : Int32} (h : ¬ k = k') : fs1 (fs1 m k i x) k' i' y = fs1 (fs1 m k' i' y) k i x := by
  unfold fs1
  refine Prod.ext ?_ rfl
  funext a b
  by_cases h1 : a = k
  · subst h1
    have : ¬ (a = k' ∧ b = i') := fun z => h z.1
    simp [this]
  · have : ¬ (a = k ∧ b = i) := fun z => h1 z.1
    simp [this]
section R2
variable {b w : Nat} {nn : Nat → Nat} {Jc Jr : Nat → cod} {mc mr : fm} {M : Nat → Nat} {q pc pr t s j p : Nat} {e : Int32}
theorem ge_m1 : ai_c .ge (-1) 0 = false := by decide +kernel
/-- a member is left -/
theorem lv_s (hb : 20 ≤ b) (H : HC b w nn Jc Jr mc mr) (hO : SO mc mr t s (-1)) (h5 : mc.1 14 5 = nI (q + 1)) (h23 : mr.1 52 23 = nI (q + 1)) (hq : q < 8) (a4 : ∀ i, i ≤ q → M i < 8 ∧ mc.1 19 i = nI (M i) ∧ mr.1 68 i = nI (M i)) (a5 : ∀ i, i ≤ q → ∀ r, r < 4 → mc.1 17 (4 * i + r) = mr.1 71 (4 * i + r)) (a11 : ∀ i, i < q → ∃ p, p < nn (M i) ∧ kd (Jr (M i)) p = 9 ∧ mc.1 18 i = nI p ∧ mr.1 69 i = nI (p + 1) ∧ mr.1 70 (i + 1) = nI (ra (Jr (M i)) p)) (x : Int32) : ∃ mc' mr', g45 b x mc = some mc' ∧ g135 x mr = some mr' ∧ FRc mc mc' ∧ FRr mr mr' ∧ ∃ e', SO mc' mr' t s e' ∧ (e' = nI 0 ∨ (e' = -1 ∧ ∃ q' M' pc' pr', SF nn Jr mc' mr' q' M' pc' pr' ∧ q' + 1 = q)) := by
  unfold g45 g135
  simp only [dx_gfI, dx_pfI]
  rw [h5, h23, dx_sub (by omega), show q + 1 - 1 = q by omega, fs1_at, fs1_at, dx_ne0 (by omega), dx_cif, dx_cif]
  by_cases h0 : q = 0
  · rw [if_neg (fun z => z h0), if_neg (fun z => z h0)]
    refine ⟨_, _, rfl, rfl, FRc_t (FRc_s (by omega) (by omega)) (FRc_t (FRc_s (by omega) (by omega)) (FRc_s (by omega) (by omega))), FRr_t (FRr_52 (by omega)) (FRr_t (FRr_52 (by omega)) (FRr_52 (by omega))), nI 0, ?_, Or.inl rfl⟩
    refine SO_e (e := -1) ?_
    obtain ⟨h1, h2, h3, h4, h5, h6, h7, h8, h9, h10, h11⟩ := hO
    exact ⟨by rw [fs1_i (by omega), fs1_i (by omega)]; exact h1, by rw [fs1_i (by omega), fs1_i (by omega)]; exact h2, h3, by rw [fs1_i (by omega), fs1_i (by omega)]; exact h4, by rw [fs1_i (by omega), fs1_i (by omega)]; exact h5, h6, fun i a b => by rw [fs1_k (by omega), fs1_k (by omega), fs1_k (by omega), fs1_k (by omega)]; exact h7 i a b, by rw [fs1_at, fs1_at], by rw [fs1_i (by omega), fs1_i (by omega)]; exact h9, by rw [fs1_i (by omega), fs1_i (by omega)]; exact h10, fun f hf => by rw [fs1_k (by omega), fs1_k (by omega), fs1_k (by omega), fs1_k (by omega)]; exact h11 f hf⟩
  · obtain ⟨q, rfl⟩ : ∃ z, q = z + 1 := ⟨q - 1, by omega⟩
    obtain ⟨p, p1, p2, p3, p4, p5⟩ := a11 q (by omega)
    obtain ⟨m1, m2, m3⟩ := a4 q (by omega)
    obtain ⟨Cj, Rj, Wc, Wr, Lj⟩ := H (M q) m1
    have hn := Wc.1
    have hra : ra (Jc (M q)) p = ra (Jr (M q)) p := (Lj p p1).2.2.1 (by omega)
    have hr4 : ra (Jr (M q)) p < 4 := WF_a Wr p1 (by omega)
    have Cj' : CR (fs1 mc 14 5 (nI (q + 1))) (b + 4 * M q) (nn (M q)) (Jc (M q)) := CR_f Cj (fs1_k (by omega)) (fs1_k (by omega))
    rw [if_pos h0, if_pos h0, dx_sub (by omega), show q + 1 - 1 = q by omega, dx_ldI (by omega) (by omega), fs1_k (by omega), m2, dx_ldA m1, dx_ldI (by omega) (by omega), fs1_k (by omega), p3, g4_1 Cj' hn p1, dx_cl2, hra, g51_e (q := q) fs1_at (by omega) hr4, dx_cl1, g53_e (q := q) (pc := p) (by rw [fs1_k (by omega)]; exact fs1_at) (by omega) (by rw [fs1_k (by omega), fs1_k (by omega)]; exact p3), dx_cl1, dx_ldI (by omega) (by omega), fs1_k (by omega), p5, pk_mul, nI_add, dx_stI (by omega) (by omega)]
    refine ⟨_, _, rfl, rfl, FRc_t (FRc_s (by omega) (by omega)) (FRc_t (FRc_s (by omega) (by omega)) (FRc_s (by omega) (by omega))), FRr_t (FRr_52 (by omega)) (FRr_s (by omega) (by omega)), -1, ?_, Or.inr ⟨rfl, q, M, p + 1, p + 1, ?_, rfl⟩⟩
    · refine SO_k hO ⟨?_, ?_, ?_, ?_⟩ ?_ ?_ ⟨?_, ?_, ?_, ?_⟩ ?_ ?_
      · rw [fs1_k (by omega), fs1_k (by omega), fs1_i (by omega)]
      · rw [fs1_k (by omega), fs1_k (by omega), fs1_i (by omega)]
      · rw [fs1_k (by omega), fs1_k (by omega), fs1_i (by omega)]
      · rw [fs1_k (by omega), fs1_k (by omega), fs1_i (by omega)]
      · rw [fs1_k (by omega), fs1_k (by omega), fs1_k (by omega)]
      · rw [fs1_k (by omega), fs1_k (by omega), fs1_k (by omega)]
      · rw [fs1_k (by omega), fs1_i (by omega)]
      · rw [fs1_k (by omega), fs1_i (by omega)]
      · rw [fs1_k (by omega), fs1_i (by omega)]
      · rw [fs1_k (by omega), fs1_i (by omega)]
      · rw [fs1_k (by omega), fs1_k (by omega)]
      · rw [fs1_k (by omega), fs1_k (by omega)]
    · refine ⟨by rw [fs1_k (by omega), fs1_k (by omega), fs1_at], by rw [fs1_k (by omega), fs1_at], by omega, fun i hi => by rw [fs1_k (by omega), fs1_k (by omega), fs1_k (by omega), fs1_k (by omega), fs1_k (by omega)]; exact a4 i (by omega), fun i hi r hr => ?_, by omega, by omega, fs1_at, by rw [fs1_k (by omega), fs1_k (by omega)]; exact p4, Or.inl rfl, fun i hi => ?_⟩
      · rw [fs1_k (by omega)]
        by_cases ee : 4 * i + r = 4 * q + ra (Jr (M q)) p
        · rw [ee, fs1_at, fs1_at]
        · rw [fs1_i ee, fs1_k (by omega), fs1_i ee, fs1_k (by omega)]
          exact a5 i (by omega) r hr
      · obtain ⟨p', b1, b2, b3, b4, b5⟩ := a11 i (by omega)
        exact ⟨p', b1, b2, by rw [fs1_i (by omega), fs1_k (by omega), fs1_k (by omega)]; exact b3, by rw [fs1_k (by omega), fs1_k (by omega)]; exact b4, by rw [fs1_k (by omega), fs1_k (by omega)]; exact b5⟩
end R2
