/-! run: the two of them side by side, on two memories -/
def RLx (J I : cod) (n : Nat) : Prop := ∀ p, p < n → kd J p = kd I p ∧ rb J p = rb I p ∧ (kd I p ≠ 6 → ra J p = ra I p) ∧ (kd I p ≠ 5 → rc J p = rc I p) ∧ (ra J p = ra I p ∨ (n ≤ ra J p ∧ n ≤ ra I p)) ∧ (rc J p = rc I p ∨ (n ≤ rc J p ∧ n ≤ rc I p))
theorem RLx_r {I : cod} {n : Nat} : RLx I I n := fun _ _ => ⟨rfl, rfl, fun _ => rfl, fun _ => rfl, Or.inl rfl, Or.inl rfl⟩
theorem RLx_T {J I : cod} {n : Nat} (h : TRL J I n) : RLx J I n := fun p hp => by
  obtain ⟨h1, h2, h3, h4⟩ := h p hp
  refine ⟨h1, h2, fun z => by rw [h3, if_neg z], fun z => by rw [h4, if_neg z], ?_, ?_⟩
  · rw [h3]; split <;> omega
  · rw [h4]; split <;> omega
/-- the code, on both sides -/
def HC (b w : Nat) (nn : Nat → Nat) (Jc Jr : Nat → cod) (mc mr : fm) : Prop := ∀ j, j < 8 → CR mc (b + 4 * j) (nn j) (Jc j) ∧ RR mr (8 * w + j) (nn j) (Jr j) ∧ WF (nn j) (Jc j) ∧ WF (nn j) (Jr j) ∧ RLx (Jc j) (Jr j) (nn j)
def FRc (m m' : fm) : Prop := (∀ k, k < 14 ∨ 19 < k → m'.1 k = m.1 k) ∧ m'.2 = m.2
def FRr (m m' : fm) : Prop := (∀ k, k ≠ 52 → k < 66 ∨ 71 < k → m'.1 k = m.1 k) ∧ (∀ f, f < 20 → m'.1 52 f = m.1 52 f) ∧ m'.2 = m.2
theorem FRc_r (m : fm) : FRc m m := ⟨fun _ _ => rfl, rfl⟩
theorem FRr_r (m : fm) : FRr m m := ⟨fun _ _ _ => rfl, fun _ _ => rfl, rfl⟩
theorem FRc_t {m m' m'' : fm} (h1 : FRc m m') (h2 : FRc m' m'') : FRc m m'' := ⟨fun k a => (h2.1 k a).trans (h1.1 k a), h2.2.trans h1.2⟩
theorem FRr_t {m m' m'' : fm} (h1 : FRr m m') (h2 : FRr m' m'') : FRr m m'' := ⟨fun k a b => (h2.1 k a b).trans (h1.1 k a b), fun f a => (h2.2.1 f a).trans (h1.2.1 f a), h2.2.2.trans h1.2.2⟩
theorem FRc_s {m : fm} {k i : Nat} {x : Int32} (h : 14 ≤ k) (h2 : k ≤ 19) : FRc m (fs1 m k i x) := ⟨fun q hq => fs1_k (by omega), rfl⟩
theorem FRr_s {m : fm} {k i : Nat} {x : Int32} (h : 66 ≤ k) (h2 : k ≤ 71) : FRr m (fs1 m k i x) := ⟨fun q _ hq => fs1_k (by omega), fun f _ => by rw [fs1_k (by omega)], rfl⟩
theorem FRr_52 {m : fm} {i : Nat} {x : Int32} (h : 20 ≤ i) : FRr m (fs1 m 52 i x) := ⟨fun q hq _ => fs1_k hq, fun f hf => fs1_i (by omega), rfl⟩
section RU
variable {b w : Nat} {nn : Nat → Nat} {Jc Jr : Nat → cod} {mc mr : fm} {M : Nat → Nat} {q pc pr t s : Nat} {e : Int32}
theorem HC_f {mc' mr' : fm} (hb : 20 ≤ b) (h : HC b w nn Jc Jr mc mr) (h1 : FRc mc mc') (h2 : FRr mr mr') : HC b w nn Jc Jr mc' mr' := fun j hj => by
  obtain ⟨a1, a2, a3⟩ := h j hj
  exact ⟨CR_f a1 (h1.1 _ (by omega)) (h1.1 _ (by omega)), RR_f a2 (by rw [h2.1 57 (by omega) (by omega)]) (h2.1 53 (by omega) (by omega)) (h2.1 54 (by omega) (by omega)) (h2.1 55 (by omega) (by omega)) (h2.1 56 (by omega) (by omega)), a3⟩
/-- what is told of the run -/
def SO (mc mr : fm) (t s : Nat) (e : Int32) : Prop := mc.1 14 6 = nI t ∧ mr.1 52 21 = nI t ∧ t ≤ 2000 ∧ mc.1 14 7 = nI s ∧ mr.1 52 20 = nI s ∧ s ≤ t ∧ (∀ i, i < 60 → i < s → mc.1 16 i = mr.1 67 i) ∧ mc.1 14 8 = mr.1 52 22 ∧ mc.1 14 9 = e ∧ mr.1 52 24 = e ∧ ∀ f, f < 4 → mc.1 15 f = mr.1 66 f
/-- the members within one another: q + 1 of them -/
def SF (nn : Nat → Nat) (Jr : Nat → cod) (mc mr : fm) (q : Nat) (M : Nat → Nat) (pc pr : Nat) : Prop := mc.1 14 5 = nI (q + 1) ∧ mr.1 52 23 = nI (q + 1) ∧ q < 8 ∧ (∀ i, i ≤ q → M i < 8 ∧ mc.1 19 i = nI (M i) ∧ mr.1 68 i = nI (M i)) ∧ (∀ i, i ≤ q → ∀ r, r < 4 → mc.1 17 (4 * i + r) = mr.1 71 (4 * i + r)) ∧ pc ≤ 24 ∧ pr ≤ 24 ∧ mc.1 18 q = nI pc ∧ mr.1 69 q = nI pr ∧ (pc = pr ∨ (nn (M q) ≤ pc ∧ nn (M q) ≤ pr)) ∧ (∀ i, i < q → ∃ p, p < nn (M i) ∧ kd (Jr (M i)) p = 9 ∧ mc.1 18 i = nI p ∧ mr.1 69 i = nI (p + 1) ∧ mr.1 70 (i + 1) = nI (ra (Jr (M i)) p))
theorem g50_e (h5 : mc.1 14 5 = nI (q + 1)) (hq : q < 8) {r : Nat} (hr : r < 4) : g50 (nI r) mc = some (mc.1 17 (4 * q + r), mc) := by
  unfold g50
  rw [dx_gfI, h5, dx_sub (by omega), pk_mul, nI_add, show (q + 1 - 1) * 4 + r = 4 * q + r by omega, dx_ldI (by omega) (by omega)]
theorem g51_e (h5 : mc.1 14 5 = nI (q + 1)) (hq : q < 8) {r : Nat} (hr : r < 4) {x : Int32} : g51 (nI r) x mc = some (fs1 mc 17 (4 * q + r) x) := by
  unfold g51
  rw [dx_gfI, h5, dx_sub (by omega), pk_mul, nI_add, show (q + 1 - 1) * 4 + r = 4 * q + r by omega, dx_stI (by omega) (by omega)]
theorem g53_e (h5 : mc.1 14 5 = nI (q + 1)) (hq : q < 8) (h18 : mc.1 18 q = nI pc) : g53 mc = some (fs1 mc 18 q (nI (pc + 1))) := by
  unfold g53
  rw [dx_gfI, h5, dx_sub (by omega), show q + 1 - 1 = q by omega, dx_ldI (by omega) (by omega), dx_stI (by omega) (by omega), h18, nI_add]
theorem g52_e (h5 : mc.1 14 5 = nI (q + 1)) (hq : q < 8) (h18 : mc.1 18 q = nI pc) {r : Nat} (hr : r < 4) {x : Int32} : g52 (nI r) x mc = some (fs1 (fs1 mc 17 (4 * q + r) x) 18 q (nI (pc + 1))) := by
  unfold g52
  rw [g51_e h5 hq hr, dx_cl1, g53_e (q := q) (pc := pc) (by rw [fs1_k (by omega)]; exact h5) hq (by rw [fs1_k (by omega)]; exact h18), dx_cl1]
/-! how the picture changes -/
theorem SO_k {mc' mr' : fm} (h : SO mc mr t s e) (h14 : mc'.1 14 6 = mc.1 14 6 ∧ mc'.1 14 7 = mc.1 14 7 ∧ mc'.1 14 8 = mc.1 14 8 ∧ mc'.1 14 9 = mc.1 14 9) (h15 : mc'.1 15 = mc.1 15) (h16 : mc'.1 16 = mc.1 16) (h52 : mr'.1 52 20 = mr.1 52 20 ∧ mr'.1 52 21 = mr.1 52 21 ∧ mr'.1 52 22 = mr.1 52 22 ∧ mr'.1 52 24 = mr.1 52 24) (h66 : mr'.1 66 = mr.1 66) (h67 : mr'.1 67 = mr.1 67) : SO mc' mr' t s e := by
  unfold SO
  rw [h14.1, h14.2.1, h14.2.2.1, h14.2.2.2, h15, h16, h52.1, h52.2.1, h52.2.2.1, h52.2.2.2, h66, h67]
  exact h
/-- one INSTRUCTION more is done -/
theorem SO_d (h : SO mc mr t s e) (ht : t < 2000) : SO (fs1 mc 14 6 (nI (t + 1))) (fs1 mr 52 21 (nI (t + 1))) (t + 1) s e := by
  obtain ⟨h1, h2, h3, h4, h5, h6, h7, h8, h9, h10, h11⟩ := h
  refine ⟨fs1_at, fs1_at, by omega, by rw [fs1_i (by omega)]; exact h4, by rw [fs1_i (by omega)]; exact h5, by omega, fun i a b => by rw [fs1_k (by omega), fs1_k (by omega)]; exact h7 i a b, by rw [fs1_i (by omega), fs1_i (by omega)]; exact h8, by rw [fs1_i (by omega)]; exact h9, by rw [fs1_i (by omega)]; exact h10, fun f hf => by rw [fs1_k (by omega), fs1_k (by omega)]; exact h11 f hf⟩
theorem SF_d (h : SF nn Jr mc mr q M pc pr) {x : Int32} : SF nn Jr (fs1 mc 14 6 x) (fs1 mr 52 21 x) q M pc pr := by
  unfold SF
  rw [fs1_i (by omega), fs1_i (by omega), fs1_k (by omega), fs1_k (by omega), fs1_k (by omega), fs1_k (by omega), fs1_k (by omega), fs1_k (by omega), fs1_k (by omega)]
  exact h
/-- the end of the run -/
theorem SO_e (h : SO mc mr t s e) {e' : Int32} : SO (fs1 mc 14 9 e') (fs1 mr 52 24 e') t s e' := by
  obtain ⟨h1, h2, h3, h4, h5, h6, h7, h8, h9, h10, h11⟩ := h
  refine ⟨by rw [fs1_i (by omega)]; exact h1, by rw [fs1_i (by omega)]; exact h2, h3, by rw [fs1_i (by omega)]; exact h4, by rw [fs1_i (by omega)]; exact h5, h6, fun i a b => by rw [fs1_k (by omega), fs1_k (by omega)]; exact h7 i a b, by rw [fs1_i (by omega), fs1_i (by omega)]; exact h8, fs1_at, fs1_at, fun f hf => by rw [fs1_k (by omega), fs1_k (by omega)]; exact h11 f hf⟩
/-- another place of the last member -/
theorem SF_p (h : SF nn Jr mc mr q M pc pr) {pc' pr' : Nat} (h1 : pc' ≤ 24) (h2 : pr' ≤ 24) (hr : pc' = pr' ∨ (nn (M q) ≤ pc' ∧ nn (M q) ≤ pr')) : SF nn Jr (fs1 mc 18 q (nI pc')) (fs1 mr 69 q (nI pr')) q M pc' pr' := by
  obtain ⟨a1, a2, a3, a4, a5, a6, a7, a8, a9, a10, a11⟩ := h
  refine ⟨by rw [fs1_k (by omega)]; exact a1, by rw [fs1_k (by omega)]; exact a2, a3, fun i hi => by rw [fs1_k (by omega), fs1_k (by omega)]; exact a4 i hi, fun i hi r hr => by rw [fs1_k (by omega), fs1_k (by omega)]; exact a5 i hi r hr, h1, h2, fs1_at, fs1_at, hr, fun i hi => ?_⟩
  obtain ⟨p, b1, b2, b3, b4, b5⟩ := a11 i hi
  exact ⟨p, b1, b2, by rw [fs1_i (by omega)]; exact b3, by rw [fs1_i (by omega)]; exact b4, by rw [fs1_k (by omega)]; exact b5⟩
theorem SF_g (h : SF nn Jr mc mr q M pc pr) {r : Nat} (hr : r < 4) {x : Int32} : SF nn Jr (fs1 mc 17 (4 * q + r) x) (fs1 mr 71 (4 * q + r) x) q M pc pr := by
  obtain ⟨a1, a2, a3, a4, a5, a6, a7, a8, a9, a10, a11⟩ := h
  refine ⟨by rw [fs1_k (by omega)]; exact a1, by rw [fs1_k (by omega)]; exact a2, a3, fun i hi => by rw [fs1_k (by omega), fs1_k (by omega)]; exact a4 i hi, fun i hi r' hr' => ?_, a6, a7, by rw [fs1_k (by omega)]; exact a8, by rw [fs1_k (by omega)]; exact a9, a10, fun i hi => ?_⟩
  · by_cases e : 4 * i + r' = 4 * q + r
    · rw [e, fs1_at, fs1_at]
    · rw [fs1_i e, fs1_i e]; exact a5 i hi r' hr'
  · obtain ⟨p, b1, b2, b3, b4, b5⟩ := a11 i hi
    exact ⟨p, b1, b2, by rw [fs1_k (by omega)]; exact b3, by rw [fs1_k (by omega)]; exact b4, by rw [fs1_k (by omega)]; exact b5⟩
theorem SF_c {mc' mr' : fm} (h : SF nn Jr mc mr q M pc pr) (h1 : mc'.1 14 5 = mc.1 14 5) (h2 : mr'.1 52 23 = mr.1 52 23) (h3 : mc'.1 17 = mc.1 17 ∧ mc'.1 18 = mc.1 18 ∧ mc'.1 19 = mc.1 19) (h4 : mr'.1 68 = mr.1 68 ∧ mr'.1 69 = mr.1 69 ∧ mr'.1 70 = mr.1 70 ∧ mr'.1 71 = mr.1 71) : SF nn Jr mc' mr' q M pc pr := by
  unfold SF
  rw [h1, h2, h3.1, h3.2.1, h3.2.2, h4.1, h4.2.1, h4.2.2.1, h4.2.2.2]
  exact h
/-- a turn: it ends, or goes on with less left -/
def ST (nn : Nat → Nat) (Jr : Nat → cod) (mc mr mc' mr' : fm) (t q : Nat) : Prop := FRc mc mc' ∧ FRr mr mr' ∧ ∃ t' s' e', SO mc' mr' t' s' e' ∧ ((∃ k, k < 5 ∧ e' = nI k) ∨ (e' = -1 ∧ ∃ q' M' pc' pr', SF nn Jr mc' mr' q' M' pc' pr' ∧ 2 * (2000 - t') + q' < 2 * (2000 - t) + q))
end RU
