/-! which members are used: the reference -/
set_option maxRecDepth 100000 in
theorem um_or0 : ∀ t, t < 8 → ∀ x, x < 256 → nI x ||| ((nI 1) <<< (nI t &&& 31)) = nI (x ||| 2 ^ t) ∧ x ||| 2 ^ t < 256 := by decide +kernel
set_option maxRecDepth 100000 in
theorem um_bit0 : ∀ t, t < 8 → ∀ x, x < 256 → (nI x >>> (nI t &&& 31)) &&& nI 1 = nI (x.testBit t).toNat := by decide +kernel
set_option maxRecDepth 100000 in
theorem um_z0 : ∀ x, x < 256 → nI x ||| nI 0 = nI x := by decide +kernel
theorem um_tb0 (t : Nat) (_ : t < 8) (x : Nat) (_ : x < 256) (s : Nat) (_ : s < 8) : (x ||| 2 ^ t).testBit s = (x.testBit s || decide (s = t)) := by
  rw [Nat.testBit_or, Nat.testBit_two_pow]
  congr 1
  exact decide_eq_decide.mpr ⟨fun e => e.symm, fun e => e.symm⟩
theorem um_ext0 (x : Nat) (hx : x < 256) (y : Nat) (hy : y < 256) (h : ∀ s, s < 8 → x.testBit s = y.testBit s) : x = y := by
  apply Nat.eq_of_testBit_eq
  intro i
  by_cases hi : i < 8
  · exact h i hi
  · have e : 256 ≤ 2 ^ i := Nat.pow_le_pow_right (n := 2) (by omega) (show 8 ≤ i by omega)
    rw [Nat.testBit_lt_two_pow (by omega), Nat.testBit_lt_two_pow (by omega)]
def ALLR (m : fm) (N : Nat → Nat) (P : Nat → cod) : Prop := ∀ j, j < 8 → RR m j (N j) (P j)
def FW (m m' : fm) : Prop := (∀ k, k ≠ 52 → k ≠ 59 → m'.1 k = m.1 k) ∧ (∀ f, f ≠ 7 → f ≠ 8 → f ≠ 11 → f ≠ 15 → m'.1 52 f = m.1 52 f) ∧ (∀ k, k ≠ 60 → k ≠ 61 → m'.2 k = m.2 k)
theorem FW_r (m : fm) : FW m m := ⟨fun _ _ _ => rfl, fun _ _ _ _ _ => rfl, fun _ _ _ => rfl⟩
theorem FW_t {m m' m'' : fm} (h1 : FW m m') (h2 : FW m' m'') : FW m m'' := ⟨fun k a b => (h2.1 k a b).trans (h1.1 k a b), fun f a b c d => (h2.2.1 f a b c d).trans (h1.2.1 f a b c d), fun k a b => (h2.2.2 k a b).trans (h1.2.2 k a b)⟩
theorem FW_K {m m' : fm} (h : FK m m') : FW m m' := ⟨h.1, fun f a b c _ => h.2.1 f a b c, h.2.2⟩
theorem RR_f {m m' : fm} {o n : Nat} {I : cod} (h : RR m o n I) (h57 : m'.1 57 o = m.1 57 o) (h3 : m'.1 53 = m.1 53) (h4 : m'.1 54 = m.1 54) (h5 : m'.1 55 = m.1 55) (h6 : m'.1 56 = m.1 56) : RR m' o n I := by
  unfold RR
  rw [h57, h3, h4, h5, h6]
  exact h
theorem ALLR_f {m m' : fm} {N : Nat → Nat} {P : Nat → cod} (h : ALLR m N P) (hF : FW m m') : ALLR m' N P := fun j hj => RR_f (h j hj) (by rw [hF.1 57 (by omega) (by omega)]) (hF.1 53 (by omega) (by omega)) (hF.1 54 (by omega) (by omega)) (hF.1 55 (by omega) (by omega)) (hF.1 56 (by omega) (by omega))
/-- the mask of the used ones -/
def UM (m : fm) (x : Nat) (u : Nat → Bool) : Prop := m.1 52 15 = nI x ∧ x < 256 ∧ ∀ j, j < 8 → x.testBit j = u j
section U3
variable {m : fm} {R : Nat → Bool} {N : Nat → Nat} {P : Nat → cod} {o n x : Nat} {I : cod} {u : Nat → Bool}
theorem KS_w {m' : fm} (hs : KS m o n I) (hF : ∀ k, k ≠ 52 → m'.1 k = m.1 k) (h7 : m'.1 52 7 = m.1 52 7) (h8 : m'.1 52 8 = m.1 52 8) : KS m' o n I := by
  refine ⟨RR_f hs.1 (by rw [hF 57 (by omega)]) (hF 53 (by omega)) (hF 54 (by omega)) (hF 55 (by omega)) (hF 56 (by omega)), by rw [h7]; exact hs.2.1, by rw [h8]; exact hs.2.2⟩
/-- only used changes -/
def F15 (m m' : fm) : Prop := (∀ k, k ≠ 52 → m'.1 k = m.1 k) ∧ (∀ f, f ≠ 15 → m'.1 52 f = m.1 52 f) ∧ m'.2 = m.2
theorem F15_r (m : fm) : F15 m m := ⟨fun _ _ => rfl, fun _ _ => rfl, rfl⟩
theorem F15_t {m m' m'' : fm} (h1 : F15 m m') (h2 : F15 m' m'') : F15 m m'' := ⟨fun k a => (h2.1 k a).trans (h1.1 k a), fun f a => (h2.2.1 f a).trans (h1.2.1 f a), h2.2.2.trans h1.2.2⟩
theorem F15_W {m m' : fm} (h : F15 m m') : FW m m' := ⟨fun k a _ => h.1 k a, fun f _ _ _ d => h.2.1 f d, fun k _ _ => by rw [h.2.2]⟩
theorem F15_s {y : Int32} : F15 m (fs1 m 52 15 y) := ⟨fun _ h => fs1_k h, fun _ h => fs1_i h, rfl⟩
theorem g84_r {x1 x2 : Int32} (hs : KS m o n I) (hw : WF n I) (hR : RA m (FV I n)) (hu : UM m x u) : ob (g123_84 x1 x2 (nI 0) m) (fun b => ∃ m' x', b = .inl (x2 + nI 1, m') ∧ F15 m m' ∧ UM m' x' (orB u (fun f => hit I n 9 f))) := by
  have hn := hw.1
  unfold g123_84
  refine wl_c (f := fun s : Int32 × fm => s123_84 x1 x2 s.1 s.2) (fun i s => ∃ mi x', s = (nI i, mi) ∧ F15 m mi ∧ UM mi x' (orB u (fun f => anyp (ht I n 9 f) i))) n (by omega) (nI 0, m) ⟨m, x, rfl, F15_r m, by rw [orB_0]; exact hu⟩ (fun i s hi hss => ?_) (fun s hss => ?_)
  · obtain ⟨mi, x', rfl, hF, h1, h2, h3⟩ := hss
    have hsi : KS mi o n I := KS_w hs hF.1 (hF.2.1 7 (by omega)) (hF.2.1 8 (by omega))
    have hRi : RA mi (FV I n) := RA_c (hF.1 59 (by omega)) (by rw [hF.2.2]) hR
    have hio := ix_o hs.1.1 (show i < 24 by omega)
    obtain ⟨ek, -, eb, -⟩ := hsi.1.2.2 i hi
    show ob (s123_84 x1 x2 (nI i) mi) _
    unfold s123_84 g123_138
    simp only [dx_gfI]
    rw [hsi.2.1, hsi.2.2, h1, dx_ge (by omega) (by omega), decide_eq_false (by omega), cond_false, dx_ldI (by omega) (by omega), nI_add, nI_add, dx_ldI hio (by omega), ek, dx_ldI hio (by omega), eb, um_z0 x' h2, dx_pfI, dx_pfI]
    have same : (∀ f, ht I n 9 f i = false) → ∃ mi' x'', (Sum.inl (nI (i + 1), fs1 mi 52 15 (nI x')) : (Int32 × fm) ⊕ ((Int32 × fm) ⊕ ((Int32 × fm) ⊕ fm))) = .inl (nI (i + 1), mi') ∧ F15 m mi' ∧ UM mi' x'' (orB u (fun f => anyp (ht I n 9 f) (i + 1))) := by
      intro hno
      refine ⟨_, x', rfl, F15_t hF F15_s, fs1_at, h2, fun j hj => ?_⟩
      rw [h3 j hj]
      show (u j || anyp (ht I n 9 j) i) = (u j || (anyp (ht I n 9 j) i || ht I n 9 j i))
      rw [hno j, Bool.or_false]
    have fin : (∀ f, ht I n 9 f i = false) → ob (some (Sum.inl (nI (i + 1), fs1 mi 52 15 (nI x')) : (Int32 × fm) ⊕ ((Int32 × fm) ⊕ ((Int32 × fm) ⊕ fm)))) (Sum.elim (fun s => ∃ mi x', s = (nI (i + 1), mi) ∧ F15 m mi ∧ UM mi x' (orB u (fun f => anyp (ht I n 9 f) (i + 1)))) (fun b => ∃ m' x', b = .inl (x2 + nI 1, m') ∧ F15 m m' ∧ UM m' x' (orB u (fun f => hit I n 9 f)))) := by
      intro hno
      obtain ⟨a, b, c, d⟩ := same hno
      exact ⟨a, b, Sum.inl.inj c, d⟩
    rcases RA_N hRi (show i < 24 by omega) with h | h
    · rw [h.1, dx_eq0 (by omega), decide_eq_true rfl, cond_true]
      refine fin (fun f => ?_)
      unfold ht
      rw [decide_eq_false (fun z => z h.2)]; rfl
    · rw [h.1, dx_eq0 (by omega), decide_eq_false (by omega), cond_false, dx_ne (by have := WF_k hw hi; omega) (by omega)]
      by_cases h9 : kd I i = 9
      · have hb := WF_m hw hi h9
        rw [decide_eq_false (fun z => z h9), cond_false, hb.1, (um_or0 _ hb.2 _ h2).1]
        refine ⟨_, x' ||| 2 ^ bn I i, rfl, F15_t hF F15_s, fs1_at, (um_or0 _ hb.2 _ h2).2, fun j hj => ?_⟩
        rw [um_tb0 _ hb.2 _ h2 j hj, h3 j hj]
        show (u j || anyp (ht I n 9 j) i || _) = (u j || (anyp (ht I n 9 j) i || ht I n 9 j i))
        rw [Bool.or_assoc]
        congr 2
        unfold ht
        rw [decide_eq_true h.2, decide_eq_true h9, Bool.true_and, Bool.true_and]
        exact decide_eq_decide.mpr ⟨fun e => e.symm, fun e => e.symm⟩
      · rw [decide_eq_true h9, cond_true]
        refine fin (fun f => ?_)
        unfold ht
        rw [decide_eq_false h9, Bool.and_false, Bool.false_and]
  · obtain ⟨mi, x', rfl, hF, hum⟩ := hss
    have hsi : KS mi o n I := KS_w hs hF.1 (hF.2.1 7 (by omega)) (hF.2.1 8 (by omega))
    show ob (s123_84 x1 x2 (nI n) mi) _
    unfold s123_84
    rw [dx_gfI, hsi.2.1, dx_ge (by omega) (by omega), decide_eq_true (Nat.le_refl _), cond_true]
    exact ⟨mi, x', rfl, hF, hum⟩
/-- the members below i that were used before: their calls -/
def stp (P : Nat → cod) (N : Nat → Nat) (b u : Nat → Bool) : Nat → Nat → Bool
  | 0 => u
  | i + 1 => if b i = true then orB (stp P N b u i) (fun f => hit (P i) (N i) 9 f) else stp P N b u i
theorem stp_1 {b : Nat → Bool} {i : Nat} : stp P N b u (i + 1) = if b i = true then orB (stp P N b u i) (fun f => hit (P i) (N i) 9 f) else stp P N b u i := rfl
theorem g61_r {y : Nat} {b : Nat → Bool} (hy : y < 256) (hb : ∀ j, j < 8 → y.testBit j = b j) (hR : ALLR m N P) (hW : ALLW N P) (hu : UM m x u) : ob (g123_61 (nI y) (nI 0) m) (fun z => ∃ m' x', z = .inl (nI y, m') ∧ FW m m' ∧ UM m' x' (stp P N b u 8)) := by
  unfold g123_61
  refine wl_c (f := fun s : Int32 × fm => s123_61 (nI y) s.1 s.2) (fun i s => ∃ mi x', s = (nI i, mi) ∧ FW m mi ∧ UM mi x' (stp P N b u i)) 8 (by omega) (nI 0, m) ⟨m, x, rfl, FW_r m, hu⟩ (fun i s hi hss => ?_) (fun s hss => ?_)
  · obtain ⟨mi, x', rfl, hF, hum⟩ := hss
    show ob (s123_61 (nI y) (nI i) mi) _
    unfold s123_61
    rw [dx_ge (by omega) (by omega), decide_eq_false (by omega), cond_false, um_bit0 i hi y hy, hb i hi, nI_add, dx_ne (by have := bt2 (b i); omega) (by omega)]
    cases hbi : b i with
    | false =>
      rw [show decide (¬ (false.toNat = 1)) = true by decide, cond_true]
      exact ⟨mi, x', rfl, hF, by rw [stp_1, hbi, if_neg Bool.false_ne_true]; exact hum⟩
    | true =>
      rw [show decide (¬ (true.toNat = 1)) = false by decide, cond_false]
      have hr : RR mi (8 * 0 + i) (N i) (P i) := by rw [show 8 * 0 + i = i by omega]; exact ALLR_f hR hF i hi
      refine ob_1 (ob_m (g113_r hr (hW i hi) hi (by omega)) (fun m1 h1 => ?_))
      obtain ⟨f1, s1, r1⟩ := h1
      have hum1 : UM m1 x' (stp P N b u i) := ⟨by rw [f1.2.1 15 (by omega) (by omega) (by omega)]; exact hum.1, hum.2⟩
      refine ob_m (g84_r s1 (hW i hi) r1 hum1) (fun z hz => ?_)
      obtain ⟨m2, x2, rfl, f2, u2⟩ := hz
      rw [nI_add]
      exact ⟨m2, x2, rfl, FW_t hF (FW_t (FW_K f1) (F15_W f2)), by rw [stp_1, hbi, if_pos rfl]; exact u2⟩
  · obtain ⟨mi, x', rfl, hF, hum⟩ := hss
    show ob (s123_61 (nI y) (nI 8) mi) _
    unfold s123_61
    rw [dx_ge (by omega) (by omega), decide_eq_true (by omega), cond_true]
    exact ⟨mi, x', rfl, hF, hum⟩
end U3
