theorem st1_0 : ∀ k, k < 18 → ai_c .ne (nI k &&& nI 1) (nI 1) = true ∧ stb k = false ∨ ai_c .ne (nI k &&& nI 1) (nI 1) = false ∧ ai_c .ne (nI k &&& nI 28) 0 = !(stb k) := by decide +kernel
section L2
variable {m : fm} {o n p t : Nat} {I J : cod}
theorem mk_v {A : Nat → Int64} {V : Nat → Nat} : mk I A V p = 0 ∨ mk I A V p = 1 ∨ mk I A V p = 3 ∨ mk I A V p = 5 ∨ mk I A V p = 9 ∨ mk I A V p = 17 := by
  have h2 := tk_c (I := I) (A := A) (p := p)
  unfold mk idl
  split
  · omega
  · split
    · split <;> omega
    · split
      · split
        · omega
        · split
          · omega
          · split <;> omega
      · split
        · omega
        · split
          · split
            · omega
            · split <;> omega
          · omega
theorem go2_0 {k : Nat} (h : k = 0 ∨ k = 1 ∨ k = 3 ∨ k = 5 ∨ k = 9 ∨ k = 17) : ai_c .ne (nI k &&& nI 2) (nI 2) = !(decide (k = 3)) := by
  rcases h with rfl | rfl | rfl | rfl | rfl | rfl <;> decide +kernel
def F65 (m m' : fm) : Prop := (∀ k, k ≠ 64 → k ≠ 65 → m'.1 k = m.1 k) ∧ m'.2 = m.2
theorem F65_r (m : fm) : F65 m m := ⟨fun _ _ _ => rfl, rfl⟩
theorem F65_t {m m' m'' : fm} (h1 : F65 m m') (h2 : F65 m' m'') : F65 m m'' := ⟨fun k a b => (h2.1 k a b).trans (h1.1 k a b), h2.2.trans h1.2⟩
theorem F65_B {m m' : fm} (h : F65 m m') : FB o m m' := ⟨fun k _ _ _ d => h.1 k (by omega) (by omega), fun f _ _ _ => by rw [h.1 52 (by omega) (by omega)], fun k a b i _ => by rw [h.1 k (by omega) (by omega)], fun i _ => by rw [h.1 57 (by omega) (by omega)], fun k _ _ => by rw [h.2]⟩
theorem KS_65 {m' : fm} (hs : KS m o n I) (hF : F65 m m') : KS m' o n I := by
  unfold KS RR
  rw [hF.1 57 (by omega) (by omega), hF.1 52 (by omega) (by omega), hF.1 53 (by omega) (by omega), hF.1 54 (by omega) (by omega), hF.1 55 (by omega) (by omega), hF.1 56 (by omega) (by omega)]
  exact hs
noncomputable def isg (I : cod) (n p : Nat) : Bool := !(sty I n p) || decide (MK I n p = 3)
set_option maxHeartbeats 1000000 in
theorem s10_r {x1 : Int32} (hs : KS m o n I) (hw : WF n I) (hR : RA m (FV I n)) (h62 : ∀ p, p < 24 → m.1 62 p = nI (VV I n p)) (hV : ∀ p, VV I n p < 16) (hp : p < n) {b : Bool} : s132_10 x1 (bI b) (nI p) m = some (.inl (bI (b || isg I n p), nI (p + 1), fs1 (fs1 m 64 p (bI (sty I n p))) 65 p (bI (decide (MK I n p = 3))))) := by
  have hn := hw.1
  have hm18 : MK I n p < 18 := mk_18
  have es : sty I n p = stb (MK I n p) := by unfold sty; rw [decide_eq_true hp]; rfl
  have h70 : ∀ y : Bool, y = decide (MK I n p = 3) → g132_70 x1 (bI b) (nI p) (bI y) (nI p) (fs1 m 64 p (bI (sty I n p))) = some (.inl (bI (b || isg I n p), nI (p + 1), fs1 (fs1 m 64 p (bI (sty I n p))) 65 p (bI y))) := by
    intro y hy
    unfold g132_70 g132_93
    show stB _ 65 25 (nI p) (nI y.toNat) _ = _
    rw [dx_stB (by omega) (by omega) (bt2 y), bI_ne, nI_add]
    rw [dx_ldI (by omega) (by omega), fs1_k (by omega), fs1_at, bI_eq, dx_ldI (by omega) (by omega), fs1_at, show nI y.toNat = bI y from rfl, bI_eq]
    unfold isg
    rw [← hy]
    cases b with
    | true => rfl
    | false =>
      cases sty I n p <;> cases y <;> rfl
  have h51 : ∀ y : Bool, y = sty I n p → g132_51 x1 (bI b) (nI p) (nI (MK I n p)) (bI y) (nI p) m = some (.inl (bI (b || isg I n p), nI (p + 1), fs1 (fs1 m 64 p (bI (sty I n p))) 65 p (bI (decide (MK I n p = 3))))) := by
    intro y hy
    unfold g132_51
    show stB _ 64 25 (nI p) (nI y.toNat) _ = _
    have hmv : MK I n p = 0 ∨ MK I n p = 1 ∨ MK I n p = 3 ∨ MK I n p = 5 ∨ MK I n p = 9 ∨ MK I n p = 17 := mk_v
    rw [dx_stB (by omega) (by omega) (bt2 y), go2_0 hmv, show nI y.toNat = bI y from rfl, hy]
    cases h3 : decide (MK I n p = 3) with
    | true => exact h70 true h3.symm
    | false => exact h70 false h3.symm
  unfold s132_10
  rw [dx_gfI, hs.2.1, dx_ge (by omega) (by omega), decide_eq_false (by omega), cond_false, g118_r hs hw hR hp (hV p) (h62 p (by omega)), dx_cl2, show mk I (FV I n) (VV I n) p = MK I n p from rfl]
  rcases st1_0 _ hm18 with ⟨h1, h2⟩ | ⟨h1, h2⟩
  · rw [h1, cond_true]
    exact h51 false (by rw [es, h2])
  · rw [h1, cond_false, h2]
    cases h3 : stb (MK I n p) with
    | true => exact h51 true (by rw [es, h3])
    | false => exact h51 false (by rw [es, h3])
/-- the second loop -/
theorem g110l_r {j : Nat} (hj : j < 8) (ho : o = 8 + j) (hw : WF n I) (hz : NZ n I) (hr : RR m o n I) (h7 : m.1 52 7 = nI n) (h8 : m.1 52 8 = nI (24 * o)) (h64 : ∀ p, p < n → m.1 64 p = bI (sty I n p)) (h65 : ∀ p, p < n → m.1 65 p = bI (decide (MK I n p = 3))) {b : Bool} (hb : b = isf I n) : ob (g132_110 (nI j) (bI b) (nI 0) (nI 0) m) (fun r => FB o m r.2 ∧ r.1 = bI b ∧ (if b = true then RR r.2 o (sa I n n) (wI I n n) else RR r.2 o n I)) := by
  have hn := hw.1
  have hl := sa_le (I := I) (n := n) n
  have h330 : ∀ (mi : fm) (x3 : Int32), mi.1 52 7 = nI n → g132_330 (nI j) (bI b) x3 mi = some (bI b, fs1 mi 57 o (if b = true then x3 else nI n)) := by
    intro mi x3 h7i
    unfold g132_330
    rw [bI_eq, dx_gfI, h7i, nI_add, dx_stI (by omega) (by omega), dx_stI (by omega) (by omega), show rtB (bI b) = rtB (nI b.toNat) from rfl, dx_rtB (bt2 b), dx_rtB (bt2 b), ho]
    cases b <;> rfl
  unfold g132_110
  cases hbb : b with
  | false =>
    show ob _ (fun r : Int32 × fm => FB o m r.2 ∧ r.1 = bI false ∧ RR r.2 o n I)
    refine wl_c (f := fun s : Int32 × Int32 × fm => s132_110 (nI j) (bI false) s.1 s.2.1 s.2.2) (fun _ s => s = (nI 0, nI 0, m)) 0 (by omega) (nI 0, nI 0, m) rfl (fun i s hi _ => absurd hi (by omega)) (fun s hss => ?_)
    subst hss
    show ob (s132_110 (nI j) (bI false) (nI 0) (nI 0) m) _
    have h330' := h330 m (nI 0) h7
    rw [hbb, if_neg Bool.false_ne_true] at h330'
    unfold s132_110
    rw [dx_gfI, h7, bI_eq, dx_cif_t, h330']
    refine ⟨⟨fun k _ h _ _ => fs1_k (by omega), fun f _ _ _ => by rw [fs1_k (by omega)], fun k a b i _ => by rw [fs1_k (by omega)], fun i h => fs1_i h, fun _ _ _ => rfl⟩, rfl, hr.1, fs1_at, fun p hp => ?_⟩
    show (fs1 m 57 o (nI n)).1 53 _ = _ ∧ (fs1 m 57 o (nI n)).1 54 _ = _ ∧ (fs1 m 57 o (nI n)).1 55 _ = _ ∧ (fs1 m 57 o (nI n)).1 56 _ = _
    rw [fs1_k (by omega), fs1_k (by omega), fs1_k (by omega), fs1_k (by omega)]
    exact hr.2.2 p hp
  | true =>
    show ob _ (fun r : Int32 × fm => FB o m r.2 ∧ r.1 = bI true ∧ RR r.2 o (sa I n n) (wI I n n))
    refine wl_c (f := fun s : Int32 × Int32 × fm => s132_110 (nI j) (bI true) s.1 s.2.1 s.2.2) (fun i s => ∃ mi, s = (nI (sa I n i), nI i, mi) ∧ (∀ k, k < 53 ∨ 56 < k → mi.1 k = m.1 k) ∧ mi.2 = m.2 ∧ RC mi o n (wI I n i) ∧ (∀ k, 53 ≤ k → k ≤ 56 → ∀ q, q < 24 * o ∨ 24 * o + 24 ≤ q → mi.1 k q = m.1 k q)) n (by omega) (nI 0, nI 0, m) ⟨m, rfl, fun _ _ => rfl, rfl, hr.2.2, fun _ _ _ _ _ => rfl⟩ (fun i s hi hss => ?_) (fun s hss => ?_)
    · obtain ⟨mi, rfl, hF, h2, hc, ho2⟩ := hss
      show ob (s132_110 (nI j) (nI 1) (nI (sa I n i)) (nI i) mi) _
      have e52 := hF 52 (by omega)
      have ho1 := hr.1
      have hli := sa_le (I := I) (n := n) i
      have h64i : ∀ p, p < n → mi.1 64 p = bI (sty I n p) := fun p hp => by rw [hF 64 (by omega)]; exact h64 p hp
      have h65i : ∀ p, p < n → mi.1 65 p = bI (decide (MK I n p = 3)) := fun p hp => by rw [hF 65 (by omega)]; exact h65 p hp
      cases hst : sty I n i with
      | true =>
        rw [s110_r ho1 hw hz (by rw [e52]; exact h7) (by rw [e52]; exact h8) hc (wI_o i i (Nat.le_refl i)) h64i h65i hi hst]
        refine ⟨wr5 mi (24 * o + sa I n i) (nI (tr I n i).1) (nI (tr I n i).2.1) (tr I n i).2.2.1 (nI (tr I n i).2.2.2), ?_, fun k hk => by rw [wr5_k (by omega)]; exact hF k hk, h2, ?_, fun k a b q hq => ?_⟩
        · rw [sa_1, hst]; rfl
        · rw [wI_1, hst]; exact RC_w hc
        · rw [wr5_i a b (by omega)]; exact ho2 k a b q hq
      | false =>
        unfold s132_110
        rw [dx_gfI, e52, h7, dx_ge (by omega) (by omega), decide_eq_false (by omega), cond_false, show ai_c .eq (nI 1) 0 = false by decide +kernel, cond_false, dx_ldI (by omega) (by omega), h64i i hi, hst, bI_eq, Bool.not_false, cond_true, nI_add]
        refine ⟨mi, ?_, hF, h2, ?_, ho2⟩
        · rw [sa_1, hst]; rfl
        · rw [wI_1, hst]; exact hc
    · obtain ⟨mi, rfl, hF, h2, hc, ho2⟩ := hss
      show ob (s132_110 (nI j) (bI true) (nI (sa I n n)) (nI n) mi) _
      have e52 := hF 52 (by omega)
      have h330' := h330 mi (nI (sa I n n)) (by rw [e52]; exact h7)
      rw [hbb, if_pos rfl] at h330'
      unfold s132_110
      rw [dx_gfI, e52, h7, dx_ge (by omega) (by omega), decide_eq_true (Nat.le_refl _), cond_true, h330']
      refine ⟨⟨fun k _ h _ _ => by rw [fs1_k (by omega)]; exact hF k (by omega), fun f _ _ _ => by rw [fs1_k (by omega), e52], fun k a b i hi => by rw [fs1_k (by omega)]; exact ho2 k a b i hi, fun i h => by rw [fs1_i h, hF 57 (by omega)], fun k _ _ => by show mi.2 k = m.2 k; rw [h2]⟩, rfl, hr.1, fs1_at, fun p hp => ?_⟩
      show (fs1 mi 57 o (nI (sa I n n))).1 53 _ = _ ∧ (fs1 mi 57 o (nI (sa I n n))).1 54 _ = _ ∧ (fs1 mi 57 o (nI (sa I n n))).1 55 _ = _ ∧ (fs1 mi 57 o (nI (sa I n n))).1 56 _ = _
      rw [fs1_k (by omega), fs1_k (by omega), fs1_k (by omega), fs1_k (by omega)]
      exact hc p (by omega)
theorem g132_r {j : Nat} (hj : j < 8) (hr : RR m (8 + j) n I) (hw : WF n I) (hz : NZ n I) : ob (g132 (nI j) m) (fun r => FB (8 + j) m r.2 ∧ r.1 = bI (isf I n) ∧ (if isf I n = true then RR r.2 (8 + j) (sa I n n) (wI I n n) else RR r.2 (8 + j) n I)) := by
  have hn := hw.1
  have hr' : RR m (8 * 1 + j) n I := hr
  unfold g132
  refine ob_1 (ob_m (g116_r hr' hw hj (by omega)) (fun m1 h1 => ?_))
  obtain ⟨f1, s1, r1, V, hV, h62⟩ := h1
  have s1 : KS m1 (8 + j) n I := s1
  have hV16 := hV.1
  rw [VV_e hV] at h62 hV16
  unfold g132_10
  refine wl_c (f := fun s : Int32 × Int32 × fm => s132_10 (nI j) s.1 s.2.1 s.2.2) (fun i s => ∃ mi, s = (bI (anyp (isg I n) i), nI i, mi) ∧ F65 m1 mi ∧ (∀ p, p < i → mi.1 64 p = bI (sty I n p)) ∧ (∀ p, p < i → mi.1 65 p = bI (decide (MK I n p = 3)))) n (by omega) (nI 0, nI 0, m1) ⟨m1, rfl, F65_r m1, fun p hp => absurd hp (by omega), fun p hp => absurd hp (by omega)⟩ (fun i s hi hss => ?_) (fun s hss => ?_)
  · obtain ⟨mi, rfl, hF, a64, a65⟩ := hss
    show ob (s132_10 (nI j) _ (nI i) mi) _
    rw [s10_r (KS_65 s1 hF) hw (RA_c (hF.1 59 (by omega) (by omega)) (by rw [hF.2]) r1) (fun p hp => by rw [hF.1 62 (by omega) (by omega)]; exact h62 p hp) hV16 hi]
    refine ⟨fs1 (fs1 mi 64 i (bI (sty I n i))) 65 i (bI (decide (MK I n i = 3))), by rw [anyp_1], F65_t hF ⟨fun k h1 h2 => by rw [fs1_k h2, fs1_k h1], rfl⟩, fun p hp => ?_, fun p hp => ?_⟩
    · rw [fs1_k (by omega)]
      by_cases e : p = i
      · subst e; exact fs1_at
      · rw [fs1_i e]; exact a64 p (by omega)
    · by_cases e : p = i
      · subst e; exact fs1_at
      · rw [fs1_i e, fs1_k (by omega)]; exact a65 p (by omega)
  · obtain ⟨mi, rfl, hF, a64, a65⟩ := hss
    have si := KS_65 s1 hF
    show ob (s132_10 (nI j) _ (nI n) mi) _
    unfold s132_10
    rw [dx_gfI, si.2.1, dx_ge (by omega) (by omega), decide_eq_true (Nat.le_refl _), cond_true]
    refine ob_mp (ob_m (g110l_r hj rfl hw hz si.1 si.2.1 si.2.2 a64 a65 (b := anyp (isg I n) n) rfl) (fun r h => ⟨FB_t (FB_D f1) (FB_t (F65_B hF) h.1), h.2⟩))
theorem g145_r {j Nj : Nat} {x1 : Int32} (hj : j < 8) (k : Nat) : ∀ (I : cod) (n : Nat) (m : fm) (fuel : Nat), RR m (8 + j) n I → WF n I → NZ n I → m.1 57 j = nI Nj → Wz I n < k → k + 1 < fuel → ob (wl (fun s : Int32 × fm => s133_145 x1 (nI j) s.1 s.2) fuel (bI true, m)) (fun z => ∃ m', z = .inl (x1 + (nI Nj - nI (Rf k I n).2), nI (j + 1), m') ∧ FB (8 + j) m m' ∧ RR m' (8 + j) (Rf k I n).2 (Rf k I n).1 ∧ WF (Rf k I n).2 (Rf k I n).1) := by
  induction k with
  | zero => intro I n m fuel _ _ _ _ h; exact absurd h (Nat.not_lt_zero _)
  | succ k ih =>
    intro I n m fuel hr hw hz h57 hW hfu
    obtain ⟨fuel, rfl⟩ : ∃ f, fuel = f + 2 := ⟨fuel - 2, by omega⟩
    obtain ⟨r, e, a1, a2, a3⟩ := ob_ex (g132_r hj hr hw hz)
    have hst : s133_145 x1 (nI j) (bI true) m = some (.inl (bI (isf I n), r.2)) := by
      unfold s133_145
      rw [bI_eq, Bool.not_true, cond_false, e]
      show some (Sum.inl (r.1, r.2)) = _
      rw [a2]
    have e57 : r.2.1 57 j = nI Nj := by rw [a1.2.2.2.1 j (by omega)]; exact h57
    rw [show fuel + 2 = fuel + 1 + 1 from rfl, wl_step hst]
    have hl := sa_le (I := I) (n := n) n
    unfold Rf
    cases hf : isf I n with
    | true =>
      rw [hf, if_pos rfl] at a3
      rw [if_pos rfl]
      have := (Wz_w (I := I) (n := n) n).2 hf
      have hw1 : WF (sa I n n) (wI I n n) := ⟨by have := hw.1; omega, fun p hp => (wI_WF hw (Nat.le_refl n)).2 p (by omega)⟩
      have hz1 : NZ (sa I n n) (wI I n n) := fun p hp => wI_NZ hz (Nat.le_refl n) p (by omega)
      exact ob_m (ih (wI I n n) (sa I n n) r.2 (fuel + 1) a3 hw1 hz1 e57 (by omega) (by omega)) (fun z hz => by
        obtain ⟨m', b1, b2, b3⟩ := hz
        exact ⟨m', b1, FB_t a1 b2, b3⟩)
    | false =>
      rw [hf, if_neg Bool.false_ne_true] at a3
      rw [if_neg Bool.false_ne_true]
      unfold wl s133_145
      rw [bI_eq, Bool.not_false, cond_true, dx_ldI (by omega) (by omega), e57, nI_add, dx_ldI (by omega) (by omega), a3.2.1, nI_add]
      exact ⟨r.2, rfl, a1, a3, hw⟩
end L2
