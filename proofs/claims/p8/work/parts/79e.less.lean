/-! isLessened of the reference -/
def RC (m : fm) (o n : Nat) (I : cod) : Prop := ∀ p, p < n → m.1 53 (24 * o + p) = nI (kd I p) ∧ m.1 54 (24 * o + p) = nI (ra I p) ∧ m.1 55 (24 * o + p) = rb I p ∧ m.1 56 (24 * o + p) = nI (rc I p)
def wr5 (m : fm) (i : Nat) (k a b e : Int32) : fm := fs1 (fs1 (fs1 (fs1 m 53 i k) 54 i a) 55 i b) 56 i e
def FB (o : Nat) (m m' : fm) : Prop := (∀ k, k ≠ 52 → (k < 53 ∨ 57 < k) → k ≠ 59 → (k < 62 ∨ 65 < k) → m'.1 k = m.1 k) ∧ (∀ f, f ≠ 7 → f ≠ 8 → f ≠ 11 → m'.1 52 f = m.1 52 f) ∧ (∀ k, 53 ≤ k → k ≤ 56 → ∀ i, i < 24 * o ∨ 24 * o + 24 ≤ i → m'.1 k i = m.1 k i) ∧ (∀ i, ¬ i = o → m'.1 57 i = m.1 57 i) ∧ (∀ k, k ≠ 60 → k ≠ 61 → m'.2 k = m.2 k)
theorem FB_r (o : Nat) (m : fm) : FB o m m := ⟨fun _ _ _ _ _ => rfl, fun _ _ _ _ => rfl, fun _ _ _ _ _ => rfl, fun _ _ => rfl, fun _ _ _ => rfl⟩
theorem FB_t {o : Nat} {m m' m'' : fm} (h1 : FB o m m') (h2 : FB o m' m'') : FB o m m'' := ⟨fun k a b c d => (h2.1 k a b c d).trans (h1.1 k a b c d), fun f a b c => (h2.2.1 f a b c).trans (h1.2.1 f a b c), fun k a b i c => (h2.2.2.1 k a b i c).trans (h1.2.2.1 k a b i c), fun i a => (h2.2.2.2.1 i a).trans (h1.2.2.2.1 i a), fun k a b => (h2.2.2.2.2 k a b).trans (h1.2.2.2.2 k a b)⟩
theorem FB_D {o : Nat} {m m' : fm} (h : FD m m') : FB o m m' := ⟨fun k a _ c d => h.1 k a c (by omega) (by omega), h.2.1, fun k a b i _ => by rw [h.1 k (by omega) (by omega) (by omega) (by omega)], fun i _ => by rw [h.1 57 (by omega) (by omega) (by omega) (by omega)], h.2.2⟩
section LS
variable {m : fm} {o n p t : Nat} {I J : cod}
theorem g131_s (h7 : m.1 52 7 = nI n) (hn : n ≤ 24) (h64 : ∀ p, p < n → m.1 64 p = bI (sty I n p)) {a : Nat} (ha : a ≤ 24) : g131 (nI a) m = some (nI (sa I n a), m) := by
  have h : ob (g131 (nI a) m) (fun r => r = (nI (sa I n a), m)) := by
    unfold g131 g131_4
    have em : sa I n (min a n) = sa I n a := by
      by_cases h : a ≤ n
      · rw [Nat.min_eq_left h]
      · rw [Nat.min_eq_right (by omega), sa_hi (t := a) (by omega)]
    refine wl_c (f := fun s : Int32 × Int32 × fm => s131_4 (nI a) s.1 s.2.1 s.2.2) (fun i s => s = (nI (sa I n i), nI i, m)) (min a n) (by omega) (nI 0, nI 0, m) rfl (fun i s hi hss => ?_) (fun s hss => ?_)
    · subst hss
      show ob (s131_4 (nI a) _ (nI i) m) _
      unfold s131_4
      rw [dx_ge (by omega) (by omega), decide_eq_false (by omega), cond_false, dx_gfI, h7, dx_ge (by omega) (by omega), decide_eq_false (by omega), cond_false, dx_ldI (by omega) (by omega), h64 i (by omega), bI_eq, nI_add, nI_add, nI_add]
      show ob _ (Sum.elim (fun s => s = (nI (sa I n i + (sty I n i).toNat), nI (i + 1), m)) _)
      cases sty I n i <;> rfl
    · subst hss
      show ob (s131_4 (nI a) _ (nI (min a n)) m) _
      unfold s131_4
      rw [dx_ge (by omega) (by omega), dx_gfI, h7, dx_ge (by omega) (by omega), em]
      by_cases h : a ≤ n
      · rw [decide_eq_true (by omega)]; rfl
      · rw [decide_eq_false (by omega), cond_false, decide_eq_true (by omega)]; rfl
  obtain ⟨b, h1, h2⟩ := ob_ex h
  rw [h1, h2]
theorem wr5_k {i k : Nat} {x a b e : Int32} (h : k < 53 ∨ 56 < k) : (wr5 m i x a b e).1 k = m.1 k := by
  unfold wr5
  rw [fs1_k (by omega), fs1_k (by omega), fs1_k (by omega), fs1_k (by omega)]
theorem wr5_i {i k j : Nat} {x a b e : Int32} (hk : 53 ≤ k) (hk2 : k ≤ 56) (h : ¬ j = i) : (wr5 m i x a b e).1 k j = m.1 k j := by
  unfold wr5 fs1
  show (if k = 56 ∧ j = i then e else if k = 55 ∧ j = i then b else if k = 54 ∧ j = i then a else if k = 53 ∧ j = i then x else m.1 k j) = _
  rw [if_neg (fun z => h z.2), if_neg (fun z => h z.2), if_neg (fun z => h z.2), if_neg (fun z => h z.2)]
theorem wr5_s {i : Nat} {x a b e : Int32} : (wr5 m i x a b e).1 53 i = x ∧ (wr5 m i x a b e).1 54 i = a ∧ (wr5 m i x a b e).1 55 i = b ∧ (wr5 m i x a b e).1 56 i = e := by
  unfold wr5
  refine ⟨?_, ?_, ?_, fs1_at⟩
  · rw [fs1_k (by omega), fs1_k (by omega), fs1_k (by omega), fs1_at]
  · rw [fs1_k (by omega), fs1_k (by omega), fs1_at]
  · rw [fs1_k (by omega), fs1_at]
theorem RC_w {k a e : Nat} {b : Int32} (hc : RC m o n J) : RC (wr5 m (24 * o + t) (nI k) (nI a) b (nI e)) o n (seI J t (k, a, b, e)) := by
  intro q hq
  by_cases h : q = t
  · subst h
    obtain ⟨h1, h2, h3, h4⟩ := seI_s (J := J) (t := q) (x := (k, a, b, e))
    rw [h1, h2, h3, h4]
    exact wr5_s
  · obtain ⟨h1, h2, h3, h4⟩ := seI_n (J := J) (t := t) (x := (k, a, b, e)) (q := q) h
    rw [h1, h2, h3, h4, wr5_i (by omega) (by omega) (by omega), wr5_i (by omega) (by omega) (by omega), wr5_i (by omega) (by omega) (by omega), wr5_i (by omega) (by omega) (by omega)]
    exact hc q hq
set_option maxHeartbeats 2000000 in
theorem s110_r {j : Nat} (ho : o < 16) (hw : WF n I) (hz : NZ n I) (h7 : m.1 52 7 = nI n) (h8 : m.1 52 8 = nI (24 * o)) (hc : RC m o n J) (hJ : kd J p = kd I p ∧ ra J p = ra I p ∧ rb J p = rb I p ∧ rc J p = rc I p) (h64 : ∀ p, p < n → m.1 64 p = bI (sty I n p)) (h65 : ∀ p, p < n → m.1 65 p = bI (decide (MK I n p = 3))) (hp : p < n) (hs : sty I n p = true) : s132_110 (nI j) (nI 1) (nI (sa I n p)) (nI p) m = some (.inl (nI (sa I n p + 1), nI (p + 1), wr5 m (24 * o + sa I n p) (nI (tr I n p).1) (nI (tr I n p).2.1) (tr I n p).2.2.1 (nI (tr I n p).2.2.2))) := by
  have hn := hw.1
  have hk := WF_k hw hp
  have ht := WF_t hw hp
  have l0 := sa_le (I := I) (n := n) p
  have hi : 24 * o + p < 384 := by omega
  have hi0 : 24 * o + sa I n p < 384 := by omega
  have h384 : 384 < 2147483648 := by omega
  obtain ⟨j1, j2, j3, j4⟩ := hJ
  obtain ⟨ek, ea, eb, ec⟩ := hc p hp
  rw [j1] at ek
  rw [j2] at ea
  rw [j3] at eb
  rw [j4] at ec
  have hnz := hz p hp
  unfold s132_110
  rw [dx_gfI, h7, dx_ge (by omega) (by omega), decide_eq_false (by omega), cond_false, show ai_c .eq (nI 1) 0 = false by decide +kernel, cond_false, dx_ldI (by omega) (by omega), h64 p hp, hs, bI_eq, Bool.not_true, cond_false, dx_gfI, h8, nI_add, dx_ldI (by omega) (by omega), h65 p hp, bI_eq, dx_ldI hi h384, ek]
  unfold tr
  by_cases h3 : MK I n p = 3
  · have h5 := MK_3 h3
    rw [decide_eq_true h3, Bool.not_true, cond_false, if_neg (by omega), if_pos h5, if_pos h3]
    unfold g132_164
    rw [dx_ldI (by omega) (by omega), h65 p hp, decide_eq_true h3, bI_eq, Bool.not_true, cond_false, dx_ldI hi h384, ec]
    unfold g132_193
    rw [dx_gfI, h8, nI_add, dx_stI hi0 h384, dx_gfI, fs1_k (by omega), h8, show ai_c .ne (nI 6) (nI 6) = false by decide +kernel, cond_false, g131_s (I := I) (by rw [fs1_k (by omega)]; exact h7) hn (fun q hq => by rw [fs1_k (by omega)]; exact h64 q hq) ht.2, dx_cl2, nI_add]
    unfold g132_236
    rw [dx_stI hi0 h384, dx_gfI, fs1_k (by omega), fs1_k (by omega), h8, dx_ldI (by omega) (by omega), fs1_k (by omega), fs1_k (by omega), h65 p hp, decide_eq_true h3, bI_eq, Bool.not_true, cond_false, nI_add]
    unfold g132_268
    rw [dx_stI hi0 h384, dx_gfI, fs1_k (by omega), fs1_k (by omega), fs1_k (by omega), h8, dx_ldI (by omega) (by omega), fs1_k (by omega), fs1_k (by omega), fs1_k (by omega), h65 p hp, decide_eq_true h3, bI_eq, Bool.not_true, cond_false, nI_add, dx_stI hi0 h384, nI_add, nI_add]
    rfl
  · rw [decide_eq_false h3, Bool.not_false, cond_true]
    unfold g132_164
    rw [dx_ldI (by omega) (by omega), h65 p hp, decide_eq_false h3, bI_eq, Bool.not_false, cond_true, dx_ldI hi h384, ea]
    have h268 : ∀ (k1 a1 : Int32), g132_268 (nI j) (nI 1) (nI (sa I n p)) (nI p) (nI (24 * o + p)) (nI (kd I p)) (rb I p) (nI (24 * o + sa I n p)) (fs1 (fs1 m 53 (24 * o + sa I n p) k1) 54 (24 * o + sa I n p) a1) = some (.inl (nI (sa I n p + 1), nI (p + 1), wr5 m (24 * o + sa I n p) k1 a1 (rb I p) (nI (if kd I p = 5 then sa I n (rc I p) else rc I p)))) := by
      intro k1 a1
      unfold g132_268
      have e56 : (fs1 (fs1 (fs1 m 53 (24 * o + sa I n p) k1) 54 (24 * o + sa I n p) a1) 55 (24 * o + sa I n p) (rb I p)).1 56 (24 * o + p) = nI (rc I p) := by rw [fs1_k (by omega), fs1_k (by omega), fs1_k (by omega)]; exact ec
      rw [dx_stI hi0 h384, dx_gfI, fs1_k (by omega), fs1_k (by omega), fs1_k (by omega), h8, dx_ldI (by omega) (by omega), fs1_k (by omega), fs1_k (by omega), fs1_k (by omega), h65 p hp, decide_eq_false h3, bI_eq, Bool.not_false, cond_true, dx_ne (by omega) (by omega), dx_ldI hi h384, dx_ldI hi h384, e56, nI_add, nI_add, nI_add]
      by_cases h5 : kd I p = 5
      · rw [decide_eq_false (fun z => z h5), cond_false, if_pos h5, g131_s (I := I) (by rw [fs1_k (by omega), fs1_k (by omega), fs1_k (by omega)]; exact h7) hn (fun q hq => by rw [fs1_k (by omega), fs1_k (by omega), fs1_k (by omega)]; exact h64 q hq) ht.2, dx_cl2, dx_stI hi0 h384]
        rfl
      · rw [decide_eq_true h5, cond_true, if_neg h5, dx_stI hi0 h384]
        rfl
    have h236 : ∀ (k1 a1 : Int32), g132_236 (nI j) (nI 1) (nI (sa I n p)) (nI p) (nI (24 * o + p)) (nI (kd I p)) a1 (nI (24 * o + sa I n p)) (fs1 m 53 (24 * o + sa I n p) k1) = some (.inl (nI (sa I n p + 1), nI (p + 1), wr5 m (24 * o + sa I n p) k1 a1 (rb I p) (nI (if kd I p = 5 then sa I n (rc I p) else rc I p)))) := by
      intro k1 a1
      unfold g132_236
      have e55 : (fs1 (fs1 m 53 (24 * o + sa I n p) k1) 54 (24 * o + sa I n p) a1).1 55 (24 * o + p) = rb I p := by rw [fs1_k (by omega), fs1_k (by omega)]; exact eb
      rw [dx_stI hi0 h384, dx_gfI, fs1_k (by omega), fs1_k (by omega), h8, dx_ldI (by omega) (by omega), fs1_k (by omega), fs1_k (by omega), h65 p hp, decide_eq_false h3, bI_eq, Bool.not_false, cond_true, dx_ldI hi h384, e55, nI_add, h268]
    unfold g132_193
    rw [dx_gfI, h8, nI_add, dx_stI hi0 h384, dx_gfI, fs1_k (by omega), h8, nI_add, dx_ne (by omega) (by omega)]
    by_cases h6 : kd I p = 6
    · rw [decide_eq_false (fun z => z h6), cond_false, if_pos h6, g131_s (I := I) (by rw [fs1_k (by omega)]; exact h7) hn (fun q hq => by rw [fs1_k (by omega)]; exact h64 q hq) ht.1, dx_cl2, h236, if_neg (by omega), hnz.1 (Or.inl h6), hnz.2 (by omega), h6]
    · rw [decide_eq_true h6, cond_true, if_neg h6, h236]
      by_cases h5 : kd I p = 5
      · rw [if_pos h5, if_pos h5, if_neg h3, h5]
      · rw [if_neg h5, if_neg h5]
end LS
