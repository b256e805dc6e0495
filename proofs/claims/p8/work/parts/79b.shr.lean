/-! a round of the Shrinker -/
noncomputable def VV (I : cod) (n : Nat) : Nat → Nat := fun p => Classical.epsilon (fun x => ∃ V, LFP I n (FV I n) V ∧ V p = x)
theorem VV_e {I : cod} {n : Nat} {V : Nat → Nat} (h : LFP I n (FV I n) V) : V = VV I n := by
  funext p
  have he : ∃ x, ∃ V, LFP I n (FV I n) V ∧ V p = x := ⟨V p, V, h, rfl⟩
  obtain ⟨V', h', e⟩ := Classical.epsilon_spec he
  show V p = Classical.epsilon _
  rw [← e]
  exact LFP_uniq h h' p
noncomputable def MK (I : cod) (n p : Nat) : Nat := mk I (FV I n) (VV I n) p
def stb (k : Nat) : Bool := decide (k = 1) || decide (k = 3)
noncomputable def sty (I : cod) (n p : Nat) : Bool := decide (p < n) && stb (MK I n p)
noncomputable def sa (I : cod) (n : Nat) : Nat → Nat
  | 0 => 0
  | t + 1 => sa I n t + (sty I n t).toNat
noncomputable def tr (I : cod) (n p : Nat) : Nat × Nat × Int32 × Nat := if kd I p = 6 then (6, sa I n (ra I p), nI 0, 0) else if kd I p = 5 then (if MK I n p = 3 then (6, sa I n (rc I p), nI 0, 0) else (5, ra I p, rb I p, sa I n (rc I p))) else (kd I p, ra I p, rb I p, rc I p)
noncomputable def chf (I : cod) (n p : Nat) : Bool := if kd I p = 6 then decide (¬ sa I n (ra I p) = ra I p) else if kd I p = 5 then (if MK I n p = 3 then true else decide (¬ sa I n (rc I p) = rc I p)) else false
def seI (J : cod) (q : Nat) (x : Nat × Nat × Int32 × Nat) : cod := (fun i => if i = q then x.1 else kd J i, fun i => if i = q then x.2.1 else ra J i, fun i => if i = q then x.2.2.1 else rb J i, fun i => if i = q then x.2.2.2 else rc J i)
noncomputable def wI (I : cod) (n : Nat) : Nat → cod
  | 0 => I
  | p + 1 => if sty I n p = true then seI (wI I n p) (sa I n p) (tr I n p) else wI I n p
noncomputable def cf (I : cod) (n : Nat) : Nat → Bool
  | 0 => false
  | p + 1 => if sty I n p = true then chf I n p || cf I n p else cf I n p
def NZ1 (k : Nat) (b : Int32) (c : Nat) : Prop := (k = 6 ∨ 10 ≤ k → b = nI 0) ∧ (¬ (2 ≤ k ∧ k ≤ 5) → c = 0)
def NZ (n : Nat) (I : cod) : Prop := ∀ p, p < n → NZ1 (kd I p) (rb I p) (rc I p)
def nzs (k q : Nat) : Bool := ai_c .ne (ai_sh (3 * k + q - 1)) 0
def ov (k q : Nat) (x : Int32) : Int32 := if nzs k q = true then x else nI 0
def wr4 (m : fm) (r t : Nat) (k a b e : Int32) : fm := fs1 (fs1 (fs1 (fs1 m r (4 * t) k) r (4 * t + 1) a) r (4 * t + 2) b) r (4 * t + 3) e
section SH
variable {m : fm} {c n p t k : Nat} {I J : cod} {x : Nat × Nat × Int32 × Nat}
theorem sa_1 : sa I n (t + 1) = sa I n t + (sty I n t).toNat := rfl
theorem wI_1 : wI I n (p + 1) = if sty I n p = true then seI (wI I n p) (sa I n p) (tr I n p) else wI I n p := rfl
theorem cf_1 : cf I n (p + 1) = if sty I n p = true then chf I n p || cf I n p else cf I n p := rfl
theorem sa_le : ∀ t, sa I n t ≤ t
  | 0 => Nat.le_refl _
  | t + 1 => by
    have := sa_le t
    have := bt2 (sty I n t)
    rw [sa_1]; omega
theorem sa_mono (d : Nat) : sa I n t ≤ sa I n (t + d) := by
  induction d with
  | zero => exact Nat.le_refl _
  | succ d ih => exact Nat.le_trans ih (Nat.le_add_right _ _)
theorem sa_hi (h : n ≤ t) : sa I n t = sa I n n := by
  obtain ⟨d, rfl⟩ : ∃ d, t = n + d := ⟨t - n, by omega⟩
  induction d with
  | zero => rfl
  | succ d ih =>
    show sa I n (n + d) + (sty I n (n + d)).toNat = _
    have : sty I n (n + d) = false := by unfold sty; rw [decide_eq_false (by omega)]; rfl
    rw [this, ih (by omega)]; rfl
theorem sa_n : sa I n t ≤ sa I n n := by
  by_cases h : t ≤ n
  · obtain ⟨d, rfl⟩ : ∃ d, n = t + d := ⟨n - t, by omega⟩
    exact sa_mono d
  · rw [sa_hi (by omega)]; exact Nat.le_refl _
theorem seI_s : kd (seI J t x) t = x.1 ∧ ra (seI J t x) t = x.2.1 ∧ rb (seI J t x) t = x.2.2.1 ∧ rc (seI J t x) t = x.2.2.2 := ⟨if_pos rfl, if_pos rfl, if_pos rfl, if_pos rfl⟩
theorem seI_n {q : Nat} (h : ¬ q = t) : kd (seI J t x) q = kd J q ∧ ra (seI J t x) q = ra J q ∧ rb (seI J t x) q = rb J q ∧ rc (seI J t x) q = rc J q := ⟨if_neg h, if_neg h, if_neg h, if_neg h⟩
/-- what is still to be looked at is as it was -/
theorem wI_o : ∀ (p q : Nat), p ≤ q → kd (wI I n p) q = kd I q ∧ ra (wI I n p) q = ra I q ∧ rb (wI I n p) q = rb I q ∧ rc (wI I n p) q = rc I q
  | 0, _, _ => ⟨rfl, rfl, rfl, rfl⟩
  | p + 1, q, h => by
    have ih := wI_o p q (by omega)
    rw [wI_1]
    split
    · have := sa_le (I := I) (n := n) p
      obtain ⟨a, b, c, d⟩ := seI_n (J := wI I n p) (t := sa I n p) (x := tr I n p) (q := q) (by omega)
      rw [a, b, c, d]
      exact ih
    · exact ih
theorem mk_cg {A : Nat → Int64} {V : Nat → Nat} (h : kd J p = kd I p ∧ ra J p = ra I p ∧ rb J p = rb I p ∧ rc J p = rc I p) : mk J A V p = mk I A V p := by
  obtain ⟨h1, h2, h3, h4⟩ := h
  unfold mk idl tk bn
  rw [h1, h2, h3, h4]
theorem MK_3 (h : MK I n p = 3) : kd I p = 5 := by
  unfold MK mk idl at h
  split at h
  · omega
  · split at h
    · split at h <;> omega
    · split at h
      · split at h
        · omega
        · split at h
          · omega
          · split at h <;> omega
      · split at h
        · assumption
        · split at h
          · split at h
            · omega
            · split at h <;> omega
          · omega
theorem tr_WF (hw : WF n I) (hp : p < n) : WF1 (tr I n p).1 (tr I n p).2.1 (tr I n p).2.2.1 (tr I n p).2.2.2 := by
  obtain ⟨h1, h2, h3, h4, h5, h6, h7⟩ := hw.2 p hp
  have l1 := sa_le (I := I) (n := n) (ra I p)
  have l2 := sa_le (I := I) (n := n) (rc I p)
  unfold tr
  split
  · refine ⟨by show 6 < 13; omega, by show sa I n (ra I p) ≤ 24; omega, by show 0 ≤ 24; omega, fun z => absurd rfl z, fun z => absurd (show 1 ≤ 6 ∧ 6 ≤ 5 ∨ 6 = 7 ∨ 6 = 8 from z) (by omega), fun z => absurd (show 6 = 9 from z) (by omega), fun z => absurd (show 2 ≤ 6 ∧ 6 ≤ 4 from z) (by omega)⟩
  · split
    · split
      · refine ⟨by show 6 < 13; omega, by show sa I n (rc I p) ≤ 24; omega, by show 0 ≤ 24; omega, fun z => absurd rfl z, fun z => absurd (show 1 ≤ 6 ∧ 6 ≤ 5 ∨ 6 = 7 ∨ 6 = 8 from z) (by omega), fun z => absurd (show 6 = 9 from z) (by omega), fun z => absurd (show 2 ≤ 6 ∧ 6 ≤ 4 from z) (by omega)⟩
      · refine ⟨by show 5 < 13; omega, h2, by show sa I n (rc I p) ≤ 24; omega, fun _ => h4 (by omega), fun _ => h5 (by omega), fun z => absurd (show 5 = 9 from z) (by omega), fun z => absurd (show 2 ≤ 5 ∧ 5 ≤ 4 from z) (by omega)⟩
    · exact ⟨h1, h2, h3, h4, h5, h6, h7⟩
theorem tr_NZ (hz : NZ n I) (hp : p < n) : NZ1 (tr I n p).1 (tr I n p).2.2.1 (tr I n p).2.2.2 := by
  unfold tr
  split
  · exact ⟨fun _ => rfl, fun _ => rfl⟩
  · split
    · split
      · exact ⟨fun _ => rfl, fun _ => rfl⟩
      · exact ⟨fun z => absurd (show 5 = 6 ∨ 10 ≤ 5 from z) (by omega), fun z => absurd (show 2 ≤ 5 ∧ 5 ≤ 5 by omega) z⟩
    · exact hz p hp
theorem wI_all {Q : Nat → Nat → Int32 → Nat → Prop} (h0 : ∀ p, p < n → Q (kd I p) (ra I p) (rb I p) (rc I p)) (h1 : ∀ p, p < n → Q (tr I n p).1 (tr I n p).2.1 (tr I n p).2.2.1 (tr I n p).2.2.2) : ∀ p, p ≤ n → ∀ q, q < n → Q (kd (wI I n p) q) (ra (wI I n p) q) (rb (wI I n p) q) (rc (wI I n p) q)
  | 0, _, q, hq => h0 q hq
  | p + 1, hp, q, hq => by
    rw [wI_1]
    split
    · by_cases e : q = sa I n p
      · subst e
        obtain ⟨a, b, c, d⟩ := seI_s (J := wI I n p) (t := sa I n p) (x := tr I n p)
        rw [a, b, c, d]
        exact h1 p (by omega)
      · obtain ⟨a, b, c, d⟩ := seI_n (J := wI I n p) (t := sa I n p) (x := tr I n p) (q := q) e
        rw [a, b, c, d]
        exact wI_all h0 h1 p (by omega) q hq
    · exact wI_all h0 h1 p (by omega) q hq
theorem wI_WF (hw : WF n I) (hp : p ≤ n) : WF n (wI I n p) := ⟨hw.1, wI_all (Q := WF1) hw.2 (fun p hp => tr_WF hw hp) p hp⟩
theorem wI_NZ (hz : NZ n I) (hp : p ≤ n) : NZ n (wI I n p) := wI_all (Q := fun k _ b c => NZ1 k b c) hz (fun p hp => tr_NZ hz hp) p hp
theorem stb_0 : ∀ k, k < 18 → ai_c .eq (nI k &&& nI 1) 0 = true ∧ stb k = false ∨ ai_c .eq (nI k &&& nI 1) 0 = false ∧ ai_c .ne (nI k &&& nI 28) 0 = !(stb k) := by decide +kernel
theorem g57_s (hk : k < 18) : g57 (nI k) m = some (bI (stb k), m) := by
  unfold g57
  rcases stb_0 k hk with ⟨h1, h2⟩ | ⟨h1, h2⟩
  · rw [h1, h2]; rfl
  · rw [h1, h2]
    cases stb k <;> rfl
def F13 (m m' : fm) : Prop := (∀ k, k ≠ 13 → m'.1 k = m.1 k) ∧ m'.2 = m.2
theorem F13_r (m : fm) : F13 m m := ⟨fun _ _ => rfl, rfl⟩
theorem F13_t {m m' m'' : fm} (h1 : F13 m m') (h2 : F13 m' m'') : F13 m m'' := ⟨fun k a => (h2.1 k a).trans (h1.1 k a), h2.2.trans h1.2⟩
theorem RV_f {m' : fm} {V : Nat → Nat} (h : RV m V) (h6 : m'.1 6 = m.1 6) : RV m' V := by
  unfold RV
  rw [h6]
  exact h
theorem g56_s (hc : CR m c n I) (hw : WF n I) (h20 : 20 ≤ c) (h5 : m.2 5 = FV I n) (hV : RV m (VV I n)) : ob (g56 c m) (fun m' => F13 m m' ∧ ∀ t, t ≤ 24 → m'.1 13 t = nI (sa I n t)) := by
  have hn := hw.1
  unfold g56 g56_5
  refine wl_c (f := fun s : Int32 × Int32 × fm => s56_5 c s.1 s.2.1 s.2.2) (fun i s => ∃ mi, s = (nI (sa I n i), nI i, mi) ∧ F13 m mi ∧ ∀ t, t < i → mi.1 13 t = nI (sa I n t)) 25 (by omega) (nI 0, nI 0, m) ⟨m, rfl, F13_r m, fun t ht => absurd ht (by omega)⟩ (fun i s hi hss => ?_) (fun s hss => ?_)
  · obtain ⟨mi, rfl, hF, hz⟩ := hss
    show ob (s56_5 c (nI (sa I n i)) (nI i) mi) _
    have hF' : F13 m (fs1 mi 13 i (nI (sa I n i))) := F13_t hF ⟨fun k h => fs1_k h, rfl⟩
    have hci : CR (fs1 mi 13 i (nI (sa I n i))) c n I := CR_f hc (hF'.1 c (by omega)) (hF'.1 (c + 1) (by omega))
    have hz' : ∀ t, t < i + 1 → (fs1 mi 13 i (nI (sa I n i))).1 13 t = nI (sa I n t) := fun t ht => by
      by_cases e : t = i
      · subst e; exact fs1_at
      · rw [fs1_i e]; exact hz t (by omega)
    have h5' : (fs1 mi 13 i (nI (sa I n i))).2 5 = FV I n := by rw [hF'.2]; exact h5
    unfold s56_5
    rw [dx_gt (by omega) (by omega), decide_eq_false (by omega), cond_false, dx_stI hi (by omega), g2_s hci hn (by omega), dx_cl2, bI_eq, nI_add, nI_add]
    by_cases hin : i < n
    · rw [decide_eq_true hin, Bool.not_true, cond_false, g19_s hci hw (RV_f hV (hF'.1 6 (by omega))) hin, dx_cl2, h5', g57_s mk_18, dx_cl2, bI_eq]
      have es : sty I n i = stb (mk I (FV I n) (VV I n) i) := by unfold sty MK; rw [decide_eq_true hin]; rfl
      cases hst : stb (mk I (FV I n) (VV I n) i) with
      | true =>
        refine ⟨_, ?_, hF', hz'⟩
        rw [sa_1, es, hst]; rfl
      | false =>
        refine ⟨_, ?_, hF', hz'⟩
        rw [sa_1, es, hst]; rfl
    · rw [decide_eq_false hin, Bool.not_false, cond_true]
      have es : sty I n i = false := by unfold sty; rw [decide_eq_false hin]; rfl
      refine ⟨_, ?_, hF', hz'⟩
      rw [sa_1, es]; rfl
  · obtain ⟨mi, rfl, hF, hz⟩ := hss
    show ob (s56_5 c _ (nI 25) mi) _
    unfold s56_5
    rw [dx_gt (by omega) (by omega), decide_eq_true (by omega), cond_true]
    exact ⟨hF, fun t ht => hz t (by omega)⟩
theorem g6_s (ht : t < 24) (hk : k < 13) {a b e : Int32} : g6 c (nI t) (nI k) a b e m = some (wr4 m (c + 1) t (nI k) (ov k 1 a) (ov k 2 b) (ov k 3 e)) := by
  unfold g6 g6_36 g6_59 wr4
  simp only [g90_s hk (show 1 < 4 by omega) (show 0 < 1 by omega), g90_s hk (show 2 < 4 by omega) (show 0 < 2 by omega), g90_s hk (show 3 < 4 by omega) (show 0 < 3 by omega), dx_cl2, pk_mul, nI_add]
  rw [show t * 4 + 0 = 4 * t by omega, show t * 4 + 1 = 4 * t + 1 by omega, show t * 4 + 2 = 4 * t + 2 by omega, show t * 4 + 3 = 4 * t + 3 by omega]
  simp only [dx_stI (show 4 * t < 96 by omega) (show 96 < 2147483648 by omega), dx_stI (show 4 * t + 1 < 96 by omega) (show 96 < 2147483648 by omega), dx_stI (show 4 * t + 2 < 96 by omega) (show 96 < 2147483648 by omega), dx_stI (show 4 * t + 3 < 96 by omega) (show 96 < 2147483648 by omega), dx_cl2, g90_s hk (show 2 < 4 by omega) (show 0 < 2 by omega), g90_s hk (show 3 < 4 by omega) (show 0 < 3 by omega)]
  show (bif nzs k 1 then (bif nzs k 2 then (bif nzs k 3 then _ else _) else (bif nzs k 3 then _ else _)) else (bif nzs k 2 then (bif nzs k 3 then _ else _) else (bif nzs k 3 then _ else _))) = _
  unfold ov
  cases nzs k 1 <;> cases nzs k 2 <;> cases nzs k 3 <;> rfl
end SH
