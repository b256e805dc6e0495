noncomputable def isf (I : cod) (n : Nat) : Bool := anyp (fun p => !(sty I n p) || decide (MK I n p = 3)) n
def wk (k : Nat) : Nat := if k = 5 then 2 else 1
def Wz (I : cod) : Nat → Nat
  | 0 => 0
  | p + 1 => Wz I p + wk (kd I p)
noncomputable def Rf : Nat → cod → Nat → cod × Nat
  | 0, I, n => (I, n)
  | k + 1, I, n => if isf I n = true then Rf k (wI I n n) (sa I n n) else (I, n)
def TRL (J I : cod) (n : Nat) : Prop := ∀ p, p < n → kd J p = kd I p ∧ rb J p = rb I p ∧ ra J p = (if kd I p = 6 then min (ra I p) n else ra I p) ∧ rc J p = (if kd I p = 5 then min (rc I p) n else rc I p)
theorem wl_step {S β : Type} {f : S → Option (S ⊕ β)} {n : Nat} {s s' : S} (h : f s = some (.inl s')) : wl f (n + 1) s = wl f n s' := by
  rw [wl, h]
section S3
variable {m : fm} {c n p t k : Nat} {I J : cod}
theorem Wz_1 : Wz I (p + 1) = Wz I p + wk (kd I p) := rfl
theorem wk_1 (k : Nat) : 1 ≤ wk k ∧ wk k ≤ 2 := by unfold wk; split <;> omega
theorem Wz_cg : ∀ p, (∀ q, q < p → kd J q = kd I q) → Wz J p = Wz I p
  | 0, _ => rfl
  | p + 1, h => by rw [Wz_1, Wz_1, Wz_cg p (fun q hq => h q (by omega)), h p (by omega)]
theorem Wz_2 : ∀ p, Wz I p ≤ 2 * p
  | 0 => Nat.le_refl _
  | p + 1 => by
    have := Wz_2 p
    have := wk_1 (kd I p)
    rw [Wz_1]; omega
theorem tr_wk : wk (tr I n p).1 ≤ wk (kd I p) ∧ (MK I n p = 3 → wk (tr I n p).1 < wk (kd I p)) := by
  unfold tr
  by_cases h6 : kd I p = 6
  · rw [if_pos h6, h6]
    exact ⟨(show wk 6 ≤ wk 6 by decide), fun h => absurd (MK_3 h) (by omega)⟩
  · rw [if_neg h6]
    by_cases h5 : kd I p = 5
    · rw [if_pos h5, h5]
      by_cases h3 : MK I n p = 3
      · rw [if_pos h3]; exact ⟨(show wk 6 ≤ wk 5 by decide), fun _ => (show wk 6 < wk 5 by decide)⟩
      · rw [if_neg h3]; exact ⟨(show wk 5 ≤ wk 5 by decide), fun h => absurd h h3⟩
    · rw [if_neg h5]
      exact ⟨Nat.le_refl _, fun h => absurd (MK_3 h) h5⟩
theorem Wz_w : ∀ p, Wz (wI I n p) (sa I n p) ≤ Wz I p ∧ (anyp (fun p => !(sty I n p) || decide (MK I n p = 3)) p = true → Wz (wI I n p) (sa I n p) < Wz I p)
  | 0 => ⟨Nat.le_refl _, fun h => absurd (show false = true from h) Bool.false_ne_true⟩
  | p + 1 => by
    obtain ⟨h1, h2⟩ := Wz_w p
    have hw := wk_1 (kd I p)
    obtain ⟨t1, t2⟩ := tr_wk (I := I) (n := n) (p := p)
    rw [wI_1, sa_1, Wz_1, anyp_1]
    cases hs : sty I n p with
    | false =>
      rw [if_neg Bool.false_ne_true, show (false).toNat = 0 from rfl, Nat.add_zero]
      exact ⟨by omega, fun _ => by omega⟩
    | true =>
      rw [if_pos rfl, show (true).toNat = 1 from rfl, Wz_1, (seI_s (J := wI I n p) (t := sa I n p) (x := tr I n p)).1, Wz_cg (I := wI I n p) (sa I n p) (fun q hq => (seI_n (J := wI I n p) (t := sa I n p) (x := tr I n p) (q := q) (by omega)).1)]
      refine ⟨by omega, fun h => ?_⟩
      rcases Bool.or_eq_true_iff.mp h with h | h
      · have := h2 h; omega
      · rw [Bool.not_true, Bool.false_or] at h
        have := t2 (of_decide_eq_true h); omega
theorem sa_ns : ∀ t, (∃ p, p < t ∧ sty I n p = false) → sa I n t < t
  | 0, h => absurd h.choose_spec.1 (by omega)
  | t + 1, h => by
    obtain ⟨p, hp, hs⟩ := h
    rw [sa_1]
    have := bt2 (sty I n t)
    have := sa_le (I := I) (n := n) t
    by_cases e : p = t
    · subst e; rw [hs]; show sa I n p + 0 < p + 1; omega
    · have := sa_ns t ⟨p, by omega, hs⟩
      omega
theorem cf_t : ∀ t, (∃ p, p < t ∧ sty I n p = true ∧ chf I n p = true) → cf I n t = true
  | 0, h => absurd h.choose_spec.1 (by omega)
  | t + 1, h => by
    obtain ⟨p, hp, hs, hc⟩ := h
    rw [cf_1]
    by_cases e : p = t
    · subst e; rw [if_pos hs, hc]; rfl
    · have := cf_t t ⟨p, by omega, hs, hc⟩
      rw [this]
      split
      · exact Bool.or_true _
      · rfl
theorem isf_t (h : isf I n = true) : (decide (¬ n = sa I n n) || cf I n n) = true := by
  obtain ⟨p, hp, h⟩ := anyp_t.mp h
  by_cases hs : sty I n p = true
  · rw [hs, Bool.not_true, Bool.false_or] at h
    have h3 := of_decide_eq_true h
    have : cf I n n = true := cf_t n ⟨p, hp, hs, by unfold chf; rw [if_neg (by have := MK_3 h3; omega), if_pos (MK_3 h3), if_pos h3]⟩
    rw [this, Bool.or_true]
  · have hs := Bool.eq_false_iff.mpr hs
    have := sa_ns n ⟨p, hp, hs⟩
    rw [decide_eq_true (by omega)]; rfl
theorem isf_f (h : isf I n = false) : ∀ p, p < n → sty I n p = true ∧ ¬ MK I n p = 3 := by
  intro p hp
  have : ¬ (!(sty I n p) || decide (MK I n p = 3)) = true := fun z => by
    have : isf I n = true := anyp_t.mpr ⟨p, hp, z⟩
    rw [h] at this; cases this
  have := Bool.eq_false_iff.mpr this
  obtain ⟨a, b⟩ := Bool.or_eq_false_iff.mp this
  exact ⟨by rw [Bool.not_eq_false'] at a; exact a, of_decide_eq_false b⟩
theorem sa_all (h : ∀ p, p < n → sty I n p = true) : ∀ t, t ≤ n → sa I n t = t
  | 0, _ => rfl
  | t + 1, ht => by
    rw [sa_1, sa_all h t (by omega), h t (by omega)]; rfl
theorem sa_min (h : ∀ p, p < n → sty I n p = true) (t : Nat) : sa I n t = min t n := by
  by_cases ht : t ≤ n
  · rw [sa_all h t ht, Nat.min_eq_left ht]
  · rw [sa_hi (by omega), sa_all h n (Nat.le_refl n), Nat.min_eq_right (by omega)]
theorem wI_all2 (h : ∀ p, p < n → sty I n p = true) : ∀ p, p ≤ n → ∀ q, q < p → kd (wI I n p) q = (tr I n q).1 ∧ ra (wI I n p) q = (tr I n q).2.1 ∧ rb (wI I n p) q = (tr I n q).2.2.1 ∧ rc (wI I n p) q = (tr I n q).2.2.2
  | 0, _, q, hq => absurd hq (by omega)
  | p + 1, hp, q, hq => by
    rw [wI_1, if_pos (h p (by omega)), sa_all h p (by omega)]
    by_cases e : q = p
    · subst e; exact seI_s
    · obtain ⟨a, b, c, d⟩ := seI_n (J := wI I n p) (t := p) (x := tr I n p) (q := q) e
      rw [a, b, c, d]
      exact wI_all2 h p (by omega) q (by omega)
theorem TRL_w (hz : NZ n I) (h : isf I n = false) : TRL (wI I n n) I n := by
  have h' := isf_f h
  intro p hp
  obtain ⟨a, b, c, d⟩ := wI_all2 (fun p hp => (h' p hp).1) n (Nat.le_refl n) p hp
  have hnz := hz p hp
  rw [a, b, c, d]
  unfold tr
  rw [sa_min (fun p hp => (h' p hp).1), sa_min (fun p hp => (h' p hp).1)]
  by_cases h6 : kd I p = 6
  · rw [if_pos h6, if_pos h6, if_neg (by omega), hnz.1 (Or.inl h6), hnz.2 (by omega)]
    exact ⟨h6.symm, rfl, rfl, rfl⟩
  · rw [if_neg h6, if_neg h6]
    by_cases h5 : kd I p = 5
    · rw [if_pos h5, if_neg (h' p hp).2, if_pos h5]
      exact ⟨h5.symm, rfl, rfl, rfl⟩
    · rw [if_neg h5, if_neg h5]
      exact ⟨rfl, rfl, rfl, rfl⟩
/-! places beyond THE END make no difference -/
theorem brg_ge {A B : Nat → Int64} (h : n ≤ t) : brg n A B t = A := if_neg (by omega)
theorem chg_ge {A B : Nat → Int64} (h : n ≤ t) : chg n A B t = false := by unfold chg; rw [decide_eq_false (by omega)]; rfl
theorem TRL_r (h : TRL J I n) (hp : p < n) : bn J p = bn I p ∧ (kd I p ≠ 6 → ra J p = ra I p) ∧ (kd I p ≠ 5 → rc J p = rc I p) := by
  obtain ⟨h1, h2, h3, h4⟩ := h p hp
  refine ⟨by unfold bn; rw [h2], fun h => by rw [h3, if_neg h], fun h => by rw [h4, if_neg h]⟩
theorem TRL_tk {A : Nat → Int64} (h : TRL J I n) (hp : p < n) (hk : kd I p ≠ 6) : tk J A p = tk I A p := by
  obtain ⟨r1, r2, -⟩ := TRL_r h hp
  unfold tk
  rw [r1, r2 hk]
theorem TRL_gn {A : Nat → Int64} (h : TRL J I n) (hp : p < n) : gn J A p = gn I A p := by
  obtain ⟨r1, r2, r3⟩ := TRL_r h hp
  unfold gn
  rw [(h p hp).1]
  by_cases h4 : kd I p = 4
  · rw [if_pos h4, if_pos h4, r3 (by omega)]
  · rw [if_neg h4, if_neg h4]
    by_cases h5 : kd I p = 5
    · rw [if_pos h5, if_pos h5, TRL_tk h hp (by omega)]
    · rw [if_neg h5, if_neg h5]
      by_cases h6 : kd I p = 6 ∨ kd I p = 10
      · rw [if_pos h6, if_pos h6]
      · rw [if_neg h6, if_neg h6]
        by_cases h11 : kd I p = 11
        · rw [if_pos h11, if_pos h11, r2 (by omega)]
        · rw [if_neg h11, if_neg h11]
theorem TRL_mb {A : Nat → Int64} (h : TRL J I n) (hp : p < n) : mb J A p = mb I A p := by
  obtain ⟨r1, r2, r3⟩ := TRL_r h hp
  funext r
  unfold mb nv
  rw [(h p hp).1, (h p hp).2.1, r1]
  by_cases hs : stt (kd I p) = true
  · rw [r2 (stt_6 hs)]
    by_cases h4 : kd I p ≤ 4
    · rw [r3 (by omega)]
    · rw [if_neg (show ¬ kd I p ≤ 4 from h4), if_neg (show ¬ kd I p ≤ 4 from h4)]
  · rw [if_neg (fun z => hs z.1), if_neg (fun z => hs z.1)]
theorem TRL_jm {A : Nat → Int64} (hn : n ≤ 24) (h : TRL J I n) (hp : p < n) : jm J A p = jm I A p ∨ (n ≤ jm J A p ∧ n ≤ jm I A p) := by
  obtain ⟨h1, h2, h3, h4⟩ := h p hp
  unfold jm
  rw [h1, h3, h4]
  by_cases h5 : kd I p = 5
  · rw [if_pos h5, if_pos h5, TRL_tk h hp (by omega), if_pos h5]
    by_cases ht : tk I A p = 4
    · rw [if_pos ht, if_pos ht]; exact Or.inl rfl
    · rw [if_neg ht, if_neg ht]; omega
  · rw [if_neg h5, if_neg h5]
    by_cases h6 : kd I p = 6
    · rw [if_pos h6, if_pos h6, if_pos h6]; omega
    · rw [if_neg h6, if_neg h6]; exact Or.inl rfl
theorem TRL_go {A : Nat → Int64} (hn : n ≤ 24) (h : TRL J I n) (hp : p < n) : go J n A p = go I n A p ∧ gof J n A p = gof I n A p := by
  have e1 : go1 J n A p = go1 I n A p := by unfold go1; rw [TRL_gn h hp, TRL_mb h hp]
  unfold go gof
  rw [e1, TRL_gn h hp, TRL_mb h hp]
  rcases TRL_jm (A := A) hn h hp with e | ⟨e, e'⟩
  · rw [e]; exact ⟨rfl, rfl⟩
  · rw [brg_ge e, brg_ge e', chg_ge e, chg_ge e']; exact ⟨rfl, rfl⟩
theorem TRL_sw {A : Nat → Int64} (hn : n ≤ 24) (h : TRL J I n) : ∀ i, i ≤ n → sw J n A i = sw I n A i ∧ swf J n A i = swf I n A i
  | 0, _ => ⟨rfl, rfl⟩
  | i + 1, hi => by
    obtain ⟨a, b⟩ := TRL_sw (A := A) hn h i (by omega)
    obtain ⟨g, g'⟩ := TRL_go (A := sw I n A i) hn h (show i < n by omega)
    rw [sw_1, sw_1, swf_1, swf_1, a, b, g, g']
    exact ⟨rfl, rfl⟩
theorem TRL_itr (hn : n ≤ 24) (h : TRL J I n) (k : Nat) : ∀ A, itr J n k A = itr I n k A := by
  induction k with
  | zero => intro A; rfl
  | succ k ih =>
    intro A
    obtain ⟨a, b⟩ := TRL_sw (A := A) hn h n (Nat.le_refl n)
    unfold itr
    rw [a, b, ih]
theorem TRL_FV (hn : n ≤ 24) (h : TRL J I n) : FV J n = FV I n := by
  unfold FV
  rw [TRL_itr hn h]
theorem TRL_rf {V : Nat → Nat} (h : TRL J I n) : rf J n V t = rf I n V t := by
  unfold rf
  by_cases ht : t < n
  · rw [if_pos ht, if_pos ht]
    obtain ⟨r1, r2, r3⟩ := TRL_r h ht
    have e1 : rd J t = rd I t := by
      unfold rd
      rw [(h t ht).1, r1]
      by_cases h1 : kd I t = 1
      · rw [if_pos h1, if_pos h1]
      · rw [if_neg h1, if_neg h1]
        by_cases h2 : 2 ≤ kd I t ∧ kd I t ≤ 4
        · rw [if_pos h2, if_pos h2, r3 (by omega)]
        · rw [if_neg h2, if_neg h2]
          by_cases h6 : kd I t = 6
          · rw [h6]; rfl
          · rw [r2 h6]
    have e2 : sm J t = sm I t := by
      unfold sm
      rw [(h t ht).1]
      by_cases hs : stt (kd I t) = true
      · rw [if_pos hs, if_pos hs, r2 (stt_6 hs)]
      · rw [if_neg hs, if_neg hs]
    rw [e1, e2]
  · rw [if_neg ht, if_neg ht]
theorem rf_ge {V : Nat → Nat} (h : n ≤ t) : rf I n V t = 0 := if_neg (by omega)
theorem TRL_TT {A : Nat → Int64} {V : Nat → Nat} (hn : n ≤ 24) (h : TRL J I n) (hp : p < n) : TT J n A V p = TT I n A V p := by
  unfold TT ron
  rw [TRL_gn h hp, TRL_rf h, TRL_rf h]
  rcases TRL_jm (A := A) hn h hp with e | ⟨e, e'⟩
  · rw [e]
  · rw [rf_ge e, rf_ge e']
theorem TRL_LFP {A : Nat → Int64} {V : Nat → Nat} (hn : n ≤ 24) (h : TRL J I n) : LFP J n A V ↔ LFP I n A V := by
  have hp : ∀ W, pfx J n A W ↔ pfx I n A W := fun W => ⟨fun z => ⟨z.1, fun p hp => by rw [← TRL_TT hn h hp]; exact z.2 p hp⟩, fun z => ⟨z.1, fun p hp => by rw [TRL_TT hn h hp]; exact z.2 p hp⟩⟩
  exact ⟨fun z => ⟨z.1, z.2.1, fun p q => by rw [← TRL_TT hn h q]; exact z.2.2.1 p q, fun W hW => z.2.2.2 W ((hp W).mpr hW)⟩, fun z => ⟨z.1, z.2.1, fun p q => by rw [TRL_TT hn h q]; exact z.2.2.1 p q, fun W hW => z.2.2.2 W ((hp W).mp hW)⟩⟩
theorem TRL_VV (hn : n ≤ 24) (h : TRL J I n) : VV J n = VV I n := by
  funext p
  unfold VV
  congr 1
  funext x
  rw [TRL_FV hn h]
  exact propext ⟨fun ⟨V, a, b⟩ => ⟨V, (TRL_LFP hn h).mp a, b⟩, fun ⟨V, a, b⟩ => ⟨V, (TRL_LFP hn h).mpr a, b⟩⟩
theorem TRL_MK (hn : n ≤ 24) (h : TRL J I n) (hp : p < n) : MK J n p = MK I n p := by
  obtain ⟨r1, r2, r3⟩ := TRL_r h hp
  unfold MK mk
  rw [TRL_FV hn h, TRL_VV hn h, (h p hp).1]
  by_cases hq : FV I n (4 * p) = vN
  · rw [if_pos hq, if_pos hq]
  · rw [if_neg hq, if_neg hq]
    by_cases h6 : kd I p = 6
    · rw [if_neg (by omega), if_neg (by omega), if_neg (by omega), if_neg (by omega), if_neg (by omega), if_neg (by omega), if_neg (by omega), if_neg (by omega)]
    · unfold idl
      rw [r2 h6, TRL_tk h hp h6]
      by_cases h5 : kd I p = 5
      · rw [if_neg (by omega), if_neg (by omega), if_pos h5, if_neg (by omega), if_neg (by omega)]
      · rw [r3 h5]
theorem TRL_sty (hn : n ≤ 24) (h : TRL J I n) : sty J n p = sty I n p := by
  unfold sty
  by_cases hp : p < n
  · rw [TRL_MK hn h hp]
  · rw [decide_eq_false hp, Bool.false_and, Bool.false_and]
/-- one round more does nothing more -/
theorem TRL_end (hn : n ≤ 24) (h : TRL J I n) (hz : NZ n J) (hf : isf I n = false) : (decide (¬ n = sa J n n) || cf J n n) = false ∧ sa J n n = n ∧ TRL (wI J n n) I n := by
  have hf' := isf_f hf
  have hsJ : ∀ p, p < n → sty J n p = true := fun p hp => by rw [TRL_sty hn h]; exact (hf' p hp).1
  have hfJ : isf J n = false := by
    cases e : isf J n with
    | false => rfl
    | true =>
      obtain ⟨p, hp, e⟩ := anyp_t.mp e
      rw [hsJ p hp, Bool.not_true, Bool.false_or, decide_eq_true_eq, TRL_MK hn h hp] at e
      exact absurd e (hf' p hp).2
  have hsa : sa J n n = n := sa_all hsJ n (Nat.le_refl n)
  have hch : ∀ p, p < n → chf J n p = false := by
    intro p hp
    obtain ⟨t1, t2, t3, t4⟩ := h p hp
    unfold chf
    rw [sa_min hsJ, sa_min hsJ, TRL_MK hn h hp, if_neg (hf' p hp).2, t1]
    by_cases h6 : kd I p = 6
    · rw [if_pos h6, t3, if_pos h6]
      exact decide_eq_false (fun z => z (by omega))
    · rw [if_neg h6]
      by_cases h5 : kd I p = 5
      · rw [if_pos h5, t4, if_pos h5]
        exact decide_eq_false (fun z => z (by omega))
      · rw [if_neg h5]
  have hcf : ∀ q, q ≤ n → cf J n q = false := by
    intro q
    induction q with
    | zero => intro _; rfl
    | succ q ih =>
      intro hq
      rw [cf_1, hch q (by omega), ih (by omega)]
      split <;> rfl
  refine ⟨by rw [hsa, hcf n (Nat.le_refl n), decide_eq_false (fun z => z rfl)]; rfl, hsa, fun p hp => ?_⟩
  obtain ⟨t1, t2, t3, t4⟩ := h p hp
  obtain ⟨w1, w2, w3, w4⟩ := TRL_w hz hfJ p hp
  rw [w1, w2, w3, w4, t1, t2, t3, t4]
  by_cases h6 : kd I p = 6
  · rw [if_pos h6, if_pos h6]
    refine ⟨rfl, rfl, by omega, ?_⟩
    split <;> omega
  · rw [if_neg h6, if_neg h6]
    refine ⟨rfl, rfl, rfl, ?_⟩
    split <;> omega
theorem g55_r (h20 : 20 ≤ c) (k : Nat) : ∀ (I : cod) (n : Nat) (m : fm) (x4 fuel : Nat), CR m c n I → WF n I → NZ n I → hz5 m → Wz I n < k → x4 + k + 1 ≤ 96 → k + 3 < fuel → ob (wl (fun s : Int32 × Int32 × fm => s55_5 c s.1 s.2.1 s.2.2) fuel (bI true, nI x4, m)) (fun m' => FS c m m' ∧ hz5 m' ∧ ∃ J, CR m' c (Rf k I n).2 J ∧ TRL J (Rf k I n).1 (Rf k I n).2 ∧ WF (Rf k I n).2 J) := by
  induction k with
  | zero => intro I n m x4 fuel _ _ _ _ h; exact absurd h (Nat.not_lt_zero _)
  | succ k ih =>
    intro I n m x4 fuel hc hw hz h5 hW h96 hfu
    have hn := hw.1
    obtain ⟨fuel, rfl⟩ : ∃ f, fuel = f + 4 := ⟨fuel - 4, by omega⟩
    have step : ∀ (I : cod) (n : Nat) (m : fm) (x4 : Nat), x4 < 96 → CR m c n I → WF n I → NZ n I → hz5 m → ob (s55_5 c (bI true) (nI x4) m) (fun b => ∃ m', b = .inl (bI (decide (¬ n = sa I n n) || cf I n n), nI (x4 + 1), m') ∧ FS c m m' ∧ hz5 m' ∧ CR m' c (sa I n n) (wI I n n)) := by
      intro I n m x4 hx hc hw hz h5
      unfold s55_5
      rw [bI_eq, Bool.not_true, cond_false, dx_ge (by omega) (by omega), decide_eq_false (by omega), cond_false]
      have hr := rnd_s hc hw hz h20 h5
      obtain ⟨r, e, a1, a2, a3, a4⟩ := ob_ex hr
      cases e1 : g25 c m with
      | none => rw [e1] at e; cases e
      | some m1 =>
        rw [e1, dx_cl1] at e
        rw [dx_cl1]
        cases e2 : g32 c m1 with
        | none => rw [e2] at e; cases e
        | some m2 =>
          rw [e2, dx_cl1] at e
          rw [dx_cl1]
          cases e3 : g56 c m2 with
          | none => rw [e3] at e; cases e
          | some m3 =>
            rw [e3, dx_cl1] at e
            rw [dx_cl1, e]
            exact ⟨r.2, by show Sum.inl (r.1, nI x4 + nI 1, r.2) = _; rw [a4, nI_add], a1, a2, a3⟩
    have exit : ∀ (m : fm) (x : Int32) (f : Nat), wl (fun s : Int32 × Int32 × fm => s55_5 c s.1 s.2.1 s.2.2) (f + 1) (bI false, x, m) = some m := by
      intro m x f
      unfold wl s55_5
      rfl
    obtain ⟨b, e1, m1, rfl, f1, z1, c1⟩ := ob_ex (step I n m x4 (by omega) hc hw hz h5)
    have nxt : wl (fun s : Int32 × Int32 × fm => s55_5 c s.1 s.2.1 s.2.2) (fuel + 3 + 1) (bI true, nI x4, m) = wl (fun s : Int32 × Int32 × fm => s55_5 c s.1 s.2.1 s.2.2) (fuel + 3) (bI (decide (¬ n = sa I n n) || cf I n n), nI (x4 + 1), m1) := by
      exact wl_step e1
    rw [nxt]
    have hl := sa_le (I := I) (n := n) n
    have hw1 : WF (sa I n n) (wI I n n) := ⟨by omega, fun p hp => (wI_WF hw (Nat.le_refl n)).2 p (by omega)⟩
    have hz1 : NZ (sa I n n) (wI I n n) := fun p hp => wI_NZ hz (Nat.le_refl n) p (by omega)
    unfold Rf
    cases hf : isf I n with
    | true =>
      rw [isf_t hf, if_pos rfl]
      have := (Wz_w (I := I) (n := n) n).2 hf
      exact ob_m (ih (wI I n n) (sa I n n) m1 (x4 + 1) (fuel + 3) c1 hw1 hz1 z1 (by omega) (by omega) (by omega)) (fun m' h => ⟨FS_t f1 h.1, h.2⟩)
    | false =>
      rw [if_neg Bool.false_ne_true]
      have hsa : sa I n n = n := sa_all (fun p hp => (isf_f hf p hp).1) n (Nat.le_refl n)
      have hT := TRL_w hz hf
      rw [hsa] at c1 hw1 hz1
      cases hch : decide (¬ n = sa I n n) || cf I n n with
      | false =>
        rw [exit]
        exact ⟨f1, z1, wI I n n, c1, hT, hw1⟩
      | true =>
        obtain ⟨t1, t2, t3⟩ := TRL_end hn hT hz1 hf
        obtain ⟨b, e2, m2, rfl, f2, z2, c2⟩ := ob_ex (step (wI I n n) n m1 (x4 + 1) (by omega) c1 hw1 hz1 z1)
        have nxt2 : wl (fun s : Int32 × Int32 × fm => s55_5 c s.1 s.2.1 s.2.2) (fuel + 2 + 1) (bI true, nI (x4 + 1), m1) = wl (fun s : Int32 × Int32 × fm => s55_5 c s.1 s.2.1 s.2.2) (fuel + 2) (bI false, nI (x4 + 1 + 1), m2) := by
          rw [t1] at e2
          exact wl_step e2
        rw [nxt2, exit]
        rw [t2] at c2
        exact ⟨FS_t f1 f2, z2, _, c2, t3, wI_WF hw1 (Nat.le_refl n)⟩
theorem g55_s (hc : CR m c n I) (hw : WF n I) (hz : NZ n I) (h20 : 20 ≤ c) (h5 : hz5 m) : ob (g55 c m) (fun m' => FS c m m' ∧ hz5 m' ∧ ∃ J, CR m' c (Rf 49 I n).2 J ∧ TRL J (Rf 49 I n).1 (Rf 49 I n).2 ∧ WF (Rf 49 I n).2 J) := by
  have := Wz_2 (I := I) n
  have := hw.1
  unfold g55 g55_5
  exact g55_r h20 49 I n m 0 lf hc hw hz h5 (by omega) (by omega) (by rw [lf_eq]; omega)
end S3
