def qs (I : cod) (n : Nat) (A : Nat → Int64) (U : (Nat → Nat) × (Nat → Nat)) : Nat → (Nat → Nat) × (Nat → Nat)
  | 0 => U
  | i + 1 => if A (4 * (n - 1 - i)) = vN then qs I n A U i else (upN (qs I n A U i).1 (n - 1 - i) (ah I (bb I n A (qs I n A U i).1 (n - 1 - i)) (n - 1 - i)), upN (qs I n A U i).2 (n - 1 - i) (bb I n A (qs I n A U i).1 (n - 1 - i)))
def qf (I : cod) (n : Nat) (A : Nat → Int64) (U : (Nat → Nat) × (Nat → Nat)) : Nat → Bool
  | 0 => false
  | i + 1 => if A (4 * (n - 1 - i)) = vN then qf I n A U i else qf I n A U i || decide (¬ ah I (bb I n A (qs I n A U i).1 (n - 1 - i)) (n - 1 - i) = (qs I n A U i).1 (n - 1 - i)) || decide (¬ bb I n A (qs I n A U i).1 (n - 1 - i) = (qs I n A U i).2 (n - 1 - i))
def JR (I : cod) (n : Nat) (A : Nat → Int64) (U : (Nat → Nat) × (Nat → Nat)) : Prop := (∀ p, U.1 p < 16) ∧ (∀ p, U.2 p < 16) ∧ (∀ p, n ≤ p ∨ A (4 * p) = vN → U.1 p = 0 ∧ U.2 p = 0) ∧ (∀ p, p < n → ¬ A (4 * p) = vN → sbs (U.2 p) (bb I n A U.1 p) ∧ sbs (U.1 p) (ah I (U.2 p) p)) ∧ (∀ W, pfx I n A W → ∀ p, p < n → sbs (U.2 p) (W p) ∧ sbs (U.1 p) (rf I n W p))
def CL (I : cod) (n : Nat) (A : Nat → Int64) : Prop := ∀ p, p < n → ¬ A (4 * p) = vN → (gn I A p = true → p + 1 < n → ¬ A (4 * (p + 1)) = vN) ∧ (jm I A p < n → ¬ A (4 * jm I A p) = vN)
section F2
variable {m : fm} {o n p : Nat} {I : cod} {A : Nat → Int64} {U : (Nat → Nat) × (Nat → Nat)}
theorem qs_1 {i : Nat} : qs I n A U (i + 1) = if A (4 * (n - 1 - i)) = vN then qs I n A U i else (upN (qs I n A U i).1 (n - 1 - i) (ah I (bb I n A (qs I n A U i).1 (n - 1 - i)) (n - 1 - i)), upN (qs I n A U i).2 (n - 1 - i) (bb I n A (qs I n A U i).1 (n - 1 - i))) := rfl
theorem qf_1 {i : Nat} : qf I n A U (i + 1) = if A (4 * (n - 1 - i)) = vN then qf I n A U i else qf I n A U i || decide (¬ ah I (bb I n A (qs I n A U i).1 (n - 1 - i)) (n - 1 - i) = (qs I n A U i).1 (n - 1 - i)) || decide (¬ bb I n A (qs I n A U i).1 (n - 1 - i) = (qs I n A U i).2 (n - 1 - i)) := rfl
theorem bb_mono {H H' : Nat → Nat} (h : ∀ q, sbs (H q) (H' q)) : sbs (bb I n A H p) (bb I n A H' p) := by
  unfold bb
  refine sbs_o ?_ ?_
  · by_cases e : gn I A p = true ∧ p + 1 < n
    · rw [if_pos e, if_pos e]; exact h _
    · rw [if_neg e, if_neg e]; exact sbs_r 0
  · by_cases e : jm I A p < n
    · rw [if_pos e, if_pos e]; exact h _
    · rw [if_neg e, if_neg e]; exact sbs_r 0
theorem ah_mono (hw : WF n I) (hp : p < n) {a b : Nat} (ha : a < 16) (hb : b < 16) (h : sbs a b) : sbs (ah I a p) (ah I b p) := sbs_o (sbs_r _) (sbs_d ha hb (sm_16 hw hp) h)
theorem upN_s {V : Nat → Nat} {x : Nat} : upN V p x p = x := if_pos rfl
theorem upN_n {V : Nat → Nat} {x q : Nat} (h : ¬ q = p) : upN V p x q = V q := if_neg h
theorem JR_up (hw : WF n I) (hJ : JR I n A U) (hp : p < n) (hq : ¬ A (4 * p) = vN) : JR I n A (upN U.1 p (ah I (bb I n A U.1 p) p), upN U.2 p (bb I n A U.1 p)) ∧ (∀ q, sbs (U.1 q) (upN U.1 p (ah I (bb I n A U.1 p) p) q)) ∧ (∀ q, sbs (U.2 q) (upN U.2 p (bb I n A U.1 p) q)) := by
  obtain ⟨h1, h2, h3, h4, h5⟩ := hJ
  have hb : bb I n A U.1 p < 16 := bb_16 h1
  have ha : ah I (bb I n A U.1 p) p < 16 := ah_16 hw hp hb
  have s1 : ∀ q, sbs (U.1 q) (upN U.1 p (ah I (bb I n A U.1 p) p) q) := fun q => by
    by_cases e : q = p
    · subst e; rw [upN_s]
      exact sbs_t (h4 q hp hq).2 (ah_mono hw hp (h2 q) hb (h4 q hp hq).1)
    · rw [upN_n e]; exact sbs_r _
  have s2 : ∀ q, sbs (U.2 q) (upN U.2 p (bb I n A U.1 p) q) := fun q => by
    by_cases e : q = p
    · subst e; rw [upN_s]; exact (h4 q hp hq).1
    · rw [upN_n e]; exact sbs_r _
  refine ⟨⟨fun q => ?_, fun q => ?_, fun q hqq => ?_, fun q hqn hqr => ?_, fun W hW q hqn => ?_⟩, s1, s2⟩
  · by_cases e : q = p
    · subst e; show upN _ _ _ _ < 16; rw [upN_s]; exact ha
    · show upN _ _ _ _ < 16; rw [upN_n e]; exact h1 q
  · by_cases e : q = p
    · subst e; show upN _ _ _ _ < 16; rw [upN_s]; exact hb
    · show upN _ _ _ _ < 16; rw [upN_n e]; exact h2 q
  · have e : ¬ q = p := fun e => by subst e; exact hqq.elim (fun z => absurd hp (by omega)) hq
    show upN _ _ _ _ = 0 ∧ upN _ _ _ _ = 0
    rw [upN_n e, upN_n e]; exact h3 q hqq
  · show sbs (upN _ _ _ _) (bb I n A (upN _ _ _) q) ∧ sbs (upN _ _ _ _) (ah I (upN _ _ _ _) q)
    by_cases e : q = p
    · subst e
      rw [upN_s, upN_s]
      exact ⟨bb_mono s1, sbs_r _⟩
    · rw [upN_n e, upN_n e]
      exact ⟨sbs_t (h4 q hqn hqr).1 (bb_mono s1), (h4 q hqn hqr).2⟩
  · show sbs (upN _ _ _ _) _ ∧ sbs (upN _ _ _ _) _
    by_cases e : q = p
    · subst e
      rw [upN_s, upN_s]
      have hbW : sbs (bb I n A U.1 q) (W q) := by
        refine sbs_t ?_ (hW.2 q hqn)
        unfold TT ron bb
        rw [if_neg hq, Nat.or_comm]
        refine sbs_o ?_ ?_
        · by_cases e : jm I A q < n
          · rw [if_pos e]; exact (h5 W hW _ e).2
          · rw [if_neg e]; exact sbs_0 _
        · by_cases e : gn I A q = true ∧ q + 1 < n
          · rw [if_pos e, if_pos e.1]; exact (h5 W hW _ e.2).2
          · rw [if_neg e]; exact sbs_0 _
      refine ⟨hbW, ?_⟩
      unfold rf
      rw [if_pos hqn]
      exact ah_mono hw hp hb (hW.1 q) hbW
    · rw [upN_n e, upN_n e]; exact h5 W hW q hqn
theorem qs_J (hw : WF n I) (hJ : JR I n A U) : ∀ i, i ≤ n → JR I n A (qs I n A U i) ∧ (∀ q, sbs (U.1 q) ((qs I n A U i).1 q)) ∧ (∀ q, sbs (U.2 q) ((qs I n A U i).2 q)) ∧ (qf I n A U i = true → pct U.1 + pct U.2 < pct (qs I n A U i).1 + pct (qs I n A U i).2) ∧ (qf I n A U i = false → qs I n A U i = U ∧ ∀ j, j < i → A (4 * (n - 1 - j)) = vN ∨ (ah I (bb I n A U.1 (n - 1 - j)) (n - 1 - j) = U.1 (n - 1 - j) ∧ bb I n A U.1 (n - 1 - j) = U.2 (n - 1 - j)))
  | 0, _ => ⟨hJ, fun q => sbs_r _, fun q => sbs_r _, (fun h => by cases h), fun _ => ⟨rfl, fun j hj => absurd hj (by omega)⟩⟩
  | i + 1, hi => by
    obtain ⟨a1, a2, a2', a3, a4⟩ := qs_J hw hJ i (by omega)
    have hn := hw.1
    rw [qs_1, qf_1]
    by_cases hq : A (4 * (n - 1 - i)) = vN
    · rw [if_pos hq, if_pos hq]
      refine ⟨a1, a2, a2', a3, fun h => ⟨(a4 h).1, fun j hj => ?_⟩⟩
      by_cases e : j = i
      · subst e; exact Or.inl hq
      · exact (a4 h).2 j (by omega)
    · rw [if_neg hq, if_neg hq]
      obtain ⟨b1, b2, b3⟩ := JR_up (p := n - 1 - i) hw a1 (by omega) hq
      refine ⟨b1, fun q => sbs_t (a2 q) (b2 q), fun q => sbs_t (a2' q) (b3 q), fun h => ?_, fun h => ?_⟩
      · have l1 := pcs_le a1.1 b1.1 b2 24
        have l2 := pcs_le a1.2.1 b1.2.1 b3 24
        have l3 := pcs_le hJ.1 a1.1 a2 24
        have l4 := pcs_le hJ.2.1 a1.2.1 a2' 24
        show pcs U.1 24 + pcs U.2 24 < pcs _ 24 + pcs _ 24
        rcases Bool.or_eq_true_iff.mp h with h | h
        · rcases Bool.or_eq_true_iff.mp h with h | h
          · have l5 : pcs U.1 24 + pcs U.2 24 < pcs _ 24 + pcs _ 24 := a3 h
            omega
          · have := pcs_lt a1.1 b1.1 b2 (i := n - 1 - i) (fun e => of_decide_eq_true h (by rw [e]; exact upN_s.symm)) 24 (by omega)
            omega
        · have := pcs_lt a1.2.1 b1.2.1 b3 (i := n - 1 - i) (fun e => of_decide_eq_true h (by rw [e]; exact upN_s.symm)) 24 (by omega)
          omega
      · obtain ⟨h5, h7⟩ := Bool.or_eq_false_iff.mp h
        obtain ⟨h5, h6⟩ := Bool.or_eq_false_iff.mp h5
        obtain ⟨c1, c2⟩ := a4 h5
        have e1 := Decidable.of_not_not (of_decide_eq_false h6)
        have e2 := Decidable.of_not_not (of_decide_eq_false h7)
        rw [c1] at e1 e2 ⊢
        refine ⟨Prod.ext ?_ ?_, fun j hj => ?_⟩
        · funext q
          show upN _ _ _ q = _
          by_cases hq : q = n - 1 - i
          · rw [hq, upN_s]; exact e1
          · rw [upN_n hq]
        · funext q
          show upN _ _ _ q = _
          by_cases hq : q = n - 1 - i
          · rw [hq, upN_s]; exact e2
          · rw [upN_n hq]
        · by_cases hj2 : j = i
          · rw [hj2]; exact Or.inr ⟨e1, e2⟩
          · exact c2 j (by omega)
theorem LFP_r (hw : WF n I) (hJ : JR I n A U) (hC : CL I n A) (h : ∀ j, j < n → A (4 * (n - 1 - j)) = vN ∨ (ah I (bb I n A U.1 (n - 1 - j)) (n - 1 - j) = U.1 (n - 1 - j) ∧ bb I n A U.1 (n - 1 - j) = U.2 (n - 1 - j))) : LFP I n A U.2 := by
  have h' : ∀ p, p < n → ¬ A (4 * p) = vN → ah I (bb I n A U.1 p) p = U.1 p ∧ bb I n A U.1 p = U.2 p := fun p hp hq => by
    have := h (n - 1 - p) (by omega)
    rw [show n - 1 - (n - 1 - p) = p by omega] at this
    exact this.resolve_left hq
  have hrf : ∀ t, t < n → ¬ A (4 * t) = vN → U.1 t = rf I n U.2 t := fun t ht hq => by
    unfold rf
    rw [if_pos ht, ← (h' t ht hq).1, (h' t ht hq).2]
    rfl
  refine ⟨hJ.2.1, fun p hp => (hJ.2.2.1 p (Or.inl hp)).2, fun p hp => ?_, fun W hW p hp => (hJ.2.2.2.2 W hW p hp).1⟩
  unfold TT ron
  by_cases hq : A (4 * p) = vN
  · rw [if_pos hq, (hJ.2.2.1 p (Or.inr hq)).2]
  · rw [if_neg hq, ← (h' p hp hq).2]
    unfold bb
    rw [Nat.or_comm]
    have hcl := hC p hp hq
    congr 1
    · by_cases hg : gn I A p = true
      · rw [if_pos hg]
        by_cases h1 : p + 1 < n
        · rw [if_pos ⟨hg, h1⟩, hrf _ h1 (hcl.1 hg h1)]
        · rw [if_neg (fun z => h1 z.2)]
          exact if_neg h1
      · rw [if_neg hg, if_neg (fun z => hg z.1)]
    · by_cases h1 : jm I A p < n
      · rw [if_pos h1, hrf _ h1 (hcl.2 h1)]
      · rw [if_neg h1]
        exact if_neg h1
theorem JR_0 : JR I n A (fun _ => 0, fun _ => 0) := ⟨fun _ => (show 0 < 16 by omega), fun _ => (show 0 < 16 by omega), fun _ _ => ⟨rfl, rfl⟩, fun p _ _ => ⟨sbs_0 _, sbs_0 _⟩, fun W _ p _ => ⟨sbs_0 _, sbs_0 _⟩⟩
/-- ways of what is reached lead to what is reached -/
theorem CL_FV (hw : WF n I) (hR : RA m (FV I n)) : CL I n (FV I n) := by
  have hn := hw.1
  have hfx := FV_fix (I := I) hn
  obtain ⟨-, h2⟩ := swf_f n hfx
  intro p hp hq
  have hg := (h2 p hp).resolve_left hq
  obtain ⟨g1, g2⟩ := Bool.or_eq_false_iff.mp hg
  rw [(gof_f hg).1] at g1
  have hok : ∀ r, r < 4 → okv (FV I n (4 * p + r)) := by
    rcases hR p (by omega) with h | h
    · exact absurd (h.2 0 (by omega)) hq
    · exact fun r hr => (h.2 r hr).1
  have key : ∀ t, t < n → chg n (FV I n) (mb I (FV I n) p) t = false → ¬ FV I n (4 * t) = vN := by
    intro t ht hc hv
    unfold chg at hc
    rw [decide_eq_true ht, Bool.true_and] at hc
    have := chi_no 4 hc 0 (by omega)
    exact (jn_N (show FV I n (4 * t + 0) = vN from hv) (okv_mb hw hp hok (show 0 < 4 by omega))).2 this
  refine ⟨fun hgn h1 => ?_, fun h1 => key _ h1 g1⟩
  rw [hgn, Bool.true_and] at g2
  exact key _ h1 g2
end F2
