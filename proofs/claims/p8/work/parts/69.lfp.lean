def pfx (I : cod) (n : Nat) (A : Nat → Int64) (W : Nat → Nat) : Prop := (∀ p, W p < 16) ∧ ∀ p, p < n → sbs (TT I n A W p) (W p)
def JJ (I : cod) (n : Nat) (A : Nat → Int64) (V : Nat → Nat) : Prop := (∀ p, V p < 16) ∧ (∀ p, n ≤ p → V p = 0) ∧ (∀ p, p < n → sbs (V p) (TT I n A V p)) ∧ (∀ W, pfx I n A W → ∀ p, p < n → sbs (V p) (W p))
def LFP (I : cod) (n : Nat) (A : Nat → Int64) (V : Nat → Nat) : Prop := (∀ p, V p < 16) ∧ (∀ p, n ≤ p → V p = 0) ∧ (∀ p, p < n → TT I n A V p = V p) ∧ (∀ W, pfx I n A W → ∀ p, p < n → sbs (V p) (W p))
def pcs (V : Nat → Nat) : Nat → Nat
  | 0 => 0
  | i + 1 => pcs V i + pcn (V i)
def pct (V : Nat → Nat) : Nat := pcs V 24
theorem pcs_4 (V : Nat → Nat) : ∀ i, pcs V i ≤ 4 * i
  | 0 => Nat.le_refl _
  | i + 1 => by
    have h1 := pcs_4 V i
    have h2 := pcn_4 (V i)
    show pcs V i + pcn (V i) ≤ _
    omega
theorem pct_96 (V : Nat → Nat) : pct V ≤ 96 := pcs_4 V 24
theorem pcs_le {V W : Nat → Nat} (hV : ∀ p, V p < 16) (hW : ∀ p, W p < 16) (h : ∀ p, sbs (V p) (W p)) : ∀ k, pcs V k ≤ pcs W k
  | 0 => Nat.le_refl _
  | k + 1 => Nat.add_le_add (pcs_le hV hW h k) (pcn_le0 _ (hV k) _ (hW k) (h k)).1
theorem pcs_lt {V W : Nat → Nat} (hV : ∀ p, V p < 16) (hW : ∀ p, W p < 16) (h : ∀ p, sbs (V p) (W p)) {i : Nat} (hi : ¬ V i = W i) : ∀ k, i < k → pcs V k < pcs W k
  | 0, h0 => absurd h0 (by omega)
  | k + 1, h0 => by
    show pcs V k + pcn (V k) < pcs W k + pcn (W k)
    have h1 := pcs_le hV hW h k
    have h2 := pcn_le0 _ (hV k) _ (hW k) (h k)
    by_cases e : i = k
    · subst e
      have := h2.2.resolve_left hi
      omega
    · have h3 := pcs_lt hV hW h hi k (by omega)
      have := h2.1
      omega
section LP
variable {m : fm} {c n p : Nat} {I : cod} {A : Nat → Int64} {V W : Nat → Nat}
theorem rf_mono (hw : WF n I) (hV : ∀ p, V p < 16) (hW : ∀ p, W p < 16) (h : ∀ p, p < n → sbs (V p) (W p)) {t : Nat} : sbs (rf I n V t) (rf I n W t) := by
  unfold rf
  by_cases ht : t < n
  · rw [if_pos ht, if_pos ht]
    exact sbs_o (sbs_r _) (sbs_d (hV t) (hW t) (sm_16 hw ht) (h t ht))
  · rw [if_neg ht, if_neg ht]; exact sbs_r 0
theorem TT_mono (hw : WF n I) (hV : ∀ p, V p < 16) (hW : ∀ p, W p < 16) (h : ∀ p, p < n → sbs (V p) (W p)) : sbs (TT I n A V p) (TT I n A W p) := by
  unfold TT ron
  by_cases e : A (4 * p) = vN
  · rw [if_pos e, if_pos e]; exact sbs_r 0
  · rw [if_neg e, if_neg e]
    refine sbs_o (rf_mono hw hV hW h) ?_
    by_cases hg : gn I A p = true
    · rw [if_pos hg, if_pos hg]; exact rf_mono hw hV hW h
    · rw [if_neg hg, if_neg hg]; exact sbs_r 0
theorem JJ_up (hw : WF n I) (hJ : JJ I n A V) (hp : p < n) : JJ I n A (upN V p (TT I n A V p)) ∧ ∀ q, sbs (V q) (upN V p (TT I n A V p) q) := by
  obtain ⟨h1, h2, h3, h4⟩ := hJ
  have hT : TT I n A V p < 16 := TT_16 hw h1
  have h1' : ∀ q, upN V p (TT I n A V p) q < 16 := fun q => by unfold upN; split; exact hT; exact h1 q
  have hs : ∀ q, sbs (V q) (upN V p (TT I n A V p) q) := fun q => by
    unfold upN
    split
    · rename_i e; rw [e]; exact h3 p hp
    · exact sbs_r _
  have hm : ∀ q, sbs (TT I n A V q) (TT I n A (upN V p (TT I n A V p)) q) := fun q => TT_mono hw h1 h1' (fun q _ => hs q)
  refine ⟨⟨h1', fun q hq => ?_, fun q hq => ?_, fun W hW q hq => ?_⟩, hs⟩
  · unfold upN
    rw [if_neg (by omega)]; exact h2 q hq
  · unfold upN
    split
    · rename_i e; rw [e]; exact hm p
    · exact sbs_t (h3 q hq) (hm q)
  · unfold upN
    split
    · rename_i e
      rw [e]
      exact sbs_t (TT_mono hw h1 hW.1 (fun q hq => h4 W hW q hq)) (hW.2 p hp)
    · exact h4 W hW q hq
theorem rsw_J (hw : WF n I) (hJ : JJ I n A V) : ∀ i, i ≤ n → JJ I n A (rsw I n A V i) ∧ (∀ q, sbs (V q) (rsw I n A V i q)) ∧ (rsf I n A V i = true → pct V < pct (rsw I n A V i)) ∧ (rsf I n A V i = false → rsw I n A V i = V ∧ ∀ j, j < i → TT I n A V (n - 1 - j) = V (n - 1 - j))
  | 0, _ => ⟨hJ, fun q => sbs_r _, (fun h => by cases h), fun _ => ⟨rfl, fun j hj => absurd hj (by omega)⟩⟩
  | i + 1, hi => by
    obtain ⟨a1, a2, a3, a4⟩ := rsw_J hw hJ i (by omega)
    have hn := hw.1
    obtain ⟨b1, b2⟩ := JJ_up (p := n - 1 - i) hw a1 (by omega)
    rw [rsw_1, rsf_1]
    refine ⟨b1, fun q => sbs_t (a2 q) (b2 q), fun h => ?_, fun h => ?_⟩
    · rcases Bool.or_eq_true_iff.mp h with h | h
      · exact Nat.lt_of_lt_of_le (a3 h) (pcs_le a1.1 b1.1 b2 24)
      · refine Nat.lt_of_le_of_lt (pcs_le hJ.1 a1.1 a2 24) (pcs_lt a1.1 b1.1 b2 (i := n - 1 - i) (fun e => of_decide_eq_true h ?_) 24 (by omega))
        unfold upN at e
        rw [if_pos rfl] at e
        exact e.symm
    · obtain ⟨h5, h6⟩ := Bool.or_eq_false_iff.mp h
      obtain ⟨c1, c2⟩ := a4 h5
      have e := Decidable.of_not_not (of_decide_eq_false h6)
      rw [c1] at e ⊢
      refine ⟨?_, fun j hj => ?_⟩
      · funext q
        unfold upN
        by_cases hq : q = n - 1 - i
        · rw [if_pos hq, hq]; exact e
        · rw [if_neg hq]
      · by_cases hj2 : j = i
        · rw [hj2]; exact e
        · exact c2 j (by omega)
theorem LFP_of (hJ : JJ I n A V) (h : ∀ j, j < n → TT I n A V (n - 1 - j) = V (n - 1 - j)) : LFP I n A V := by
  refine ⟨hJ.1, hJ.2.1, fun p hp => ?_, hJ.2.2.2⟩
  have := h (n - 1 - p) (by omega)
  rw [show n - 1 - (n - 1 - p) = p by omega] at this
  exact this
theorem LFP_pfx (h : LFP I n A V) : pfx I n A V := ⟨h.1, fun p hp => by rw [h.2.2.1 p hp]; exact sbs_r _⟩
theorem LFP_uniq (h1 : LFP I n A V) (h2 : LFP I n A W) (p : Nat) : V p = W p := by
  by_cases hp : p < n
  · exact sbs_a (h1.2.2.2 W (LFP_pfx h2) p hp) (h2.2.2.2 V (LFP_pfx h1) p hp)
  · rw [h1.2.1 p (by omega), h2.2.1 p (by omega)]
theorem JJ_0 : JJ I n A (fun _ => 0) := ⟨fun _ => (show 0 < 16 by omega), fun _ _ => rfl, fun p _ => sbs_0 _, fun W _ p _ => sbs_0 _⟩
theorem g32_25_s (hw : WF n I) (h20 : 20 ≤ c) (k : Nat) : ∀ (V : Nat → Nat) (m : fm) (x3 fuel : Nat), CR m c n I → RV m V → JJ I n (m.2 5) V → 96 < k + pct V → x3 + k ≤ 193 → k + 1 < fuel → ob (wl (fun s : Int32 × Int32 × fm => s32_25 c s.1 s.2.1 s.2.2) fuel (bI true, nI x3, m)) (fun m' => F6 m m' ∧ ∃ V', LFP I n (m.2 5) V' ∧ RV m' V') := by
  induction k with
  | zero => intro V m x3 fuel _ _ _ h; have := pct_96 V; exact absurd h (by omega)
  | succ k ih =>
    intro V m x3 fuel hc hV hJ h h2 h3
    have hn := hw.1
    obtain ⟨fuel, rfl⟩ : ∃ f, fuel = f + 2 := ⟨fuel - 2, by omega⟩
    have e := g32_46_s hc hw h20 hV (x3 := nI x3)
    have hst : s32_25 c (bI true) (nI x3) m = g32_46 c (bI false) (nI x3) (nI n - nI 1) m := by
      unfold s32_25
      rw [bI_eq, dx_ge (by omega) (by omega), decide_eq_false (by omega), g1_s hc, dx_cl2]
      rfl
    obtain ⟨b, h1, m', rfl, hF, hV'⟩ := ob_ex e
    obtain ⟨a1, a2, a3, a4⟩ := rsw_J hw hJ n (Nat.le_refl n)
    unfold wl
    rw [hst, h1]
    show ob (wl _ (fuel + 1) (bI (rsf I n (m.2 5) V n), nI x3 + nI 1, m')) _
    rw [nI_add]
    cases hsw : rsf I n (m.2 5) V n with
    | true =>
      have := a3 hsw
      have e5 : m'.2 5 = m.2 5 := by rw [hF.2]
      have hh := ih (rsw I n (m.2 5) V n) m' (x3 + 1) (fuel + 1) (CR_f hc (hF.1 c (by omega)) (hF.1 (c + 1) (by omega))) hV' (by rw [e5]; exact a1) (by omega) (by omega) (by omega)
      rw [e5] at hh
      exact ob_m hh (fun m'' hm => ⟨F6_t hF hm.1, hm.2⟩)
    | false =>
      obtain ⟨c1, c2⟩ := a4 hsw
      rw [c1] at hV'
      unfold wl s32_25
      rw [bI_eq]
      exact ⟨hF, V, LFP_of hJ c2, hV'⟩
theorem g32_s (hc : CR m c n I) (hw : WF n I) (h20 : 20 ≤ c) : ob (g32 c m) (fun m' => F6 m m' ∧ ∃ V, LFP I n (m.2 5) V ∧ RV m' V) := by
  have hn := hw.1
  unfold g32 g32_2
  refine wl_c (f := fun s : Int32 × fm => s32_2 c s.1 s.2) (fun i s => ∃ mi, s = (nI i, mi) ∧ F6 m mi ∧ ∀ p, p < i → mi.1 6 p = nI 0) 24 (by omega) (nI 0, m) ⟨m, rfl, F6_r m, fun p hp => absurd hp (by omega)⟩ (fun i s hi hss => ?_) (fun s hss => ?_)
  · obtain ⟨mi, rfl, hF, hz⟩ := hss
    show ob (s32_2 c (nI i) mi) _
    unfold s32_2
    rw [dx_ge (by omega) (by omega), decide_eq_false (by omega), cond_false, dx_stI hi (by omega), nI_add]
    refine ⟨_, rfl, F6_t hF ⟨fun k hk => fs1_k hk, rfl⟩, fun p hp => ?_⟩
    by_cases e : p = i
    · subst e; exact fs1_at
    · rw [fs1_i e]; exact hz p (by omega)
  · obtain ⟨mi, rfl, hF, hz⟩ := hss
    show ob (s32_2 c (nI 24) mi) _
    unfold s32_2
    rw [dx_ge (by omega) (by omega), decide_eq_true (by omega), cond_true]
    refine ob_mp ?_
    have e5 : mi.2 5 = m.2 5 := by rw [hF.2]
    have hh := g32_25_s hw h20 97 (fun _ => 0) mi 0 lf (CR_f hc (hF.1 c (by omega)) (hF.1 (c + 1) (by omega))) ⟨fun _ => (show 0 < 16 by omega), hz⟩ JJ_0 (by omega) (by omega) (by rw [lf_eq]; omega)
    rw [e5] at hh
    exact ob_m hh (fun m'' hm => ⟨F6_t hF hm.1, hm.2⟩)
end LP
