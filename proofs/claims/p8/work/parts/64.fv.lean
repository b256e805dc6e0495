/-! findValues comes to its end: each round that changes something knows less -/
def wt (v : Int64) : Nat := if v = vN then 2 else if v = vA then 0 else 1
def mus (A : Nat → Int64) : Nat → Nat
  | 0 => 0
  | i + 1 => mus A i + wt (A i)
def mu (A : Nat → Int64) : Nat := mus A 96
theorem vN_vA : ¬ vN = vA := by decide +kernel
theorem wt_N : wt vN = 2 := by decide +kernel
theorem wt_A : wt vA = 0 := by decide +kernel
theorem wt_2 (v : Int64) : wt v ≤ 2 := by unfold wt; split; omega; split <;> omega
theorem wt_jn (a b : Int64) : wt (jn a b) ≤ wt a := by
  unfold jn
  by_cases h : a = vN ∨ a = b
  · rw [if_pos h]
    rcases h with h | h
    · rw [h, wt_N]; exact wt_2 b
    · rw [h]; exact Nat.le_refl _
  · rw [if_neg h, wt_A]; omega
theorem wt_lt {a b : Int64} (hne : ¬ jn a b = a) : wt (jn a b) < wt a := by
  unfold jn at hne ⊢
  by_cases h : a = vN ∨ a = b
  · rw [if_pos h] at hne ⊢
    rcases h with h | h
    · rw [h] at hne ⊢
      rw [wt_N]
      unfold wt
      rw [if_neg hne]
      split <;> omega
    · exact absurd h.symm hne
  · rw [if_neg h] at hne ⊢
    rw [wt_A]
    unfold wt
    rw [if_neg (fun z => h (Or.inl z)), if_neg (fun z => hne z.symm)]
    omega
theorem mus_le {A A' : Nat → Int64} (h : ∀ i, wt (A' i) ≤ wt (A i)) : ∀ k, mus A' k ≤ mus A k
  | 0 => Nat.le_refl _
  | k + 1 => Nat.add_le_add (mus_le h k) (h k)
theorem mus_lt {A A' : Nat → Int64} (h : ∀ i, wt (A' i) ≤ wt (A i)) {i : Nat} (hi : wt (A' i) < wt (A i)) : ∀ k, i < k → mus A' k < mus A k
  | 0, h0 => absurd h0 (by omega)
  | k + 1, h0 => by
    show mus A' k + wt (A' k) < mus A k + wt (A k)
    have h1 := mus_le h k
    have h2 := h k
    by_cases e : i = k
    · subst e; omega
    · have h3 := mus_lt h hi k (by omega)
      omega
theorem fs2_4 {m : fm} {a b c d : Int64} : fs2 (fs2 (fs2 (fs2 m 7 0 a) 7 1 b) 7 2 c) 7 3 d = sr2 m 7 (fun j => if j = 3 then d else if j = 2 then c else if j = 1 then b else if j = 0 then a else m.2 7 j) := by
  simp only [fs2_sr, sr2_s, sr2_r]
section FV
variable {m : fm} {c n p : Nat} {I : cod} {A B : Nat → Int64}
theorem brg_wt (i : Nat) : wt (brg n A B p i) ≤ wt (A i) := by
  unfold brg
  split
  · unfold bri
    split
    · exact wt_jn _ _
    · exact Nat.le_refl _
  · exact Nat.le_refl _
theorem chi_ex : ∀ i, chi A B p i = true → ∃ r, r < i ∧ ¬ jn (A (4 * p + r)) (B r) = A (4 * p + r)
  | 0, h => by cases h
  | i + 1, h => by
    unfold chi at h
    rcases Bool.or_eq_true_iff.mp h with h | h
    · obtain ⟨r, hr, e⟩ := chi_ex i h
      exact ⟨r, by omega, e⟩
    · exact ⟨i, by omega, of_decide_eq_true h⟩
theorem chi_no : ∀ i, chi A B p i = false → ∀ r, r < i → jn (A (4 * p + r)) (B r) = A (4 * p + r)
  | 0, _, r, hr => absurd hr (by omega)
  | i + 1, h, r, hr => by
    unfold chi at h
    obtain ⟨h1, h2⟩ := Bool.or_eq_false_iff.mp h
    by_cases e : r = i
    · subst e
      exact Decidable.of_not_not (of_decide_eq_false h2)
    · exact chi_no i h1 r (by omega)
theorem chg_t (hn : n ≤ 24) (h : chg n A B p = true) : mu (brg n A B p) < mu A := by
  obtain ⟨h1, h2⟩ := Bool.and_eq_true_iff.mp h
  have h1 := of_decide_eq_true h1
  obtain ⟨r, hr, e⟩ := chi_ex 4 h2
  refine mus_lt (fun i => brg_wt i) (i := 4 * p + r) ?_ 96 (by omega)
  unfold brg
  rw [if_pos h1]
  unfold bri
  rw [if_pos (by omega), show 4 * p + r - 4 * p = r by omega]
  exact wt_lt e
theorem chg_f (h : chg n A B p = false) : brg n A B p = A := by
  unfold brg
  by_cases h1 : p < n
  · rw [if_pos h1]
    unfold chg at h
    rw [decide_eq_true h1, Bool.true_and] at h
    have h2 := chi_no 4 h
    funext j
    unfold bri
    by_cases hj : 4 * p ≤ j ∧ j < 4 * p + 4
    · rw [if_pos hj]
      have := h2 (j - 4 * p) (by omega)
      rw [show 4 * p + (j - 4 * p) = j by omega] at this
      exact this
    · rw [if_neg hj]
  · rw [if_neg h1]
theorem go1_wt (i : Nat) : wt (go1 I n A p i) ≤ wt (A i) := by
  unfold go1
  split
  · exact brg_wt i
  · exact Nat.le_refl _
theorem go_wt (i : Nat) : wt (go I n A p i) ≤ wt (A i) := Nat.le_trans (brg_wt i) (go1_wt i)
theorem gof_t (hn : n ≤ 24) (h : gof I n A p = true) : mu (go I n A p) < mu A := by
  rcases Bool.or_eq_true_iff.mp h with h | h
  · exact Nat.lt_of_lt_of_le (chg_t hn h) (mus_le (fun i => go1_wt i) 96)
  · obtain ⟨h1, h2⟩ := Bool.and_eq_true_iff.mp h
    refine Nat.lt_of_le_of_lt (mus_le (A := go1 I n A p) (fun i => brg_wt i) 96) ?_
    unfold go1
    rw [if_pos h1]
    exact chg_t hn h2
theorem gof_f (h : gof I n A p = false) : go1 I n A p = A ∧ go I n A p = A := by
  obtain ⟨h1, h2⟩ := Bool.or_eq_false_iff.mp h
  have e1 : go1 I n A p = A := by
    unfold go1
    cases hg : gn I A p with
    | false => rfl
    | true =>
      rw [hg, Bool.true_and] at h2
      rw [if_pos rfl]
      exact chg_f h2
  refine ⟨e1, ?_⟩
  unfold go
  rw [chg_f h1, e1]
theorem sw_wt (k : Nat) : ∀ i, wt (sw I n A i k) ≤ wt (A k)
  | 0 => Nat.le_refl _
  | i + 1 => by
    rw [sw_1]
    split
    · exact sw_wt k i
    · exact Nat.le_trans (go_wt k) (sw_wt k i)
theorem swf_t (hn : n ≤ 24) : ∀ i, swf I n A i = true → mu (sw I n A i) < mu A
  | 0, h => by cases h
  | i + 1, h => by
    rw [swf_1] at h
    rw [sw_1]
    by_cases e : sw I n A i (4 * i) = vN
    · rw [if_pos e] at h ⊢
      exact swf_t hn i h
    · rw [if_neg e] at h ⊢
      rcases Bool.or_eq_true_iff.mp h with h | h
      · exact Nat.lt_of_lt_of_le (gof_t hn h) (mus_le (fun k => sw_wt k i) 96)
      · exact Nat.lt_of_le_of_lt (mus_le (fun k => go_wt k) 96) (swf_t hn i h)
theorem swf_f : ∀ i, swf I n A i = false → sw I n A i = A ∧ ∀ p, p < i → A (4 * p) = vN ∨ gof I n A p = false
  | 0, _ => ⟨rfl, fun p h => absurd h (by omega)⟩
  | i + 1, h => by
    rw [swf_1] at h
    rw [sw_1]
    by_cases e : sw I n A i (4 * i) = vN
    · rw [if_pos e] at h ⊢
      obtain ⟨h1, h2⟩ := swf_f i h
      refine ⟨h1, fun p hp => ?_⟩
      by_cases e2 : p = i
      · subst e2; rw [h1] at e; exact Or.inl e
      · exact h2 p (by omega)
    · rw [if_neg e] at h ⊢
      obtain ⟨h3, h4⟩ := Bool.or_eq_false_iff.mp h
      obtain ⟨h1, h2⟩ := swf_f i h4
      rw [h1] at h3 ⊢
      refine ⟨(gof_f h3).2, fun p hp => ?_⟩
      by_cases e2 : p = i
      · subst e2; exact Or.inr h3
      · exact h2 p (by omega)
theorem itr_fix (hn : n ≤ 24) (k : Nat) : ∀ A, mu A < k → swf I n (itr I n k A) n = false := by
  induction k with
  | zero => intro A h; exact absurd h (Nat.not_lt_zero _)
  | succ k ih =>
    intro A h
    unfold itr
    by_cases e : swf I n A n = true
    · rw [if_pos e]
      exact ih _ (by have := swf_t hn n e; omega)
    · rw [if_neg e]
      have e := Bool.eq_false_iff.mpr e
      rw [(swf_f n e).1]
      exact e
theorem g25_67_s (hc : CR m c n I) (hw : WF n I) (k : Nat) : ∀ (A B : Nat → Int64) (x3 fuel : Nat), mu A < k → x3 + k ≤ 193 → k + 1 < fuel → ∃ B', wl (fun s : Int32 × Int32 × fm => s25_67 c s.1 s.2.1 s.2.2) fuel (bI true, nI x3, sr2 (sr2 m 5 A) 7 B) = some (sr2 (sr2 m 5 (itr I n k A)) 7 B') := by
  induction k with
  | zero => intro A B x3 fuel h; exact absurd h (Nat.not_lt_zero _)
  | succ k ih =>
    intro A B x3 fuel h h2 h3
    obtain ⟨fuel, rfl⟩ : ∃ f, fuel = f + 2 := ⟨fuel - 2, by omega⟩
    have hc2 : CR (sr2 (sr2 m 5 A) 7 B) c n I := hc
    have e51 : (sr2 (sr2 m 5 A) 7 B).2 5 = A := by rw [sr2_n (by omega), sr2_s]
    obtain ⟨B1, hB1⟩ := g25_83_s hc2 hw (x3 := nI x3)
    have em : ∀ A1, sr2 (sr2 (sr2 (sr2 m 5 A) 7 B) 5 A1) 7 B1 = sr2 (sr2 m 5 A1) 7 B1 := fun A1 => by
      rw [sr2_c (k := 7) (j := 5) (by omega), sr2_r, sr2_r]
    have hst : s25_67 c (bI true) (nI x3) (sr2 (sr2 m 5 A) 7 B) = some (.inl (bI (swf I n A n), nI (x3 + 1), sr2 (sr2 m 5 (sw I n A n)) 7 B1)) := by
      unfold s25_67
      rw [bI_eq, dx_ge (by omega) (by omega), decide_eq_false (by omega)]
      show g25_83 c (bI false) _ _ _ = _
      rw [hB1, e51, em, nI_add]
    unfold wl
    rw [hst]
    show ∃ B', wl _ (fuel + 1) _ = _
    unfold itr
    cases hs : swf I n A n with
    | true =>
      have := swf_t hw.1 n hs
      exact ih (sw I n A n) B1 (x3 + 1) (fuel + 1) (by omega) (by omega) (by omega)
    | false =>
      refine ⟨B1, ?_⟩
      unfold wl s25_67
      rfl
def B00 (r : Nat) : Int64 := if r < 2 then vA else 0
def A00 : Nat → Int64 := fun i => if i < 96 then vN else 0
def FV (I : cod) (n : Nat) : Nat → Int64 := if n = 0 then A00 else itr I n 192 (brg n A00 B00 0)
theorem mus_00 : mu A00 = 192 := by decide +kernel
theorem chi_00 : chi A00 B00 0 4 = true := by decide +kernel
theorem mus_0b (hn : n ≤ 24) (h0 : 0 < n) : mu (brg n A00 B00 0) < 192 := by
  rw [← mus_00]
  refine chg_t hn ?_
  unfold chg
  rw [decide_eq_true h0, chi_00]
  rfl
theorem FV_fix (hn : n ≤ 24) : swf I n (FV I n) n = false := by
  unfold FV
  by_cases h0 : n = 0
  · subst h0; rfl
  · rw [if_neg h0]
    exact itr_fix hn 192 _ (mus_0b hn (by omega))
theorem g25_s (hc : CR m c n I) (hw : WF n I) (hz : ∀ i, 96 ≤ i → m.2 5 i = 0) : ∃ B, g25 c m = some (sr2 (sr2 m 5 (FV I n)) 7 B) := by
  have hn := hw.1
  unfold g25 g25_2
  have h := wl_c (f := fun s : Int32 × fm => s25_2 c s.1 s.2) (P := fun b : fm => ∃ B, b = sr2 (sr2 m 5 (FV I n)) 7 B) (fun i s => s = (nI i, sr2 m 5 (fun j => if j < i then vN else m.2 5 j))) 96 (by omega) (nI 0, m) (by show _ = (nI 0, sr2 m 5 (fun j => if j < 0 then vN else m.2 5 j)); rw [show (fun j => if j < 0 then vN else m.2 5 j) = m.2 5 from funext fun j => if_neg (by omega), sr2_i]) (fun i s hi hs => ?_) (fun s hs => ?_)
  · obtain ⟨b, h1, B, h2⟩ := ob_ex h
    exact ⟨B, by rw [h1, h2]⟩
  · subst hs
    show ob (s25_2 c (nI i) _) _
    unfold s25_2
    rw [dx_ge (by omega) (by omega), decide_eq_false (by omega), cond_false, dx_stL hi (by omega), nI_add, fs2_sr, sr2_s, sr2_r]
    show _ = _
    congr 2
    funext j
    by_cases e : j = i
    · subst e; simp; rfl
    · by_cases e2 : j < i
      · simp [e, e2, show j < i + 1 by omega]
      · simp [e, e2, show ¬ j < i + 1 by omega]
  · subst hs
    have eA : (fun j => if j < 96 then vN else m.2 5 j) = A00 := by
      funext j
      unfold A00
      by_cases e : j < 96
      · simp [e]
      · simp [e, hz j (by omega)]
    rw [eA]
    show ob (s25_2 c (nI 96) (sr2 m 5 A00)) _
    unfold s25_2
    rw [dx_ge (by omega) (by omega), decide_eq_true (by omega), cond_true, dx_stL (by omega) (by omega), dx_stL (by omega) (by omega), dx_stL (by omega) (by omega), dx_stL (by omega) (by omega), fs2_4, show (sr2 m 5 A00).2 7 = m.2 7 from sr2_n (by omega)]
    generalize hB1 : (fun j => if j = 3 then Int64.ofNat 0 else if j = 2 then Int64.ofNat 0 else if j = 1 then Int64.ofNat 1000000000000 else if j = 0 then Int64.ofNat 1000000000000 else m.2 7 j) = B1
    have hB : ∀ r, r < 4 → B1 r = B00 r := by
      intro r hr
      rw [← hB1]
      have e : r = 0 ∨ r = 1 ∨ r = 2 ∨ r = 3 := by omega
      rcases e with rfl | rfl | rfl | rfl <;> rfl
    have hc2 : CR (sr2 (sr2 m 5 A00) 7 B1) c n I := hc
    rw [g27_1 hc2 hn (by omega), dx_cl2, sr2_s, sr2_n (by omega), sr2_s, brg_cg hB, chg_cg hB, sr2_c (k := 7) (j := 5) (by omega), sr2_r]
    refine ob_mp ?_
    unfold g25_67 FV
    by_cases h0 : n = 0
    · rw [if_pos h0]
      subst h0
      rw [lf_eq]
      exact ⟨B1, rfl⟩
    · rw [if_neg h0]
      have hch : chg n A00 B00 0 = true := by
        unfold chg
        rw [decide_eq_true (by omega), chi_00]
        rfl
      rw [hch]
      obtain ⟨B', hB'⟩ := g25_67_s hc hw 192 (brg n A00 B00 0) B1 0 lf (mus_0b hn (by omega)) (by omega) (by rw [lf_eq]; omega)
      rw [hB']
      exact ⟨B', rfl⟩
end FV
