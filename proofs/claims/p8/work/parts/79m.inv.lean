/-! what holds between calls -/
def HT (m : fm) : Prop := ∃ (NT : Nat → Nat) (JT PT : Nat → cod), ∀ j, j < 8 → CR m (22 + 4 * j) (NT j) (JT j) ∧ RR m (8 + j) (NT j) (PT j) ∧ WF (NT j) (JT j) ∧ WF (NT j) (PT j) ∧ RLx (JT j) (PT j) (NT j)
/-- what is told of the latest run -/
def SP (m : fm) : Prop := ∃ t s, m.1 14 6 = nI t ∧ m.1 52 21 = nI t ∧ t ≤ 2000 ∧ m.1 14 7 = nI s ∧ m.1 52 20 = nI s ∧ s ≤ t ∧ (∀ i, i < 60 → i < s → m.1 16 i = m.1 67 i) ∧ m.1 14 8 = m.1 52 22 ∧ ∀ f, f < 4 → m.1 15 f = m.1 66 f
def IN (m : fm) (N : Nat → Nat) (P : Nat → cod) (R : Nat → Bool) : Prop := ALLC m N P ∧ ALLR m N P ∧ ALLW N P ∧ ALLZ N P ∧ hz5 m ∧ (∀ j, j < 8 → m.1 3 j = bI (R j) ∧ m.1 58 j = bI (R j)) ∧ (∃ ht : Bool, m.1 0 7 = bI ht ∧ m.1 52 6 = bI ht ∧ (ht = true → HT m)) ∧ SP m
def INV (m : fm) : Prop := ∃ N P R, IN m N P R
/-- scratch of the class, of the reference -/
def FCs (m m' : fm) : Prop := (∀ k, ¬ (k = 6 ∨ k = 9 ∨ k = 10 ∨ k = 11 ∨ k = 13) → m'.1 k = m.1 k) ∧ (∀ k, k ≠ 5 → k ≠ 7 → m'.2 k = m.2 k) ∧ hz5 m'
def FRs (m m' : fm) : Prop := (∀ k, k ≠ 52 → k ≠ 59 → (k < 62 ∨ 65 < k) → m'.1 k = m.1 k) ∧ (∀ f, f ≠ 7 → f ≠ 8 → f ≠ 11 → f ≠ 15 → m'.1 52 f = m.1 52 f) ∧ (∀ k, k ≠ 60 → k ≠ 61 → m'.2 k = m.2 k)
section IV
variable {m m' : fm} {N : Nat → Nat} {P : Nat → cod} {R : Nat → Bool}
theorem FRs_r (m : fm) : FRs m m := ⟨fun _ _ _ _ => rfl, fun _ _ _ _ _ => rfl, fun _ _ _ => rfl⟩
theorem FRs_W (h : FW m m') : FRs m m' := ⟨fun k a b _ => h.1 k a b, h.2.1, h.2.2⟩
theorem FRs_D (h : FD m m') : FRs m m' := ⟨fun k a b c => h.1 k a b (by omega) (by omega), fun f a b c _ => h.2.1 f a b c, h.2.2⟩
theorem FCs_U (h : FU m m') (hz : hz5 m') : FCs m m' := ⟨fun k hk => h.1 k (by omega) (by omega) (by omega), h.2, hz⟩
theorem HT_f (h : HT m) (hc : ∀ k, 20 ≤ k → k ≤ 51 → m'.1 k = m.1 k) (hr : ∀ k, 53 ≤ k → k ≤ 57 → m'.1 k = m.1 k) : HT m' := by
  obtain ⟨NT, JT, PT, h⟩ := h
  refine ⟨NT, JT, PT, fun j hj => ?_⟩
  obtain ⟨a, b, c⟩ := h j hj
  exact ⟨CR_f a (hc _ (by omega) (by omega)) (hc _ (by omega) (by omega)), RR_f b (by rw [hr 57 (by omega) (by omega)]) (hr 53 (by omega) (by omega)) (hr 54 (by omega) (by omega)) (hr 55 (by omega) (by omega)) (hr 56 (by omega) (by omega)), c⟩
theorem IN_c (h : IN m N P R) (f : FCs m m') : IN m' N P R := by
  obtain ⟨h1, h2, h3, h4, h5, h6, ⟨b, h7, h8, h9⟩, h10⟩ := h
  refine ⟨fun j hj => CR_f (h1 j hj) (f.1 _ (by omega)) (f.1 _ (by omega)), fun j hj => RR_f (h2 j hj) (by rw [f.1 57 (by omega)]) (f.1 53 (by omega)) (f.1 54 (by omega)) (f.1 55 (by omega)) (f.1 56 (by omega)), h3, h4, f.2.2, fun j hj => by rw [f.1 3 (by omega), f.1 58 (by omega)]; exact h6 j hj, ⟨b, by rw [f.1 0 (by omega)]; exact h7, by rw [f.1 52 (by omega)]; exact h8, fun z => HT_f (h9 z) (fun k _ _ => f.1 k (by omega)) (fun k _ _ => f.1 k (by omega))⟩, ?_⟩
  unfold SP
  rw [f.1 14 (by omega), f.1 52 (by omega), f.1 16 (by omega), f.1 67 (by omega), f.1 15 (by omega), f.1 66 (by omega)]
  exact h10
theorem IN_r (h : IN m N P R) (f : FRs m m') : IN m' N P R := by
  obtain ⟨h1, h2, h3, h4, h5, h6, ⟨b, h7, h8, h9⟩, h10⟩ := h
  refine ⟨fun j hj => CR_f (h1 j hj) (f.1 _ (by omega) (by omega) (by omega)) (f.1 _ (by omega) (by omega) (by omega)), fun j hj => RR_f (h2 j hj) (by rw [f.1 57 (by omega) (by omega) (by omega)]) (f.1 53 (by omega) (by omega) (by omega)) (f.1 54 (by omega) (by omega) (by omega)) (f.1 55 (by omega) (by omega) (by omega)) (f.1 56 (by omega) (by omega) (by omega)), h3, h4, fun i hi => by rw [f.2.2 5 (by omega) (by omega)]; exact h5 i hi, fun j hj => by rw [f.1 3 (by omega) (by omega) (by omega), f.1 58 (by omega) (by omega) (by omega)]; exact h6 j hj, ⟨b, by rw [f.1 0 (by omega) (by omega) (by omega)]; exact h7, by rw [f.2.1 6 (by omega) (by omega) (by omega) (by omega)]; exact h8, fun z => HT_f (h9 z) (fun k _ _ => f.1 k (by omega) (by omega) (by omega)) (fun k _ _ => f.1 k (by omega) (by omega) (by omega))⟩, ?_⟩
  unfold SP
  rw [f.1 14 (by omega) (by omega) (by omega), f.2.1 21 (by omega) (by omega) (by omega) (by omega), f.2.1 20 (by omega) (by omega) (by omega) (by omega), f.2.1 22 (by omega) (by omega) (by omega) (by omega), f.1 16 (by omega) (by omega) (by omega), f.1 67 (by omega) (by omega) (by omega), f.1 15 (by omega) (by omega) (by omega), f.1 66 (by omega) (by omega) (by omega)]
  exact h10
/-- one call, on both -/
def OK {α : Type} (o : Option (α × fm)) (g : fm → Option (α × fm)) : Prop := ob o (fun r => ob (g r.2) (fun r' => r.1 = r'.1 ∧ INV r'.2))
theorem OK_e {α : Type} {o : Option (α × fm)} {g : fm → Option (α × fm)} {a : α} {m : fm} (h1 : o = some (a, m)) (h2 : g m = some (a, m)) (hi : INV m) : OK o g := by
  unfold OK
  rw [h1]
  show ob (g m) _
  rw [h2]
  exact ⟨rfl, hi⟩
/-! is there such a member, register .. ? -/
theorem lt_of {x : Int32} {n : Nat} (hn : 0 < n) (hn2 : n < 2147483648) (h : x < 0 ∨ nI n ≤ x) : (ai_c .lt x 0 = true) ∨ (ai_c .lt x 0 = false ∧ ai_c .ge x (nI n) = true ∧ ai_c .gt x (nI (n - 1)) = true ∧ ai_c .lt x (nI n) = false) := by
  by_cases hx : x < 0
  · exact Or.inl (decide_eq_true hx)
  · have h := h.resolve_left hx
    obtain ⟨j, hj, e⟩ := nI_of hx
    rw [e] at h ⊢
    have hle : n ≤ j := (nI_leI (by omega) (by omega)).mp h
    exact Or.inr ⟨dx_lt0 (by omega), by rw [dx_ge (by omega) (by omega)]; exact decide_eq_true hle, by rw [dx_gt (by omega) (by omega)]; exact decide_eq_true (by omega), by rw [dx_lt (by omega) (by omega)]; exact decide_eq_false (by omega)⟩
theorem g95_y {j n : Nat} (hj : j < n) (hn : n < 2147483648) : g95 (nI j) (nI 0) (nI (n - 1)) m = some (nI 1, m) := by
  unfold g95
  rw [dx_lt (by omega) (by omega), decide_eq_false (by omega), cond_false, dx_gt (by omega) (by omega), decide_eq_false (by omega), cond_false]
theorem g95_n {x : Int32} {n : Nat} (hn : 0 < n) (hn2 : n < 2147483648) (h : x < 0 ∨ nI n ≤ x) : g95 x (nI 0) (nI (n - 1)) m = some (nI 0, m) := by
  unfold g95
  rw [← dx_z]
  rcases lt_of hn hn2 h with h | ⟨h1, h2, h3, h4⟩
  · rw [h, cond_true]
  · rw [h1, cond_false, h3, cond_true]
theorem mem_y {j : Nat} (hj : j < 8) : g87 (nI j) m = some (nI 1, m) ∧ g96 (nI j) m = some (nI 1, m) := by
  refine ⟨?_, ?_⟩
  · unfold g87
    rw [dx_lt0 (by omega), cond_false, dx_ge (by omega) (by omega), decide_eq_false (by omega), cond_false]
  · unfold g96
    rw [show (nI 7) = nI (8 - 1) from rfl, g95_y hj (by omega), dx_cl2, dx_rtB (by omega)]
theorem mem_n {x : Int32} (h : x < 0 ∨ nI 8 ≤ x) : g87 x m = some (nI 0, m) ∧ g96 x m = some (nI 0, m) := by
  refine ⟨?_, ?_⟩
  · unfold g87
    rcases lt_of (by omega) (by omega) h with h | ⟨h1, h2, h3, h4⟩
    · rw [h, cond_true]
    · rw [h1, cond_false, h2, cond_true]
  · unfold g96
    rw [show (nI 7) = nI (8 - 1) from rfl, g95_n (by omega) (by omega) h, dx_cl2, dx_rtB (by omega)]
theorem reg_y {j : Nat} (hj : j < 4) : g88 (nI j) m = some (nI 1, m) ∧ g89 (nI j) m = some (nI 1, m) ∧ g97 (nI j) m = some (nI 1, m) := by
  refine ⟨?_, ?_, ?_⟩
  · unfold g88
    rw [dx_lt0 (by omega), cond_false, dx_ge (by omega) (by omega), decide_eq_false (by omega), cond_false]
  · unfold g89
    rw [dx_lt0 (by omega), cond_false, dx_ge (by omega) (by omega), decide_eq_false (by omega), cond_false]
  · unfold g97
    rw [show (nI 3) = nI (4 - 1) from rfl, g95_y hj (by omega), dx_cl2, dx_rtB (by omega)]
theorem reg_n {x : Int32} (h : x < 0 ∨ nI 4 ≤ x) : g88 x m = some (nI 0, m) ∧ g89 x m = some (nI 0, m) ∧ g97 x m = some (nI 0, m) := by
  have hl := lt_of (n := 4) (by omega) (by omega) h
  refine ⟨?_, ?_, ?_⟩
  · unfold g88
    rcases hl with h | ⟨h1, h2, h3, h4⟩
    · rw [h, cond_true]
    · rw [h1, cond_false, h2, cond_true]
  · unfold g89
    rcases hl with h | ⟨h1, h2, h3, h4⟩
    · rw [h, cond_true]
    · rw [h1, cond_false, h2, cond_true]
  · unfold g97
    rw [show (nI 3) = nI (4 - 1) from rfl, g95_n (by omega) (by omega) h, dx_cl2, dx_rtB (by omega)]
theorem e10 : ai_c .eq (nI 1) 0 = false ∧ ai_c .ne (nI 1) 0 = true ∧ ai_c .eq (nI 0) 0 = true ∧ ai_c .ne (nI 0) 0 = false := by decide +kernel
/-- a place of a member -/
theorem pl_of {x : Int32} {n : Nat} (hn : n ≤ 24) : (∃ p, p < n ∧ x = nI p) ∨ ((∀ (m : fm) (c : Nat) (I : cod), CR m c n I → g2 c x m = some (nI 0, m)) ∧ (∀ m : fm, g95 x (nI 0) (nI n - nI 1) m = some (nI 0, m))) := by
  rcases dx_of (x := x) (n := n) (by omega) with h | h
  · exact Or.inl h
  · refine Or.inr ⟨fun m c I hc => ?_, fun m => ?_⟩
    · unfold g2
      rw [dx_gfI, hc.1]
      by_cases hx : x < 0
      · rw [show ai_c .lt x 0 = true from decide_eq_true hx, cond_true]
      · rw [show ai_c .lt x 0 = false from decide_eq_false hx, cond_false]
        have h := h.resolve_left hx
        rw [show ai_c .ge x (nI n) = true from decide_eq_true h, cond_true]
    · by_cases h0 : n = 0
      · subst h0
        unfold g95
        rw [← dx_z, show (0 : Int32) - nI 1 = -1 by decide +kernel]
        by_cases hx : x < 0
        · rw [show ai_c .lt x 0 = true from decide_eq_true hx, cond_true]
        · rw [show ai_c .lt x 0 = false from decide_eq_false hx, cond_false]
          have hg : ai_c .gt x (-1) = true := by
            refine decide_eq_true ?_
            rw [Int32.lt_iff_toInt_lt] at hx ⊢
            have e0 : (0 : Int32).toInt = 0 := rfl
            have e1 : (-1 : Int32).toInt = -1 := by decide +kernel
            omega
          rw [hg, cond_true]
      · rw [dx_sub (by omega)]
        exact g95_n (by omega) (by omega) h
theorem pl_y {n p : Nat} (hn : n ≤ 24) (hp : p < n) : g95 (nI p) (nI 0) (nI n - nI 1) m = some (nI 1, m) := by
  rw [dx_sub (by omega)]
  exact g95_y hp (by omega)
/-- isInstruction, isPlace -/
theorem ip_s (h : IN m N P R) (x y : Int32) : (∃ j p, j < 8 ∧ p < N j ∧ x = nI j ∧ y = nI p ∧ g86 x y m = some (nI 1, m) ∧ ∀ m1 : fm, RR m1 j (N j) (P j) → g119 x y m1 = some (nI 1, m1)) ∨ (g86 x y m = some (nI 0, m) ∧ g119 x y m = some (nI 0, m)) := by
  obtain ⟨e1, e2, e3, e4⟩ := e10
  rcases dx_of (x := x) (n := 8) (by omega) with ⟨j, hj, rfl⟩ | hx
  · have hC := h.1 j hj
    have hR := h.2.1 j hj
    have hn := (h.2.2.1 j hj).1
    rcases pl_of (x := y) hn with ⟨p, hp, rfl⟩ | ⟨h1, h2⟩
    · refine Or.inl ⟨j, p, hj, hp, rfl, rfl, ?_, fun m1 hr => ?_⟩
      · unfold g86
        rw [(mem_y hj).1, dx_cl2, e1, cond_false, dx_ldA hj, g2_s hC hn (by omega), dx_cl2, bI_eq, decide_eq_true hp]
        rfl
      · unfold g119
        rw [(mem_y hj).2, dx_cl2, e1, cond_false, dx_ldI (by omega) (by omega), hr.2.1, pl_y hn hp, dx_cl2, e1, cond_false]
    · refine Or.inr ⟨?_, ?_⟩
      · unfold g86
        rw [(mem_y hj).1, dx_cl2, e1, cond_false, dx_ldA hj, h1 _ _ _ hC, dx_cl2, e3, cond_true]
      · unfold g119
        rw [(mem_y hj).2, dx_cl2, e1, cond_false, dx_ldI (by omega) (by omega), hR.2.1, h2, dx_cl2, e3, cond_true]
  · refine Or.inr ⟨?_, ?_⟩
    · unfold g86
      rw [(mem_n hx).1, dx_cl2, e3, cond_true]
    · unfold g119
      rw [(mem_n hx).2, dx_cl2, e3, cond_true]
end IV
