section GO
variable {m : fm} {c n p : Nat} {I : cod}
theorem mb_of {A : Nat → Int64} {r : Nat} (h : stt (kd I p) = false) : mb I A p r = A (4 * p + r) := by
  unfold mb
  rw [h]
  exact if_neg (fun z => by cases z.1)
set_option maxHeartbeats 1000000 in
theorem g28_s (hc : CR m c n I) (hw : WF n I) (hp : p < n) : ∃ B, g28 c (nI p) m = some (sr2 m 7 B) ∧ ∀ r, r < 4 → B r = mb I (m.2 5) p r := by
  have hk := WF_k hw hp
  have hn := hw.1
  have hp24 : p < 24 := by omega
  unfold g28
  rw [cp2_sr hp24]
  generalize hB0 : (fun r => if r < 4 then m.2 5 (4 * p + r) else m.2 7 r) = B0
  have hB : ∀ r, r < 4 → B0 r = m.2 5 (4 * p + r) := fun r hr => by rw [← hB0]; exact if_pos hr
  have hc' : CR (sr2 m 7 B0) c n I := hc
  have e5 : (sr2 m 7 B0).2 5 = m.2 5 := sr2_n (by omega)
  rw [g4_0 hc' hn hp, dx_cl2, g4_1 hc' hn hp, dx_cl2]
  have fin : ∀ x : Int64, ra I p < 4 → stt (kd I p) = true → nv I (m.2 5) p = x → ∃ B, (stL (sr2 m 7 B0) 7 4 (nI (ra I p)) x fun m8 => some m8) = some (sr2 m 7 B) ∧ ∀ r, r < 4 → B r = mb I (m.2 5) p r := by
    intro x hx hs hv
    rw [dx_stL hx (by omega), fs2_sr, sr2_s, sr2_r]
    refine ⟨_, rfl, fun r hr => ?_⟩
    unfold mb
    by_cases e : r = ra I p
    · show (if r = ra I p then x else B0 r) = _
      rw [if_pos e, if_pos ⟨hs, e⟩]; exact hv.symm
    · show (if r = ra I p then x else B0 r) = _
      rw [if_neg e, if_neg (fun z => e z.2)]; exact hB r hr
  have nof : stt (kd I p) = false → ∃ B, some (sr2 m 7 B0) = some (sr2 m 7 B) ∧ ∀ r, r < 4 → B r = mb I (m.2 5) p r := fun hs => ⟨B0, rfl, fun r hr => by rw [mb_of hs]; exact hB r hr⟩
  have made : 2 ≤ kd I p ∧ kd I p ≤ 4 → ∃ B, g28_122 c (nI p) (nI (kd I p)) (nI (ra I p)) (sr2 m 7 B0) = some (sr2 m 7 B) ∧ ∀ r, r < 4 → B r = mb I (m.2 5) p r := by
    intro h
    unfold g28_122
    rw [g24_2 hc' hn hp (WF_b hw hp (by omega)), dx_cl2, g24_3 hc' hn hp (WF_c hw hp h), dx_cl2, g29_s hk, dx_cl2, e5]
    refine fin _ (WF_a hw hp (by omega)) ?_ ?_
    · unfold stt; rw [decide_eq_true (show kd I p ≤ 4 by omega)]; rfl
    · unfold nv; rw [if_neg (by omega), if_neg (by omega), if_pos (by omega)]
  have any : kd I p = 7 ∨ kd I p = 9 → ∃ B, g28_150 (nI (ra I p)) (sr2 m 7 B0) = some (sr2 m 7 B) ∧ ∀ r, r < 4 → B r = mb I (m.2 5) p r := by
    intro h
    unfold g28_150
    refine fin _ (WF_a hw hp (by omega)) ?_ ?_
    · rcases h with h | h <;> rw [h] <;> rfl
    · unfold nv; rw [if_neg (by omega), if_neg (by omega), if_neg (by omega)]; rfl
  rcases k13 hk with h | h | h | h | h | h | h | h | h | h | h | h | h
  case inl =>
    rw [h, g4_2 hc' hn hp, dx_cl2]
    exact fin _ (WF_a hw hp (by omega)) (by rw [h]; rfl) (by unfold nv; rw [if_pos h])
  case inr.inl =>
    rw [h, g24_2 hc' hn hp (WF_b hw hp (by omega)), dx_cl2, e5]
    exact fin _ (WF_a hw hp (by omega)) (by rw [h]; rfl) (by unfold nv; rw [if_neg (by omega), if_pos h])
  case inr.inr.inl => have := made (by omega); rw [h] at this ⊢; exact this
  case inr.inr.inr.inl => have := made (by omega); rw [h] at this ⊢; exact this
  case inr.inr.inr.inr.inl => have := made (by omega); rw [h] at this ⊢; exact this
  case inr.inr.inr.inr.inr.inr.inr.inl => have := any (by omega); rw [h]; exact this
  case inr.inr.inr.inr.inr.inr.inr.inr.inr.inl => have := any (by omega); rw [h]; exact this
  all_goals (have := nof (by rw [h]; rfl); rw [h]; exact this)
def go1 (I : cod) (n : Nat) (A : Nat → Int64) (p : Nat) : Nat → Int64 := if gn I A p = true then brg n A (mb I A p) (p + 1) else A
def go (I : cod) (n : Nat) (A : Nat → Int64) (p : Nat) : Nat → Int64 := brg n (go1 I n A p) (mb I A p) (jm I A p)
def gof (I : cod) (n : Nat) (A : Nat → Int64) (p : Nat) : Bool := chg n (go1 I n A p) (mb I A p) (jm I A p) || (gn I A p && chg n A (mb I A p) (p + 1))
theorem brg_o {A B : Nat → Int64} {q i : Nat} (h : i < 4 * q ∨ 4 * q + 4 ≤ i) : brg n A B q i = A i := by
  unfold brg
  split
  · exact if_neg (by omega)
  · rfl
theorem go1_o {A : Nat → Int64} {i : Nat} (h : i < 4 * p + 4) : go1 I n A p i = A i := by
  unfold go1
  split
  · exact brg_o (by omega)
  · rfl
theorem jm_cg {A A' : Nat → Int64} (hw : WF n I) (hp : p < n) (h : ∀ r, r < 4 → A' (4 * p + r) = A (4 * p + r)) : jm I A' p = jm I A p := by
  unfold jm tk
  by_cases h5 : kd I p = 5
  · rw [if_pos h5, if_pos h5, h _ (WF_a hw hp (by omega)), h _ (WF_b hw hp (by omega)).2]
  · rw [if_neg h5, if_neg h5]
theorem g26_s (hc : CR m c n I) (hw : WF n I) (hp : p < n) : ∃ B, g26 c (nI p) m = some (bI (gof I n (m.2 5) p), sr2 (sr2 m 5 (go I n (m.2 5) p)) 7 B) := by
  obtain ⟨B, h28, hB⟩ := g28_s hc hw hp
  have hn := hw.1
  have hc1 : CR (sr2 m 7 B) c n I := hc
  have e5 : (sr2 m 7 B).2 5 = m.2 5 := sr2_n (by omega)
  unfold g26
  rw [h28, dx_cl1, g30_s hc1 hw hp, dx_cl2, bI_eq, e5]
  have h31 : ∀ (y : Bool) (A1 : Nat → Int64), A1 = go1 I n (m.2 5) p → ∃ B', g26_31 c (nI p) (bI y) (sr2 (sr2 m 5 A1) 7 B) = some (bI (chg n (go1 I n (m.2 5) p) (mb I (m.2 5) p) (jm I (m.2 5) p) || y), sr2 (sr2 m 5 (go I n (m.2 5) p)) 7 B') := by
    intro y A1 hA
    have hc2 : CR (sr2 (sr2 m 5 A1) 7 B) c n I := hc
    have e51 : (sr2 (sr2 m 5 A1) 7 B).2 5 = A1 := by rw [sr2_n (by omega), sr2_s]
    have e71 : (sr2 (sr2 m 5 A1) 7 B).2 7 = B := sr2_s
    unfold g26_31
    rw [g31_s hc2 hw hp, dx_cl2, g27_s hc2 hn (jm_le hw hp), dx_cl2, bI_ne, bI_eq, e51, e71, hA, jm_cg (A := m.2 5) hw hp (fun r hr => go1_o (by omega)), brg_cg hB, chg_cg hB]
    refine ⟨B, ?_⟩
    have em : sr2 (sr2 (sr2 m 5 (go1 I n (m.2 5) p)) 7 B) 5 (brg n (go1 I n (m.2 5) p) (mb I (m.2 5) p) (jm I (m.2 5) p)) = sr2 (sr2 m 5 (go I n (m.2 5) p)) 7 B := by
      rw [sr2_c (by omega), sr2_r]; rfl
    rw [em]
    cases chg n (go1 I n (m.2 5) p) (mb I (m.2 5) p) (jm I (m.2 5) p) with
    | true => cases y <;> rfl
    | false => cases y <;> rfl
  unfold gof
  cases hg : gn I (m.2 5) p with
  | false =>
    obtain ⟨B', h⟩ := h31 false (m.2 5) (by unfold go1; rw [hg]; rfl)
    rw [sr2_i] at h
    exact ⟨B', h⟩
  | true =>
    rw [Bool.not_true, cond_false, nI_add, g27_1 hc1 hn (by omega), dx_cl2, bI_eq, e5, sr2_s, brg_cg hB, chg_cg hB, sr2_c (by omega)]
    have hA : brg n (m.2 5) (mb I (m.2 5) p) (p + 1) = go1 I n (m.2 5) p := by unfold go1; rw [hg]; rfl
    cases hh : chg n (m.2 5) (mb I (m.2 5) p) (p + 1) with
    | true => exact h31 true _ hA
    | false => exact h31 false _ hA
/-- the places 0 .. i - 1, one after the other -/
def sw (I : cod) (n : Nat) (A : Nat → Int64) : Nat → Nat → Int64
  | 0 => A
  | i + 1 => if sw I n A i (4 * i) = vN then sw I n A i else go I n (sw I n A i) i
def swf (I : cod) (n : Nat) (A : Nat → Int64) : Nat → Bool
  | 0 => false
  | i + 1 => if sw I n A i (4 * i) = vN then swf I n A i else gof I n (sw I n A i) i || swf I n A i
theorem sw_1 {A : Nat → Int64} {i : Nat} : sw I n A (i + 1) = if sw I n A i (4 * i) = vN then sw I n A i else go I n (sw I n A i) i := rfl
theorem swf_1 {A : Nat → Int64} {i : Nat} : swf I n A (i + 1) = if sw I n A i (4 * i) = vN then swf I n A i else gof I n (sw I n A i) i || swf I n A i := rfl
def itr (I : cod) (n : Nat) : Nat → (Nat → Int64) → Nat → Int64
  | 0, A => A
  | k + 1, A => if swf I n A n = true then itr I n k (sw I n A n) else sw I n A n
theorem g25_83_s (hc : CR m c n I) (hw : WF n I) {x3 : Int32} : ∃ B, g25_83 c (bI false) x3 (nI 0) m = some (.inl (bI (swf I n (m.2 5) n), x3 + nI 1, sr2 (sr2 m 5 (sw I n (m.2 5) n)) 7 B)) := by
  have hn := hw.1
  unfold g25_83
  have h := wl_c (f := fun s : Int32 × Int32 × fm => s25_83 c s.1 x3 s.2.1 s.2.2) (P := fun b : (Int32 × Int32 × fm) ⊕ fm => ∃ B, b = .inl (bI (swf I n (m.2 5) n), x3 + nI 1, sr2 (sr2 m 5 (sw I n (m.2 5) n)) 7 B)) (fun i s => ∃ B, s = (bI (swf I n (m.2 5) i), nI i, sr2 (sr2 m 5 (sw I n (m.2 5) i)) 7 B)) n (by omega) (bI false, nI 0, m) ⟨m.2 7, by show _ = (bI false, nI 0, _); unfold sw; rw [sr2_i, sr2_i]⟩ (fun i s hi hs => ?_) (fun s hs => ?_)
  · obtain ⟨b, h1, B, h2⟩ := ob_ex h
    exact ⟨B, by rw [h1, h2]⟩
  · obtain ⟨B, rfl⟩ := hs
    have hc2 : CR (sr2 (sr2 m 5 (sw I n (m.2 5) i)) 7 B) c n I := hc
    have e51 : (sr2 (sr2 m 5 (sw I n (m.2 5) i)) 7 B).2 5 = sw I n (m.2 5) i := by rw [sr2_n (by omega), sr2_s]
    show ob (s25_83 c _ x3 (nI i) _) _
    unfold s25_83
    rw [g1_s hc2, dx_cl2, dx_ge (by omega) (by omega), decide_eq_false (by omega), g16_s (by omega), dx_cl2, bI_eq, e51, nI_add]
    show ob (bif !decide _ then _ else _) (Sum.elim (fun s => ∃ B, s = (bI (swf I n (m.2 5) (i + 1)), nI (i + 1), sr2 (sr2 m 5 (sw I n (m.2 5) (i + 1))) 7 B)) _)
    rw [sw_1, swf_1]
    by_cases e : sw I n (m.2 5) i (4 * i) = vN
    · rw [decide_eq_false (fun z => z e), if_pos e, if_pos e]
      exact ⟨B, rfl⟩
    · rw [decide_eq_true e, if_neg e, if_neg e]
      obtain ⟨B', hB'⟩ := g26_s hc2 hw hi
      rw [hB', dx_cl2, bI_eq, e51]
      have em : sr2 (sr2 (sr2 (sr2 m 5 (sw I n (m.2 5) i)) 7 B) 5 (go I n (sw I n (m.2 5) i) i)) 7 B' = sr2 (sr2 m 5 (go I n (sw I n (m.2 5) i) i)) 7 B' := by
        rw [sr2_c (k := 7) (j := 5) (by omega), sr2_r, sr2_r]
      rw [em]
      cases gof I n (sw I n (m.2 5) i) i with
      | true => exact ⟨B', rfl⟩
      | false => exact ⟨B', rfl⟩
  · obtain ⟨B, rfl⟩ := hs
    have hc2 : CR (sr2 (sr2 m 5 (sw I n (m.2 5) n)) 7 B) c n I := hc
    show ob (s25_83 c _ x3 (nI n) _) _
    unfold s25_83
    rw [g1_s hc2, dx_cl2, dx_ge (by omega) (by omega), decide_eq_true (Nat.le_refl _)]
    exact ⟨B, rfl⟩
end GO
