/-! a member's INSTRUCTIONS, and what the class's small methods say of them -/
abbrev cod : Type := (Nat → Nat) × (Nat → Nat) × (Nat → Int32) × (Nat → Nat)
def kd (I : cod) (p : Nat) : Nat := I.1 p
def ra (I : cod) (p : Nat) : Nat := I.2.1 p
def rb (I : cod) (p : Nat) : Int32 := I.2.2.1 p
def rc (I : cod) (p : Nat) : Nat := I.2.2.2 p
def bn (I : cod) (p : Nat) : Nat := (rb I p).toNatClampNeg
def WF1 (k a : Nat) (b : Int32) (c : Nat) : Prop := k < 13 ∧ a ≤ 24 ∧ c ≤ 24 ∧ (k ≠ 6 → a < 4) ∧ ((1 ≤ k ∧ k ≤ 5 ∨ k = 7 ∨ k = 8) → b = nI b.toNatClampNeg ∧ b.toNatClampNeg < 4) ∧ (k = 9 → b = nI b.toNatClampNeg ∧ b.toNatClampNeg < 8) ∧ ((2 ≤ k ∧ k ≤ 4) → c < 4)
def WF (n : Nat) (I : cod) : Prop := n ≤ 24 ∧ ∀ p, p < n → WF1 (kd I p) (ra I p) (rb I p) (rc I p)
def CR (m : fm) (c n : Nat) (I : cod) : Prop := m.1 c 1 = nI n ∧ ∀ p, p < n → m.1 (c + 1) (4 * p) = nI (kd I p) ∧ m.1 (c + 1) (4 * p + 1) = nI (ra I p) ∧ m.1 (c + 1) (4 * p + 2) = rb I p ∧ m.1 (c + 1) (4 * p + 3) = nI (rc I p)
def bI (b : Bool) : Int32 := nI b.toNat
theorem bI_t : bI true = nI 1 := rfl
theorem bI_f : bI false = nI 0 := rfl
theorem bI_eq (b : Bool) : ai_c .eq (bI b) 0 = !b := by cases b <;> decide +kernel
theorem bI_ne (b : Bool) : ai_c .ne (bI b) 0 = b := by cases b <;> decide +kernel
theorem bI_if {p : Prop} [Decidable p] : (if p then nI 1 else nI 0) = bI (decide p) := by
  by_cases h : p
  · rw [if_pos h, decide_eq_true h]; rfl
  · rw [if_neg h, decide_eq_false h]; rfl
def vA : Int64 := Int64.ofNat 1000000000000
def vN : Int64 := Int64.ofNat 2000000000000
theorem k13 {k : Nat} (h : k < 13) : k = 0 ∨ k = 1 ∨ k = 2 ∨ k = 3 ∨ k = 4 ∨ k = 5 ∨ k = 6 ∨ k = 7 ∨ k = 8 ∨ k = 9 ∨ k = 10 ∨ k = 11 ∨ k = 12 := by omega
/-- what is known: A of place and register -/
def tk (I : cod) (A : Nat → Int64) (p : Nat) : Nat := if A (4 * p + ra I p) = vA then 0 else if A (4 * p + bn I p) = vA then 0 else if A (4 * p + bn I p) ≤ A (4 * p + ra I p) then 4 else 2
def gn (I : cod) (A : Nat → Int64) (p : Nat) : Bool := if kd I p = 4 then decide (¬ A (4 * p + rc I p) = 0) else if kd I p = 5 then decide (¬ tk I A p = 2) else if kd I p = 6 ∨ kd I p = 10 then false else if kd I p = 11 then decide (¬ A (4 * p + ra I p) = 0) else true
/-- the place that is jumped to; 25 is none -/
def jm (I : cod) (A : Nat → Int64) (p : Nat) : Nat := if kd I p = 5 then (if tk I A p = 4 then 25 else rc I p) else if kd I p = 6 then ra I p else 25
def tog (k : Nat) (x y : Int32) : Int32 := if k = 2 then x + y else if k = 3 then x * y else if y = 0 then 0 else x / y
def mad (k : Nat) (x y : Int64) : Int64 := if x = vA then vA else if y = vA then vA else (tog k x.toInt32 y.toInt32).toInt64
/-- what an INSTRUCTION brings on: register a, if it sets it -/
def nv (I : cod) (A : Nat → Int64) (p : Nat) : Int64 := if kd I p = 0 then (rb I p).toInt64 else if kd I p = 1 then A (4 * p + bn I p) else if kd I p ≤ 4 then mad (kd I p) (A (4 * p + bn I p)) (A (4 * p + rc I p)) else vA
def stt (k : Nat) : Bool := decide (k ≤ 4) || decide (k = 7) || decide (k = 9)
def mb (I : cod) (A : Nat → Int64) (p r : Nat) : Int64 := if stt (kd I p) = true ∧ r = ra I p then nv I A p else A (4 * p + r)
section LF
variable {m : fm} {c n p : Nat} {I : cod}
theorem g4_s {q : Nat} (h : 4 * p + q < 96) : g4 c (nI p) (nI q) m = some (m.1 (c + 1) (4 * p + q), m) := by
  unfold g4
  rw [pk_mul, nI_add, show p * 4 + q = 4 * p + q by omega, dx_ldI h (by omega)]
theorem g4_0 (hc : CR m c n I) (hn : n ≤ 24) (hp : p < n) : g4 c (nI p) (nI 0) m = some (nI (kd I p), m) := by
  rw [g4_s (by omega), ← (hc.2 p hp).1]; rfl
theorem g4_1 (hc : CR m c n I) (hn : n ≤ 24) (hp : p < n) : g4 c (nI p) (nI 1) m = some (nI (ra I p), m) := by
  rw [g4_s (by omega), (hc.2 p hp).2.1]
theorem g4_2 (hc : CR m c n I) (hn : n ≤ 24) (hp : p < n) : g4 c (nI p) (nI 2) m = some (rb I p, m) := by
  rw [g4_s (by omega), (hc.2 p hp).2.2.1]
theorem g4_3 (hc : CR m c n I) (hn : n ≤ 24) (hp : p < n) : g4 c (nI p) (nI 3) m = some (nI (rc I p), m) := by
  rw [g4_s (by omega), (hc.2 p hp).2.2.2]
theorem g1_s (hc : CR m c n I) : g1 c m = some (nI n, m) := by
  unfold g1
  rw [dx_gfI, hc.1]
theorem g2_s (hc : CR m c n I) (hn : n ≤ 24) (hp : p < 2147483648) : g2 c (nI p) m = some (bI (decide (p < n)), m) := by
  unfold g2
  rw [dx_gfI, hc.1, dx_lt0 hp, dx_ge hp (by omega), dx_cif]
  by_cases h : p < n
  · rw [decide_eq_true h, if_neg (by omega)]; rfl
  · rw [decide_eq_false h, if_pos (by omega)]; rfl
theorem g2_m : g2 c (-1) m = some (bI false, m) := by
  unfold g2
  rw [dx_ltm]
  rfl
theorem g17_s {r : Nat} (h : 4 * p + r < 96) : g17 (nI p) (nI r) m = some (m.2 5 (4 * p + r), m) := by
  unfold g17
  rw [pk_mul, nI_add, show p * 4 + r = 4 * p + r by omega, dx_ldL h (by omega)]
theorem g16_s (h : p < 24) : g16 (nI p) m = some (bI (decide (¬ m.2 5 (4 * p) = vN)), m) := by
  unfold g16
  rw [g17_s (by omega), dx_cl2, dx_leq, dx_cif]
  show (if m.2 5 (4 * p) = vN then _ else _) = _
  by_cases h2 : m.2 5 (4 * p) = vN
  · rw [if_pos h2, decide_eq_false (fun z => z h2)]; rfl
  · rw [if_neg h2, decide_eq_true h2]; rfl
theorem g18_s {r : Nat} (h : p < 24) : g18 (nI p) (nI r) m = some (bI (decide (¬ m.1 6 p &&& ((nI 1) <<< (nI r &&& 31)) = 0)), m) := by
  unfold g18
  rw [dx_ldI h (by omega), dx_ceq, dx_cif]
  by_cases h2 : m.1 6 p &&& ((nI 1) <<< (nI r &&& 31)) = 0
  · rw [if_pos h2, decide_eq_false (fun z => z h2)]; rfl
  · rw [if_neg h2, decide_eq_true h2]; rfl
theorem g24_1 (hc : CR m c n I) (hn : n ≤ 24) (hp : p < n) (h : ra I p < 4) : g24 c (nI p) (nI 1) m = some (m.2 5 (4 * p + ra I p), m) := by
  unfold g24
  rw [pk_mul, nI_add, show p * 4 + 1 = 4 * p + 1 by omega, dx_ldI (by omega) (by omega), (hc.2 p hp).2.1, nI_add, show p * 4 + ra I p = 4 * p + ra I p by omega, dx_ldL (by omega) (by omega)]
theorem g24_2 (hc : CR m c n I) (hn : n ≤ 24) (hp : p < n) (h : rb I p = nI (bn I p) ∧ bn I p < 4) : g24 c (nI p) (nI 2) m = some (m.2 5 (4 * p + bn I p), m) := by
  unfold g24
  rw [pk_mul, nI_add, show p * 4 + 2 = 4 * p + 2 by omega, dx_ldI (by omega) (by omega), (hc.2 p hp).2.2.1, h.1, nI_add, show p * 4 + bn I p = 4 * p + bn I p by omega, dx_ldL (by omega) (by omega)]
theorem g24_3 (hc : CR m c n I) (hn : n ≤ 24) (hp : p < n) (h : rc I p < 4) : g24 c (nI p) (nI 3) m = some (m.2 5 (4 * p + rc I p), m) := by
  unfold g24
  rw [pk_mul, nI_add, show p * 4 + 3 = 4 * p + 3 by omega, dx_ldI (by omega) (by omega), (hc.2 p hp).2.2.2, nI_add, show p * 4 + rc I p = 4 * p + rc I p by omega, dx_ldL (by omega) (by omega)]
theorem g23_s (hc : CR m c n I) (hn : n ≤ 24) (hp : p < n) (h1 : ra I p < 4) (h2 : rb I p = nI (bn I p) ∧ bn I p < 4) : g23 c (nI p) m = some (nI (tk I (m.2 5) p), m) := by
  unfold g23 tk
  rw [g24_1 hc hn hp h1, dx_cl2, g24_2 hc hn hp h2, dx_cl2, dx_leq, dx_lne, dx_lge, dx_cif, dx_cif, dx_cif]
  show (if _ = vA then _ else if ¬ _ = vA then _ else _) = _
  by_cases e1 : m.2 5 (4 * p + ra I p) = vA
  · rw [if_pos e1, if_pos e1]
  · rw [if_neg e1, if_neg e1]
    by_cases e2 : m.2 5 (4 * p + bn I p) = vA
    · rw [if_neg (fun z => z e2), if_pos e2]
    · rw [if_pos e2, if_neg e2]
      by_cases e3 : m.2 5 (4 * p + bn I p) ≤ m.2 5 (4 * p + ra I p)
      · rw [if_pos e3, if_pos e3]
      · rw [if_neg e3, if_neg e3]
theorem g93_s {k : Nat} (hk : k < 13) {x y : Int32} : g93 (nI k) x y m = some (tog k x y, m) := by
  unfold g93 tog
  simp only [dx_de (show k < 2147483648 by omega) (show 2 < 2147483648 by omega), dx_de (show k < 2147483648 by omega) (show 3 < 2147483648 by omega), dx_cif, dx_cne, dvI]
  by_cases h2 : k = 2
  · rw [if_pos h2, if_pos h2]
  · rw [if_neg h2, if_neg h2]
    by_cases h3 : k = 3
    · rw [if_pos h3, if_pos h3]
    · rw [if_neg h3, if_neg h3]
      by_cases h4 : y = 0
      · rw [if_neg (fun z => z h4), if_pos h4, nI_0]
      · rw [if_pos h4, if_neg h4, if_neg h4]
theorem g29_s {k : Nat} (hk : k < 13) {x y : Int64} : g29 (nI k) x y m = some (mad k x y, m) := by
  unfold g29 mad
  rw [dx_leq, dx_lne, dx_cif, dx_cif, g93_s hk, dx_cl2]
  show (if x = vA then some (vA, m) else if ¬ y = vA then _ else some (vA, m)) = _
  by_cases h1 : x = vA
  · rw [if_pos h1, if_pos h1]
  · rw [if_neg h1, if_neg h1]
    by_cases h2 : y = vA
    · rw [if_neg (fun z => z h2), if_pos h2]
    · rw [if_pos h2, if_neg h2]
theorem bi_of {b : Int32} {k : Nat} (h : b = nI b.toNatClampNeg ∧ b.toNatClampNeg < k) : b = nI b.toNatClampNeg ∧ b.toNatClampNeg < k := h
theorem WF_b (hw : WF n I) (hp : p < n) (hk : 1 ≤ kd I p ∧ kd I p ≤ 5 ∨ kd I p = 7 ∨ kd I p = 8) : rb I p = nI (bn I p) ∧ bn I p < 4 := (hw.2 p hp).2.2.2.2.1 hk
theorem WF_m (hw : WF n I) (hp : p < n) (hk : kd I p = 9) : rb I p = nI (bn I p) ∧ bn I p < 8 := (hw.2 p hp).2.2.2.2.2.1 hk
theorem WF_a (hw : WF n I) (hp : p < n) (hk : kd I p ≠ 6) : ra I p < 4 := (hw.2 p hp).2.2.2.1 hk
theorem WF_c (hw : WF n I) (hp : p < n) (hk : 2 ≤ kd I p ∧ kd I p ≤ 4) : rc I p < 4 := (hw.2 p hp).2.2.2.2.2.2 hk
theorem WF_k (hw : WF n I) (hp : p < n) : kd I p < 13 := (hw.2 p hp).1
theorem WF_t (hw : WF n I) (hp : p < n) : ra I p ≤ 24 ∧ rc I p ≤ 24 := ⟨(hw.2 p hp).2.1, (hw.2 p hp).2.2.1⟩
set_option maxHeartbeats 1000000 in
theorem g30_s (hc : CR m c n I) (hw : WF n I) (hp : p < n) : g30 c (nI p) m = some (bI (gn I (m.2 5) p), m) := by
  unfold g30
  rw [g4_0 hc hw.1 hp, dx_cl2]
  have hk := WF_k hw hp
  have tkb : tk I (m.2 5) p < 10 := by unfold tk; split; omega; split; omega; split <;> omega
  unfold gn
  rcases k13 hk with h | h | h | h | h | h | h | h | h | h | h | h | h
  case inr.inr.inr.inr.inl =>
    rw [g24_3 hc hw.1 hp (WF_c hw hp (by omega)), dx_cl2, h]
    simp only [dx_de, dx_cif, dx_leq, if_true]
    by_cases e : m.2 5 (4 * p + rc I p) = 0
    · rw [decide_eq_false (fun z => z e)]; exact if_pos e
    · rw [decide_eq_true e]; exact if_neg e
  case inr.inr.inr.inr.inr.inl =>
    rw [g23_s hc hw.1 hp (WF_a hw hp (by omega)) (WF_b hw hp (by omega)), dx_cl2, h, dx_eq (by omega) (by omega)]
    by_cases e : tk I (m.2 5) p = 2
    · rw [decide_eq_true e]; simp [e]; rfl
    · rw [decide_eq_false e]; simp [e]; rfl
  case inr.inr.inr.inr.inr.inr.inr.inr.inr.inr.inr.inl =>
    rw [g24_1 hc hw.1 hp (WF_a hw hp (by omega)), dx_cl2, h, dx_leq]
    by_cases e : m.2 5 (4 * p + ra I p) = 0
    · rw [decide_eq_true (show m.2 5 (4 * p + ra I p) = Int64.ofNat 0 from e)]; simp [e]; rfl
    · rw [decide_eq_false (show ¬ m.2 5 (4 * p + ra I p) = Int64.ofNat 0 from e)]; simp [e]; rfl
  all_goals (rw [h]; rfl)
end LF
