/-! findValues of the class -/
def sr2 (m : fm) (k : Nat) (f : Nat → Int64) : fm := (m.1, fun a => if a = k then f else m.2 a)
theorem sr2_s {m : fm} {k : Nat} {f : Nat → Int64} : (sr2 m k f).2 k = f := if_pos rfl
theorem sr2_n {m : fm} {k a : Nat} {f : Nat → Int64} (h : ¬ a = k) : (sr2 m k f).2 a = m.2 a := if_neg h
theorem sr2_r {m : fm} {k : Nat} {f g : Nat → Int64} : sr2 (sr2 m k f) k g = sr2 m k g := by
  unfold sr2
  refine Prod.ext rfl ?_
  funext a
  by_cases h : a = k
  · simp [h]
  · simp [h]
theorem sr2_c {m : fm} {k j : Nat} {f g : Nat → Int64} (h : ¬ k = j) : sr2 (sr2 m k f) j g = sr2 (sr2 m j g) k f := by
  unfold sr2
  refine Prod.ext rfl ?_
  funext a
  by_cases h1 : a = k
  · subst h1; simp [h]
  · simp [h1]
theorem sr2_i {m : fm} {k : Nat} : sr2 m k (m.2 k) = m := by
  unfold sr2
  refine Prod.ext rfl ?_
  funext a
  by_cases h : a = k
  · subst h; simp
  · simp [h]
theorem fs2_sr {m : fm} {k i : Nat} {x : Int64} : fs2 m k i x = sr2 m k (fun j => if j = i then x else m.2 k j) := by
  unfold sr2 fs2
  refine Prod.ext rfl ?_
  funext a b
  by_cases h : a = k
  · subst h; simp
  · simp [h]
def jn (a b : Int64) : Int64 := if a = vN ∨ a = b then b else vA
def bri (A B : Nat → Int64) (p i : Nat) : Nat → Int64 := fun j => if 4 * p ≤ j ∧ j < 4 * p + i then jn (A j) (B (j - 4 * p)) else A j
def chi (A B : Nat → Int64) (p : Nat) : Nat → Bool
  | 0 => false
  | i + 1 => chi A B p i || decide (¬ jn (A (4 * p + i)) (B i) = A (4 * p + i))
def brg (n : Nat) (A B : Nat → Int64) (p : Nat) : Nat → Int64 := if p < n then bri A B p 4 else A
def chg (n : Nat) (A B : Nat → Int64) (p : Nat) : Bool := decide (p < n) && chi A B p 4
theorem bri_0 {A B : Nat → Int64} {p : Nat} : bri A B p 0 = A := by
  funext j
  exact if_neg (by omega)
theorem bri_1 {A B : Nat → Int64} {p i : Nat} : (fun j => if j = 4 * p + i then jn (A (4 * p + i)) (B i) else bri A B p i j) = bri A B p (i + 1) := by
  funext j
  unfold bri
  by_cases h : j = 4 * p + i
  · rw [if_pos h, if_pos (by omega), h, show 4 * p + i - 4 * p = i by omega]
  · rw [if_neg h]
    by_cases h2 : 4 * p ≤ j ∧ j < 4 * p + i
    · rw [if_pos h2, if_pos (by omega)]
    · rw [if_neg h2, if_neg (by omega)]
theorem bri_e {A B : Nat → Int64} {p i : Nat} : bri A B p i (4 * p + i) = A (4 * p + i) := if_neg (by omega)
theorem bri_cg {A B B' : Nat → Int64} {p : Nat} (h : ∀ r, r < 4 → B r = B' r) : bri A B p 4 = bri A B' p 4 := by
  funext j
  unfold bri
  by_cases h2 : 4 * p ≤ j ∧ j < 4 * p + 4
  · rw [if_pos h2, if_pos h2, h _ (by omega)]
  · rw [if_neg h2, if_neg h2]
theorem brg_cg {n : Nat} {A B B' : Nat → Int64} {p : Nat} (h : ∀ r, r < 4 → B r = B' r) : brg n A B p = brg n A B' p := by
  unfold brg
  rw [bri_cg h]
theorem chg_cg {n : Nat} {A B B' : Nat → Int64} {p : Nat} (h : ∀ r, r < 4 → B r = B' r) : chg n A B p = chg n A B' p := by
  unfold chg chi chi chi chi chi
  rw [h 0 (by omega), h 1 (by omega), h 2 (by omega), h 3 (by omega)]
def jI (j : Nat) : Int32 := if j = 25 then -1 else nI j
section VL
variable {m : fm} {c n p : Nat} {I : cod}
theorem dx_or {b : Bool} {q : Prop} [Decidable q] : (if b = true then bI true else if q then bI false else bI true) = bI (b || decide (¬ q)) := by
  cases b with
  | true => rfl
  | false =>
    by_cases h : q
    · simp [h]
    · simp [h]
set_option maxHeartbeats 1000000 in
theorem s27_s {i : Nat} {b : Bool} (hp : p < 24) (hi : i < 4) : s27_15 (nI p) (bI b) (nI i) m = some (.inl (bI (b || decide (¬ jn (m.2 5 (4 * p + i)) (m.2 7 i) = m.2 5 (4 * p + i))), nI (i + 1), fs2 m 5 (4 * p + i) (jn (m.2 5 (4 * p + i)) (m.2 7 i)))) := by
  have h74 : ∀ y : Int64, g27_74 (nI p) (bI b) (nI i) (nI (4 * p + i)) y m = some (.inl (bI (b || decide (¬ y = m.2 5 (4 * p + i))), nI (i + 1), fs2 m 5 (4 * p + i) y)) := by
    intro y
    unfold g27_74 g27_98
    simp only [dx_ldL (show 4 * p + i < 96 by omega) (show 96 < 2147483648 by omega), dx_stL (show 4 * p + i < 96 by omega) (show 96 < 2147483648 by omega), bI_ne, dx_leq, dx_cif, nI_add]
    cases b with
    | true => rfl
    | false =>
      by_cases h : y = m.2 5 (4 * p + i)
      · simp [h]; rfl
      · simp [h]; rfl
  unfold s27_15 g27_61
  rw [dx_ge (by omega) (by omega), decide_eq_false (by omega), pk_mul, nI_add, show p * 4 + i = 4 * p + i by omega]
  simp only [dx_ldL (show 4 * p + i < 96 by omega) (show 96 < 2147483648 by omega), dx_ldL (show i < 4 by omega) (show 4 < 2147483648 by omega), dx_leq, dx_lne, dx_cif, h74, cond_false]
  show (if m.2 5 (4 * p + i) = vN then _ else _) = _
  unfold jn
  by_cases e1 : m.2 5 (4 * p + i) = vN
  · rw [if_pos e1, if_pos (Or.inl e1)]
  · rw [if_neg e1]
    by_cases e2 : m.2 5 (4 * p + i) = m.2 7 i
    · rw [if_neg (fun z => z e2), if_pos (Or.inr e2)]
    · rw [if_pos e2, if_neg (fun z => z.elim e1 e2)]
      rfl
theorem g27_s (hc : CR m c n I) (hn : n ≤ 24) {j : Nat} (hj : j ≤ 25) : g27 c (jI j) m = some (bI (chg n (m.2 5) (m.2 7) j), sr2 m 5 (brg n (m.2 5) (m.2 7) j)) := by
  unfold g27 jI brg chg
  by_cases h25 : j = 25
  · rw [if_pos h25, g2_m, dx_cl2, bI_ne, if_neg (by omega), decide_eq_false (by omega), sr2_i]
    rfl
  · rw [if_neg h25, g2_s hc hn (by omega), dx_cl2, bI_ne]
    by_cases hjn : j < n
    · rw [decide_eq_true hjn, if_pos hjn]
      show g27_15 (nI j) (bI false) (nI 0) m = _
      unfold g27_15
      have h := wl_c (f := fun s : Int32 × Int32 × fm => s27_15 (nI j) s.1 s.2.1 s.2.2) (P := fun b : Int32 × fm => b = (bI (true && chi (m.2 5) (m.2 7) j 4), sr2 m 5 (bri (m.2 5) (m.2 7) j 4))) (fun i s => s = (bI (chi (m.2 5) (m.2 7) j i), nI i, sr2 m 5 (bri (m.2 5) (m.2 7) j i))) 4 (by omega) (bI false, nI 0, m) (by show _ = (bI false, nI 0, _); rw [bri_0, sr2_i]) (fun i s hi hs => ?_) (fun s hs => ?_)
      · obtain ⟨b, h1, h2⟩ := ob_ex h
        rw [h1, h2]
      · subst hs
        show ob (s27_15 (nI j) _ _ _) _
        rw [s27_s (by omega) hi]
        show _ = _
        rw [fs2_sr, sr2_s, sr2_n (by omega), sr2_r, bri_e, bri_1]
        rfl
      · subst hs
        show ob (s27_15 (nI j) (bI _) (nI 4) _) _
        unfold s27_15
        rw [dx_ge (by omega) (by omega)]
        show ob (rtB (nI _) _) _
        rw [dx_rtB (by cases (chi (m.2 5) (m.2 7) j 4) <;> decide)]
        rfl
    · rw [decide_eq_false hjn, if_neg hjn, sr2_i]
      rfl
theorem g27_1 (hc : CR m c n I) (hn : n ≤ 24) {j : Nat} (hj : j ≤ 24) : g27 c (nI j) m = some (bI (chg n (m.2 5) (m.2 7) j), sr2 m 5 (brg n (m.2 5) (m.2 7) j)) := by
  have h := g27_s (m := m) hc hn (show j ≤ 25 by omega)
  unfold jI at h
  rw [if_neg (by omega)] at h
  exact h
theorem tk_lt {A : Nat → Int64} : tk I A p < 10 := by unfold tk; split; omega; split; omega; split <;> omega
set_option maxHeartbeats 1000000 in
theorem g31_s (hc : CR m c n I) (hw : WF n I) (hp : p < n) : g31 c (nI p) m = some (jI (jm I (m.2 5) p), m) := by
  unfold g31 jm jI
  have hk := WF_k hw hp
  have ht := WF_t hw hp
  have tkb := tk_lt (I := I) (p := p) (A := m.2 5)
  rw [g4_0 hc hw.1 hp, dx_cl2]
  simp only [dx_de (show kd I p < 2147483648 by omega) (show 5 < 2147483648 by omega), dx_de (show kd I p < 2147483648 by omega) (show 6 < 2147483648 by omega), dx_cif]
  by_cases h5 : kd I p = 5
  · rw [if_pos h5, if_pos h5, g23_s hc hw.1 hp (WF_a hw hp (by omega)) (WF_b hw hp (by omega)), dx_cl2, dx_ne (by omega) (by omega), dx_cif, g4_3 hc hw.1 hp, dx_cl2]
    by_cases h4 : tk I (m.2 5) p = 4
    · rw [if_neg (fun z => z h4), if_pos h4, if_pos rfl]
    · rw [if_pos h4, if_neg h4, if_neg (by omega)]
  · rw [if_neg h5, if_neg h5]
    by_cases h6 : kd I p = 6
    · rw [if_pos h6, if_pos h6, g4_1 hc hw.1 hp, dx_cl2, if_neg (by omega)]
    · rw [if_neg h6, if_neg h6, if_pos rfl]
theorem jm_le {A : Nat → Int64} (hw : WF n I) (hp : p < n) : jm I A p ≤ 25 := by
  have ht := WF_t hw hp
  unfold jm
  split
  · split <;> omega
  · split <;> omega
theorem cp2_sr (hp : p < 24) {β : Type} {f : fm → Option β} : cpL m 5 96 (nI p * nI 4) 7 4 (nI 0) (nI 4) f = f (sr2 m 7 (fun r => if r < 4 then m.2 5 (4 * p + r) else m.2 7 r)) := by
  unfold cpL cpok
  rw [pk_mul, dx_cl (show p * 4 < 2147483648 by omega), dx_cl (show 0 < 2147483648 by omega), dx_cl (show 4 < 2147483648 by omega)]
  have e1 : decide (nI (p * 4) < 0) = false := decide_eq_false (nI_pos (by omega))
  have e2 : decide (nI 0 < 0) = false := by decide +kernel
  have e3 : decide (nI 4 < 0) = false := by decide +kernel
  rw [e1, e2, e3, Nat.ble_eq_true_of_le (show p * 4 + 4 ≤ 96 by omega), Nat.ble_eq_true_of_le (show 0 + 4 ≤ 4 by omega)]
  show f (cpy2 m 5 (p * 4) 7 0 4) = _
  congr 1
  unfold cpy2 sr2
  refine Prod.ext rfl ?_
  funext a b
  by_cases h : a = 7
  · subst h
    by_cases hb : b < 4
    · simp [hb, show p * 4 = 4 * p by omega]
    · simp [hb]
  · simp [h]
end VL
