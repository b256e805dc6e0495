/-! know of the reference: the same steps -/
def okv (a : Int64) : Prop := a = vA ∨ ∃ x : Int32, a = x.toInt64
theorem okv_N : ¬ okv vN := by
  intro h
  rcases h with h | ⟨x, h⟩
  · exact vN_vA h
  · have h1 : vN.toInt = x.toInt := by rw [h, Int32.toInt_toInt64]
    have h2 : vN.toInt = 2000000000000 := by decide +kernel
    have h3 := Int32.toInt_lt x
    rw [h2] at h1
    have : (2 : Int) ^ 31 = 2147483648 := by decide
    omega
theorem okv_jn {a b : Int64} (hb : okv b) : okv (jn a b) := by
  unfold jn
  split
  · exact hb
  · exact Or.inl rfl
theorem okv_tog {x y : Int64} {k : Nat} : okv (mad k x y) := by
  unfold mad
  split
  · exact Or.inl rfl
  · split
    · exact Or.inl rfl
    · exact Or.inr ⟨_, rfl⟩
theorem jn_N {a b : Int64} (ha : a = vN) (hb : okv b) : jn a b = b ∧ ¬ jn a b = a := by
  have e : jn a b = b := if_pos (Or.inl ha)
  exact ⟨e, by rw [e, ha]; intro h; rw [h] at hb; exact okv_N hb⟩
def RR (m : fm) (o n : Nat) (I : cod) : Prop := o < 16 ∧ m.1 57 o = nI n ∧ ∀ p, p < n → m.1 53 (24 * o + p) = nI (kd I p) ∧ m.1 54 (24 * o + p) = nI (ra I p) ∧ m.1 55 (24 * o + p) = rb I p ∧ m.1 56 (24 * o + p) = nI (rc I p)
def KS (m : fm) (o n : Nat) (I : cod) : Prop := RR m o n I ∧ m.1 52 7 = nI n ∧ m.1 52 8 = nI (24 * o)
def RA (m : fm) (A : Nat → Int64) : Prop := ∀ p, p < 24 → (m.1 59 p = nI 0 ∧ ∀ r, r < 4 → A (4 * p + r) = vN) ∨ (m.1 59 p = nI 1 ∧ ∀ r, r < 4 → okv (A (4 * p + r)) ∧ m.2 60 (4 * p + r) = A (4 * p + r))
def FK0 (m m' : fm) : Prop := (∀ k, k ≠ 52 → k ≠ 59 → m'.1 k = m.1 k) ∧ (∀ f, f ≠ 11 → m'.1 52 f = m.1 52 f) ∧ (∀ k, k ≠ 60 → k ≠ 61 → m'.2 k = m.2 k)
theorem FK0_r (m : fm) : FK0 m m := ⟨fun _ _ _ => rfl, fun _ _ => rfl, fun _ _ _ => rfl⟩
theorem FK0_t {m m' m'' : fm} (h1 : FK0 m m') (h2 : FK0 m' m'') : FK0 m m'' := ⟨fun k a b => (h2.1 k a b).trans (h1.1 k a b), fun f a => (h2.2.1 f a).trans (h1.2.1 f a), fun k a b => (h2.2.2 k a b).trans (h1.2.2 k a b)⟩
theorem KS_f {m m' : fm} {o n : Nat} {I : cod} (h : KS m o n I) (hf : FK0 m m') : KS m' o n I := by
  refine ⟨⟨h.1.1, by rw [hf.1 57 (by omega) (by omega)]; exact h.1.2.1, fun p hp => ?_⟩, by rw [hf.2.1 7 (by omega)]; exact h.2.1, by rw [hf.2.1 8 (by omega)]; exact h.2.2⟩
  rw [hf.1 53 (by omega) (by omega), hf.1 54 (by omega) (by omega), hf.1 55 (by omega) (by omega), hf.1 56 (by omega) (by omega)]
  exact h.1.2.2 p hp
def tI (t : Nat) : Int32 := if t = 0 then -1 else if t = 4 then nI 0 else nI 1
section RL
variable {m : fm} {o n p : Nat} {I : cod} {A : Nat → Int64}
theorem ix_o (ho : o < 16) (hp : p < 24) : 24 * o + p < 384 := by omega
set_option maxHeartbeats 1000000 in
theorem g108_r (hs : KS m o n I) (hw : WF n I) (hp : p < n) (hA : ∀ r, r < 4 → m.2 60 (4 * p + r) = A (4 * p + r)) (h1 : ra I p < 4) (h2 : rb I p = nI (bn I p) ∧ bn I p < 4) : g108 (nI p) m = some (tI (tk I A p), m) := by
  have hn := hw.1
  have hi := ix_o hs.1.1 (show p < 24 by omega)
  obtain ⟨-, ea, eb, -⟩ := hs.1.2.2 p hp
  unfold g108
  simp only [dx_gfI]
  rw [hs.2.2, nI_add, dx_ldI hi (by omega), ea, pk_mul, nI_add, dx_ldL (by omega) (by omega), dx_ldI hi (by omega), eb, h2.1, nI_add, dx_ldL (by omega) (by omega), hA _ h1, hA _ h2.2, dx_leq, dx_lne, dx_lge, dx_cif, dx_cif, dx_cif]
  unfold tk tI
  show (if _ = vA then _ else if ¬ _ = vA then _ else _) = _
  by_cases e1 : A (4 * p + ra I p) = vA
  · rw [if_pos e1, if_pos e1]; rfl
  · rw [if_neg e1, if_neg e1]
    by_cases e2 : A (4 * p + bn I p) = vA
    · rw [if_neg (fun z => z e2), if_pos e2]; rfl
    · rw [if_pos e2, if_neg e2]
      by_cases e3 : A (4 * p + bn I p) ≤ A (4 * p + ra I p)
      · rw [if_pos e3, if_pos e3]; rfl
      · rw [if_neg e3, if_neg e3]; rfl
theorem tk_c : tk I A p = 0 ∨ tk I A p = 2 ∨ tk I A p = 4 := by
  unfold tk
  split
  · exact Or.inl rfl
  · split
    · exact Or.inl rfl
    · split
      · exact Or.inr (Or.inr rfl)
      · exact Or.inr (Or.inl rfl)
set_option maxHeartbeats 1000000 in
theorem g109_r (hs : KS m o n I) (hw : WF n I) (hp : p < n) (hA : ∀ r, r < 4 → m.2 60 (4 * p + r) = A (4 * p + r)) : g109 (nI p) m = some (bI (gn I A p), m) := by
  have hn := hw.1
  have hk := WF_k hw hp
  have hi := ix_o hs.1.1 (show p < 24 by omega)
  obtain ⟨ek, ea, eb, ec⟩ := hs.1.2.2 p hp
  unfold g109
  rw [dx_gfI, hs.2.2, nI_add, dx_ldI hi (by omega), ek, dx_ldI hi (by omega), ec, dx_ldI hi (by omega), ea]
  unfold gn
  rcases k13 hk with h | h | h | h | h | h | h | h | h | h | h | h | h
  case inr.inr.inr.inr.inl =>
    have hc := WF_c hw hp (by omega)
    rw [pk_mul, nI_add, dx_ldL (by omega) (by omega), hA _ hc, h, dx_leq]
    by_cases e : A (4 * p + rc I p) = 0
    · rw [decide_eq_true (show A (4 * p + rc I p) = Int64.ofNat 0 from e)]; simp [e]; rfl
    · rw [decide_eq_false (show ¬ A (4 * p + rc I p) = Int64.ofNat 0 from e)]; simp [e]; rfl
  case inr.inr.inr.inr.inr.inl =>
    rw [g108_r hs hw hp hA (WF_a hw hp (by omega)) (WF_b hw hp (by omega)), dx_cl2, h]
    rcases tk_c (I := I) (A := A) (p := p) with e | e | e <;> rw [e] <;> rfl
  case inr.inr.inr.inr.inr.inr.inr.inr.inr.inr.inr.inl =>
    have hc := WF_a hw hp (by omega)
    rw [pk_mul, nI_add, nI_add, dx_ldL (i := 4 * p + ra I p) (by omega) (by omega), hA _ hc, h, dx_leq]
    by_cases e : A (4 * p + ra I p) = 0
    · rw [decide_eq_true (show A (4 * p + ra I p) = Int64.ofNat 0 from e)]; simp [e]; rfl
    · rw [decide_eq_false (show ¬ A (4 * p + ra I p) = Int64.ofNat 0 from e)]; simp [e]; rfl
  all_goals (rw [h]; rfl)
set_option maxHeartbeats 1000000 in
theorem g110_r (hs : KS m o n I) (hw : WF n I) (hp : p < n) (hA : ∀ r, r < 4 → m.2 60 (4 * p + r) = A (4 * p + r)) : g110 (nI p) m = some (bI (decide (¬ jm I A p = 25)), m) := by
  have hn := hw.1
  have hk := WF_k hw hp
  have ht := WF_t hw hp
  have hi := ix_o hs.1.1 (show p < 24 by omega)
  obtain ⟨ek, ea, eb, ec⟩ := hs.1.2.2 p hp
  unfold g110
  simp only [dx_gfI]
  rw [hs.2.2, nI_add, dx_ldI hi (by omega), dx_ldI hi (by omega), ek, dx_eq (by omega) (by omega), dx_ne (by omega) (by omega), dx_cif, dx_cif]
  unfold jm
  by_cases h6 : kd I p = 6
  · rw [if_pos h6, if_neg (by omega), if_pos h6, decide_eq_true (by omega)]; rfl
  · rw [if_neg h6]
    by_cases h5 : kd I p = 5
    · rw [if_neg (fun z => z h5), if_pos h5, g108_r hs hw hp hA (WF_a hw hp (by omega)) (WF_b hw hp (by omega)), dx_cl2]
      rcases tk_c (I := I) (A := A) (p := p) with e | e | e
      · rw [e, if_neg (by omega), decide_eq_true (by omega)]; rfl
      · rw [e, if_neg (by omega), decide_eq_true (by omega)]; rfl
      · rw [e, if_pos rfl, decide_eq_false (by omega)]; rfl
    · rw [if_pos h5, if_neg h5, if_neg h6, decide_eq_false (by omega)]; rfl
theorem g111_r (hs : KS m o n I) (hw : WF n I) (hp : p < n) (hj : ¬ jm I A p = 25) : g111 (nI p) m = some (nI (jm I A p), m) := by
  have hn := hw.1
  have hk := WF_k hw hp
  have hi := ix_o hs.1.1 (show p < 24 by omega)
  obtain ⟨ek, ea, eb, ec⟩ := hs.1.2.2 p hp
  unfold g111
  simp only [dx_gfI]
  rw [hs.2.2, nI_add, dx_ldI hi (by omega), dx_ldI hi (by omega), dx_ldI hi (by omega), ek, ec, ea, dx_ne (by omega) (by omega), dx_cif]
  unfold jm at hj ⊢
  by_cases h6 : kd I p = 6
  · rw [if_neg (fun z => z h6), if_neg (by omega), if_pos h6]
  · rw [if_pos h6]
    by_cases h5 : kd I p = 5
    · rw [if_pos h5] at hj ⊢
      by_cases h4 : tk I A p = 4
      · rw [if_pos h4] at hj; exact absurd rfl hj
      · rw [if_neg h4]
    · rw [if_neg h5, if_neg h6] at hj; exact absurd rfl hj
end RL
theorem chi_1 {A B : Nat → Int64} {p i : Nat} : chi A B p (i + 1) = (chi A B p i || decide (¬ jn (A (4 * p + i)) (B i) = A (4 * p + i))) := rfl
/-- known[] behind the first i registers of brings(t) -/
def kr (m : fm) (A : Nat → Int64) (t i : Nat) : Nat → Int64 := fun j => if 4 * t ≤ j ∧ j < 4 * t + i then jn (A j) (m.2 61 (j - 4 * t)) else m.2 60 j
section RB
variable {m : fm} {o n t : Nat} {I : cod} {A : Nat → Int64}
theorem fs1_2 {k i : Nat} {x y : Int32} : fs1 (fs1 m k i x) k i y = fs1 m k i y := by
  unfold fs1
  refine Prod.ext ?_ rfl
  funext a b
  by_cases h : a = k ∧ b = i
  · simp [h]
  · simp [h]
theorem fs1_at {k i : Nat} {x : Int32} : (fs1 m k i x).1 k i = x := if_pos ⟨rfl, rfl⟩
theorem fs1_k {k i a : Nat} {x : Int32} (h : ¬ a = k) : (fs1 m k i x).1 a = m.1 a := by
  funext b
  exact if_neg (fun z => h z.1)
theorem fs1_i {k i b : Nat} {x : Int32} (h : ¬ b = i) : (fs1 m k i x).1 k b = m.1 k b := if_neg (fun z => h z.2)
set_option maxHeartbeats 1000000 in
theorem s106_s (hR : RA m A) (hB : ∀ r, r < 4 → okv (m.2 61 r)) (ht : t < 24) {i : Nat} (hi : i < 4) {b : Bool} : s106_11 (nI t) (nI i) (fs1 (sr2 m 60 (kr m A t i)) 52 11 (bI b)) = some (.inl (nI (i + 1), fs1 (sr2 m 60 (kr m A t (i + 1))) 52 11 (bI (b || decide (¬ jn (A (4 * t + i)) (m.2 61 i) = A (4 * t + i)))))) := by
  have e60 : (fs1 (sr2 m 60 (kr m A t i)) 52 11 (bI b)).2 60 (4 * t + i) = m.2 60 (4 * t + i) := by
    show (sr2 m 60 (kr m A t i)).2 60 (4 * t + i) = _
    rw [sr2_s]
    exact if_neg (by omega)
  have e61 : (fs1 (sr2 m 60 (kr m A t i)) 52 11 (bI b)).2 61 = m.2 61 := by
    show (sr2 m 60 (kr m A t i)).2 61 = m.2 61
    exact sr2_n (by omega)
  have e59 : (fs1 (sr2 m 60 (kr m A t i)) 52 11 (bI b)).1 59 = m.1 59 := fs1_k (by omega)
  have e11 : (fs1 (sr2 m 60 (kr m A t i)) 52 11 (bI b)).1 52 11 = bI b := fs1_at
  have bt : ∀ z : Bool, z.toNat < 2 := fun z => by cases z <;> decide
  have h104 : ∀ (y : Bool), g106_104 (nI t) (nI i) (jn (A (4 * t + i)) (m.2 61 i)) (bI y) (fs1 (sr2 m 60 (kr m A t i)) 52 11 (bI b)) = some (.inl (nI (i + 1), fs1 (sr2 m 60 (kr m A t (i + 1))) 52 11 (bI y))) := by
    intro y
    unfold g106_104
    show pfB _ 52 11 (nI y.toNat) _ = _
    rw [dx_pfB (bt y), fs1_2, pk_mul, nI_add, dx_stL (by omega) (by omega), nI_add]
    congr 4
    unfold fs2 fs1
    refine Prod.ext rfl ?_
    funext a j
    show (if a = 60 ∧ j = 4 * t + i then _ else (sr2 m 60 (kr m A t i)).2 a j) = (sr2 m 60 (kr m A t (i + 1))).2 a j
    by_cases ha : a = 60
    · subst ha
      rw [sr2_s, sr2_s]
      unfold kr
      by_cases hj : j = 4 * t + i
      · rw [if_pos ⟨rfl, hj⟩, if_pos (by omega), hj, show 4 * t + i - 4 * t = i by omega]
      · rw [if_neg (fun z => hj z.2)]
        by_cases h2 : 4 * t ≤ j ∧ j < 4 * t + i
        · rw [if_pos h2, if_pos (by omega)]
        · rw [if_neg h2, if_neg (by omega)]
    · rw [if_neg (fun z => ha z.1), sr2_n ha, sr2_n ha]
  have h66 : g106_66 (nI t) (nI i) (jn (A (4 * t + i)) (m.2 61 i)) (fs1 (sr2 m 60 (kr m A t i)) 52 11 (bI b)) = some (.inl (nI (i + 1), fs1 (sr2 m 60 (kr m A t (i + 1))) 52 11 (bI (b || decide (¬ jn (A (4 * t + i)) (m.2 61 i) = A (4 * t + i)))))) := by
    unfold g106_66
    rw [dx_gfI, e11, bI_ne]
    cases b with
    | true => exact h104 true
    | false =>
      rw [cond_false, dx_ldI (by omega) (by omega), e59, pk_mul, nI_add, dx_ldL (by omega) (by omega), e60, dx_leq, dx_cif, Bool.false_or]
      rcases hR t ht with ⟨h0, hv⟩ | ⟨h0, hv⟩
      · rw [h0, dx_eq0 (by omega), decide_eq_true rfl, decide_eq_true (jn_N (hv i hi) (hB i hi)).2]
        exact h104 true
      · rw [h0, dx_eq0 (by omega), decide_eq_false (by omega), cond_false, (hv i hi).2]
        by_cases e : jn (A (4 * t + i)) (m.2 61 i) = A (4 * t + i)
        · rw [if_pos e, decide_eq_false (fun z => z e)]
          exact h104 false
        · rw [if_neg e, decide_eq_true e]
          exact h104 true
  unfold s106_11
  rw [dx_ge (by omega) (by omega), decide_eq_false (by omega), cond_false, dx_ldI (by omega) (by omega), e59, dx_ldL (show i < 4 by omega) (by omega), pk_mul, nI_add, dx_ldL (by omega) (by omega), dx_ldL (show i < 4 by omega) (by omega), e61, e60, dx_lne, dx_cif]
  rcases hR t ht with ⟨h0, hv⟩ | ⟨h0, hv⟩
  · rw [h0, dx_ne0 (by omega), decide_eq_false (by omega), cond_false]
    rw [(jn_N (hv i hi) (hB i hi)).1] at h66 ⊢
    exact h66
  · rw [h0, dx_ne0 (by omega), decide_eq_true (by omega), cond_true, (hv i hi).2]
    have hnv : ¬ A (4 * t + i) = vN := fun z => okv_N (z ▸ (hv i hi).1)
    by_cases e : A (4 * t + i) = m.2 61 i
    · rw [if_neg (fun z => z e)]
      rw [show jn (A (4 * t + i)) (m.2 61 i) = m.2 61 i from if_pos (Or.inr e)] at h66 ⊢
      exact h66
    · rw [if_pos e]
      rw [show jn (A (4 * t + i)) (m.2 61 i) = vA from if_neg (fun z => z.elim hnv e)] at h66 ⊢
      exact h66
theorem g106_r (hs : KS m o n I) (hn : n ≤ 24) (hR : RA m A) (hB : ∀ r, r < 4 → okv (m.2 61 r)) (ht : t ≤ 25) {b : Bool} (hb : m.1 52 11 = bI b) : ob (g106 (nI t) m) (fun m' => FK0 m m' ∧ RA m' (brg n A (m.2 61) t) ∧ m'.2 61 = m.2 61 ∧ m'.1 52 11 = bI (b || chg n A (m.2 61) t)) := by
  unfold g106
  rw [dx_gfI, hs.2.1, dx_lt (by omega) (by omega), dx_cif]
  unfold brg chg
  by_cases h : t < n
  · rw [if_pos h, if_pos h, decide_eq_true h, Bool.true_and]
    unfold g106_11
    have e0 : fs1 (sr2 m 60 (kr m A t 0)) 52 11 (bI (b || chi A (m.2 61) t 0)) = m := by
      have e1 : kr m A t 0 = m.2 60 := funext fun j => if_neg (by omega)
      rw [e1, sr2_i]
      unfold fs1
      refine Prod.ext ?_ rfl
      funext a i
      by_cases hai : a = 52 ∧ i = 11
      · obtain ⟨rfl, rfl⟩ := hai
        simp [hb, chi]
      · simp [hai]
    refine wl_c (f := fun s : Int32 × fm => s106_11 (nI t) s.1 s.2) (fun i s => s = (nI i, fs1 (sr2 m 60 (kr m A t i)) 52 11 (bI (b || chi A (m.2 61) t i)))) 4 (by omega) (nI 0, m) (by show _ = (nI 0, fs1 (sr2 m 60 (kr m A t 0)) 52 11 (bI (b || chi A (m.2 61) t 0))); rw [e0]) (fun i s hi hs => ?_) (fun s hs => ?_)
    · subst hs
      show ob (s106_11 (nI t) (nI i) _) _
      rw [s106_s hR hB (by omega) hi]
      show _ = _
      rw [chi_1, Bool.or_assoc]
    · subst hs
      show ob (s106_11 (nI t) (nI 4) _) _
      unfold s106_11
      rw [dx_ge (by omega) (by omega), decide_eq_true (by omega), cond_true, dx_stB (by omega) (by omega) (by omega)]
      refine ⟨⟨fun k h1 h2 => ?_, fun f hf => ?_, fun k h1 h2 => ?_⟩, fun p hp => ?_, ?_, ?_⟩
      · rw [fs1_k h2, fs1_k h1]; rfl
      · rw [fs1_k (by omega), fs1_i hf]; rfl
      · show (sr2 m 60 (kr m A t 4)).2 k = m.2 k
        exact sr2_n h1
      · have e60 : ∀ j, (fs1 (fs1 (sr2 m 60 (kr m A t 4)) 52 11 (bI (b || chi A (m.2 61) t 4))) 59 t (nI 1)).2 60 j = kr m A t 4 j := fun j => by
          show (sr2 m 60 (kr m A t 4)).2 60 j = _
          rw [sr2_s]
        by_cases hpt : p = t
        · subst hpt
          refine Or.inr ⟨fs1_at, fun r hr => ?_⟩
          rw [e60]
          unfold kr bri
          rw [if_pos (by omega), if_pos (by omega), show 4 * p + r - 4 * p = r by omega]
          exact ⟨okv_jn (hB r hr), rfl⟩
        · rw [fs1_i hpt, fs1_k (by omega)]
          have eb : ∀ r, r < 4 → bri A (m.2 61) t 4 (4 * p + r) = A (4 * p + r) := fun r hr => if_neg (by omega)
          rcases hR p hp with ⟨h1, h2⟩ | ⟨h1, h2⟩
          · exact Or.inl ⟨h1, fun r hr => by rw [eb r hr]; exact h2 r hr⟩
          · refine Or.inr ⟨h1, fun r hr => ?_⟩
            rw [eb r hr, e60]
            refine ⟨(h2 r hr).1, ?_⟩
            unfold kr
            rw [if_neg (by omega)]
            exact (h2 r hr).2
      · show (sr2 m 60 (kr m A t 4)).2 61 = m.2 61
        exact sr2_n (by omega)
      · rw [fs1_k (by omega), fs1_at]
  · rw [if_neg h, if_neg h, decide_eq_false h, Bool.false_and, Bool.or_false]
    exact ⟨FK0_r m, hR, rfl, hb⟩
end RB
