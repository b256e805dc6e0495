/-! which members are used: the class -/
def anyp (q : Nat → Bool) : Nat → Bool
  | 0 => false
  | n + 1 => anyp q n || q n
theorem anyp_1 {q : Nat → Bool} {n : Nat} : anyp q (n + 1) = (anyp q n || q n) := rfl
theorem anyp_t {q : Nat → Bool} : ∀ {n : Nat}, anyp q n = true ↔ ∃ i, i < n ∧ q i = true
  | 0 => ⟨fun h => absurd (show false = true from h) Bool.false_ne_true, fun h => absurd h.choose_spec.1 (by omega)⟩
  | n + 1 => by
    rw [anyp_1, Bool.or_eq_true_iff, anyp_t (n := n)]
    constructor
    · rintro (⟨i, h1, h2⟩ | h)
      · exact ⟨i, by omega, h2⟩
      · exact ⟨n, by omega, h⟩
    · rintro ⟨i, h1, h2⟩
      by_cases e : i = n
      · subst e; exact Or.inr h2
      · exact Or.inl ⟨i, by omega, h2⟩
theorem anyp_e {q r : Nat → Bool} {n : Nat} (h : ∀ i, i < n → q i = r i) : anyp q n = anyp r n := by
  rw [Bool.eq_iff_iff, anyp_t, anyp_t]
  exact ⟨fun ⟨i, a, b⟩ => ⟨i, a, by rw [← h i a]; exact b⟩, fun ⟨i, a, b⟩ => ⟨i, a, by rw [h i a]; exact b⟩⟩
def upB (v : Nat → Bool) (j : Nat) : Nat → Bool := fun i => if i = j then true else v i
theorem upB_s {v : Nat → Bool} {j : Nat} : upB v j j = true := if_pos rfl
theorem upB_n {v : Nat → Bool} {j i : Nat} (h : ¬ i = j) : upB v j i = v i := if_neg h
theorem anyp_up {v h : Nat → Bool} {j n : Nat} (hj : j < n) : anyp (fun i => upB v j i && h i) n = (anyp (fun i => v i && h i) n || h j) := by
  rw [Bool.eq_iff_iff, Bool.or_eq_true_iff, anyp_t, anyp_t]
  constructor
  · rintro ⟨i, a, b⟩
    obtain ⟨b1, b2⟩ := Bool.and_eq_true_iff.mp b
    by_cases e : i = j
    · subst e; exact Or.inr b2
    · rw [upB_n e] at b1
      exact Or.inl ⟨i, a, Bool.and_eq_true_iff.mpr ⟨b1, b2⟩⟩
  · rintro (⟨i, a, b⟩ | b)
    · obtain ⟨b1, b2⟩ := Bool.and_eq_true_iff.mp b
      refine ⟨i, a, Bool.and_eq_true_iff.mpr ⟨?_, b2⟩⟩
      by_cases e : i = j
      · subst e; exact upB_s
      · rw [upB_n e]; exact b1
    · exact ⟨j, hj, Bool.and_eq_true_iff.mpr ⟨upB_s, b⟩⟩
/-- a reached place has an INSTRUCTION of this kind with this b -/
def ht (I : cod) (n k f p : Nat) : Bool := decide (¬ FV I n (4 * p) = vN) && decide (kd I p = k) && decide (bn I p = f)
def hit (I : cod) (n k f : Nat) : Bool := anyp (ht I n k f) n
def w2 (a b : Bool) : Nat := a.toNat + 2 * b.toNat
theorem w2_1 {a b : Bool} : nI (w2 a b) ||| nI 1 = nI (w2 true b) := by cases a <;> cases b <;> decide +kernel
theorem w2_2 {a b : Bool} : nI (w2 a b) ||| nI 2 = nI (w2 a true) := by cases a <;> cases b <;> decide +kernel
def cntv (v : Nat → Bool) : Nat → Nat
  | 0 => 0
  | i + 1 => cntv v i + (v i).toNat
theorem cntv_le (v : Nat → Bool) : ∀ i, cntv v i ≤ i
  | 0 => Nat.le_refl _
  | i + 1 => by
    have := cntv_le v i
    show cntv v i + (v i).toNat ≤ i + 1
    cases v i <;> simp <;> omega
theorem cntv_all (v : Nat → Bool) : ∀ i, cntv v i = i → ∀ j, j < i → v j = true
  | 0, _, j, hj => absurd hj (by omega)
  | i + 1, h, j, hj => by
    have h1 : cntv v i + (v i).toNat = i + 1 := h
    have h2 := cntv_le v i
    cases hv : v i with
    | false => rw [hv] at h1; simp at h1; omega
    | true =>
      rw [hv] at h1
      by_cases e : j = i
      · subst e; exact hv
      · exact cntv_all v i (by simp at h1; omega) j (by omega)
theorem cntv_up (v : Nat → Bool) {j : Nat} (hv : v j = false) : ∀ i, cntv (upB v j) i = cntv v i + (if j < i then 1 else 0)
  | 0 => rfl
  | i + 1 => by
    show cntv (upB v j) i + (upB v j i).toNat = cntv v i + (v i).toNat + _
    rw [cntv_up v hv i]
    by_cases e : i = j
    · subst e
      rw [upB_s, hv, if_neg (by omega), if_pos (by omega)]; rfl
    · rw [upB_n e]
      by_cases h : j < i
      · rw [if_pos h, if_pos (by omega)]; omega
      · rw [if_neg h, if_neg (by omega)]; omega
theorem brg_hi {n q i : Nat} {A B : Nat → Int64} (hn : n ≤ 24) (hi : 96 ≤ i) : brg n A B q i = A i := by
  unfold brg
  split
  · exact if_neg (by omega)
  · rfl
theorem go_hi {I : cod} {n p i : Nat} {A : Nat → Int64} (hn : n ≤ 24) (hi : 96 ≤ i) : go I n A p i = A i := by
  unfold go
  rw [brg_hi hn hi]
  unfold go1
  split
  · exact brg_hi hn hi
  · rfl
theorem sw_hi {I : cod} {n i : Nat} {A : Nat → Int64} (hn : n ≤ 24) (hi : 96 ≤ i) : ∀ k, sw I n A k i = A i
  | 0 => rfl
  | k + 1 => by
    rw [sw_1]
    split
    · exact sw_hi hn hi k
    · rw [go_hi hn hi]; exact sw_hi hn hi k
theorem itr_hi {I : cod} {n i : Nat} (hn : n ≤ 24) (hi : 96 ≤ i) (k : Nat) : ∀ A, itr I n k A i = A i := by
  induction k with
  | zero => intro A; rfl
  | succ k ih =>
    intro A
    unfold itr
    split
    · rw [ih]; exact sw_hi hn hi n
    · exact sw_hi hn hi n
theorem FV_hi {I : cod} {n i : Nat} (hn : n ≤ 24) (hi : 96 ≤ i) : FV I n i = 0 := by
  have h0 : A00 i = 0 := if_neg (by omega)
  unfold FV
  split
  · exact h0
  · rw [itr_hi hn hi, brg_hi hn hi]; exact h0
def ALLC (m : fm) (N : Nat → Nat) (P : Nat → cod) : Prop := ∀ j, j < 8 → CR m (20 + 4 * j) (N j) (P j)
def ALLW (N : Nat → Nat) (P : Nat → cod) : Prop := ∀ j, j < 8 → WF (N j) (P j)
def hz5 (m : fm) : Prop := ∀ i, 96 ≤ i → m.2 5 i = 0
def FU (m m' : fm) : Prop := (∀ k, k ≠ 9 → k ≠ 10 → k ≠ 11 → m'.1 k = m.1 k) ∧ (∀ k, k ≠ 5 → k ≠ 7 → m'.2 k = m.2 k)
theorem FU_r (m : fm) : FU m m := ⟨fun _ _ _ _ => rfl, fun _ _ _ => rfl⟩
theorem FU_t {m m' m'' : fm} (h1 : FU m m') (h2 : FU m' m'') : FU m m'' := ⟨fun k a b c => (h2.1 k a b c).trans (h1.1 k a b c), fun k a b => (h2.2 k a b).trans (h1.2 k a b)⟩
theorem ALLC_f {m m' : fm} {N : Nat → Nat} {P : Nat → cod} (h : ALLC m N P) (hF : FU m m') : ALLC m' N P := fun j hj => CR_f (h j hj) (hF.1 _ (by omega) (by omega) (by omega)) (hF.1 _ (by omega) (by omega) (by omega))
/-- rows 9, 10, 11 -/
def US (m : fm) (u v : Nat → Bool) (f1 f2 : Nat → Bool) : Prop := (∀ j, j < 8 → m.1 9 j = bI (u j)) ∧ (∀ j, j < 8 → m.1 10 j = bI (v j)) ∧ (∀ f, f < 4 → m.1 11 f = nI (w2 (f1 f) (f2 f)))
section US
variable {m : fm} {u v f1 f2 : Nat → Bool} {N : Nat → Nat} {P : Nat → cod}
theorem g64_s (hu : US m u v f1 f2) : ob (g64 m) (fun r => r.2 = m ∧ ((∃ j, j < 8 ∧ r.1 = nI j ∧ u j = true ∧ v j = false) ∨ (r.1 = -1 ∧ ∀ j, j < 8 → u j = true → v j = true))) := by
  unfold g64 g64_2
  refine wl_c (f := fun s : Int32 × fm => s64_2 s.1 s.2) (fun i s => s = (nI i, m) ∧ ∀ j, j < i → u j = true → v j = true) 8 (by omega) (nI 0, m) ⟨rfl, fun j hj => absurd hj (by omega)⟩ (fun i s hi hss => ?_) (fun s hss => ?_)
  · obtain ⟨rfl, hh⟩ := hss
    show ob (s64_2 (nI i) m) _
    unfold s64_2
    rw [dx_ge (by omega) (by omega), decide_eq_false (by omega), cond_false, dx_ldI hi (by omega), hu.1 i hi, bI_eq, dx_ldI hi (by omega), hu.2.1 i hi, bI_ne, nI_add]
    have nx : (u i = true → v i = true) → ∀ j, j < i + 1 → u j = true → v j = true := fun h j hj => by
      by_cases e : j = i
      · subst e; exact h
      · exact hh j (by omega)
    cases hui : u i with
    | false => exact ⟨rfl, nx (fun h => by rw [hui] at h; cases h)⟩
    | true =>
      cases hvi : v i with
      | true => exact ⟨rfl, nx (fun _ => hvi)⟩
      | false => exact ⟨rfl, Or.inl ⟨i, hi, rfl, hui, hvi⟩⟩
  · obtain ⟨rfl, hh⟩ := hss
    show ob (s64_2 (nI 8) m) _
    unfold s64_2
    rw [dx_ge (by omega) (by omega), decide_eq_true (by omega), cond_true]
    exact ⟨rfl, Or.inr ⟨rfl, hh⟩⟩
def orB (x : Nat → Bool) (q : Nat → Bool) : Nat → Bool := fun f => x f || q f
set_option maxHeartbeats 1000000 in
theorem g66_s {I : cod} {n p : Nat} (hu : US m u v f1 f2) (hw : WF n I) (hp : p < n) (hq : ¬ FV I n (4 * p) = vN) : ob (g66 (nI (kd I p)) (rb I p) m) (fun m' => FU m m' ∧ m'.2 = m.2 ∧ US m' (orB u (fun f => ht I n 9 f p)) v (orB f1 (fun f => ht I n 7 f p)) (orB f2 (fun f => ht I n 8 f p))) := by
  have hk := WF_k hw hp
  have hne : ∀ k f, ¬ kd I p = k → ht I n k f p = false := fun k f h => by
    unfold ht
    rw [decide_eq_false h, Bool.and_false, Bool.false_and]
  have hnf : ∀ k f, ¬ bn I p = f → ht I n k f p = false := fun k f h => by
    unfold ht
    rw [decide_eq_false h, Bool.and_false]
  have hyes : ht I n (kd I p) (bn I p) p = true := by
    unfold ht
    rw [decide_eq_true hq, decide_eq_true rfl, decide_eq_true rfl]; rfl
  have same : ∀ (x : Nat → Bool) k, ¬ kd I p = k → orB x (fun f => ht I n k f p) = x := fun x k h => funext fun f => by
    show (x f || ht I n k f p) = x f
    rw [hne k f h, Bool.or_false]
  unfold g66
  by_cases h7 : kd I p = 7
  · have hb := WF_b hw hp (by omega)
    rw [same u 9 (by omega), same f2 8 (by omega), h7, show decide (nI 7 = nI 7) = true by decide +kernel, cond_true]
    rw [hb.1, dx_ldI hb.2 (by omega), dx_stI hb.2 (by omega), hu.2.2 _ hb.2, w2_1]
    refine ⟨⟨fun k _ _ h => fs1_k h, fun _ _ _ => rfl⟩, rfl, fun j hj => by rw [fs1_k (by omega)]; exact hu.1 j hj, fun j hj => by rw [fs1_k (by omega)]; exact hu.2.1 j hj, fun f hf => ?_⟩
    by_cases e : f = bn I p
    · subst e
      rw [fs1_at]
      show _ = nI (w2 (f1 _ || ht I n 7 _ p) _)
      rw [← h7, hyes, Bool.or_true]
    · rw [fs1_i e, hu.2.2 f hf]
      show _ = nI (w2 (f1 _ || ht I n 7 _ p) _)
      rw [hnf 7 f (fun z => e z.symm), Bool.or_false]
  · by_cases h8 : kd I p = 8
    · have hb := WF_b hw hp (by omega)
      rw [same u 9 (by omega), same f1 7 (by omega), h8, show decide (nI 8 = nI 7) = false by decide +kernel, cond_false, show decide (nI 8 = nI 8) = true by decide +kernel, cond_true]
      rw [hb.1, dx_ldI hb.2 (by omega), dx_stI hb.2 (by omega), hu.2.2 _ hb.2, w2_2]
      refine ⟨⟨fun k _ _ h => fs1_k h, fun _ _ _ => rfl⟩, rfl, fun j hj => by rw [fs1_k (by omega)]; exact hu.1 j hj, fun j hj => by rw [fs1_k (by omega)]; exact hu.2.1 j hj, fun f hf => ?_⟩
      by_cases e : f = bn I p
      · subst e
        rw [fs1_at]
        show _ = nI (w2 _ (f2 _ || ht I n 8 _ p))
        rw [← h8, hyes, Bool.or_true]
      · rw [fs1_i e, hu.2.2 f hf]
        show _ = nI (w2 _ (f2 _ || ht I n 8 _ p))
        rw [hnf 8 f (fun z => e z.symm), Bool.or_false]
    · by_cases h9 : kd I p = 9
      · have hb := WF_m hw hp (by omega)
        rw [same f1 7 (by omega), same f2 8 (by omega), h9, show decide (nI 9 = nI 7) = false by decide +kernel, cond_false, show decide (nI 9 = nI 8) = false by decide +kernel, cond_false, show decide (nI 9 = nI 9) = true by decide +kernel, cond_true]
        rw [hb.1, dx_stB hb.2 (by omega) (by omega)]
        refine ⟨⟨fun k h _ _ => fs1_k h, fun _ _ _ => rfl⟩, rfl, fun j hj => ?_, fun j hj => by rw [fs1_k (by omega)]; exact hu.2.1 j hj, fun f hf => by rw [fs1_k (by omega)]; exact hu.2.2 f hf⟩
        by_cases e : j = bn I p
        · subst e
          rw [fs1_at]
          show _ = bI (u _ || ht I n 9 _ p)
          rw [← h9, hyes, Bool.or_true]; rfl
        · rw [fs1_i e, hu.1 j hj]
          show _ = bI (u _ || ht I n 9 _ p)
          rw [hnf 9 j (fun z => e z.symm), Bool.or_false]
      · rw [same u 9 h9, same f1 7 h7, same f2 8 h8]
        simp only [dx_de (show kd I p < 2147483648 by omega) (show 7 < 2147483648 by omega), dx_de (show kd I p < 2147483648 by omega) (show 8 < 2147483648 by omega), dx_de (show kd I p < 2147483648 by omega) (show 9 < 2147483648 by omega), h7, h8, h9, decide_false, cond_false]
        exact ⟨FU_r m, rfl, hu⟩
theorem orB_o {x : Nat → Bool} {q : Nat → Nat → Bool} {i : Nat} : orB (orB x (fun f => anyp (q f) i)) (fun f => q f i) = orB x (fun f => anyp (q f) (i + 1)) := funext fun f => by
  show (x f || anyp (q f) i || q f i) = (x f || (anyp (q f) i || q f i))
  rw [Bool.or_assoc]
theorem orB_0 {x : Nat → Bool} {q : Nat → Nat → Bool} : orB x (fun f => anyp (q f) 0) = x := funext fun f => Bool.or_false _
theorem g65_s {I : cod} {c n : Nat} (hc : CR m c n I) (hw : WF n I) (h20 : 20 ≤ c) (h5 : m.2 5 = FV I n) (hu : US m u v f1 f2) : ob (g65 c m) (fun m' => FU m m' ∧ m'.2 = m.2 ∧ US m' (orB u (fun f => hit I n 9 f)) v (orB f1 (fun f => hit I n 7 f)) (orB f2 (fun f => hit I n 8 f))) := by
  have hn := hw.1
  unfold g65 g65_2
  refine wl_c (f := fun s : Int32 × fm => s65_2 c s.1 s.2) (fun i s => ∃ mi, s = (nI i, mi) ∧ FU m mi ∧ mi.2 = m.2 ∧ US mi (orB u (fun f => anyp (ht I n 9 f) i)) v (orB f1 (fun f => anyp (ht I n 7 f) i)) (orB f2 (fun f => anyp (ht I n 8 f) i))) n (by omega) (nI 0, m) ⟨m, rfl, FU_r m, rfl, by rw [orB_0, orB_0, orB_0]; exact hu⟩ (fun i s hi hss => ?_) (fun s hss => ?_)
  · obtain ⟨mi, rfl, hF, hm2, hui⟩ := hss
    have hci : CR mi c n I := CR_f hc (hF.1 c (by omega) (by omega) (by omega)) (hF.1 (c + 1) (by omega) (by omega) (by omega))
    show ob (s65_2 c (nI i) mi) _
    unfold s65_2
    rw [g1_s hci, dx_cl2, dx_ge (by omega) (by omega), decide_eq_false (by omega), cond_false, g16_s (by omega), dx_cl2, bI_eq, hm2, h5, nI_add]
    by_cases hq : FV I n (4 * i) = vN
    · rw [decide_eq_false (fun z => z hq)]
      have hno : ∀ k f, ht I n k f i = false := fun k f => by
        unfold ht
        rw [decide_eq_false (fun z => z hq)]; rfl
      have e : ∀ (x : Nat → Bool) k, orB x (fun f => anyp (ht I n k f) (i + 1)) = orB x (fun f => anyp (ht I n k f) i) := fun x k => funext fun f => by
        show (x f || (anyp (ht I n k f) i || ht I n k f i)) = _
        rw [hno k f, Bool.or_false]; rfl
      refine ⟨mi, rfl, hF, hm2, ?_⟩
      rw [e, e, e]; exact hui
    · rw [decide_eq_true hq, Bool.not_true, cond_false, g4_0 hci hn hi, dx_cl2, g4_2 hci hn hi, dx_cl2]
      refine ob_1 (ob_m (g66_s hui hw hi hq) (fun m' hm => ?_))
      obtain ⟨a1, a2, a3⟩ := hm
      refine ⟨m', rfl, FU_t hF a1, a2.trans hm2, ?_⟩
      rw [orB_o (q := fun f => ht I n 9 f), orB_o (q := fun f => ht I n 7 f), orB_o (q := fun f => ht I n 8 f)] at a3
      exact a3
  · obtain ⟨mi, rfl, hF, hm2, hui⟩ := hss
    have hci : CR mi c n I := CR_f hc (hF.1 c (by omega) (by omega) (by omega)) (hF.1 (c + 1) (by omega) (by omega) (by omega))
    show ob (s65_2 c (nI n) mi) _
    unfold s65_2
    rw [g1_s hci, dx_cl2, dx_ge (by omega) (by omega), decide_eq_true (Nat.le_refl _), cond_true]
    exact ⟨hF, hm2, hui⟩
end US
