/-! find of the reference: the same least one -/
def bb (I : cod) (n : Nat) (A : Nat → Int64) (H : Nat → Nat) (p : Nat) : Nat := (if gn I A p = true ∧ p + 1 < n then H (p + 1) else 0) ||| (if jm I A p < n then H (jm I A p) else 0)
def ah (I : cod) (b p : Nat) : Nat := rd I p ||| dif b (sm I p)
def RU (m : fm) (H B : Nat → Nat) : Prop := (∀ p, H p < 16) ∧ (∀ p, B p < 16) ∧ ∀ p, p < 25 → m.1 63 p = nI (H p) ∧ m.1 62 p = nI (B p)
def F2 (m m' : fm) : Prop := (∀ k, k ≠ 62 → k ≠ 63 → m'.1 k = m.1 k) ∧ m'.2 = m.2
theorem F2_r (m : fm) : F2 m m := ⟨fun _ _ _ => rfl, rfl⟩
theorem F2_t {m m' m'' : fm} (h1 : F2 m m') (h2 : F2 m' m'') : F2 m m'' := ⟨fun k a b => (h2.1 k a b).trans (h1.1 k a b), h2.2.trans h1.2⟩
set_option maxRecDepth 100000 in
theorem dif_00 : ∀ a, a < 16 → dif a 0 = a := by decide +kernel
section FI
variable {m : fm} {o n p : Nat} {I : cod} {A : Nat → Int64} {H B : Nat → Nat}
theorem KS_2 {m' : fm} (hs : KS m o n I) (hF : F2 m m') : KS m' o n I := by
  unfold KS RR
  rw [hF.1 57 (by omega) (by omega), hF.1 52 (by omega) (by omega), hF.1 53 (by omega) (by omega), hF.1 54 (by omega) (by omega), hF.1 55 (by omega) (by omega), hF.1 56 (by omega) (by omega)]
  exact hs
theorem RA_2 {m' : fm} (hR : RA m A) (hF : F2 m m') : RA m' A := RA_c (hF.1 59 (by omega) (by omega)) (by rw [hF.2]) hR
set_option maxHeartbeats 1000000 in
theorem g114_r (hs : KS m o n I) (hw : WF n I) (hp : p < n) : g114 (nI (24 * o + p)) m = some (nI (rd I p), m) := by
  have hk := WF_k hw hp
  have hn := hw.1
  have hi := ix_o hs.1.1 (show p < 24 by omega)
  obtain ⟨ek, ea, eb, ec⟩ := hs.1.2.2 p hp
  unfold g114 g114_85 rd
  simp only [dx_ldI hi (show 384 < 2147483648 by omega), ek, ea, eb, ec]
  rcases k13 hk with h | h | h | h | h | h | h | h | h | h | h | h | h
  case inl => rw [h]; rfl
  case inr.inl =>
    have hb := WF_b hw hp (by omega)
    rw [hb.1, shl hb.2, h]; rfl
  case inr.inr.inl =>
    have hb := WF_b hw hp (by omega)
    have hcc := WF_c hw hp (by omega)
    rw [hb.1, shl hb.2, shl hcc, nor (p2_16 hb.2) (p2_16 hcc), h]; rfl
  case inr.inr.inr.inl =>
    have hb := WF_b hw hp (by omega)
    have hcc := WF_c hw hp (by omega)
    rw [hb.1, shl hb.2, shl hcc, nor (p2_16 hb.2) (p2_16 hcc), h]; rfl
  case inr.inr.inr.inr.inl =>
    have hb := WF_b hw hp (by omega)
    have hcc := WF_c hw hp (by omega)
    rw [hb.1, shl hb.2, shl hcc, nor (p2_16 hb.2) (p2_16 hcc), h]; rfl
  case inr.inr.inr.inr.inr.inl =>
    have hb := WF_b hw hp (by omega)
    have ha := WF_a hw hp (by omega)
    rw [hb.1, shl hb.2, shl ha, nor (p2_16 ha) (p2_16 hb.2), h]; rfl
  case inr.inr.inr.inr.inr.inr.inl => rw [h]; rfl
  case inr.inr.inr.inr.inr.inr.inr.inl => rw [h]; rfl
  case inr.inr.inr.inr.inr.inr.inr.inr.inr.inl => rw [h]; rfl
  all_goals (
    have ha := WF_a hw hp (by omega)
    rw [shl ha, h]; rfl)
theorem g115_r (hs : KS m o n I) (hw : WF n I) (hp : p < n) : g115 (nI (24 * o + p)) m = some (bI (stt (kd I p)), m) := by
  have hk := WF_k hw hp
  have hn := hw.1
  have hi := ix_o hs.1.1 (show p < 24 by omega)
  obtain ⟨ek, -, -, -⟩ := hs.1.2.2 p hp
  unfold g115
  rw [dx_ldI hi (by omega), ek]
  rcases k13 hk with h | h | h | h | h | h | h | h | h | h | h | h | h <;> rw [h] <;> rfl
theorem bb_16 (hH : ∀ p, H p < 16) : bb I n A H p < 16 := by
  unfold bb
  refine or_16 ?_ ?_
  · split
    · exact hH _
    · omega
  · split
    · exact hH _
    · omega
theorem ah_16 (hw : WF n I) (hp : p < n) {b : Nat} (hb : b < 16) : ah I b p < 16 := or_16 (rd_16 hw hp) (dif_16 hb)
set_option maxHeartbeats 1000000 in
theorem s50_r (hs : KS m o n I) (hw : WF n I) (hR : RA m A) (hU : RU m H B) (hp : p < n) (hq : m.1 59 p = nI 1) {b : Bool} : s116_50 (bI b) (nI p) m = some (.inl (bI (b || decide (¬ ah I (bb I n A H p) p = H p) || decide (¬ bb I n A H p = B p)), nI p + (-1), fs1 (fs1 m 63 p (nI (ah I (bb I n A H p) p))) 62 p (nI (bb I n A H p)))) := by
  have hn := hw.1
  have hi := ix_o hs.1.1 (show p < 24 by omega)
  obtain ⟨ek, ea, eb, ec⟩ := hs.1.2.2 p hp
  obtain ⟨hH, hB, hX⟩ := hU
  have hA : ∀ r, r < 4 → m.2 60 (4 * p + r) = A (4 * p + r) := by
    rcases hR p (by omega) with h | h
    · rw [h.1] at hq
      exact absurd hq (by decide +kernel)
    · exact fun r hr => (h.2 r hr).2
  have h231 : ∀ x y : Nat, ∀ z : Bool, g116_231 (nI p) (nI x) (nI y) (bI z) m = some (.inl (bI z, nI p + (-1), fs1 (fs1 m 63 p (nI y)) 62 p (nI x))) := by
    intro x y z
    unfold g116_231
    rw [dx_stI (by omega) (by omega), dx_stI (by omega) (by omega)]
  have h180 : ∀ x, x < 16 → g116_180 (bI b) (nI p) (nI x) (nI (dif x (sm I p))) m = some (.inl (bI (b || decide (¬ ah I x p = H p) || decide (¬ x = B p)), nI p + (-1), fs1 (fs1 m 63 p (nI (ah I x p))) 62 p (nI x))) := by
    intro x hx
    have e1 : ah I x p < 16 := ah_16 hw hp hx
    have e2 := hH p
    have e3 := hB p
    unfold g116_180
    rw [dx_gfI, hs.2.2, nI_add, g114_r hs hw hp, dx_cl2, nor (rd_16 hw hp) (dif_16 hx), bI_ne, dx_ldI (by omega) (by omega), (hX p (by omega)).1, dx_ldI (by omega) (by omega), (hX p (by omega)).2]
    show (bif b then _ else bif ai_c .ne (nI (ah I x p)) (nI (H p)) then _ else _) = _
    rw [dx_ne (by omega) (by omega), dx_eq (by omega) (by omega)]
    cases b with
    | true => exact h231 x (ah I x p) true
    | false =>
      rw [cond_false, Bool.false_or]
      cases decide (¬ ah I x p = H p) with
      | true => exact h231 x (ah I x p) true
      | false =>
        rw [cond_false, Bool.false_or]
        by_cases e : x = B p
        · rw [decide_eq_true e, decide_eq_false (fun z => z e)]
          exact h231 x (ah I x p) false
        · rw [decide_eq_false e, decide_eq_true e]
          exact h231 x (ah I x p) true
  have h139 : ∀ x y, x < 16 → y < 16 → g116_139 (bI b) (nI p) (nI y) (nI x) m = some (.inl (bI (b || decide (¬ ah I (x ||| y) p = H p) || decide (¬ (x ||| y) = B p)), nI p + (-1), fs1 (fs1 m 63 p (nI (ah I (x ||| y) p))) 62 p (nI (x ||| y)))) := by
    intro x y hx hy
    unfold g116_139
    simp only [dx_gfI]
    rw [hs.2.2, nI_add, g115_r hs hw hp, dx_cl2, bI_eq, hs.2.2, nI_add, dx_ldI hi (by omega), ea, nor hx hy]
    have hd := h180 (x ||| y) (or_16 hx hy)
    unfold sm at hd
    cases hst : stt (kd I p) with
    | true =>
      rw [hst, if_pos rfl] at hd
      rw [Bool.not_true, cond_false, shl (WF_a hw hp (stt_6 hst)), ndif (or_16 hx hy) (p2_16 (WF_a hw hp (stt_6 hst)))]
      exact hd
    | false =>
      rw [hst, if_neg Bool.false_ne_true, dif_00 _ (or_16 hx hy)] at hd
      exact hd
  have h98 : ∀ x, x < 16 → g116_98 (bI b) (nI p) (nI x) m = some (.inl (bI (b || decide (¬ ah I (x ||| (if jm I A p < n then H (jm I A p) else 0)) p = H p) || decide (¬ (x ||| (if jm I A p < n then H (jm I A p) else 0)) = B p)), nI p + (-1), fs1 (fs1 m 63 p (nI (ah I (x ||| (if jm I A p < n then H (jm I A p) else 0)) p))) 62 p (nI (x ||| (if jm I A p < n then H (jm I A p) else 0))))) := by
    intro x hx
    unfold g116_98
    rw [g110_r hs hw hp hA, dx_cl2, bI_eq]
    by_cases hj : jm I A p = 25
    · rw [decide_eq_false (fun z => z hj), if_neg (by omega)]
      exact h139 x 0 hx (by omega)
    · have hjl := jm_le (A := A) hw hp
      rw [decide_eq_true hj, Bool.not_true, cond_false, g111_r hs hw hp hj, dx_cl2, dx_gfI, hs.2.1, dx_ge (by omega) (by omega), dx_cif]
      by_cases hjn : jm I A p < n
      · rw [if_neg (by omega), if_pos hjn, g111_r hs hw hp hj, dx_cl2, dx_ldI (by omega) (by omega), (hX _ (by omega)).1]
        exact h139 x _ hx (hH _)
      · rw [if_pos (by omega), if_neg hjn]
        exact h139 x 0 hx (by omega)
  unfold s116_50
  rw [dx_lt0 (by omega), cond_false, dx_ldI (by omega) (by omega), hq, dx_eq0 (by omega), decide_eq_false (by omega), cond_false, g109_r hs hw hp hA, dx_cl2, bI_eq, dx_gfI, hs.2.1, nI_add, dx_ge (by omega) (by omega), dx_cif]
  unfold bb
  cases hg : gn I A p with
  | false =>
    rw [Bool.not_false, cond_true, if_neg (fun z => Bool.false_ne_true z.1)]
    exact h98 0 (by omega)
  | true =>
    rw [Bool.not_true, cond_false]
    by_cases h1 : p + 1 < n
    · rw [if_neg (by omega), if_pos ⟨rfl, h1⟩, dx_ldI (by omega) (by omega), (hX _ (by omega)).1]
      exact h98 _ (hH _)
    · rw [if_pos (by omega), if_neg (fun z => h1 z.2)]
      exact h98 0 (by omega)
end FI
