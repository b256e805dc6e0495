def idl (I : cod) (V : Nat → Nat) (p : Nat) : Nat := if V p &&& 2 ^ ra I p = 0 then 9 else 1
def mk (I : cod) (A : Nat → Int64) (V : Nat → Nat) (p : Nat) : Nat := if A (4 * p) = vN then 0 else if kd I p ≤ 3 ∨ kd I p = 7 then idl I V p else if kd I p = 4 then (if A (4 * p + rc I p) = vA then 1 else if A (4 * p + rc I p) = 0 then 1 else idl I V p) else if kd I p = 5 then 1 + tk I A p else if kd I p = 11 then (if A (4 * p + ra I p) = vA then 1 else if A (4 * p + ra I p) = 0 then 1 else 17) else 1
set_option maxRecDepth 100000 in
theorem nand0 : ∀ a, a < 16 → ∀ b, b < 16 → nI a &&& nI b = nI (a &&& b) := by decide +kernel
set_option maxRecDepth 100000 in
theorem nshr0 : ∀ a, a < 16 → ∀ r, r < 4 → (nI a >>> (nI r &&& 31)) &&& nI 1 = nI (if a &&& 2 ^ r = 0 then 0 else 1) := by decide +kernel
section MK
variable {m : fm} {c o n p : Nat} {I : cod} {A : Nat → Int64} {V : Nat → Nat}
theorem idl_18 : idl I V p < 18 := by unfold idl; split <;> omega
theorem mk_18 : mk I A V p < 18 := by
  unfold mk
  have h := idl_18 (I := I) (V := V) (p := p)
  have h2 := tk_lt (I := I) (A := A) (p := p)
  split
  · omega
  · split
    · exact h
    · split
      · split
        · omega
        · split
          · omega
          · exact h
      · split
        · omega
        · split
          · split
            · omega
            · split <;> omega
          · omega
theorem g18_V (hV : RV m V) (hp : p < 24) {r : Nat} (hr : r < 4) : g18 (nI p) (nI r) m = some (bI (decide (¬ V p &&& 2 ^ r = 0)), m) := by
  rw [g18_s hp, hV.2 p hp, shl hr, nand0 _ (hV.1 p) _ (p2_16 hr)]
  have h16 : V p &&& 2 ^ r < 16 := Nat.lt_of_le_of_lt Nat.and_le_left (hV.1 p)
  have e : (nI (V p &&& 2 ^ r) = 0) = (V p &&& 2 ^ r = 0) := by rw [dx_z]; exact dx_de (by omega) (by omega)
  simp only [e]
theorem g20_s (hc : CR m c n I) (hw : WF n I) (hV : RV m V) (hp : p < n) (hk : kd I p ≠ 6) : g20 c (nI p) m = some (nI (idl I V p), m) := by
  have hn := hw.1
  unfold g20 idl
  rw [g4_1 hc hn hp, dx_cl2, g18_V hV (by omega) (WF_a hw hp hk), dx_cl2, bI_eq]
  by_cases h : V p &&& 2 ^ ra I p = 0
  · rw [if_pos h, decide_eq_false (fun z => z h)]; rfl
  · rw [if_neg h, decide_eq_true h]; rfl
set_option maxHeartbeats 1000000 in
theorem g19_s (hc : CR m c n I) (hw : WF n I) (hV : RV m V) (hp : p < n) : g19 c (nI p) m = some (nI (mk I (m.2 5) V p), m) := by
  have hn := hw.1
  have hk := WF_k hw hp
  unfold g19 mk
  rw [g16_s (by omega), dx_cl2, bI_ne]
  by_cases hq : m.2 5 (4 * p) = vN
  · rw [decide_eq_false (fun z => z hq), if_pos hq]; rfl
  · rw [decide_eq_true hq, if_neg hq, cond_true, g4_0 hc hn hp, dx_cl2]
    by_cases h6 : kd I p = 6
    · rw [h6]; rfl
    · simp only [g20_s hc hw hV hp h6, dx_cl2]
      rcases k13 hk with h | h | h | h | h | h | h | h | h | h | h | h | h
      case inr.inr.inr.inr.inl =>
        have hcc := WF_c hw hp (by omega)
        rw [h]
        show (cl2 (g22 c (nI p) m) fun v14 m13 => bif ai_c .eq v14 0 then some (nI 1, m13) else cl2 (g20 c (nI p) m13) fun v16 m15 => some (v16, m15)) = some (nI (if m.2 5 (4 * p + rc I p) = vA then 1 else if m.2 5 (4 * p + rc I p) = 0 then 1 else idl I V p), m)
        unfold g22
        rw [g24_3 hc hn hp hcc, dx_cl2, dx_leq, dx_leq, dx_cif, dx_cif]
        show (cl2 (if m.2 5 (4 * p + rc I p) = vA then some (bI false, m) else if m.2 5 (4 * p + rc I p) = 0 then some (bI false, m) else some (bI true, m)) _) = _
        by_cases e1 : m.2 5 (4 * p + rc I p) = vA
        · rw [if_pos e1, if_pos e1]; rfl
        · rw [if_neg e1, if_neg e1]
          by_cases e2 : m.2 5 (4 * p + rc I p) = 0
          · rw [if_pos e2, if_pos e2]; rfl
          · rw [if_neg e2, if_neg e2, dx_cl2, bI_eq, Bool.not_true, cond_false, g20_s hc hw hV hp h6, dx_cl2]
      case inr.inr.inr.inr.inr.inl =>
        have hab := g23_s hc hn hp (WF_a hw hp (by omega)) (WF_b hw hp (by omega))
        have htk := tk_lt (I := I) (A := m.2 5) (p := p)
        rw [h]
        show (cl2 (g23 c (nI p) m) fun v18 m17 => some (nI 1 ||| v18, m17)) = some (nI (1 + tk I (m.2 5) p), m)
        rw [hab, dx_cl2, nor (by omega) (by omega)]
        rcases tk_c (I := I) (A := m.2 5) (p := p) with e | e | e <;> rw [e] <;> rfl
      case inr.inr.inr.inr.inr.inr.inr.inr.inr.inr.inr.inl =>
        have hcc := WF_a hw hp h6
        rw [h]
        show (cl2 (g21 c (nI p) m) fun v22 m21 => bif ai_c .eq v22 0 then some (nI 17, m21) else some (nI 1, m21)) = some (nI (if m.2 5 (4 * p + ra I p) = vA then 1 else if m.2 5 (4 * p + ra I p) = 0 then 1 else 17), m)
        unfold g21
        rw [g24_1 hc hn hp hcc, dx_cl2, dx_leq, dx_lne, dx_cif, dx_cif]
        show (cl2 (if m.2 5 (4 * p + ra I p) = vA then some (bI true, m) else if ¬ m.2 5 (4 * p + ra I p) = 0 then some (bI false, m) else some (bI true, m)) _) = _
        by_cases e1 : m.2 5 (4 * p + ra I p) = vA
        · rw [if_pos e1, if_pos e1]; rfl
        · rw [if_neg e1, if_neg e1]
          by_cases e2 : m.2 5 (4 * p + ra I p) = 0
          · rw [if_neg (fun z => z e2), if_pos e2]; rfl
          · rw [if_pos e2, if_neg e2]; rfl
      all_goals (first
        | (exact absurd h h6)
        | (rw [h]; rfl))
/-- the reference's -/
def idb (I : cod) (A : Nat → Int64) (V : Nat → Nat) (p : Nat) : Bool := (decide (kd I p ≤ 3) || decide (kd I p = 7) || (decide (kd I p = 4) && decide (¬ A (4 * p + rc I p) = vA) && decide (¬ A (4 * p + rc I p) = 0))) && decide (V p &&& 2 ^ ra I p = 0)
set_option maxHeartbeats 1000000 in
theorem g117_r (hs : KS m o n I) (hw : WF n I) (hp : p < n) (hA : ∀ r, r < 4 → m.2 60 (4 * p + r) = A (4 * p + r)) (hV : V p < 16) (hV2 : m.1 62 p = nI (V p)) : g117 (nI p) m = some (bI (idb I A V p), m) := by
  have hk := WF_k hw hp
  have hn := hw.1
  have hi := ix_o hs.1.1 (show p < 24 by omega)
  obtain ⟨ek, ea, eb, ec⟩ := hs.1.2.2 p hp
  have h77 : kd I p ≠ 6 → g117_77 (nI p) (nI (24 * o + p)) (nI 1) m = some (bI (decide (V p &&& 2 ^ ra I p = 0)), m) := by
    intro h6
    unfold g117_77
    rw [dx_eq0 (by omega), decide_eq_false (by omega), cond_false, dx_ldI (by omega) (by omega), hV2, dx_ldI hi (by omega), ea, nshr0 _ hV _ (WF_a hw hp h6)]
    by_cases e : V p &&& 2 ^ ra I p = 0
    · rw [if_pos e, decide_eq_true e]; rfl
    · rw [if_neg e, decide_eq_false e]; rfl
  have h70 : g117_77 (nI p) (nI (24 * o + p)) (nI 0) m = some (bI false, m) := rfl
  unfold g117
  rw [dx_gfI, hs.2.2, nI_add, dx_ldI hi (by omega), ek, dx_ldI hi (by omega), ec]
  unfold g117_36 idb
  by_cases h4 : kd I p = 4
  · rw [h4, pk_mul, nI_add, nI_add, dx_ldL (i := 4 * p + rc I p) (by have := WF_c hw hp (by omega); omega) (by omega), hA _ (WF_c hw hp (by omega)), dx_leq, dx_leq, dx_cif, dx_cif]
    show (if A (4 * p + rc I p) = vA then g117_77 (nI p) (nI (24 * o + p)) (nI 0) m else if A (4 * p + rc I p) = 0 then g117_77 (nI p) (nI (24 * o + p)) (nI 0) m else g117_77 (nI p) (nI (24 * o + p)) (nI 1) m) = _
    by_cases e1 : A (4 * p + rc I p) = vA
    · rw [if_pos e1, h70]; simp [e1]
    · rw [if_neg e1]
      by_cases e2 : A (4 * p + rc I p) = 0
      · rw [if_pos e2, h70]; simp [e2]
      · rw [if_neg e2, h77 (by omega)]; simp [e1, e2]
  · have e0 : ∀ f : Int64 → Option (Int32 × fm), ldL m 60 100 (nI 4 * nI p + nI 0) f = f (A (4 * p)) := fun f => by
      rw [pk_mul, nI_add, dx_ldL (by omega) (by omega), hA 0 (by omega)]; rfl
    rw [e0]
    rcases k13 hk with h | h | h | h | h | h | h | h | h | h | h | h | h
    case inl => rw [h]; exact (h77 (by omega)).trans rfl
    case inr.inl => rw [h]; exact (h77 (by omega)).trans rfl
    case inr.inr.inl => rw [h]; exact (h77 (by omega)).trans rfl
    case inr.inr.inr.inl => rw [h]; exact (h77 (by omega)).trans rfl
    case inr.inr.inr.inr.inl => exact absurd h h4
    case inr.inr.inr.inr.inr.inr.inr.inl => rw [h]; exact (h77 (by omega)).trans rfl
    all_goals (rw [h]; rfl)
set_option maxHeartbeats 1000000 in
theorem g118_r (hs : KS m o n I) (hw : WF n I) (hR : RA m A) (hp : p < n) (hV : V p < 16) (hV2 : m.1 62 p = nI (V p)) : g118 (nI p) m = some (nI (mk I A V p), m) := by
  have hk := WF_k hw hp
  have hn := hw.1
  have hi := ix_o hs.1.1 (show p < 24 by omega)
  obtain ⟨ek, ea, eb, ec⟩ := hs.1.2.2 p hp
  unfold g118 mk
  rw [dx_ldI (by omega) (by omega)]
  rcases hR p (by omega) with h | h
  · rw [h.1, if_pos (show A (4 * p) = vN from h.2 0 (by omega))]; rfl
  · have hq : ¬ A (4 * p) = vN := fun e => okv_N (e ▸ (h.2 0 (by omega)).1)
    have hA : ∀ r, r < 4 → m.2 60 (4 * p + r) = A (4 * p + r) := fun r hr => (h.2 r hr).2
    rw [h.1, if_neg hq, dx_gfI, hs.2.2, nI_add, dx_ldI hi (by omega), ek]
    have h113 : ∀ x : Nat, g118_113 (nI p) (nI x) m = some (nI (x + (if idb I A V p = true then 8 else 0)), m) := by
      intro x
      unfold g118_113
      rw [g117_r hs hw hp hA hV hV2, dx_cl2, bI_eq]
      cases idb I A V p with
      | true => rw [if_pos rfl, Bool.not_true, cond_false, nI_add]
      | false => rw [if_neg Bool.false_ne_true, Bool.not_false, cond_true, nI_add]
    have h60 : kd I p ≠ 11 → ∀ x : Nat, g118_60 (nI p) (nI (kd I p)) (nI x) m = some (nI (x + (if idb I A V p = true then 8 else 0)), m) := by
      intro h11 x
      unfold g118_60
      rw [dx_ne (by omega) (by omega), decide_eq_true h11, cond_true, h113]
    by_cases h5 : kd I p = 5
    · have eb : idb I A V p = false := by unfold idb; rw [h5]; rfl
      rw [g108_r hs hw hp hA (WF_a hw hp (by omega)) (WF_b hw hp (by omega)), dx_cl2, nI_add, nI_add, nI_add, h60 (by omega), h60 (by omega), h60 (by omega), eb, h5]
      rcases tk_c (I := I) (A := A) (p := p) with e | e | e <;> rw [e] <;> rfl
    · show (bif ai_c .ne (nI (kd I p)) (nI 5) then _ else _) = _
      rw [dx_ne (by omega) (by omega), decide_eq_true h5, cond_true]
      by_cases h11 : kd I p = 11
      · have eb : idb I A V p = false := by unfold idb; rw [h11]; rfl
        have hcc := WF_a hw hp (by omega)
        unfold g118_60
        rw [dx_gfI, hs.2.2, nI_add, dx_ldI hi (by omega), ea, pk_mul, nI_add, dx_ldL (by omega) (by omega), hA _ hcc, dx_leq, dx_leq, dx_cif, dx_cif, nI_add, nI_add, h113, h113, eb, h11]
        show (if A (4 * p + ra I p) = vA then some (nI 1, m) else if A (4 * p + ra I p) = 0 then some (nI 1, m) else some (nI 17, m)) = some (nI (if A (4 * p + ra I p) = vA then 1 else if A (4 * p + ra I p) = 0 then 1 else 17), m)
        by_cases e1 : A (4 * p + ra I p) = vA
        · rw [if_pos e1, if_pos e1]
        · rw [if_neg e1, if_neg e1]
          by_cases e2 : A (4 * p + ra I p) = 0
          · rw [if_pos e2, if_pos e2]
          · rw [if_neg e2, if_neg e2]
      · rw [h60 h11]
        unfold idb idl
        by_cases h4 : kd I p = 4
        · rw [h4]
          show some (nI (1 + (if (decide (¬ A (4 * p + rc I p) = vA) && decide (¬ A (4 * p + rc I p) = 0) && decide (V p &&& 2 ^ ra I p = 0)) = true then 8 else 0)), m) = some (nI (if A (4 * p + rc I p) = vA then 1 else if A (4 * p + rc I p) = 0 then 1 else if V p &&& 2 ^ ra I p = 0 then 9 else 1), m)
          by_cases e1 : A (4 * p + rc I p) = vA
          · rw [if_pos e1, decide_eq_false (fun z => z e1)]; rfl
          · rw [if_neg e1, decide_eq_true e1]
            by_cases e2 : A (4 * p + rc I p) = 0
            · rw [if_pos e2, decide_eq_false (fun z => z e2)]; rfl
            · rw [if_neg e2, decide_eq_true e2]
              by_cases e3 : V p &&& 2 ^ ra I p = 0
              · rw [if_pos e3, decide_eq_true e3]; rfl
              · rw [if_neg e3, decide_eq_false e3]; rfl
        · rcases k13 hk with h | h | h | h | h | h | h | h | h | h | h | h | h
          case inr.inr.inr.inr.inl => exact absurd h h4
          case inr.inr.inr.inr.inr.inl => exact absurd h h5
          case inr.inr.inr.inr.inr.inr.inr.inr.inr.inr.inr.inl => exact absurd h h11
          all_goals (
            rw [h]
            by_cases e3 : V p &&& 2 ^ ra I p = 0
            · rw [if_pos e3, decide_eq_true e3]; rfl
            · rw [if_neg e3, decide_eq_false e3]; rfl)
end MK
