section KN
variable {m : fm} {o n p t : Nat} {I : cod} {A B : Nat → Int64}
theorem jn_self (a : Int64) : jn a a = a := if_pos (Or.inr rfl)
theorem brg_at {q r : Nat} (hr : r < 4) : brg n A B t (4 * q + r) = if t < n ∧ q = t then jn (A (4 * q + r)) (B r) else A (4 * q + r) := by
  unfold brg
  by_cases h : t < n
  · rw [if_pos h]
    unfold bri
    by_cases hq : q = t
    · rw [if_pos (by omega), if_pos ⟨h, hq⟩, show 4 * q + r - 4 * t = r by omega]
    · rw [if_neg (by omega), if_neg (fun z => hq z.2)]
  · rw [if_neg h, if_neg (fun z => h z.1)]
theorem brg_comm {a b : Nat} : brg n (brg n A B a) B b = brg n (brg n A B b) B a := by
  by_cases e : a = b
  · subst e; rfl
  · funext j
    have hq : j = 4 * (j / 4) + j % 4 := by omega
    have hr : j % 4 < 4 := by omega
    rw [hq]
    generalize j / 4 = q at *
    generalize j % 4 = r at *
    rw [brg_at hr, brg_at hr, brg_at hr, brg_at hr]
    by_cases h1 : b < n ∧ q = b
    · by_cases h2 : a < n ∧ q = a
      · exact absurd (h2.2.symm.trans h1.2) e
      · simp only [if_pos h1, if_neg h2]
    · by_cases h2 : a < n ∧ q = a
      · simp only [if_neg h1, if_pos h2]
      · simp only [if_neg h1, if_neg h2]
theorem chg_o {a b : Nat} {B' : Nat → Int64} (h : ¬ a = b) : chg n (brg n A B a) B' b = chg n A B' b := by
  unfold chg chi chi chi chi chi
  have e : ∀ r, r < 4 → brg n A B a (4 * b + r) = A (4 * b + r) := fun r hr => by rw [brg_at hr, if_neg (fun z => h z.2.symm)]
  rw [e 0 (by omega), e 1 (by omega), e 2 (by omega), e 3 (by omega)]
theorem brg_25 (hn : n ≤ 24) : brg n A B 25 = A := if_neg (by omega)
theorem chg_25 (hn : n ≤ 24) : chg n A B 25 = false := by unfold chg; rw [decide_eq_false (by omega)]; rfl
theorem RA_c {m' : fm} (h1 : m'.1 59 = m.1 59) (h2 : m'.2 60 = m.2 60) (h : RA m A) : RA m' A := by
  unfold RA
  rw [h1, h2]
  exact h
theorem gn_cg {A' : Nat → Int64} (hw : WF n I) (hp : p < n) (h : ∀ r, r < 4 → A' (4 * p + r) = A (4 * p + r)) : gn I A' p = gn I A p := by
  unfold gn tk
  by_cases h4 : kd I p = 4
  · rw [if_pos h4, if_pos h4, h _ (WF_c hw hp (by omega))]
  · rw [if_neg h4, if_neg h4]
    by_cases h5 : kd I p = 5
    · rw [if_pos h5, if_pos h5, h _ (WF_a hw hp (by omega)), h _ (WF_b hw hp (by omega)).2]
    · rw [if_neg h5, if_neg h5]
      by_cases h6 : kd I p = 6 ∨ kd I p = 10
      · rw [if_pos h6, if_pos h6]
      · rw [if_neg h6, if_neg h6]
        by_cases h11 : kd I p = 11
        · rw [if_pos h11, if_pos h11, h _ (WF_a hw hp (by omega))]
        · rw [if_neg h11, if_neg h11]
theorem g107_r {k : Nat} (h1 : 2 ≤ k) (h2 : k ≤ 4) {x y : Int64} (hz : k = 4 → ¬ x = vA → ¬ y = vA → ¬ y.toInt32 = 0) : g107 (nI k) x y m = some (mad k x y, m) := by
  unfold g107 mad tog
  rw [dx_leq, dx_lne, dx_ne (by omega) (by omega), dx_ne (by omega) (by omega), dx_cif, dx_cif, dx_cif, dx_cif]
  show (if x = vA then some (vA, m) else if ¬ y = vA then _ else some (vA, m)) = _
  by_cases e1 : x = vA
  · rw [if_pos e1, if_pos e1]
  · rw [if_neg e1, if_neg e1]
    by_cases e2 : y = vA
    · rw [if_neg (fun z => z e2), if_pos e2]
    · rw [if_pos e2, if_neg e2]
      by_cases e3 : k = 2
      · rw [if_neg (fun z => z e3), if_pos e3]
      · rw [if_pos e3, if_neg e3]
        by_cases e4 : k = 3
        · rw [if_neg (fun z => z e4), if_pos e4]
        · rw [if_pos e4, if_neg e4, if_neg (hz (by omega) e1 e2)]
          unfold dvI
          rw [if_neg (hz (by omega) e1 e2)]
theorem okv_nz {y : Int64} (h : okv y) (h0 : ¬ y = 0) (hA : ¬ y = vA) : ¬ y.toInt32 = 0 := by
  rcases h with h | ⟨x, h⟩
  · exact absurd h hA
  · rw [h, Int32.toInt32_toInt64]
    intro e
    rw [e] at h
    exact h0 (h.trans (by decide +kernel))
theorem okv_nv (hw : WF n I) (hp : p < n) (hA : ∀ r, r < 4 → okv (A (4 * p + r))) : okv (nv I A p) := by
  unfold nv
  split
  · exact Or.inr ⟨_, rfl⟩
  · split
    · exact hA _ (WF_b hw hp (by omega)).2
    · split
      · exact okv_tog
      · exact Or.inl rfl
theorem okv_mb (hw : WF n I) (hp : p < n) (hA : ∀ r, r < 4 → okv (A (4 * p + r))) {r : Nat} (hr : r < 4) : okv (mb I A p r) := by
  unfold mb
  split
  · exact okv_nv hw hp hA
  · exact hA r hr
theorem g221_r (hs : KS m o n I) (hw : WF n I) (hp : p < n) (hR : RA m A) (hA : ∀ r, r < 4 → okv (A (4 * p + r))) (hB : ∀ r, r < 4 → m.2 61 r = mb I A p r) {b : Bool} (hb : m.1 52 11 = bI b) : ob (g112_221 (nI p) m) (fun m' => FK0 m m' ∧ RA m' (brg n A (mb I A p) (p + 1)) ∧ m'.1 52 11 = bI (b || chg n A (mb I A p) (p + 1))) := by
  have hn := hw.1
  unfold g112_221
  rw [nI_add]
  refine ob_1 (ob_m (g106_r hs hn hR (fun r hr => by rw [hB r hr]; exact okv_mb hw hp hA hr) (show p + 1 ≤ 25 by omega) hb) (fun m' h => ?_))
  obtain ⟨h1, h2, -, h4⟩ := h
  rw [brg_cg hB] at h2
  rw [chg_cg hB] at h4
  exact ⟨h1, h2, h4⟩
set_option maxHeartbeats 2000000 in
theorem g64_r (hs : KS m o n I) (hw : WF n I) (hp : p < n) (hR : RA m A) (hA : ∀ r, r < 4 → okv (A (4 * p + r)) ∧ m.2 60 (4 * p + r) = A (4 * p + r)) (hB : ∀ r, r < 4 → m.2 61 r = A (4 * p + r)) {b : Bool} (hb : m.1 52 11 = bI b) : ob (g112_64 (nI p) (nI (24 * o + p)) (nI (kd I p)) m) (fun m' => FK0 m m' ∧ RA m' (go1 I n A p) ∧ m'.1 52 11 = bI (b || (gn I A p && chg n A (mb I A p) (p + 1)))) := by
  have hn := hw.1
  have hk := WF_k hw hp
  have hi := ix_o hs.1.1 (show p < 24 by omega)
  obtain ⟨ek, ea, eb, ec⟩ := hs.1.2.2 p hp
  have hA1 : ∀ r, r < 4 → okv (A (4 * p + r)) := fun r hr => (hA r hr).1
  have hA2 : ∀ r, r < 4 → m.2 60 (4 * p + r) = A (4 * p + r) := fun r hr => (hA r hr).2
  unfold g112_64
  rw [g109_r hs hw hp hA2, dx_cl2, bI_ne]
  unfold go1
  cases hg : gn I A p with
  | false => exact ⟨FK0_r m, hR, by rw [Bool.false_and, Bool.or_false]; exact hb⟩
  | true =>
    rw [cond_true, if_pos rfl, Bool.true_and]
    have nof : stt (kd I p) = false → ob (g112_221 (nI p) m) (fun m' => FK0 m m' ∧ RA m' (brg n A (mb I A p) (p + 1)) ∧ m'.1 52 11 = bI (b || chg n A (mb I A p) (p + 1))) := fun hst => g221_r hs hw hp hR hA1 (fun r hr => by rw [mb_of hst]; exact hB r hr) hb
    have fin : ∀ x : Int64, ra I p < 4 → stt (kd I p) = true → nv I A p = x → ob (stL m 61 4 (nI (ra I p)) x fun m' => g112_221 (nI p) m') (fun m' => FK0 m m' ∧ RA m' (brg n A (mb I A p) (p + 1)) ∧ m'.1 52 11 = bI (b || chg n A (mb I A p) (p + 1))) := by
      intro x hx hst hv
      rw [dx_stL hx (by omega), fs2_sr]
      have hF : FK0 m (sr2 m 61 (fun j => if j = ra I p then x else m.2 61 j)) := ⟨fun _ _ _ => rfl, fun _ _ => rfl, fun k _ h2 => sr2_n h2⟩
      refine ob_m (g221_r (KS_f hs hF) hw hp (RA_c rfl (sr2_n (by omega)) hR) hA1 (fun r hr => ?_) hb) (fun m' h => ⟨FK0_t hF h.1, h.2⟩)
      rw [sr2_s]
      unfold mb
      by_cases e : r = ra I p
      · show (if r = ra I p then x else m.2 61 r) = _
        rw [if_pos e, if_pos ⟨hst, e⟩]; exact hv.symm
      · show (if r = ra I p then x else m.2 61 r) = _
        rw [if_neg e, if_neg (fun z => e z.2)]; exact hB r hr
    have made : 2 ≤ kd I p ∧ kd I p ≤ 4 → ob (g112_147 (nI p) (nI (24 * o + p)) (nI (kd I p)) m) (fun m' => FK0 m m' ∧ RA m' (brg n A (mb I A p) (p + 1)) ∧ m'.1 52 11 = bI (b || chg n A (mb I A p) (p + 1))) := by
      intro h
      have h1 := WF_a hw hp (by omega)
      have h2 := WF_b hw hp (by omega)
      have h3 := WF_c hw hp h
      unfold g112_147
      rw [dx_ldI hi (by omega), ea, dx_ldI hi (by omega), eb, h2.1, pk_mul, nI_add, dx_ldL (by omega) (by omega), dx_ldI hi (by omega), ec, nI_add, dx_ldL (by omega) (by omega), hA2 _ h2.2, hA2 _ h3, g107_r h.1 h.2 (fun h4 hx hy => ?_), dx_cl2]
      · refine fin _ h1 ?_ ?_
        · unfold stt; rw [decide_eq_true (show kd I p ≤ 4 by omega)]; rfl
        · unfold nv; rw [if_neg (by omega), if_neg (by omega), if_pos (by omega)]
      · refine okv_nz (hA1 _ h3) ?_ hy
        unfold gn at hg
        rw [if_pos h4] at hg
        exact of_decide_eq_true hg
    have any : kd I p = 7 ∨ kd I p = 9 → ob (g112_207 (nI p) (nI (24 * o + p)) m) (fun m' => FK0 m m' ∧ RA m' (brg n A (mb I A p) (p + 1)) ∧ m'.1 52 11 = bI (b || chg n A (mb I A p) (p + 1))) := by
      intro h
      unfold g112_207
      rw [dx_ldI hi (by omega), ea]
      refine fin _ (WF_a hw hp (by omega)) ?_ ?_
      · rcases h with h | h <;> rw [h] <;> rfl
      · unfold nv; rw [if_neg (by omega), if_neg (by omega), if_neg (by omega)]; rfl
    rcases k13 hk with h | h | h | h | h | h | h | h | h | h | h | h | h
    case inl =>
      have e := fin (rb I p).toInt64 (WF_a hw hp (by omega)) (by rw [h]; rfl) (by unfold nv; rw [if_pos h])
      simp only [h, dx_ldI hi (show 384 < 2147483648 by omega), ea, eb]
      exact e
    case inr.inl =>
      have h2 := WF_b hw hp (by omega)
      have e := fin (A (4 * p + bn I p)) (WF_a hw hp (by omega)) (by rw [h]; rfl) (by unfold nv; rw [if_neg (by omega), if_pos h])
      simp only [h, dx_ldI hi (show 384 < 2147483648 by omega), ea, eb]
      rw [h2.1, pk_mul, nI_add, dx_ldL (by omega) (by omega), hA2 _ h2.2]
      exact e
    case inr.inr.inl => have := made (by omega); rw [h] at this ⊢; exact this
    case inr.inr.inr.inl => have := made (by omega); rw [h] at this ⊢; exact this
    case inr.inr.inr.inr.inl => have := made (by omega); rw [h] at this ⊢; exact this
    case inr.inr.inr.inr.inr.inr.inr.inl => have := any (by omega); rw [h]; exact this
    case inr.inr.inr.inr.inr.inr.inr.inr.inr.inl => have := any (by omega); rw [h]; exact this
    all_goals (have := nof (by rw [h]; rfl); rw [h]; exact this)
set_option maxHeartbeats 1000000 in
theorem g112_r (hs : KS m o n I) (hw : WF n I) (hp : p < n) (hR : RA m A) (hq : m.1 59 p = nI 1) {b : Bool} (hb : m.1 52 11 = bI b) : ob (g112 (nI p) m) (fun m' => FK0 m m' ∧ RA m' (go I n A p) ∧ m'.1 52 11 = bI (gof I n A p || b)) := by
  have hn := hw.1
  have hk := WF_k hw hp
  have hi := ix_o hs.1.1 (show p < 24 by omega)
  obtain ⟨ek, ea, eb, ec⟩ := hs.1.2.2 p hp
  have hA : ∀ r, r < 4 → okv (A (4 * p + r)) ∧ m.2 60 (4 * p + r) = A (4 * p + r) := by
    rcases hR p (by omega) with h | h
    · rw [h.1] at hq
      exact absurd hq (by decide +kernel)
    · exact h.2
  unfold g112
  rw [dx_gfI, hs.2.2, nI_add, dx_ldI hi (by omega), ek]
  unfold g112_17
  refine wl_c (f := fun s : Int32 × fm => s112_17 (nI p) (nI (24 * o + p)) (nI (kd I p)) s.1 s.2) (fun i s => s = (nI i, sr2 m 61 (fun r => if r < i then m.2 60 (4 * p + r) else m.2 61 r))) 4 (by omega) (nI 0, m) (by show _ = (nI 0, sr2 m 61 (fun r => if r < 0 then m.2 60 (4 * p + r) else m.2 61 r)); rw [show (fun r => if r < 0 then m.2 60 (4 * p + r) else m.2 61 r) = m.2 61 from funext fun j => if_neg (by omega), sr2_i]) (fun i s hi4 hss => ?_) (fun s hss => ?_)
  · subst hss
    show ob (s112_17 _ _ _ (nI i) _) _
    unfold s112_17
    rw [dx_ge (by omega) (by omega), decide_eq_false (by omega), cond_false, pk_mul, nI_add, dx_ldL (by omega) (by omega), dx_stL hi4 (by omega), nI_add, fs2_sr, sr2_s, sr2_r, sr2_n (by omega)]
    show _ = _
    congr 2
    funext j
    by_cases e : j = i
    · subst e; simp
    · by_cases e2 : j < i
      · simp [e, e2, show j < i + 1 by omega]
      · simp [e, e2, show ¬ j < i + 1 by omega]
  · subst hss
    generalize hm1 : sr2 m 61 (fun r => if r < 4 then m.2 60 (4 * p + r) else m.2 61 r) = m1
    have hF : FK0 m m1 := by rw [← hm1]; exact ⟨fun _ _ _ => rfl, fun _ _ => rfl, fun k _ h2 => sr2_n h2⟩
    have hs1 := KS_f hs hF
    have e59 : m1.1 59 = m.1 59 := by rw [← hm1]; rfl
    have e60 : m1.2 60 = m.2 60 := by rw [← hm1]; exact sr2_n (by omega)
    have hR1 : RA m1 A := RA_c e59 e60 hR
    have hB1 : ∀ r, r < 4 → m1.2 61 r = A (4 * p + r) := fun r hr => by
      rw [← hm1, sr2_s]
      show (if r < 4 then m.2 60 (4 * p + r) else _) = _
      rw [if_pos hr]; exact (hA r hr).2
    have hb1 : m1.1 52 11 = bI b := by rw [← hm1]; exact hb
    have hA1 : ∀ r, r < 4 → m1.2 60 (4 * p + r) = A (4 * p + r) := fun r hr => by rw [e60]; exact (hA r hr).2
    show ob (s112_17 _ _ _ (nI 4) _) _
    unfold s112_17
    rw [dx_ge (by omega) (by omega), decide_eq_true (by omega), cond_true, g110_r hs1 hw hp hA1, dx_cl2, bI_eq]
    by_cases hj : jm I A p = 25
    · rw [decide_eq_false (fun z => z hj)]
      refine ob_mp (ob_m (g64_r hs1 hw hp hR1 (fun r hr => ⟨(hA r hr).1, hA1 r hr⟩) hB1 hb1) (fun m' h => ⟨FK0_t hF h.1, ?_, ?_⟩))
      · unfold go; rw [hj, brg_25 hn]; exact h.2.1
      · unfold gof; rw [hj, chg_25 hn, Bool.false_or, Bool.or_comm]; exact h.2.2
    · rw [decide_eq_true hj]
      have hst : stt (kd I p) = false := by
        unfold jm at hj
        rcases k13 hk with h | h | h | h | h | h | h | h | h | h | h | h | h <;> rw [h] <;> first | rfl | (rw [h] at hj; exact absurd rfl hj)
      have hjl := jm_le (A := A) hw hp
      rw [Bool.not_true, cond_false, g111_r hs1 hw hp hj, dx_cl2]
      refine ob_1 (ob_m (g106_r hs1 hn hR1 (fun r hr => by rw [hB1 r hr]; exact (hA r hr).1) hjl hb1) (fun m2 h => ?_))
      obtain ⟨f2, R2, e61, b2⟩ := h
      have hBm : ∀ r, r < 4 → m1.2 61 r = mb I A p r := fun r hr => by rw [mb_of hst]; exact hB1 r hr
      rw [brg_cg hBm] at R2
      rw [chg_cg hBm] at b2
      have hA2 : ∀ r, r < 4 → brg n A (mb I A p) (jm I A p) (4 * p + r) = A (4 * p + r) := fun r hr => by
        rw [brg_at hr, mb_of hst, jn_self]
        split <;> rfl
      have hA3 : ∀ r, r < 4 → okv (brg n A (mb I A p) (jm I A p) (4 * p + r)) ∧ m2.2 60 (4 * p + r) = brg n A (mb I A p) (jm I A p) (4 * p + r) := by
        rcases R2 p (by omega) with h | h
        · have h0 := h.2 0 (by omega)
          rw [hA2 0 (by omega)] at h0
          exact absurd (h0 ▸ (hA 0 (by omega)).1) okv_N
        · exact h.2
      have hB2 : ∀ r, r < 4 → m2.2 61 r = brg n A (mb I A p) (jm I A p) (4 * p + r) := fun r hr => by rw [hA2 r hr, e61]; exact hB1 r hr
      refine ob_mp (ob_m (g64_r (KS_f hs1 f2) hw hp R2 hA3 hB2 b2) (fun m' h => ⟨FK0_t hF (FK0_t f2 h.1), ?_, ?_⟩))
      · have e := h.2.1
        unfold go1 at e
        unfold go go1
        rw [gn_cg hw hp hA2] at e
        rw [brg_cg (B' := mb I A p) (fun r hr => by rw [mb_of hst, mb_of hst]; exact hA2 r hr)] at e
        cases hg : gn I A p with
        | true => rw [hg] at e; rw [if_pos rfl] at e ⊢; rw [brg_comm]; exact e
        | false => rw [hg] at e; rw [if_neg Bool.false_ne_true] at e ⊢; exact e
      · rw [h.2.2]
        congr 1
        unfold gof go1
        have hmb : ∀ r, r < 4 → mb I (brg n A (mb I A p) (jm I A p)) p r = mb I A p r := fun r hr => by rw [mb_of hst, mb_of hst]; exact hA2 r hr
        rw [gn_cg hw hp hA2, chg_cg hmb]
        cases hg : gn I A p with
        | false =>
          rw [if_neg Bool.false_ne_true, Bool.false_and, Bool.false_and, Bool.or_false, Bool.or_false, Bool.or_comm]
        | true =>
          rw [if_pos rfl, Bool.true_and, Bool.true_and]
          by_cases e : jm I A p = p + 1
          · rw [e]
            cases b <;> cases chg n A (mb I A p) (p + 1) <;> cases chg n (brg n A (mb I A p) (p + 1)) (mb I A p) (p + 1) <;> rfl
          · rw [chg_o e, chg_o (fun z => e z.symm)]
            cases b <;> cases chg n A (mb I A p) (p + 1) <;> cases chg n A (mb I A p) (jm I A p) <;> rfl
end KN
