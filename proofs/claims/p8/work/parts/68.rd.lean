/-! findReads of the class: the least that fits -/
theorem dx_sm {a : Nat} : nI a - nI (a + 1) = -1 := by
  have h := dx_m1 (p := a)
  rw [← h, Int32.add_comm]
  exact Int32.add_sub_cancel _ _
def dif (a s : Nat) : Nat := a &&& (15 ^^^ s)
def sbs (a b : Nat) : Prop := a ||| b = b
def pcn (a : Nat) : Nat := a % 2 + a / 2 % 2 + a / 4 % 2 + a / 8 % 2
theorem or_16 {a b : Nat} (ha : a < 16) (hb : b < 16) : a ||| b < 16 := Nat.or_lt_two_pow (n := 4) ha hb
theorem dif_16 {a s : Nat} (ha : a < 16) : dif a s < 16 := Nat.lt_of_le_of_lt Nat.and_le_left ha
theorem sbs_r (a : Nat) : sbs a a := Nat.or_self a
theorem sbs_0 (a : Nat) : sbs 0 a := Nat.zero_or a
theorem sbs_t {a b c : Nat} (h1 : sbs a b) (h2 : sbs b c) : sbs a c := by
  unfold sbs at *
  rw [← h2, ← Nat.or_assoc, h1]
theorem sbs_a {a b : Nat} (h1 : sbs a b) (h2 : sbs b a) : a = b := by
  unfold sbs at *
  rw [← h1, Nat.or_comm]
  exact h2.symm
theorem sbs_o {a b c d : Nat} (h1 : sbs a b) (h2 : sbs c d) : sbs (a ||| c) (b ||| d) := by
  unfold sbs at *
  have e : a ||| c ||| (b ||| d) = (a ||| b) ||| (c ||| d) := by ac_rfl
  rw [e, h1, h2]
set_option maxRecDepth 100000 in
theorem sbs_d0 : ∀ a, a < 16 → ∀ b, b < 16 → ∀ s, s < 16 → a ||| b = b → dif a s ||| dif b s = dif b s := by decide +kernel
theorem sbs_d {a b s : Nat} (ha : a < 16) (hb : b < 16) (hs : s < 16) (h : sbs a b) : sbs (dif a s) (dif b s) := sbs_d0 a ha b hb s hs h
set_option maxRecDepth 100000 in
theorem pcn_le0 : ∀ a, a < 16 → ∀ b, b < 16 → a ||| b = b → pcn a ≤ pcn b ∧ (a = b ∨ pcn a < pcn b) := by decide +kernel
theorem pcn_4 (a : Nat) : pcn a ≤ 4 := by unfold pcn; omega
set_option maxRecDepth 100000 in
theorem nor0 : ∀ a, a < 16 → ∀ b, b < 16 → nI a ||| nI b = nI (a ||| b) := by decide +kernel
theorem nor {a b : Nat} (ha : a < 16) (hb : b < 16) : nI a ||| nI b = nI (a ||| b) := nor0 a ha b hb
set_option maxRecDepth 100000 in
theorem ndif0 : ∀ a, a < 16 → ∀ b, b < 16 → nI a &&& (nI b ^^^ (-1)) = nI (dif a b) := by decide +kernel
theorem ndif {a b : Nat} (ha : a < 16) (hb : b < 16) : nI a &&& (nI b ^^^ (-1)) = nI (dif a b) := ndif0 a ha b hb
theorem shl0 : ∀ r, r < 4 → (nI 1) <<< (nI r &&& 31) = nI (2 ^ r) ∧ 2 ^ r < 16 := by decide +kernel
theorem shl {r : Nat} (h : r < 4) : (nI 1) <<< (nI r &&& 31) = nI (2 ^ r) := (shl0 r h).1
theorem p2_16 {r : Nat} (h : r < 4) : 2 ^ r < 16 := (shl0 r h).2
def rd (I : cod) (p : Nat) : Nat := if kd I p = 1 then 2 ^ bn I p else if 2 ≤ kd I p ∧ kd I p ≤ 4 then 2 ^ bn I p ||| 2 ^ rc I p else if kd I p = 5 then 2 ^ ra I p ||| 2 ^ bn I p else if kd I p = 9 then 3 else if kd I p = 8 ∨ 10 ≤ kd I p then 2 ^ ra I p else 0
def sm (I : cod) (p : Nat) : Nat := if stt (kd I p) = true then 2 ^ ra I p else 0
def rf (I : cod) (n : Nat) (V : Nat → Nat) (t : Nat) : Nat := if t < n then rd I t ||| dif (V t) (sm I t) else 0
def ron (I : cod) (n : Nat) (A : Nat → Int64) (V : Nat → Nat) (p : Nat) : Nat := rf I n V (jm I A p) ||| (if gn I A p = true then rf I n V (p + 1) else 0)
def TT (I : cod) (n : Nat) (A : Nat → Int64) (V : Nat → Nat) (p : Nat) : Nat := if A (4 * p) = vN then 0 else ron I n A V p
section RD
variable {m : fm} {c n p : Nat} {I : cod} {A : Nat → Int64}
theorem rd_16 (hw : WF n I) (hp : p < n) : rd I p < 16 := by
  have hk := WF_k hw hp
  unfold rd
  split
  · exact p2_16 (WF_b hw hp (by omega)).2
  · split
    · exact or_16 (p2_16 (WF_b hw hp (by omega)).2) (p2_16 (WF_c hw hp (by omega)))
    · split
      · exact or_16 (p2_16 (WF_a hw hp (by omega))) (p2_16 (WF_b hw hp (by omega)).2)
      · split
        · omega
        · split
          · exact p2_16 (WF_a hw hp (by omega))
          · omega
theorem stt_6 {k : Nat} (h : stt k = true) : k ≠ 6 := by intro e; subst e; cases h
theorem sm_16 (hw : WF n I) (hp : p < n) : sm I p < 16 := by
  unfold sm
  split
  · rename_i h
    exact p2_16 (WF_a hw hp (stt_6 h))
  · omega
theorem rf_16 (hw : WF n I) {V : Nat → Nat} (hV : ∀ p, V p < 16) {t : Nat} : rf I n V t < 16 := by
  unfold rf
  split
  · rename_i h
    exact or_16 (rd_16 hw h) (dif_16 (hV t))
  · omega
theorem TT_16 (hw : WF n I) {V : Nat → Nat} (hV : ∀ p, V p < 16) : TT I n A V p < 16 := by
  unfold TT ron
  split
  · omega
  · refine or_16 (rf_16 hw hV) ?_
    split
    · exact rf_16 hw hV
    · omega
set_option maxHeartbeats 1000000 in
theorem g10_s (hc : CR m c n I) (hw : WF n I) (hp : p < n) : g10 c (nI p) m = some (nI (rd I p), m) := by
  have hk := WF_k hw hp
  have hn := hw.1
  unfold g10 g10_85 rd
  simp only [g4_0 hc hn hp, g4_1 hc hn hp, g4_2 hc hn hp, g4_3 hc hn hp, dx_cl2]
  rcases k13 hk with h | h | h | h | h | h | h | h | h | h | h | h | h
  case inl => rw [h]; rfl
  case inr.inl =>
    have hb := WF_b hw hp (by omega)
    rw [hb.1, shl hb.2, h]; rfl
  case inr.inr.inl =>
    have hb := WF_b hw hp (by omega)
    have hcc := WF_c hw hp (by omega)
    rw [hb.1, shl hb.2, shl hcc, nor (p2_16 hb.2) (p2_16 hcc), h]; rfl
  case inr.inr.inr.inl =>
    have hb := WF_b hw hp (by omega)
    have hcc := WF_c hw hp (by omega)
    rw [hb.1, shl hb.2, shl hcc, nor (p2_16 hb.2) (p2_16 hcc), h]; rfl
  case inr.inr.inr.inr.inl =>
    have hb := WF_b hw hp (by omega)
    have hcc := WF_c hw hp (by omega)
    rw [hb.1, shl hb.2, shl hcc, nor (p2_16 hb.2) (p2_16 hcc), h]; rfl
  case inr.inr.inr.inr.inr.inl =>
    have hb := WF_b hw hp (by omega)
    have ha := WF_a hw hp (by omega)
    rw [hb.1, shl hb.2, shl ha, nor (p2_16 ha) (p2_16 hb.2), h]; rfl
  case inr.inr.inr.inr.inr.inr.inl => rw [h]; rfl
  case inr.inr.inr.inr.inr.inr.inr.inl => rw [h]; rfl
  case inr.inr.inr.inr.inr.inr.inr.inr.inr.inl => rw [h]; rfl
  all_goals (
    have ha := WF_a hw hp (by omega)
    rw [shl ha, h]; rfl)
set_option maxHeartbeats 1000000 in
theorem g11_s (hc : CR m c n I) (hw : WF n I) (hp : p < n) : g11 c (nI p) m = some (nI (sm I p), m) := by
  have hk := WF_k hw hp
  have hn := hw.1
  unfold g11 g11_60 sm
  simp only [g4_0 hc hn hp, g4_1 hc hn hp, dx_cl2]
  by_cases h6 : kd I p = 6
  · rw [h6]; rfl
  · rw [shl (WF_a hw hp h6)]
    rcases k13 hk with h | h | h | h | h | h | h | h | h | h | h | h | h <;> rw [h] <;> rfl
def RV (m : fm) (V : Nat → Nat) : Prop := (∀ p, V p < 16) ∧ ∀ p, p < 24 → m.1 6 p = nI (V p)
theorem g34_s (hc : CR m c n I) (hw : WF n I) {V : Nat → Nat} (hV : RV m V) {t : Nat} (ht : t ≤ 25) : g34 c (jI t) m = some (nI (rf I n V t), m) := by
  have hn := hw.1
  unfold g34 rf jI
  by_cases h25 : t = 25
  · rw [if_pos h25, g2_m, dx_cl2, bI_eq, if_neg (by omega)]; rfl
  · rw [if_neg h25, g2_s hc hn (by omega), dx_cl2, bI_eq]
    by_cases h : t < n
    · rw [decide_eq_true h, if_pos h, Bool.not_true, cond_false, g10_s hc hw h, dx_cl2, dx_ldI (by omega) (by omega), hV.2 t (by omega), g11_s hc hw h, dx_cl2, ndif (hV.1 t) (sm_16 hw h), nor (rd_16 hw h) (dif_16 (hV.1 t))]
    · rw [decide_eq_false h, if_neg h]; rfl
theorem g34_1 (hc : CR m c n I) (hw : WF n I) {V : Nat → Nat} (hV : RV m V) {t : Nat} (ht : t ≤ 24) : g34 c (nI t) m = some (nI (rf I n V t), m) := by
  have h := g34_s hc hw hV (show t ≤ 25 by omega)
  unfold jI at h
  rw [if_neg (by omega)] at h
  exact h
theorem g33_s (hc : CR m c n I) (hw : WF n I) {V : Nat → Nat} (hV : RV m V) (hp : p < n) : g33 c (nI p) m = some (nI (ron I n (m.2 5) V p), m) := by
  have hn := hw.1
  unfold g33 ron
  rw [g31_s hc hw hp, dx_cl2, g34_s hc hw hV (jm_le hw hp), dx_cl2, g30_s hc hw hp, dx_cl2, bI_eq]
  cases hg : gn I (m.2 5) p with
  | false => rw [if_neg Bool.false_ne_true, Nat.or_zero]; rfl
  | true => rw [if_pos rfl, Bool.not_true, cond_false, nI_add, g34_1 hc hw hV (by omega), dx_cl2, nor (rf_16 hw hV.1) (rf_16 hw hV.1)]
def upN (V : Nat → Nat) (p x : Nat) : Nat → Nat := fun q => if q = p then x else V q
def F6 (m m' : fm) : Prop := (∀ k, k ≠ 6 → m'.1 k = m.1 k) ∧ m'.2 = m.2
theorem F6_r (m : fm) : F6 m m := ⟨fun _ _ => rfl, rfl⟩
theorem F6_t {m m' m'' : fm} (h1 : F6 m m') (h2 : F6 m' m'') : F6 m m'' := ⟨fun k a => (h2.1 k a).trans (h1.1 k a), h2.2.trans h1.2⟩
theorem CR_f {m' : fm} (hc : CR m c n I) (h1 : m'.1 c = m.1 c) (h2 : m'.1 (c + 1) = m.1 (c + 1)) : CR m' c n I := by
  unfold CR
  rw [h1, h2]
  exact hc
/-- one place more, from the last one on -/
def rsw (I : cod) (n : Nat) (A : Nat → Int64) (V : Nat → Nat) : Nat → Nat → Nat
  | 0 => V
  | i + 1 => upN (rsw I n A V i) (n - 1 - i) (TT I n A (rsw I n A V i) (n - 1 - i))
def rsf (I : cod) (n : Nat) (A : Nat → Int64) (V : Nat → Nat) : Nat → Bool
  | 0 => false
  | i + 1 => rsf I n A V i || decide (¬ TT I n A (rsw I n A V i) (n - 1 - i) = rsw I n A V i (n - 1 - i))
theorem rsw_1 {V : Nat → Nat} {i : Nat} : rsw I n A V (i + 1) = upN (rsw I n A V i) (n - 1 - i) (TT I n A (rsw I n A V i) (n - 1 - i)) := rfl
theorem rsf_1 {V : Nat → Nat} {i : Nat} : rsf I n A V (i + 1) = (rsf I n A V i || decide (¬ TT I n A (rsw I n A V i) (n - 1 - i) = rsw I n A V i (n - 1 - i))) := rfl
theorem s32_46_s (hc : CR m c n I) (hw : WF n I) (h20 : 20 ≤ c) {V : Nat → Nat} (hV : RV m V) (hp : p < n) {b : Bool} {x3 : Int32} : s32_46 c (bI b) x3 (nI p) m = some (.inl (bI (b || decide (¬ TT I n (m.2 5) V p = V p)), nI p + (-1), fs1 m 6 p (nI (TT I n (m.2 5) V p)))) := by
  have hn := hw.1
  have h71 : ∀ y, y < 16 → g32_71 c (bI b) x3 (nI p) (nI y) m = some (.inl (bI (b || decide (¬ y = V p)), nI p + (-1), fs1 m 6 p (nI y))) := by
    intro y hy
    have hv := hV.1 p
    unfold g32_71 g32_94
    simp only [dx_stI (show p < 24 by omega) (show 24 < 2147483648 by omega)]
    rw [dx_ldI (by omega) (by omega), hV.2 p (by omega), dx_eq (by omega) (by omega), bI_ne, dx_cif]
    cases b with
    | true => rfl
    | false =>
      rw [cond_false, Bool.false_or]
      by_cases e : y = V p
      · rw [if_pos e, decide_eq_false (fun z => z e)]; rfl
      · rw [if_neg e, decide_eq_true e]; rfl
  unfold s32_46 TT
  rw [dx_lt0 (by omega), cond_false, g16_s (by omega), dx_cl2, bI_eq]
  by_cases e : m.2 5 (4 * p) = vN
  · rw [decide_eq_false (fun z => z e), if_pos e]
    exact h71 0 (by omega)
  · rw [decide_eq_true e, if_neg e, Bool.not_true, cond_false, g33_s hc hw hV hp, dx_cl2]
    have := TT_16 (p := p) (A := m.2 5) hw hV.1
    unfold TT at this
    rw [if_neg e] at this
    exact h71 _ this
theorem g32_46_s (hc : CR m c n I) (hw : WF n I) (h20 : 20 ≤ c) {V : Nat → Nat} (hV : RV m V) {x3 : Int32} : ob (g32_46 c (bI false) x3 (nI n - nI 1) m) (fun b => ∃ m', b = .inl (bI (rsf I n (m.2 5) V n), x3 + nI 1, m') ∧ F6 m m' ∧ RV m' (rsw I n (m.2 5) V n)) := by
  have hn := hw.1
  unfold g32_46
  have ei : ∀ i, i < n → nI (n - 1 - i) + (-1) = nI (n - 1) - nI (i + 1) := fun i hi => by
    by_cases h : i + 1 < n
    · rw [dx_sub (by omega), show n - 1 - i = (n - 1 - (i + 1)) + 1 by omega, dx_m1]
    · have e : i = n - 1 := by omega
      subst e
      rw [show n - 1 - (n - 1) = 0 by omega, dx_m0, dx_sm]
  have e0 : nI n - nI 1 = nI (n - 1) - nI 0 ∨ n = 0 := by
    by_cases h : n = 0
    · exact Or.inr h
    · left; rw [dx_sub (by omega), dx_sub (by omega)]; rfl
  by_cases h0 : n = 0
  · subst h0
    have em : nI 0 - nI 1 = -1 := by decide +kernel
    rw [em]
    refine wl_c (f := fun s : Int32 × Int32 × fm => s32_46 c s.1 x3 s.2.1 s.2.2) (fun _ s => s = (bI false, -1, m)) 0 (by omega) (bI false, -1, m) rfl (fun i s hi _ => absurd hi (by omega)) (fun s hss => ?_)
    subst hss
    show ob (s32_46 c _ x3 (-1) m) _
    unfold s32_46
    rw [dx_ltm]
    exact ⟨m, rfl, F6_r m, hV⟩
  · have e0 : nI n - nI 1 = nI (n - 1) - nI 0 := e0.resolve_right h0
    rw [e0]
    refine wl_c (f := fun s : Int32 × Int32 × fm => s32_46 c s.1 x3 s.2.1 s.2.2) (fun i s => ∃ mi, s = (bI (rsf I n (m.2 5) V i), nI (n - 1) - nI i, mi) ∧ F6 m mi ∧ RV mi (rsw I n (m.2 5) V i)) n (by omega) (bI false, nI (n - 1) - nI 0, m) ⟨m, rfl, F6_r m, hV⟩ (fun i s hi hss => ?_) (fun s hss => ?_)
    · obtain ⟨mi, rfl, hF, hVi⟩ := hss
      have hci : CR mi c n I := CR_f hc (hF.1 c (by omega)) (hF.1 (c + 1) (by omega))
      show ob (s32_46 c _ x3 (nI (n - 1) - nI i) mi) _
      rw [dx_sub (by omega), s32_46_s hci hw h20 hVi (by omega), ei i hi, hF.2]
      refine ⟨fs1 mi 6 (n - 1 - i) (nI (TT I n (m.2 5) (rsw I n (m.2 5) V i) (n - 1 - i))), ?_, F6_t hF ⟨fun k hk => fs1_k hk, rfl⟩, fun p => ?_, fun p hp => ?_⟩
      · rw [rsf_1]
      · rw [rsw_1]
        unfold upN
        split
        · exact TT_16 hw hVi.1
        · exact hVi.1 p
      · rw [rsw_1]
        unfold upN
        by_cases e : p = n - 1 - i
        · rw [if_pos e, e]; exact fs1_at
        · rw [if_neg e, fs1_i e]; exact hVi.2 p hp
    · obtain ⟨mi, rfl, hF, hVi⟩ := hss
      show ob (s32_46 c _ x3 (nI (n - 1) - nI n) mi) _
      have em : nI (n - 1) - nI n = -1 := by
        have := dx_sm (a := n - 1)
        rw [show n - 1 + 1 = n by omega] at this
        exact this
      unfold s32_46
      rw [em, dx_ltm]
      exact ⟨mi, rfl, hF, hVi⟩
end RD
