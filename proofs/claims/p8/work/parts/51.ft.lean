/-- over the flat memory: from this state the run comes to an end with Q of the answer and the memory -/
def fT (X : ai_X) (d w : Nat) (r : ai_R) (pc : Nat) (L : List (Option Value)) (st : List Value) (m : fm) (Q : Option Value → fm → Prop) : Prop := ∃ (pc1 : Nat) (v : Option Value) (m1 : fm), (∀ c s : Nat, ai_T X d w r pc L st (fl m) c s (pc1, v, fl m1, c, s)) ∧ Q v m1
section FT
variable {X : ai_X} {d w : Nat} {r : ai_R} {pc : Nat} {L : List (Option Value)} {st : List Value} {m : fm} {Q : Option Value → fm → Prop} {i : ClassFile.Instr} {a b : Nat} {bm : List Bool}
theorem fT_w {Q' : Option Value → fm → Prop} (h : fT X d w r pc L st m Q') (hq : ∀ v m1, Q' v m1 → Q v m1) : fT X d w r pc L st m Q := by
  obtain ⟨pc1, v, m1, h, q⟩ := h
  exact ⟨pc1, v, m1, h, hq v m1 q⟩
theorem fT_s (hat : ai_at r pc = some (i, a, b, bm)) {pc' : Nat} {L' : List (Option Value)} {st' : List Value} (hs : ai_s i pc r.2.2.2.1 (ai_mk bm L) st = some (pc', L', st')) (h : fT X d w r pc' L' st' m Q) : fT X d w r pc L st m Q := by
  obtain ⟨pc1, v, m1, h, q⟩ := h
  exact ⟨pc1, v, m1, fun c s => ai_Ts hat hs (h c s), q⟩
theorem fT_m (hat : ai_at r pc = some (i, a, b, bm)) {dp : Nat} {st' : List Value} {m' : fm} (hm : ai_m X i a b st (fl m) = some (dp, st', fl m')) (h : fT X d w r (pc + dp) (ai_mk bm L) st' m' Q) : fT X d w r pc L st m Q := by
  obtain ⟨pc1, v, m1, h, q⟩ := h
  exact ⟨pc1, v, m1, fun c s => ai_Tm hat hm (h c s), q⟩
theorem fT_z (hat : ai_at r pc = some (i, a, b, bm)) {st' : List Value} {m' : fm} (hz : ai_z i a st (fl m) = some (st', fl m')) (g1 : 0 < d) (g2 : 32 ≤ w) (h : fT X d w r (pc + 3) (ai_mk bm L) st' m' Q) : fT X d w r pc L st m Q := by
  obtain ⟨pc1, v, m1, h, q⟩ := h
  exact ⟨pc1, v, m1, fun c s => ai_Tz hat hz g1 g2 (h c s), q⟩
theorem fT_r (hat : ai_at r pc = some (i, a, b, bm)) {v : Option Value} (hv : ai_ans i r.2.2.2.2.1 st = some v) (hq : Q v m) : fT X d w r pc L st m Q :=
  ⟨pc, v, m, fun _ _ => ai_Tr hat hv, hq⟩
theorem fT_q (hat : ai_at r pc = some (i, a, b, bm)) {r' : ai_R} {As rest : List Value} (hq : ai_q i a b st (fl m) = some (r', As, rest)) (g1 : 0 < d) (g2 : 19 + r'.2.2.2.1 ≤ w) (g3 : ai_cat rest ≤ 8) (g4 : ai_cat As ≤ r'.2.2.2.1) (g5 : (ai_mk bm L).all (ai_kl 72) = true) (g6 : rest.all (ai_k 72) = true) {Qc : Option Value → fm → Prop} (h1 : fT X (d - 1) (w - (19 + r'.2.2.2.1)) r' 0 (ai_en r'.2.2.2.1 As) [] m Qc) (h2 : ∀ v m1, Qc v m1 → fT X d w r (pc + 3) (ai_mk bm L) (v.toList ++ rest) m1 Q) : fT X d w r pc L st m Q := by
  obtain ⟨pc1, v1, m1, h1, q1⟩ := h1
  obtain ⟨pc2, v2, m2, h2, q2⟩ := h2 v1 m1 q1
  exact ⟨pc2, v2, m2, fun c s => ai_Tq hat hq g1 g2 g3 g4 (by rw [fl_len]; exact g5) (by rw [fl_len]; exact g6) (h1 0 0) (h2 (c + 0) (s + 0)), q2⟩
theorem fT_if {cd : ClassFile.Cond} {off : Int} {x : Int32} {t : Nat} (hat : ai_at r pc = some (.ifCond cd off, a, b, bm)) (ht : (pc : Int) + off = (t : Int)) (h1 : ai_c cd x 0 = true → fT X d w r t (ai_mk bm L) st m Q) (h2 : ai_c cd x 0 = false → fT X d w r (pc + 3) (ai_mk bm L) st m Q) : fT X d w r pc L (.int x :: st) m Q := by
  cases hc : ai_c cd x 0 with
  | true =>
    refine fT_s hat (pc' := t) (L' := ai_mk bm L) (st' := st) ?_ (h1 hc)
    show ai_j (ai_c cd x 0) pc off (ai_mk bm L) st = _
    unfold ai_j
    rw [hc, ht]
  | false =>
    refine fT_s hat (pc' := pc + 3) (L' := ai_mk bm L) (st' := st) ?_ (h2 hc)
    show ai_j (ai_c cd x 0) pc off (ai_mk bm L) st = _
    unfold ai_j
    rw [hc, ht]
theorem fT_ic {cd : ClassFile.Cond} {off : Int} {x y : Int32} {t : Nat} (hat : ai_at r pc = some (.if_icmp cd off, a, b, bm)) (ht : (pc : Int) + off = (t : Int)) (h1 : ai_c cd x y = true → fT X d w r t (ai_mk bm L) st m Q) (h2 : ai_c cd x y = false → fT X d w r (pc + 3) (ai_mk bm L) st m Q) : fT X d w r pc L (.int y :: .int x :: st) m Q := by
  cases hc : ai_c cd x y with
  | true =>
    refine fT_s hat (pc' := t) (L' := ai_mk bm L) (st' := st) ?_ (h1 hc)
    show ai_j (ai_c cd x y) pc off (ai_mk bm L) st = _
    unfold ai_j
    rw [hc, ht]
  | false =>
    refine fT_s hat (pc' := pc + 3) (L' := ai_mk bm L) (st' := st) ?_ (h2 hc)
    show ai_j (ai_c cd x y) pc off (ai_mk bm L) st = _
    unfold ai_j
    rw [hc, ht]
theorem fl_o {k ci : Nat} {fs : List Value} (hk : fl_t[k]? = some (.inr (ci, fs))) : (fl m)[k]? = some (.inr (ci, fl_fs (m.1 k) 0 fs)) := by rw [fl_at, hk]; rfl
theorem fl_i {k t n : Nat} {g : Nat → Int32} (hk : fl_t[k]? = some (.inl (t, n, .inl g))) : (fl m)[k]? = some (.inl (t, n, .inl (m.1 k))) := by rw [fl_at, hk]; rfl
theorem fl_l {k t n : Nat} {g : Nat → Int64} (hk : fl_t[k]? = some (.inl (t, n, .inr (.inl g)))) : (fl m)[k]? = some (.inl (t, n, .inr (.inl (m.2 k)))) := by rw [fl_at, hk]; rfl
theorem fl_r {k t n : Nat} {g : Nat → Option Nat} (hk : fl_t[k]? = some (.inl (t, n, .inr (.inr (.inr (.inr g)))))) : (fl m)[k]? = some (.inl (t, n, .inr (.inr (.inr (.inr g))))) := by rw [fl_at, hk]; rfl
theorem fT_gi {x k : Nat} {fs : List Value} {z : Int32} (hat : ai_at r pc = some (.getfield x, a, b, bm)) (hk : fl_t[k]? = some (.inr (a, fs))) (hb : fs[b]? = some (.int z)) (h : fT X d w r (pc + 3) (ai_mk bm L) (.int (m.1 k b) :: st) m Q) : fT X d w r pc L (.ref k :: st) m Q := by
  refine fT_m hat (dp := 3) (m' := m) ?_ h
  have e : (fl_fs (m.1 k) 0 fs)[b]? = some (.int (m.1 k b)) := by
    rw [fl_fs_get, hb]
    show some (Value.int (m.1 k (0 + b))) = _
    rw [Nat.zero_add]
  simp only [ai_m, fl_o hk, Nat.beq_refl, e]
  rfl
theorem fT_gr {x k q : Nat} {fs : List Value} (hat : ai_at r pc = some (.getfield x, a, b, bm)) (hk : fl_t[k]? = some (.inr (a, fs))) (hb : fs[b]? = some (.ref q)) (h : fT X d w r (pc + 3) (ai_mk bm L) (.ref q :: st) m Q) : fT X d w r pc L (.ref k :: st) m Q := by
  refine fT_m hat (dp := 3) (m' := m) ?_ h
  have e : (fl_fs (m.1 k) 0 fs)[b]? = some (.ref q) := by rw [fl_fs_get, hb]; rfl
  simp only [ai_m, fl_o hk, Nat.beq_refl, e]
  rfl
theorem fT_pi {x k : Nat} {fs : List Value} {z y : Int32} {ty : FieldType} (hat : ai_at r pc = some (.putfield x, a, b, bm)) (hk : fl_t[k]? = some (.inr (a, fs))) (hb : fs[b]? = some (.int z)) (hty : ai_ft a b = some ty) (hf : ai_fit ty (.int y) = true) (h : fT X d w r (pc + 3) (ai_mk bm L) st (fs1 m k b y) Q) : fT X d w r pc L (.int y :: .ref k :: st) m Q := by
  refine fT_m hat (dp := 3) (m' := fs1 m k b y) ?_ h
  have hl : Nat.blt b (fl_fs (m.1 k) 0 fs).length = true := by
    have h5 := fl_fs_get (m.1 k) fs 0 b
    rw [hb] at h5
    exact Nat.ble_eq_true_of_le (List.getElem?_eq_some_iff.mp h5).1
  simp only [ai_m, fl_o hk, Nat.beq_refl, hl, hty, hf, Bool.and_self]
  rw [fl_setf hk hb]
theorem fT_ia {k n : Nat} {g : Nat → Int32} {j : Int32} (hat : ai_at r pc = some (.iaload, a, b, bm)) (hk : fl_t[k]? = some (.inl (0, n, .inl g))) (hkB : Nat.ble ai_B k = false) (hi : ai_in j n = true) (h : fT X d w r (pc + 1) (ai_mk bm L) (.int (m.1 k j.toNatClampNeg) :: st) m Q) : fT X d w r pc L (.int j :: .ref k :: st) m Q := by
  refine fT_m hat (dp := 1) (m' := m) ?_ h
  have e : ai_ial X (fl m) k j = some (.int (m.1 k j.toNatClampNeg)) := by
    unfold ai_ial
    simp only [hkB, fl_i hk, hi]
  show ai_ret3 (ai_ial X (fl m) k j) 1 st (fl m) = _
  rw [e]
  rfl
theorem fT_sh {n k : Nat} {f : Nat → Int32} {j : Int32} (hat : ai_at r pc = some (.iaload, a, b, bm)) (hkB : Nat.ble ai_B k = true) (hX : X[k - ai_B]? = some (n, f)) (hi : ai_in j n = true) (h : fT X d w r (pc + 1) (ai_mk bm L) (.int (f j.toNatClampNeg) :: st) m Q) : fT X d w r pc L (.int j :: .ref k :: st) m Q := by
  refine fT_m hat (dp := 1) (m' := m) ?_ h
  have e : ai_ial X (fl m) k j = some (.int (f j.toNatClampNeg)) := by
    unfold ai_ial
    simp only [hkB, hX, hi]
  show ai_ret3 (ai_ial X (fl m) k j) 1 st (fl m) = _
  rw [e]
  rfl
theorem fT_ba {k n : Nat} {g : Nat → Int32} {j : Int32} (hat : ai_at r pc = some (.baload, a, b, bm)) (hk : fl_t[k]? = some (.inl (1, n, .inl g))) (hi : ai_in j n = true) (h : fT X d w r (pc + 1) (ai_mk bm L) (.int (m.1 k j.toNatClampNeg) :: st) m Q) : fT X d w r pc L (.int j :: .ref k :: st) m Q := by
  refine fT_m hat (dp := 1) (m' := m) ?_ h
  simp only [ai_m, fl_i hk, hi]
theorem fT_la {k n : Nat} {g : Nat → Int64} {j : Int32} (hat : ai_at r pc = some (.laload, a, b, bm)) (hk : fl_t[k]? = some (.inl (2, n, .inr (.inl g)))) (hi : ai_in j n = true) (h : fT X d w r (pc + 1) (ai_mk bm L) (.long (m.2 k j.toNatClampNeg) :: st) m Q) : fT X d w r pc L (.int j :: .ref k :: st) m Q := by
  refine fT_m hat (dp := 1) (m' := m) ?_ h
  simp only [ai_m, fl_l hk, hi]
theorem fT_aa {k n q : Nat} {g : Nat → Option Nat} {j : Int32} (hat : ai_at r pc = some (.aaload, a, b, bm)) (hk : fl_t[k]? = some (.inl (3, n, .inr (.inr (.inr (.inr g)))))) (hi : ai_in j n = true) (hg : g j.toNatClampNeg = some q) (h : fT X d w r (pc + 1) (ai_mk bm L) (.ref q :: st) m Q) : fT X d w r pc L (.int j :: .ref k :: st) m Q := by
  refine fT_m hat (dp := 1) (m' := m) ?_ h
  simp only [ai_m, fl_r hk, hi, hg]
  rfl
theorem fT_is {k n : Nat} {g : Nat → Int32} {j x : Int32} (hat : ai_at r pc = some (.iastore, a, b, bm)) (hk : fl_t[k]? = some (.inl (0, n, .inl g))) (hi : ai_in j n = true) (h : fT X d w r (pc + 1) (ai_mk bm L) st (fs1 m k j.toNatClampNeg x) Q) : fT X d w r pc L (.int x :: .int j :: .ref k :: st) m Q := by
  refine fT_m hat (dp := 1) (m' := fs1 m k j.toNatClampNeg x) ?_ h
  simp only [ai_m, fl_i hk, hi]
  rw [fl_set1 hk]
theorem fT_bs {k n : Nat} {g : Nat → Int32} {j x : Int32} (hat : ai_at r pc = some (.bastore, a, b, bm)) (hk : fl_t[k]? = some (.inl (1, n, .inl g))) (hi : ai_in j n = true) (h : fT X d w r (pc + 1) (ai_mk bm L) st (fs1 m k j.toNatClampNeg (vp_nar .boolean x)) Q) : fT X d w r pc L (.int x :: .int j :: .ref k :: st) m Q := by
  refine fT_m hat (dp := 1) (m' := fs1 m k j.toNatClampNeg (vp_nar .boolean x)) ?_ h
  simp only [ai_m, fl_i hk, hi]
  rw [fl_set1 hk]
theorem fT_ls {k n : Nat} {g : Nat → Int64} {j : Int32} {x : Int64} (hat : ai_at r pc = some (.lastore, a, b, bm)) (hk : fl_t[k]? = some (.inl (2, n, .inr (.inl g)))) (hi : ai_in j n = true) (h : fT X d w r (pc + 1) (ai_mk bm L) st (fs2 m k j.toNatClampNeg x) Q) : fT X d w r pc L (.long x :: .int j :: .ref k :: st) m Q := by
  refine fT_m hat (dp := 1) (m' := fs2 m k j.toNatClampNeg x) ?_ h
  simp only [ai_m, fl_l hk, hi]
  rw [fl_set2 hk]
theorem fT_gs {x : Nat} (hat : ai_at r pc = some (.getstatic x, a, b, bm)) (h : fT X d w r (pc + 3) (ai_mk bm L) (.ref (ai_B + a) :: st) m Q) : fT X d w r pc L st m Q :=
  fT_m hat (dp := 3) (m' := m) rfl h
theorem fT_lc {x : Nat} (hat : ai_at r pc = some (.ldc2_w x, a, b, bm)) (h : fT X d w r (pc + 3) (ai_mk bm L) (.long (Int64.ofNat a) :: st) m Q) : fT X d w r pc L st m Q :=
  fT_m hat (dp := 3) (m' := m) rfl h
end FT
