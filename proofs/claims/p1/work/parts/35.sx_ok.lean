section SX
theorem ai_ialT {X : ai_X} {M : List va_E} {k n : Nat} {j : Int32} {f : Nat → Int32} (hb : Nat.ble ai_B k = true) (hX : X[k - ai_B]? = some (n, f)) (hi : ai_in j n = true) : ai_ial X M k j = some (.int (f j.toNatClampNeg)) := by
  unfold ai_ial
  simp only [hb, hX, hi]
variable {p : Nat → Int32}
theorem ai_ialM {X : ai_X} {M : List va_E} {k n : Nat} {j : Int32} {f : Nat → Int32} (hb : Nat.ble ai_B k = false) (hX : M[k]? = some (.inl (0, n, .inl f))) (hi : ai_in j n = true) : ai_ial X M k j = some (.int (f j.toNatClampNeg)) := by
  unfold ai_ial
  simp only [hb, hX, hi]
theorem ai_ialJ {X : ai_X} {M : List va_E} {k : Nat} {j : Int32} {v : Value} (h : ai_ial X M k j = some v) : (Nat.ble ai_B k = true ∧ ∃ n f, X[k - ai_B]? = some (n, f) ∧ ai_in j n = true ∧ v = .int (f j.toNatClampNeg)) ∨ (Nat.ble ai_B k = false ∧ ∃ n f, M[k]? = some (.inl (0, n, .inl f)) ∧ ai_in j n = true ∧ v = .int (f j.toNatClampNeg)) := by
  unfold ai_ial at h
  split at h
  · next hb =>
    split at h
    · next n f hx =>
      split at h
      · next hi => cases h; exact Or.inl ⟨hb, n, f, hx, hi, rfl⟩
      · cases h
    · cases h
  · next hb =>
    split at h
    · next n f hx =>
      split at h
      · next hi => cases h; exact Or.inr ⟨hb, n, f, hx, hi, rfl⟩
      · cases h
    · cases h
theorem ai_len2T {X : ai_X} {M : List va_E} {k n : Nat} {f : Nat → Int32} (hb : Nat.ble ai_B k = true) (hX : X[k - ai_B]? = some (n, f)) : ai_len2 X M k = some (.int (Int32.ofNat n)) := by
  unfold ai_len2
  simp only [hb, hX]
theorem ai_len2M {X : ai_X} {M : List va_E} {k n t : Nat} {z} (hb : Nat.ble ai_B k = false) (hX : M[k]? = some (.inl (t, n, z))) (ht : Nat.blt t 4 = true) : ai_len2 X M k = some (.int (Int32.ofNat n)) := by
  unfold ai_len2
  simp only [hb, hX, ht]
theorem ai_len2J {X : ai_X} {M : List va_E} {k : Nat} {v : Value} (h : ai_len2 X M k = some v) : (Nat.ble ai_B k = true ∧ ∃ n f, X[k - ai_B]? = some (n, f) ∧ v = .int (Int32.ofNat n)) ∨ (Nat.ble ai_B k = false ∧ ∃ t n z, M[k]? = some (.inl (t, n, z)) ∧ Nat.blt t 4 = true ∧ v = .int (Int32.ofNat n)) := by
  unfold ai_len2 at h
  split at h
  · next hb =>
    split at h
    · next n f hx => cases h; exact Or.inl ⟨hb, n, f, hx, rfl⟩
    · cases h
  · next hb =>
    split at h
    · next t n z hx =>
      split at h
      · next ht => cases h; exact Or.inr ⟨hb, t, n, z, hx, ht, rfl⟩
      · cases h
    · cases h
theorem sy_Rat {P : List (Nat × Nat)} {M Mc : List va_E} (h : sy_M P M Mc) {k : Nat} {e : va_E} (hk : M[k]? = some e) : sy_Re P k (some e) Mc[k]? := by
  have := h.2 k
  rw [hk] at this
  exact this
theorem sy_Mset {P : List (Nat × Nat)} {M Mc : List va_E} (h : sy_M P M Mc) {k : Nat} {e e' : va_E} (he : sy_Re P k (some e) (some e')) : sy_M P (M.set k e) (Mc.set k e') := by
  refine ⟨by rw [List.length_set, List.length_set]; exact h.1, fun j => ?_⟩
  by_cases hj : k = j
  · subst hj
    by_cases hl : k < M.length
    · rw [List.getElem?_set_self hl, List.getElem?_set_self (by rw [← h.1]; exact hl)]
      exact he
    · rw [List.getElem?_eq_none (by rw [List.length_set]; omega), List.getElem?_eq_none (by rw [List.length_set, ← h.1]; omega)]
      exact rfl
  · rw [List.getElem?_set_ne hj, List.getElem?_set_ne hj]
    exact h.2 j
theorem sy_Rsame {P : List (Nat × Nat)} {k : Nat} (e : va_E) : sy_Re P k (some e) (some e) := by
  unfold sy_Re
  split
  · next n f he => exact ⟨f, by rw [he], fun _ _ => rfl⟩
  · rfl
theorem sy_Mpush {P : List (Nat × Nat)} {M Mc : List va_E} (h : sy_M P M Mc) (e : va_E) : sy_M P (M ++ [e]) (Mc ++ [e]) := by
  refine ⟨by rw [List.length_append, List.length_append, h.1], fun j => ?_⟩
  by_cases hj : j < M.length
  · rw [List.getElem?_append_left hj, List.getElem?_append_left (by rw [← h.1]; exact hj)]
    exact h.2 j
  · rw [List.getElem?_append_right (by omega), List.getElem?_append_right (by rw [← h.1]; omega), h.1]
    cases hz : [e][j - Mc.length]? with
    | none => exact rfl
    | some e' => exact sy_Rsame e'
theorem sy_Mwk {P Q : List (Nat × Nat)} {M Mc : List va_E} (h : sy_M P M Mc) (hs : ∀ x ∈ P, x ∈ Q) : sy_M Q M Mc := by
  refine ⟨h.1, fun k => ?_⟩
  have h2 := h.2 k
  unfold sy_Re at h2 ⊢
  split at h2
  · obtain ⟨g, h3, h4⟩ := h2
    exact ⟨g, h3, fun i hi => h4 i (fun z => hi (hs _ z))⟩
  · exact h2
theorem sy_keM {P : List (Nat × Nat)} {M Mc : List va_E} (h : sy_M P M Mc) {n : Nat} (hM : M.all (ai_ke n) = true) : Mc.all (ai_ke n) = true := by
  rw [List.all_eq_true]
  intro e he
  obtain ⟨k, hk⟩ := List.getElem?_of_mem he
  have hl : k < M.length := by rw [h.1]; exact (List.getElem?_eq_some_iff.mp hk).1
  have h2 := h.2 k
  rw [List.getElem?_eq_getElem hl, hk] at h2
  unfold sy_Re at h2
  split at h2
  · obtain ⟨g, h3, -⟩ := h2
    cases h3
    rfl
  · have h4 := Option.some.inj h2
    rw [h4]
    exact List.all_eq_true.mp hM _ (List.getElem_mem hl)
theorem sy_Rlen {P : List (Nat × Nat)} {M Mc : List va_E} (h : sy_M P M Mc) {k t n : Nat} {z} (hk : M[k]? = some (.inl (t, n, z))) : ∃ z', Mc[k]? = some (.inl (t, n, z')) := by
  have e := sy_Rat h hk
  unfold sy_Re at e
  split at e
  · next n' f he =>
    cases he
    obtain ⟨g, h1, -⟩ := e
    exact ⟨_, h1⟩
  · exact ⟨z, e⟩
theorem sy_fit {ty : FieldType} {v : Value} (h : ai_fit ty v = true) : sy_c p v = v := by
  cases v with
  | float k => cases ty <;> cases h
  | _ => rfl
theorem sy_rf (o : Option Nat) : sy_c p (va_rf o) = va_rf o := by cases o <;> rfl
theorem sy_X1 {Ln k n : Nat} {f : Nat → Int32} (xs : Nat → Int32) (hk : (ai_XX Ln (fun _ => 0))[k]? = some (n, f)) : ∃ g, (ai_XX Ln xs)[k]? = some (n, g) ∧ (k ≠ 0 → g = f) := by
  rcases k with _ | _ | k
  · cases hk; exact ⟨xs, rfl, fun h => absurd rfl h⟩
  · cases hk; exact ⟨ai_sh, rfl, fun _ => rfl⟩
  · cases hk
/-- the memory's instructions but iaload, iastore, getfield -/
theorem sy_m {P : List (Nat × Nat)} {M M' Mc : List va_E} {Ln : Nat} {xs : Nat → Int32} {i : ClassFile.Instr} {a b dp : Nat} {st st' : List Value} (h : sy_M P M Mc) (h1 : i ≠ .iaload) (h2 : i ≠ .iastore) (h3 : ∀ x, i ≠ .getfield x) (hm : ai_m (ai_XX Ln (fun _ => 0)) i a b st M = some (dp, st', M')) : ∃ Mc', sy_M P M' Mc' ∧ ai_m (ai_XX Ln xs) i a b (st.map (sy_c p)) Mc = some (dp, st'.map (sy_c p), Mc') := by
  cases i with
  | getfield x => exact absurd rfl (h3 x)
  | iaload => exact absurd rfl h1
  | iastore => exact absurd rfl h2
  | putfield x =>
    simp only [ai_m] at hm
    split at hm
    · next v k r =>
      split at hm
      · next ci fs hk =>
        split at hm
        · next hcond =>
          cases hm
          have hc : Mc[k]? = some (.inr (ci, fs)) := sy_Rat h hk
          have hv : sy_c p v = v := by
            simp only [Bool.and_eq_true] at hcond
            have h5 := hcond.2
            split at h5
            · exact sy_fit h5
            · cases h5
          refine ⟨Mc.set k (.inr (ci, fs.set b v)), sy_Mset h (sy_Rsame _), ?_⟩
          rw [List.map_cons, List.map_cons, hv]
          show ai_m _ (.putfield x) a b (v :: .ref k :: _) Mc = _
          simp only [ai_m, hc, hcond]
        · cases hm
      · cases hm
    · cases hm
  | getstatic x => cases hm; exact ⟨Mc, h, rfl⟩
  | ldc2_w x => cases hm; exact ⟨Mc, h, rfl⟩
  | arraylength =>
    simp only [ai_m] at hm
    split at hm
    · next k r =>
      obtain ⟨v, hv, rfl, rfl, rfl⟩ := ai_ret3I hm
      refine ⟨Mc, h, ?_⟩
      have e5 : ai_len2 (ai_XX Ln xs) Mc k = some v ∧ sy_c p v = v := by
        rcases ai_len2J hv with ⟨hb, n, f, hX, hv2⟩ | ⟨hb, t, n, z, hk, ht, hv2⟩
        · obtain ⟨g, hg, -⟩ := sy_X1 xs hX
          rw [hv2]
          exact ⟨ai_len2T hb hg, rfl⟩
        · obtain ⟨z', hz⟩ := sy_Rlen h hk
          rw [hv2]
          exact ⟨ai_len2M hb hz ht, rfl⟩
      show ai_ret3 (ai_len2 (ai_XX Ln xs) Mc k) 1 (r.map (sy_c p)) Mc = some (1, sy_c p v :: r.map (sy_c p), Mc)
      rw [e5.1, e5.2]
      rfl
    · cases hm
  | baload =>
    simp only [ai_m] at hm
    split at hm
    · next j k r =>
      split at hm
      · next n f hk =>
        split at hm
        · next hi =>
          cases hm
          have hc : Mc[k]? = some (.inl (1, n, .inl f)) := sy_Rat h hk
          refine ⟨Mc, h, ?_⟩
          simp only [ai_m, List.map_cons, sy_c, hc, hi]
        · cases hm
      · cases hm
    · cases hm
  | laload =>
    simp only [ai_m] at hm
    split at hm
    · next j k r =>
      split at hm
      · next n f hk =>
        split at hm
        · next hi =>
          cases hm
          have hc : Mc[k]? = some (.inl (2, n, .inr (.inl f))) := sy_Rat h hk
          refine ⟨Mc, h, ?_⟩
          simp only [ai_m, List.map_cons, sy_c, hc, hi]
        · cases hm
      · cases hm
    · cases hm
  | aaload =>
    simp only [ai_m] at hm
    split at hm
    · next j k r =>
      split at hm
      · next n f hk =>
        split at hm
        · next hi =>
          cases hm
          have hc : Mc[k]? = some (.inl (3, n, .inr (.inr (.inr (.inr f))))) := sy_Rat h hk
          refine ⟨Mc, h, ?_⟩
          have e2 : ∀ t : List Value, (va_rf (f j.toNatClampNeg) :: t).map (sy_c p) = va_rf (f j.toNatClampNeg) :: t.map (sy_c p) := fun t => by rw [List.map_cons, sy_rf]
          rw [e2]
          simp only [ai_m, List.map_cons, sy_c, hc, hi]
        · cases hm
      · cases hm
    · cases hm
  | bastore =>
    simp only [ai_m] at hm
    split at hm
    · next x j k r =>
      split at hm
      · next n f hk =>
        split at hm
        · next hi =>
          cases hm
          have hc : Mc[k]? = some (.inl (1, n, .inl f)) := sy_Rat h hk
          refine ⟨_, sy_Mset h (sy_Rsame _), ?_⟩
          simp only [ai_m, List.map_cons, sy_c, hc, hi]
        · cases hm
      · cases hm
    · cases hm
  | lastore =>
    simp only [ai_m] at hm
    split at hm
    · next x j k r =>
      split at hm
      · next n f hk =>
        split at hm
        · next hi =>
          cases hm
          have hc : Mc[k]? = some (.inl (2, n, .inr (.inl f))) := sy_Rat h hk
          refine ⟨_, sy_Mset h (sy_Rsame _), ?_⟩
          simp only [ai_m, List.map_cons, sy_c, hc, hi]
        · cases hm
      · cases hm
    · cases hm
  | aastore =>
    simp only [ai_m] at hm
    split at hm
    · next v j k r =>
      split at hm
      · next n f vs hk hv =>
        split at hm
        · next hi =>
          cases hm
          have hc : Mc[k]? = some (.inl (3, n, .inr (.inr (.inr (.inr f))))) := sy_Rat h hk
          have hc2 : Mc[v]? = some (.inr (0, vs)) := sy_Rat h hv
          refine ⟨_, sy_Mset h (sy_Rsame _), ?_⟩
          simp only [ai_m, List.map_cons, sy_c, hc, hc2, hi]
        · cases hm
      · cases hm
    · cases hm
  | _ => cases hm
theorem sy_gf {P : List (Nat × Nat)} {M M' Mc : List va_E} {Ln : Nat} {xs : Nat → Int32} {x a b dp : Nat} {v : Value} {st st' : List Value} (h : sy_M P M Mc) (hv : sy_c p v = v) (hm : ai_m (ai_XX Ln (fun _ => 0)) (.getfield x) a b st M = some (dp, v :: st', M')) : M' = M ∧ ai_m (ai_XX Ln xs) (.getfield x) a b (st.map (sy_c p)) Mc = some (dp, v :: st'.map (sy_c p), Mc) := by
  simp only [ai_m] at hm
  split at hm
  · next k r =>
    split at hm
    · next ci fs hk =>
      split at hm
      · next hci =>
        obtain ⟨u, hu, rfl, hst, rfl⟩ := ai_ret3I hm
        cases hst
        have hc : Mc[k]? = some (.inr (ci, fs)) := sy_Rat h hk
        refine ⟨rfl, ?_⟩
        simp only [ai_m, List.map_cons, sy_c, hc, hci, hu]
        rfl
      · cases hm
    · cases hm
  · cases hm
theorem sy_u6 {j : Nat} (h : j < 6) : (UInt32.ofNat j).toNat = j := by
  rw [UInt32.toNat_ofNat']
  exact Nat.mod_eq_of_lt (by omega)
/-- a step over symbols stands for one of the interpreter -/
def sy_K (Ln : Nat) (xs : Nat → Int32) (r : ai_R) (pc : Nat) (L0 : List (Option Value)) (st : List Value) (Mc : List va_E) (pc' : Nat) (L' : List (Option Value)) (st' : List Value) (M' : List va_E) (P' : List (Nat × Nat)) : Prop := ∃ Mc', sy_M P' M' Mc' ∧ ∀ (d w c s : Nat) (o : Nat × Option Value × List va_E × Nat × Nat), ai_T (ai_XX Ln xs) d w r pc' (sy_L (sy_p xs) L') (st'.map (sy_c (sy_p xs))) Mc' c s o → ai_T (ai_XX Ln xs) d w r pc (sy_L (sy_p xs) L0) (st.map (sy_c (sy_p xs))) Mc c s o
section SK
variable {Ln : Nat} {xs : Nat → Int32} {P : List (Nat × Nat)} {M Mc : List va_E} {L0 : List (Option Value)} {bm : List Bool} {r : ai_R} {pc a b : Nat}
theorem sy_K1 {i : ClassFile.Instr} {st st' : List Value} {pc' : Nat} {L' : List (Option Value)} (h : sy_M P M Mc) (hat : ai_at r pc = some (i, a, b, bm)) (hs : ai_s i pc r.2.2.2.1 (ai_mk bm L0) st = some (pc', L', st')) : sy_K Ln xs r pc L0 st Mc pc' L' st' M P :=
  ⟨Mc, h, fun d w c s o hT => ai_Ts hat (by rw [← sy_mk]; exact sy_s hs) hT⟩
/-- one step of the interpreter on stack and locals -/
theorem sy_K2 {i : ClassFile.Instr} {st st' : List Value} {pc' : Nat} {L' : List (Option Value)} (h : sy_M P M Mc) (hat : ai_at r pc = some (i, a, b, bm)) (hs : ai_s i pc r.2.2.2.1 (sy_L (sy_p xs) (ai_mk bm L0)) (st.map (sy_c (sy_p xs))) = some (pc', sy_L (sy_p xs) L', st'.map (sy_c (sy_p xs)))) : sy_K Ln xs r pc L0 st Mc pc' L' st' M P :=
  ⟨Mc, h, fun d w c s o hT => ai_Ts hat (by rw [← sy_mk]; exact hs) hT⟩
/-- one step of the interpreter on the memory -/
theorem sy_K3 {i : ClassFile.Instr} {st st' : List Value} {dp : Nat} {M' Mc' : List va_E} {P' : List (Nat × Nat)} (h : sy_M P' M' Mc') (hat : ai_at r pc = some (i, a, b, bm)) (hm : ai_m (ai_XX Ln xs) i a b (st.map (sy_c (sy_p xs))) Mc = some (dp, st'.map (sy_c (sy_p xs)), Mc')) : sy_K Ln xs r pc L0 st Mc (pc + dp) (ai_mk bm L0) st' M' P' :=
  ⟨Mc', h, fun d w c s o hT => ai_Tm hat hm (by rw [← sy_mk]; exact hT)⟩
theorem sy_sub {k B : Nat} (h1 : Nat.beq k B = false) (h2 : Nat.ble B k = true) : k - B ≠ 0 := by
  intro hz
  have h3 := Nat.le_of_ble_eq_true h2
  have e : k = B := by omega
  rw [e, Nat.beq_refl] at h1
  cases h1
theorem sy_ial {k : Nat} {j : Int32} {v : Value} (h : sy_M P M Mc) (hkB : Nat.beq k ai_B = false) (hP : (k, j.toNatClampNeg) ∉ P) (hv : ai_ial (ai_XX Ln (fun _ => 0)) M k j = some v) : ai_ial (ai_XX Ln xs) Mc k j = some v ∧ ∀ q, sy_c q v = v := by
  rcases ai_ialJ hv with ⟨hb, n, f, hX, hi, hv2⟩ | ⟨hb, n, f, hM, hi, hv2⟩
  · obtain ⟨g, hg, hgf⟩ := sy_X1 xs hX
    rw [hgf (sy_sub hkB hb)] at hg
    rw [hv2]
    exact ⟨ai_ialT hb hg hi, fun _ => rfl⟩
  · obtain ⟨g, hg, hgf⟩ : ∃ g : Nat → Int32, Mc[k]? = some (.inl (0, n, .inl g)) ∧ ∀ i, (k, i) ∉ P → g i = f i := sy_Rat h hM
    rw [hv2, ← hgf _ hP]
    exact ⟨ai_ialM hb hg hi, fun _ => rfl⟩
theorem sy_scr {j : Int32} (hj : ai_in j Ln = true) (hj6 : j.toNatClampNeg < 6) (t : List Value) : ai_m (ai_XX Ln xs) .iaload a b ((Value.int j :: Value.ref ai_B :: t).map (sy_c (sy_p xs))) Mc = some (1, (Value.float (UInt32.ofNat j.toNatClampNeg) :: t).map (sy_c (sy_p xs)), Mc) := by
  have e1 : ai_ial (ai_XX Ln xs) Mc ai_B j = some (.int (xs j.toNatClampNeg)) := ai_ialT (f := xs) (n := Ln) (Nat.ble_eq_true_of_le (Nat.le_refl _)) (by rw [Nat.sub_self]; rfl) hj
  have e3 : sy_c (sy_p xs) (.float (UInt32.ofNat j.toNatClampNeg)) = .int (xs j.toNatClampNeg) := by
    show Value.int (sy_p xs (UInt32.ofNat j.toNatClampNeg).toNat) = _
    rw [sy_u6 hj6]
    unfold sy_p
    rw [if_neg (by omega)]
  rw [List.map_cons (a := Value.float _), e3]
  show ai_ret3 (ai_ial (ai_XX Ln xs) Mc ai_B j) 1 (t.map _) Mc = _
  rw [e1]
  rfl
theorem sy_iast {k n : Nat} {f : Nat → Int32} {j : Int32} (h : sy_M P M Mc) (hk : M[k]? = some (.inl (0, n, .inl f))) (hi : ai_in j n = true) (v : Value) (x : Int32) (hv : sy_c (sy_p xs) v = .int x) (t : List Value) : ∃ g : Nat → Int32, (∀ i, (k, i) ∉ P → g i = f i) ∧ ai_m (ai_XX Ln xs) .iastore a b ((v :: Value.int j :: Value.ref k :: t).map (sy_c (sy_p xs))) Mc = some (1, t.map (sy_c (sy_p xs)), Mc.set k (.inl (0, n, .inl (upd g j.toNatClampNeg x)))) := by
  obtain ⟨g, hg, hgf⟩ : ∃ g : Nat → Int32, Mc[k]? = some (.inl (0, n, .inl g)) ∧ ∀ i, (k, i) ∉ P → g i = f i := sy_Rat h hk
  refine ⟨g, hgf, ?_⟩
  rw [List.map_cons, hv]
  show ai_m _ .iastore a b (.int x :: .int j :: .ref k :: _) Mc = _
  simp only [ai_m, hg, hi]
theorem sy_setself {k : Nat} {e : va_E} (hk : M[k]? = some e) : M.set k e = M := by
  apply List.ext_getElem?
  intro t
  by_cases ht : k = t
  · rw [← ht, List.getElem?_set_self (List.getElem?_eq_some_iff.mp hk).1, hk]
  · rw [List.getElem?_set_ne ht]
set_option maxHeartbeats 2000000 in
theorem sy_1_ok {E : sy_E} {P' : List (Nat × Nat)} {M' : List va_E} {L' : List (Option Value)} {st st' : List Value} {pc' : Nat} {i : ClassFile.Instr} (h : sy_M P M Mc) (hat : ai_at r pc = some (i, a, b, bm)) (h1 : sy_1 Ln E i a b pc r.2.2.2.1 (ai_mk bm L0) st M P = some (pc', L', st', M', P')) : sy_K Ln xs r pc L0 st Mc pc' L' st' M' P' := by
  unfold sy_1 at h1
  split at h1
  · next pc2 L2 st2 hs =>
    have key : sy_K Ln xs r pc L0 st Mc pc2 L2 st2 M P := sy_K1 h hat hs
    cases h1; exact key
  · next hs0 =>
    clear hs0
    split at h1
    · next k =>
      split at h1
      · next q hg =>
        have key : sy_K Ln xs r pc L0 st Mc (pc + 1) (ai_mk bm L0) (.float q :: st) M P := sy_K2 h hat (by simp only [ai_s, sy_g, hg]; rfl)
        cases h1; exact key
      · cases h1
    · next k =>
      split at h1
      · next q hg =>
        have key : sy_K Ln xs r pc L0 st Mc (pc + 2) (ai_mk bm L0) (.float q :: st) M P := sy_K2 h hat (by simp only [ai_s, sy_g, hg]; rfl)
        cases h1; exact key
      · cases h1
    · next k =>
      split at h1
      · next q r2 =>
        split at h1
        · next hk =>
          have key : sy_K Ln xs r pc L0 (.float q :: r2) Mc (pc + 1) (ai_s1 (.float q) k (ai_mk bm L0)) r2 M P := sy_K2 h hat (by rw [sy_s1]; exact if_pos hk)
          cases h1; exact key
        · cases h1
      · cases h1
    · next k =>
      split at h1
      · next q r2 =>
        split at h1
        · next hk =>
          have key : sy_K Ln xs r pc L0 (.float q :: r2) Mc (pc + 2) (ai_s1 (.float q) k (ai_mk bm L0)) r2 M P := sy_K2 h hat (by rw [sy_s1]; exact if_pos hk)
          cases h1; exact key
        · cases h1
      · cases h1
    · split at h1
      · next y q r2 =>
        split at h1
        · next hk =>
          have key : sy_K Ln xs r pc L0 (.int y :: .float q :: r2) Mc (pc + 1) (ai_mk bm L0) (.float 6 :: r2) M P := by
            simp only [Bool.and_eq_true, decide_eq_true_eq] at hk
            have hq := Nat.eq_of_beq_eq_true hk.2
            refine sy_K2 h hat ?_
            rw [hk.1]
            simp only [ai_s, List.map_cons, sy_c, hq]
            rfl
          cases h1; exact key
        · cases h1
      · cases h1
    · split at h1
      · next j k r2 =>
        split at h1
        · next hk =>
          split at h1
          · next hj =>
            have key : sy_K Ln xs r pc L0 (.int j :: .ref k :: r2) Mc (pc + 1) (ai_mk bm L0) (.float (UInt32.ofNat j.toNatClampNeg) :: r2) M P := by
              rw [Nat.eq_of_beq_eq_true hk]
              simp only [Bool.and_eq_true] at hj
              exact sy_K3 h hat (sy_scr hj.1 (Nat.le_of_ble_eq_true hj.2) r2)
            cases h1; exact key
          · cases h1
        · next hkB =>
          split at h1
          · next v hv =>
            split at h1
            · cases h1
            · next hP =>
              have key : sy_K Ln xs r pc L0 (.int j :: .ref k :: r2) Mc (pc + 1) (ai_mk bm L0) (v :: r2) M P := by
                have hPn : (k, j.toNatClampNeg) ∉ P := by
                  intro hc
                  rw [List.contains_iff_mem.mpr hc] at hP
                  cases hP
                obtain ⟨e1, e2⟩ := sy_ial (xs := xs) h hkB hPn hv
                refine sy_K3 h hat ?_
                rw [List.map_cons (a := v), e2]
                show ai_ret3 (ai_ial (ai_XX Ln xs) Mc k j) 1 (r2.map _) Mc = _
                rw [e1]
                rfl
              cases h1; exact key
          · cases h1
      · cases h1
    · split at h1
      · next q j k r2 =>
        split at h1
        · next n f hk =>
          split at h1
          · next hi =>
            have key : sy_K Ln xs r pc L0 (.float q :: .int j :: .ref k :: r2) Mc (pc + 1) (ai_mk bm L0) r2 M ((k, j.toNatClampNeg) :: P) := by
              simp only [Bool.and_eq_true] at hi
              obtain ⟨g, hgf, hm⟩ := sy_iast (Ln := Ln) (xs := xs) (a := a) (b := b) h hk hi.1 (.float q) (sy_p xs q.toNat) rfl r2
              refine sy_K3 ?_ hat hm
              have h9 := sy_Mset (k := k) (sy_Mwk (Q := (k, j.toNatClampNeg) :: P) h (fun x hx => List.mem_cons_of_mem _ hx)) (e := .inl (0, n, .inl f)) (e' := .inl (0, n, .inl (upd g j.toNatClampNeg (sy_p xs q.toNat)))) ⟨_, rfl, fun t ht => by
                unfold upd
                have h7 : t ≠ j.toNatClampNeg := fun z => ht (by rw [z]; exact List.mem_cons_self)
                rw [if_neg h7]
                exact hgf t (fun z => ht (List.mem_cons_of_mem _ z))⟩
              rw [sy_setself hk] at h9
              exact h9
            cases h1; exact key
          · cases h1
        · cases h1
      · next x j k r2 =>
        split at h1
        · next n f hk =>
          split at h1
          · next hi =>
            have key : sy_K Ln xs r pc L0 (.int x :: .int j :: .ref k :: r2) Mc (pc + 1) (ai_mk bm L0) r2 (M.set k (.inl (0, n, .inl (upd f j.toNatClampNeg x)))) P := by
              obtain ⟨g, hgf, hm⟩ := sy_iast (Ln := Ln) (xs := xs) (a := a) (b := b) h hk hi (.int x) x rfl r2
              refine sy_K3 (sy_Mset h ⟨_, rfl, fun t ht => ?_⟩) hat hm
              unfold upd
              by_cases hz : t = j.toNatClampNeg
              · rw [if_pos hz, if_pos hz]
              · rw [if_neg hz, if_neg hz]
                exact hgf t ht
            cases h1; exact key
          · cases h1
        · cases h1
      · cases h1
    · next x =>
      split at h1
      · next dp v st2 M2 hm =>
        split at h1
        · cases h1
        · next hu =>
          have key : sy_K Ln xs r pc L0 st Mc (pc + dp) (ai_mk bm L0) (v :: st2) M2 P := by
            have hv : sy_c (sy_p xs) v = v := by
              cases v with
              | float k => exact absurd rfl (hu k)
              | _ => rfl
            obtain ⟨hM2, hm2⟩ := sy_gf (xs := xs) h hv hm
            rw [hM2]
            refine sy_K3 h hat ?_
            rw [List.map_cons, hv]
            exact hm2
          cases h1; exact key
      · cases h1
    · split at h1
      · next dp st2 M2 hm =>
        have key : sy_K Ln xs r pc L0 st Mc (pc + dp) (ai_mk bm L0) st2 M2 P := by
          obtain ⟨Mc', h9, hm2⟩ := sy_m (p := sy_p xs) (xs := xs) h (fun hz => by simp_all) (fun hz => by simp_all) (fun x hz => by simp_all) hm
          exact sy_K3 h9 hat hm2
        cases h1; exact key
      · cases h1
end SK
end SX
