theorem ai_cat_v (ad : Nat → Nat) (v : Value) : (ai_v ad v).category = v.category := by cases v <;> rfl
theorem ai_cat_map (ad : Nat → Nat) (st : List Value) : ((st.map (ai_v ad)).map fun v => v.category).sum = ai_cat st := by
  unfold ai_cat
  rw [List.map_map]
  congr 1
  apply List.map_congr_left
  intro v _
  exact ai_cat_v ad v
theorem ai_w_get (ad : Nat → Nat) (ac : Nat → ClassId) (M : List va_E) (k : Nat) : (ai_w ad ac M)[k]? = (M[k]?).map (fun e => (ad k, ai_e ad ac e)) := by
  unfold ai_w
  rw [List.getElem?_mapIdx]
theorem ai_w_at {ad : Nat → Nat} {ac : Nat → ClassId} {M : List va_E} {k : Nat} {e : va_E} (h : M[k]? = some e) : (ai_w ad ac M)[k]? = some (ad k, ai_e ad ac e) := by
  rw [ai_w_get, h]; rfl
theorem ai_w_set {ad : Nat → Nat} {ac : Nat → ClassId} {M : List va_E} {k : Nat} {e : va_E} : (ai_w ad ac M).set k (ad k, ai_e ad ac e) = ai_w ad ac (M.set k e) := by
  apply List.ext_getElem?
  intro j
  rw [ai_w_get]
  by_cases hj : k = j
  · subst hj
    by_cases hl : k < M.length
    · rw [List.getElem?_set_self (by unfold ai_w; simpa using hl), List.getElem?_set_self hl]; rfl
    · rw [List.getElem?_eq_none (by unfold ai_w; simp; omega), List.getElem?_eq_none (by simp; omega)]; rfl
  · rw [List.getElem?_set_ne hj, List.getElem?_set_ne hj, ai_w_get]
/-- two maps of addresses agree below n and on the tables -/
def ai_ex (ad ad' : Nat → Nat) (n : Nat) : Prop := ∀ k, k < n ∨ ai_B ≤ k → ad' k = ad k
theorem ai_ex.rf {ad : Nat → Nat} {n : Nat} : ai_ex ad ad n := fun _ _ => rfl
theorem ai_ex.tr {a b c : Nat → Nat} {n m : Nat} (h1 : ai_ex a b n) (h2 : ai_ex b c m) (hn : n ≤ m) : ai_ex a c n := fun k hk => (h2 k (by rcases hk with h | h; exact Or.inl (by omega); exact Or.inr h)).trans (h1 k hk)
theorem ai_k_ref {n k : Nat} (h : (Nat.blt k n || Nat.ble ai_B k) = true) : k < n ∨ ai_B ≤ k := by
  rcases Bool.or_eq_true_iff.mp h with h | h
  · exact Or.inl (Nat.le_of_ble_eq_true h)
  · exact Or.inr (Nat.le_of_ble_eq_true h)
theorem ai_ex_v {ad ad' : Nat → Nat} {n : Nat} (h : ai_ex ad ad' n) {v : Value} (hk : ai_k n v = true) : ai_v ad' v = ai_v ad v := by
  cases v with
  | ref k => show Value.ref _ = Value.ref _; rw [h k (ai_k_ref hk)]
  | _ => rfl
theorem ai_ex_st {ad ad' : Nat → Nat} {n : Nat} (h : ai_ex ad ad' n) {st : List Value} (hk : st.all (ai_k n) = true) : st.map (ai_v ad') = st.map (ai_v ad) := by
  apply List.map_congr_left
  intro v hv
  exact ai_ex_v h (List.all_eq_true.mp hk v hv)
theorem ai_ex_l {ad ad' : Nat → Nat} {n : Nat} (h : ai_ex ad ad' n) : ∀ (L : List (Option Value)) (i : Nat), L.all (ai_kl n) = true → ai_l ad' i L = ai_l ad i L
  | [], _, _ => rfl
  | none :: t, i, hk => by
    simp only [List.all_cons, Bool.and_eq_true] at hk
    exact ai_ex_l h t (i + 1) hk.2
  | some v :: t, i, hk => by
    simp only [List.all_cons, Bool.and_eq_true] at hk
    show (i, ai_v ad' v) :: ai_l ad' (i + 1) t = (i, ai_v ad v) :: ai_l ad (i + 1) t
    rw [ai_ex_v h hk.1, ai_ex_l h t (i + 1) hk.2]
theorem ai_ex_e {ad ad' : Nat → Nat} {ac : Nat → ClassId} {n : Nat} (h : ai_ex ad ad' n) {e : va_E} (hk : ai_ke n e = true) : ai_e ad' ac e = ai_e ad ac e := by
  rcases e with ⟨t, len, f | f | f | f | f⟩ | ⟨ci, fs⟩
  · rfl
  · rfl
  · rfl
  · rfl
  · show (Sum.inl _ : va_E) = Sum.inl _
    congr 7
    funext i
    by_cases hi : i < len
    · rw [if_pos hi, if_pos hi]
      have := List.all_eq_true.mp hk i (List.mem_range.mpr hi)
      cases hf : f i with
      | none => rfl
      | some k =>
        rw [hf] at this
        show some (ad' k) = some (ad k)
        rw [h k (ai_k_ref this)]
    · rw [if_neg hi, if_neg hi]
  · show (Sum.inr _ : va_E) = Sum.inr _
    rw [ai_ex_st h hk]
theorem ai_w_push {ad : Nat → Nat} {ac : Nat → ClassId} {M : List va_E} {e e' : va_E} {q : Nat} (hB : M.length < ai_B) (hM : M.all (ai_ke M.length) = true) (he : ai_e (va_up ad M.length q) ac e = e') : ai_ex ad (va_up ad M.length q) M.length ∧ ai_w ad ac M ++ [(q, e')] = ai_w (va_up ad M.length q) ac (M ++ [e]) := by
  have hx : ai_ex ad (va_up ad M.length q) M.length := fun k hk => by
    unfold va_up
    rw [if_neg (by rcases hk with h | h <;> omega)]
  refine ⟨hx, ?_⟩
  apply List.ext_getElem?
  intro j
  rw [ai_w_get]
  have hlen : (ai_w ad ac M).length = M.length := by unfold ai_w; simp
  by_cases hj : j < M.length
  · rw [List.getElem?_append_left (by omega), List.getElem?_append_left hj, ai_w_get]
    cases hm : M[j]? with
    | none => rfl
    | some z =>
      show some (ad j, ai_e ad ac z) = some (va_up ad M.length q j, ai_e (va_up ad M.length q) ac z)
      rw [hx j (Or.inl hj), ai_ex_e hx (List.all_eq_true.mp hM z (List.mem_of_getElem? hm))]
  · rw [List.getElem?_append_right (by omega), List.getElem?_append_right (by omega), hlen]
    by_cases hj2 : j = M.length
    · subst hj2
      rw [Nat.sub_self, List.getElem?_cons_zero, List.getElem?_cons_zero]
      show some (q, e') = some (va_up ad M.length q M.length, ai_e (va_up ad M.length q) ac e)
      rw [he]
      unfold va_up
      rw [if_pos rfl]
    · rw [List.getElem?_eq_none (by simp; omega), List.getElem?_eq_none (by simp; omega)]; rfl
/-! locals -/
theorem ai_g_mem {ad : Nat → Nat} : ∀ (L : List (Option Value)) (k i : Nat) (v : Value), ai_g L k = some v → (i + k, ai_v ad v) ∈ ai_l ad i L
  | [], _, _, _, h => by cases h
  | x :: t, 0, i, v, h => by
    have h : x = some v := h
    subst h
    exact List.mem_cons_self
  | none :: t, k + 1, i, v, h => by
    have := ai_g_mem (ad := ad) t k (i + 1) v h
    rw [show i + (k + 1) = i + 1 + k by omega]
    exact this
  | some w :: t, k + 1, i, v, h => by
    have := ai_g_mem (ad := ad) t k (i + 1) v h
    rw [show i + (k + 1) = i + 1 + k by omega]
    exact List.mem_cons_of_mem _ this
theorem ai_l_mem {ad : Nat → Nat} : ∀ (L : List (Option Value)) (i : Nat) (q : Nat × Value), q ∈ ai_l ad i L → ∃ k v, q = (i + k, ai_v ad v) ∧ ai_g L k = some v
  | [], _, _, h => by cases h
  | none :: t, i, q, h => by
    obtain ⟨k, v, h1, h2⟩ := ai_l_mem t (i + 1) q h
    exact ⟨k + 1, v, by rw [h1, show i + (k + 1) = i + 1 + k by omega], h2⟩
  | some w :: t, i, q, h => by
    rcases List.mem_cons.mp h with h | h
    · exact ⟨0, w, h, rfl⟩
    · obtain ⟨k, v, h1, h2⟩ := ai_l_mem t (i + 1) q h
      exact ⟨k + 1, v, by rw [h1, show i + (k + 1) = i + 1 + k by omega], h2⟩
theorem ai_lh {ls : Array Slot} {nL : Nat} {ad : Nat → Nat} {L : List (Option Value)} (h : lv_has ls nL (ai_l ad 0 L)) {k : Nat} {v : Value} (hg : ai_g L k = some v) : ls[k]? = some (.val (ai_v ad v)) := by
  have := ai_g_mem (ad := ad) L k 0 v hg
  rw [Nat.zero_add] at this
  exact h.2.2 _ this
theorem ai_lsub {ls : Array Slot} {nL : Nat} {ad : Nat → Nat} {L : List (Option Value)} {l : List (Nat × Value)} (h : lv_has ls nL l) (hs : ∀ k v, ai_g L k = some v → (k, ai_v ad v) ∈ l) : lv_has ls nL (ai_l ad 0 L) := by
  refine ⟨h.1, h.2.1, fun q hq => ?_⟩
  obtain ⟨k, v, rfl, hg⟩ := ai_l_mem L 0 q hq
  rw [Nat.zero_add]
  exact h.2.2 _ (hs k v hg)
theorem ai_mk_g : ∀ (b : List Bool) (L : List (Option Value)) (k : Nat) (v : Value), ai_g (ai_mk b L) k = some v → ai_g L k = some v
  | [], _, _, _, h => h
  | _ :: _, [], _, _, h => by cases h
  | true :: b, x :: t, 0, v, h => h
  | false :: b, x :: t, 0, v, h => by cases h
  | true :: b, x :: t, k + 1, v, h => ai_mk_g b t k v h
  | false :: b, x :: t, k + 1, v, h => ai_mk_g b t k v h
theorem ai_lmk {ls : Array Slot} {nL : Nat} {ad : Nat → Nat} {L : List (Option Value)} (b : List Bool) (h : lv_has ls nL (ai_l ad 0 L)) : lv_has ls nL (ai_l ad 0 (ai_mk b L)) :=
  ai_lsub h (fun k v hg => by have := ai_g_mem (ad := ad) L k 0 v (ai_mk_g b L k v hg); rw [Nat.zero_add] at this; exact this)
theorem ai_s1_g (w : Value) : ∀ (i : Nat) (L : List (Option Value)) (k : Nat) (v : Value), ai_g (ai_s1 w i L) k = some v → (k = i ∧ v = w) ∨ (k ≠ i ∧ ai_g L k = some v ∧ (k + 1 = i → v.category = 1))
  | i, [], k, v, h => by cases i with | zero => cases h | succ i => cases i <;> cases h
  | 0, x :: t, 0, v, h => by
    have h : some w = some v := h
    cases h
    exact Or.inl ⟨rfl, rfl⟩
  | 0, x :: t, k + 1, v, h => Or.inr ⟨by omega, h, fun q => by omega⟩
  | 1, x :: t, 0, v, h => by
    refine Or.inr ⟨by omega, ?_, fun _ => ?_⟩
    · have h : ai_f1 x = some v := h
      show x = some v
      rcases x with _ | x
      · exact h
      · cases x <;> first | exact h | cases h
    · have h : ai_f1 x = some v := h
      rcases x with _ | x
      · cases h
      · cases x <;> cases h <;> rfl
  | 1, x :: t, k + 1, v, h => by
    rcases ai_s1_g w 0 t k v h with ⟨h1, h2⟩ | ⟨h1, h2, h3⟩
    · exact Or.inl ⟨by omega, h2⟩
    · exact Or.inr ⟨by omega, h2, fun q => by omega⟩
  | n + 2, x :: t, 0, v, h => Or.inr ⟨by omega, h, fun q => by omega⟩
  | n + 2, x :: t, k + 1, v, h => by
    rcases ai_s1_g w (n + 1) t k v h with ⟨h1, h2⟩ | ⟨h1, h2, h3⟩
    · exact Or.inl ⟨by omega, h2⟩
    · exact Or.inr ⟨by omega, h2, fun q => h3 (by omega)⟩
theorem ai_s2_g (w : Value) : ∀ (i : Nat) (L : List (Option Value)) (k : Nat) (v : Value), ai_g (ai_s2 w i L) k = some v → (k = i ∧ v = w) ∨ (k ≠ i ∧ k ≠ i + 1 ∧ ai_g L k = some v ∧ (k + 1 = i → v.category = 1))
  | i, [], k, v, h => by cases i with | zero => cases h | succ i => cases i <;> cases h
  | 0, [x], k, v, h => by cases h
  | 0, x :: y :: t, 0, v, h => by
    have h : some w = some v := h
    cases h
    exact Or.inl ⟨rfl, rfl⟩
  | 0, x :: y :: t, 1, v, h => by cases h
  | 0, x :: y :: t, k + 2, v, h => Or.inr ⟨by omega, by omega, h, fun q => by omega⟩
  | 1, x :: t, 0, v, h => by
    refine Or.inr ⟨by omega, by omega, ?_, fun _ => ?_⟩
    · have h : ai_f1 x = some v := by cases t <;> exact h
      show x = some v
      rcases x with _ | x
      · exact h
      · cases x <;> first | exact h | cases h
    · have h : ai_f1 x = some v := by cases t <;> exact h
      rcases x with _ | x
      · cases h
      · cases x <;> cases h <;> rfl
  | 1, x :: t, k + 1, v, h => by
    have h : ai_g (ai_s2 w 0 t) k = some v := by cases t <;> exact h
    rcases ai_s2_g w 0 t k v h with ⟨h1, h2⟩ | ⟨h1, h2, h3, h4⟩
    · exact Or.inl ⟨by omega, h2⟩
    · refine Or.inr ⟨by omega, by omega, ?_, fun q => by omega⟩
      exact h3
  | n + 2, x :: t, 0, v, h => by
    have h : x = some v := by cases t <;> exact h
    exact Or.inr ⟨by omega, by omega, h, fun q => by omega⟩
  | n + 2, x :: t, k + 1, v, h => by
    have h : ai_g (ai_s2 w (n + 1) t) k = some v := by cases t <;> exact h
    rcases ai_s2_g w (n + 1) t k v h with ⟨h1, h2⟩ | ⟨h1, h2, h3, h4⟩
    · exact Or.inl ⟨by omega, h2⟩
    · exact Or.inr ⟨by omega, by omega, h3, fun q => h4 (by omega)⟩
theorem ai_store1 {ls' : Array Slot} {nL i : Nat} {ad : Nat → Nat} {L : List (Option Value)} {w : Value} (h : lv_has ls' nL ((i, ai_v ad w) :: (ai_l ad 0 L).filter (fun q => !(q.1 == i) && !(q.1 + 1 == i && q.2.category == 2)))) : lv_has ls' nL (ai_l ad 0 (ai_s1 w i L)) := by
  refine ai_lsub h (fun k v hg => ?_)
  rcases ai_s1_g w i L k v hg with ⟨rfl, rfl⟩ | ⟨h1, h2, h3⟩
  · exact List.mem_cons_self
  · refine List.mem_cons_of_mem _ (List.mem_filter.mpr ⟨by have := ai_g_mem (ad := ad) L k 0 v h2; rw [Nat.zero_add] at this; exact this, ?_⟩)
    simp only [Bool.and_eq_true, Bool.not_eq_true', beq_eq_false_iff_ne, ne_eq, Bool.and_eq_false_iff]
    refine ⟨h1, ?_⟩
    by_cases hk : k + 1 = i
    · right; rw [ai_cat_v, h3 hk]; decide
    · left; exact hk
theorem ai_store2 {ls' : Array Slot} {nL i : Nat} {ad : Nat → Nat} {L : List (Option Value)} {w : Value} (h : lv_has ls' nL ((i, ai_v ad w) :: (ai_l ad 0 L).filter (fun q => !(q.1 == i) && (!(q.1 == i + 1) && !(q.1 + 1 == i && q.2.category == 2))))) : lv_has ls' nL (ai_l ad 0 (ai_s2 w i L)) := by
  refine ai_lsub h (fun k v hg => ?_)
  rcases ai_s2_g w i L k v hg with ⟨rfl, rfl⟩ | ⟨h1, h2, h3, h4⟩
  · exact List.mem_cons_self
  · refine List.mem_cons_of_mem _ (List.mem_filter.mpr ⟨by have := ai_g_mem (ad := ad) L k 0 v h3; rw [Nat.zero_add] at this; exact this, ?_⟩)
    simp only [Bool.and_eq_true, Bool.not_eq_true', beq_eq_false_iff_ne, ne_eq, Bool.and_eq_false_iff]
    refine ⟨h1, h2, ?_⟩
    by_cases hk : k + 1 = i
    · right; rw [ai_cat_v, h4 hk]; decide
    · left; exact hk
theorem ai_en_g {ad : Nat → Nat} : ∀ (n : Nat) (vs : List Value) (i k : Nat) (v : Value), ai_g (ai_en n vs) k = some v → (i + k, ai_v ad v) ∈ lv_args i (vs.map (ai_v ad))
  | 0, _, _, _, _, h => by cases h
  | n + 1, [], i, 0, v, h => by cases h
  | n + 1, [], i, k + 1, v, h => by
    have := ai_en_g (ad := ad) n [] (i + 1) k v h
    cases this
  | n + 1, u :: t, i, k, v, h => by
    cases u with
    | long x =>
      cases k with
      | zero =>
        have h : some (Value.long x) = some v := by cases n <;> exact h
        cases h
        exact List.mem_cons_self
      | succ k =>
        cases n with
        | zero => cases h
        | succ n =>
          cases k with
          | zero => cases h
          | succ k =>
            have := ai_en_g (ad := ad) n t (i + 2) k v h
            refine List.mem_cons_of_mem _ ?_
            rw [show i + (k + 1 + 1) = i + 2 + k by omega]
            exact this
    | double x => cases h
    | _ =>
      cases k with
      | zero =>
        cases h
        exact List.mem_cons_self
      | succ k =>
        have := ai_en_g (ad := ad) n t (i + 1) k v h
        refine List.mem_cons_of_mem _ ?_
        rw [show i + (k + 1) = i + 1 + k by omega]
        exact this
theorem ai_sl_len (vs : List Value) : (lg_sl vs).length = ai_cat vs := by
  induction vs with
  | nil => rfl
  | cons v t ih =>
    have h1 : ai_cat (v :: t) = v.category + ai_cat t := rfl
    have h2 : lg_sl (v :: t) = (if v.category = 2 then [.val v, .second] else [.val v]) ++ lg_sl t := rfl
    rw [h1, h2, List.length_append, ih]
    rcases lv_cat v with h | h <;> simp [h]
theorem ai_entry {ad : Nat → Nat} {n : Nat} {vs : List Value} (h : ai_cat vs ≤ n) : lv_has ((lg_sl (vs.map (ai_v ad)) ++ List.replicate (n - (lg_sl (vs.map (ai_v ad))).length) Slot.unset).toArray) n (ai_l ad 0 (ai_en n vs)) := by
  have h1 : ai_cat (vs.map (ai_v ad)) = ai_cat vs := ai_cat_map ad vs
  refine ai_lsub (lv_entry (vs.map (ai_v ad)) (n := n) (by rw [ai_sl_len, h1]; exact h)) (fun k v hg => ?_)
  have := ai_en_g (ad := ad) n vs 0 k v hg
  rw [Nat.zero_add] at this
  exact this
