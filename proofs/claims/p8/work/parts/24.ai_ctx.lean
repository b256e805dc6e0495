def ai_tb : List Cond := lw_tbl.filter goodWord
def ai_isN (w : Cond) : Bool := match w with
  | .methodLinkNest _ _ _ _ => true
  | .fieldLinkNest _ _ _ _ _ _ => true
  | _ => false
def ai_nw : List Cond := lw_tbl.filter ai_isN
theorem ai_tbI {w : Cond} (h : w ∈ lw_tbl) (g : goodWord w = true) : w ∈ ai_tb := List.mem_filter.mpr ⟨h, g⟩
theorem ai_nwI {w : Cond} (h : w ∈ lw_tbl) (g : ai_isN w = true) : w ∈ ai_nw := List.mem_filter.mpr ⟨h, g⟩
/-- what holds of a method under way -/
def ai_C (p : Program) (s : State) (m : MethodId) (args : Array Value) (meth : Method) (c : Code) (r : ai_R) : Prop :=
  p.tables.exec = Jvm.exec ∧ c.code = r.2.2.1 ∧ meth.sig.returnType = r.2.2.2.2.1 ∧ c.maxLocals = r.2.2.2.1 ∧ s.vm.findClass (ai_cn r.1) = some m.cls ∧ (∀ w ∈ ai_tb, w.before args s = true) ∧ (∀ w ∈ ai_nw, va_Nw w s) ∧ meth.locks = false ∧ (r.2.1.name = "<init>" → meth.name = "<init>")
def ai_ty (ac : Nat → ClassId) : List (ClassId × FieldType) := [(ac 0, .int), (ac 1, .boolean), (ac 2, .long), (ac 3, .object RX0)]
def ai_Wc (D : va_G) (ac : Nat → ClassId) (X : ai_X) (ad : Nat → Nat) (A : Nat → Prop) (s : State) : Prop :=
  va_K D vwCl (ai_ty ac) s ∧ va_Z "DeadCode" "SHAPES" "[I" (.ref (ad (ai_B + 1))) A s s.heap ∧ (∀ (j n : Nat) (f : Nat → Int32), X[j]? = some (n, f) → va_T .int (ad (ai_B + j)) n (fun i => .int (f i)) A s s.heap) ∧ va_AO RX0 s
theorem ai_Wc.ex {D : va_G} {ac : Nat → ClassId} {X : ai_X} {ad ad' : Nat → Nat} {A : Nat → Prop} {s : State} {n : Nat} (h : ai_Wc D ac X ad A s) (hx : ai_ex ad ad' n) : ai_Wc D ac X ad' A s := by
  obtain ⟨h1, h2, h3, h4⟩ := h
  refine ⟨h1, ?_, fun j n f hj => ?_, h4⟩
  · rw [hx _ (Or.inr (Nat.le_add_right _ _))]; exact h2
  · rw [hx _ (Or.inr (Nat.le_add_right _ _))]; exact h3 j n f hj
theorem ai_inI {i : Int32} {n : Nat} (h : ai_in i n = true) : vp_in i n := by
  unfold ai_in at h
  unfold vp_in
  simpa using h
theorem ai_fitI {ty : FieldType} {v : Value} (ad : Nat → Nat) (h : ai_fit ty v = true) : narrow ty (ai_v ad v) = ai_v ad v ∧ fits ty (ai_v ad v) = true := by
  unfold ai_fit at h
  split at h
  · exact ⟨rfl, rfl⟩
  · next x =>
    have hx : x = 0 ∨ x = 1 := by simpa using h
    rcases hx with rfl | rfl <;> exact ⟨rfl, rfl⟩
  · exact ⟨rfl, rfl⟩
  · exact ⟨rfl, rfl⟩
  · exact ⟨rfl, rfl⟩
  · cases h
set_option maxRecDepth 100000 in
theorem ai_wU0 : vwCl.all (fun z => (u_ws z.1 z.2.1 z.2.2).all (fun w => decide (w ∈ lw_tbl) && goodWord w)) = true := by decide +kernel
theorem ai_wU {a : Nat} {C : String} {T : u_T} {N : Nat} (h : vwCl[a]? = some (C, T, N)) : ∀ w ∈ u_ws C T N, w ∈ ai_tb := by
  intro w hw
  have h1 := List.all_eq_true.mp ai_wU0 _ (List.mem_of_getElem? h)
  have h2 := List.all_eq_true.mp h1 w hw
  simp only [Bool.and_eq_true, decide_eq_true_eq] at h2
  exact ai_tbI h2.1 h2.2
/-- what is known of a class's fields -/
def ai_Cl (a : Nat) (C : String) (T : u_T) (N : Nat) : Prop := ∃ ty0 : Nat → FieldType, (∀ k, k < N → parseFieldDescriptor (T k).2.2.1 = some (ty0 k)) ∧ (∀ x, x < N → ∀ y, y < N → x ≠ y → (T x).2.1 ≠ (T y).2.1) ∧ (∀ k, k < N → ai_ft a k = some (ty0 k)) ∧ (∀ k, k < N → (T k).1 = C) ∧ ∀ fs, ai_dfs[a]? = some fs → fs.length = N ∧ ∀ j, j < N → defaultValue (ty0 j) = vp_V fs j
set_option maxRecDepth 100000 in
theorem ai_cl : ∀ (a : Nat) (C : String) (T : u_T) (N : Nat), vwCl[a]? = some (C, T, N) → ai_Cl a C T N
  | 0, _, _, _, h => by cases h; exact ⟨tyX0, tyX0_ok, nmX0, by decide +kernel, by decide +kernel, fun fs hf => by cases hf; exact ⟨rfl, by decide +kernel⟩⟩
  | 1, _, _, _, h => by cases h; exact ⟨tyX1, tyX1_ok, nmX1, by decide +kernel, by decide +kernel, fun fs hf => by cases hf; exact ⟨rfl, by decide +kernel⟩⟩
  | 2, _, _, _, h => by cases h; exact ⟨tyX2, tyX2_ok, nmX2, by decide +kernel, by decide +kernel, fun fs hf => by cases hf; exact ⟨rfl, by decide +kernel⟩⟩
  | 3, _, _, _, h => by cases h; exact ⟨tyX3, tyX3_ok, nmX3, by decide +kernel, by decide +kernel, fun fs hf => by cases hf; exact ⟨rfl, by decide +kernel⟩⟩
  | 4, _, _, _, h => by cases h; exact ⟨tyX4, tyX4_ok, nmX4, by decide +kernel, by decide +kernel, fun fs hf => by cases hf; exact ⟨rfl, by decide +kernel⟩⟩
  | 5, _, _, _, h => by cases h; exact ⟨tyX5, tyX5_ok, nmX5, by decide +kernel, by decide +kernel, fun fs hf => by cases hf; exact ⟨rfl, by decide +kernel⟩⟩
  | 6, _, _, _, h => by cases h; exact ⟨tyX6, tyX6_ok, nmX6, by decide +kernel, by decide +kernel, fun fs hf => by cases hf; exact ⟨rfl, by decide +kernel⟩⟩
  | _ + 7, _, _, _, h => by cases h
theorem ai_fl {o x a b : Nat} (h : (o, x, a, b) ∈ ai_LF) : ∃ C T N, vwCl[a]? = some (C, T, N) ∧ b < N ∧ Cond.fieldLink (ai_cn o) x (T b).1 (T b).2.1 (T b).2.2.1 ∈ ai_tb := by
  have h1 := List.all_eq_true.mp ai_wF _ h
  unfold ai_okF at h1
  split at h1
  · next C T N hc =>
    simp only [Bool.and_eq_true, decide_eq_true_eq] at h1
    exact ⟨C, T, N, hc, h1.1, ai_tbI h1.2 rfl⟩
  · cases h1
theorem ai_fln {o x a b : Nat} (h : (o, x, a, b) ∈ ai_LFN) : ∃ C T N, vwCl[a]? = some (C, T, N) ∧ b < N ∧ Cond.fieldLinkNest (ai_cn o) x (T b).1 (T b).2.1 (T b).2.2.1 "DeadCode" ∈ ai_nw := by
  have h1 := List.all_eq_true.mp ai_wFN _ h
  unfold ai_okFN at h1
  split at h1
  · next C T N hc =>
    simp only [Bool.and_eq_true, decide_eq_true_eq] at h1
    exact ⟨C, T, N, hc, h1.1, ai_nwI h1.2 rfl⟩
  · cases h1
theorem ai_decI {c : ByteArray} {pc : Nat} {i : ClassFile.Instr} (h : ai_dec c pc i = true) : ∃ len, decode c pc = .ok (i, len) ∧ (len = ai_len i ∨ ai_len i = 0) := by
  unfold ai_dec at h
  split at h
  · next j n hd =>
    simp only [Bool.and_eq_true, decide_eq_true_eq, Bool.or_eq_true] at h
    obtain ⟨rfl, h2⟩ := h
    refine ⟨n, hd, ?_⟩
    rcases h2 with h2 | h2
    · exact Or.inl (Nat.eq_of_beq_eq_true h2)
    · exact Or.inr (Nat.eq_of_beq_eq_true h2)
  · cases h
theorem ai_decL {c : ByteArray} {pc : Nat} {i : ClassFile.Instr} (h : ai_dec c pc i = true) (hn : ai_len i ≠ 0) : decode c pc = .ok (i, ai_len i) := by
  obtain ⟨len, h1, h2 | h2⟩ := ai_decI h
  · rw [← h2]; exact h1
  · exact absurd h2 hn
theorem ai_ch1_at {r : ai_R} {j : Nat} : ∀ (l : List (Option ai_N)) (t : Nat), ai_ch1 r j t l = true → ∀ (k : Nat) (i : ClassFile.Instr) (a b : Nat) (bm : List Bool), l[k]? = some (some (i, a, b, bm)) → ai_dec r.2.2.1 (16 * j + (t + k)) i = true ∧ ai_lnk r.1 r.2.1 i a b = true
  | [], _, _, _, _, _, _, _, hk => by simp at hk
  | none :: l, t, h, 0, _, _, _, _, hk => by cases hk
  | none :: l, t, h, k + 1, i, a, b, bm, hk => by
    have := ai_ch1_at l (t + 1) h k i a b bm (by simpa using hk)
    rw [show t + (k + 1) = t + 1 + k by omega]
    exact this
  | some (i0, a0, b0, m0) :: l, t, h, k, i, a, b, bm, hk => by
    have h : (ai_dec r.2.2.1 (16 * j + t) i0 && ai_lnk r.1 r.2.1 i0 a0 b0 && ai_ch1 r j (t + 1) l) = true := h
    simp only [Bool.and_eq_true] at h
    cases k with
    | zero => cases hk; exact h.1
    | succ k =>
      have := ai_ch1_at l (t + 1) h.2 k i a b bm (by simpa using hk)
      rw [show t + (k + 1) = t + 1 + k by omega]
      exact this
theorem ai_ch_at {r : ai_R} : ∀ (l : List (List (Option ai_N))) (j : Nat), ai_ch r j l = true → ∀ (k : Nat) (ch : List (Option ai_N)), l[k]? = some ch → ai_ch1 r (j + k) 0 ch = true
  | [], _, _, _, _, hk => by simp at hk
  | c0 :: l, j, h, k, ch, hk => by
    have h : (ai_ch1 r j 0 c0 && ai_ch r (j + 1) l) = true := h
    simp only [Bool.and_eq_true] at h
    cases k with
    | zero => cases hk; exact h.1
    | succ k =>
      have := ai_ch_at l (j + 1) h.2 k ch (by simpa using hk)
      rw [show j + (k + 1) = j + 1 + k by omega]
      exact this
/-- an entry of the code table is what the bytes say -/
theorem ai_atI {r : ai_R} (hr : r ∈ ai_ms) {pc : Nat} {i : ClassFile.Instr} {a b : Nat} {bm : List Bool} (h : ai_at r pc = some (i, a, b, bm)) : ai_dec r.2.2.1 pc i = true ∧ ai_lnk r.1 r.2.1 i a b = true := by
  unfold ai_at at h
  split at h
  · next ch hch =>
    split at h
    · next x hx =>
      subst h
      have h1 := ai_ch1_at ch 0 (ai_ch_at _ 0 (ai_kall r hr) _ ch hch) _ _ _ _ _ hx
      rw [show 16 * (0 + pc / 16) + (0 + pc % 16) = pc by omega] at h1
      exact h1
    · cases h
  · cases h
