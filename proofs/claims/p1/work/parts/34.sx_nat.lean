def sy_c (p : Nat → Int32) (v : Value) : Value := match v with
  | .float k => .int (p k.toNat)
  | .int x => .int x
  | .long x => .long x
  | .double x => .double x
  | .null => .null
  | .ref k => .ref k
  | .retAddr q => .retAddr q
def sy_L (p : Nat → Int32) (L : List (Option Value)) : List (Option Value) := L.map (Option.map (sy_c p))
def sy_ok (p : Nat → Int32) (E : sy_E) : Prop := ∀ (k : Nat) (lo hi : Int), E[k]? = some (lo, hi) → lo ≤ (p k).toInt ∧ (p k).toInt ≤ hi
def sy_Re (P : List (Nat × Nat)) (k : Nat) (o oc : Option va_E) : Prop := match o with
  | some (.inl (0, n, .inl f)) => ∃ g : Nat → Int32, oc = some (.inl (0, n, .inl g)) ∧ ∀ i, (k, i) ∉ P → g i = f i
  | o => oc = o
def sy_M (P : List (Nat × Nat)) (M Mc : List va_E) : Prop := M.length = Mc.length ∧ ∀ k, sy_Re P k M[k]? Mc[k]?
/-- what symbols are -/
def sy_p (xs : Nat → Int32) (k : Nat) : Int32 := if k = 6 then xs 0 &&& 15 else xs k
section SY
variable {p : Nat → Int32}
theorem sy_cat (v : Value) : (sy_c p v).category = v.category := by cases v <;> rfl
theorem sy_catl (st : List Value) : ai_cat (st.map (sy_c p)) = ai_cat st := by
  unfold ai_cat
  rw [List.map_map]
  congr 1
  apply List.map_congr_left
  intro v _
  exact sy_cat v
theorem sy_kv (n : Nat) (v : Value) : ai_k n (sy_c p v) = ai_k n v := by cases v <;> rfl
theorem sy_kst (n : Nat) (st : List Value) : (st.map (sy_c p)).all (ai_k n) = st.all (ai_k n) := by
  rw [List.all_map]
  congr 1
  funext v
  exact sy_kv n v
theorem sy_kL (n : Nat) (L : List (Option Value)) : (sy_L p L).all (ai_kl n) = L.all (ai_kl n) := by
  unfold sy_L
  rw [List.all_map]
  congr 1
  funext v
  rcases v with _ | v
  · rfl
  · exact sy_kv n v
theorem sy_rok {E : sy_E} (h : sy_ok p E) (v : Value) : sy_c p (sy_r E v) = sy_c p v := by
  cases v with
  | float k =>
    unfold sy_r
    dsimp only
    split
    · next lo hi he =>
      split
      · next hd =>
        have hd := of_decide_eq_true hd
        subst hd
        have := h _ _ _ he
        have e1 : (p k.toNat).toInt = lo := by omega
        show Value.int (Int32.ofInt lo) = Value.int (p k.toNat)
        rw [← e1, Int32.ofInt_toInt]
      · rfl
    · rfl
  | _ => rfl
theorem sy_rst {E : sy_E} (h : sy_ok p E) (st : List Value) : (st.map (sy_r E)).map (sy_c p) = st.map (sy_c p) := by
  rw [List.map_map]
  apply List.map_congr_left
  intro v _
  exact sy_rok h v
theorem sy_mk : ∀ (b : List Bool) (L : List (Option Value)), sy_L p (ai_mk b L) = ai_mk b (sy_L p L)
  | [], _ => rfl
  | _ :: _, [] => by unfold sy_L; cases ‹Bool› <;> rfl
  | true :: b, x :: t => by
    show Option.map _ x :: sy_L p (ai_mk b t) = Option.map _ x :: ai_mk b (sy_L p t)
    rw [sy_mk b t]
  | false :: b, x :: t => by
    show none :: sy_L p (ai_mk b t) = none :: ai_mk b (sy_L p t)
    rw [sy_mk b t]
theorem sy_g : ∀ (L : List (Option Value)) (k : Nat), ai_g (sy_L p L) k = (ai_g L k).map (sy_c p)
  | [], _ => rfl
  | _ :: _, 0 => rfl
  | _ :: t, k + 1 => sy_g t k
theorem sy_f1 (x : Option Value) : ai_f1 (x.map (sy_c p)) = (ai_f1 x).map (sy_c p) := by
  rcases x with _ | v
  · rfl
  · cases v <;> rfl
theorem sy_s1 (v : Value) : ∀ (i : Nat) (L : List (Option Value)), sy_L p (ai_s1 v i L) = ai_s1 (sy_c p v) i (sy_L p L)
  | i, [] => by rcases i with _ | _ | i <;> rfl
  | 0, x :: t => rfl
  | 1, x :: t => by
    show Option.map _ (ai_f1 x) :: sy_L p (ai_s1 v 0 t) = ai_f1 (Option.map _ x) :: ai_s1 _ 0 (sy_L p t)
    rw [sy_f1, sy_s1 v 0 t]
  | n + 2, x :: t => by
    show Option.map _ x :: sy_L p (ai_s1 v (n + 1) t) = Option.map _ x :: ai_s1 _ (n + 1) (sy_L p t)
    rw [sy_s1 v (n + 1) t]
theorem sy_s2 (v : Value) : ∀ (i : Nat) (L : List (Option Value)), sy_L p (ai_s2 v i L) = ai_s2 (sy_c p v) i (sy_L p L)
  | i, [] => by rcases i with _ | _ | i <;> rfl
  | 0, [x] => rfl
  | 0, x :: y :: t => rfl
  | 1, x :: t => by
    have e1 : ∀ (u : Value) (z : Option Value) (l : List (Option Value)), ai_s2 u 1 (z :: l) = ai_f1 z :: ai_s2 u 0 l := fun u z l => by cases l <;> rfl
    rw [e1]
    show Option.map _ (ai_f1 x) :: sy_L p (ai_s2 v 0 t) = ai_s2 _ 1 (Option.map _ x :: sy_L p t)
    rw [e1, sy_f1, sy_s2 v 0 t]
  | n + 2, x :: t => by
    have e1 : ∀ (u : Value) (z : Option Value) (l : List (Option Value)), ai_s2 u (n + 2) (z :: l) = z :: ai_s2 u (n + 1) l := fun u z l => by cases l <;> rfl
    rw [e1]
    show Option.map _ x :: sy_L p (ai_s2 v (n + 1) t) = ai_s2 _ (n + 2) (Option.map _ x :: sy_L p t)
    rw [e1, sy_s2 v (n + 1) t]
theorem sy_en : ∀ (n : Nat) (vs : List Value), ai_en n (vs.map (sy_c p)) = sy_L p (ai_en n vs)
  | 0, _ => rfl
  | n + 1, [] => by
    show none :: ai_en n ([].map (sy_c p)) = none :: sy_L p (ai_en n [])
    rw [sy_en n []]
  | n + 1, v :: t => by
    cases v with
    | long x =>
      cases n with
      | zero => rfl
      | succ n =>
        show some (Value.long x) :: none :: ai_en n (t.map (sy_c p)) = some (Value.long x) :: none :: sy_L p (ai_en n t)
        rw [sy_en n t]
    | double x => rfl
    | float k =>
      show some (Value.int (p k.toNat)) :: ai_en n (t.map (sy_c p)) = some (Value.int (p k.toNat)) :: sy_L p (ai_en n t)
      rw [sy_en n t]
    | int x =>
      show some (Value.int x) :: ai_en n (t.map (sy_c p)) = some (Value.int x) :: sy_L p (ai_en n t)
      rw [sy_en n t]
    | null =>
      show some Value.null :: ai_en n (t.map (sy_c p)) = some Value.null :: sy_L p (ai_en n t)
      rw [sy_en n t]
    | ref k =>
      show some (Value.ref k) :: ai_en n (t.map (sy_c p)) = some (Value.ref k) :: sy_L p (ai_en n t)
      rw [sy_en n t]
    | retAddr q =>
      show some (Value.retAddr q) :: ai_en n (t.map (sy_c p)) = some (Value.retAddr q) :: sy_L p (ai_en n t)
      rw [sy_en n t]
theorem sy_to {pc pc' : Nat} {off : Int} {L L' : List (Option Value)} {st st' : List Value} (h : ai_to pc off L st = some (pc', L', st')) : ai_to pc off (sy_L p L) (st.map (sy_c p)) = some (pc', sy_L p L', st'.map (sy_c p)) := by
  unfold ai_to at h ⊢
  split at h
  · cases h; rfl
  · cases h
theorem sy_j {b : Bool} {pc pc' : Nat} {off : Int} {L L' : List (Option Value)} {st st' : List Value} (h : ai_j b pc off L st = some (pc', L', st')) : ai_j b pc off (sy_L p L) (st.map (sy_c p)) = some (pc', sy_L p L', st'.map (sy_c p)) := by
  unfold ai_j at h ⊢
  split at h
  · cases b <;> (cases h; rfl)
  · cases h
set_option maxHeartbeats 2000000 in
theorem sy_s {i : ClassFile.Instr} {pc pc' nL : Nat} {L L' : List (Option Value)} {st st' : List Value} (hs : ai_s i pc nL L st = some (pc', L', st')) : ai_s i pc nL (sy_L p L) (st.map (sy_c p)) = some (pc', sy_L p L', st'.map (sy_c p)) := by
  cases i with
  | iconst v =>
    cases hs; rfl
  | bipush v =>
    cases hs; rfl
  | sipush v =>
    cases hs; rfl
  | lconst v =>
    cases hs; rfl
  | iload_n k =>
    obtain ⟨x, hg, rfl, rfl, rfl⟩ := ai_ld_I hs
    simp only [ai_s, sy_g, hg]
    rfl
  | iload k =>
    obtain ⟨x, hg, rfl, rfl, rfl⟩ := ai_ld_I hs
    simp only [ai_s, sy_g, hg]
    rfl
  | lload_n k =>
    obtain ⟨x, hg, rfl, rfl, rfl⟩ := ai_ld_L hs
    simp only [ai_s, sy_g, hg]
    rfl
  | lload k =>
    obtain ⟨x, hg, rfl, rfl, rfl⟩ := ai_ld_L hs
    simp only [ai_s, sy_g, hg]
    rfl
  | aload_n k =>
    rcases ai_ld_R hs with ⟨x, hg, rfl, rfl, rfl⟩ | ⟨hg, rfl, rfl, rfl⟩
    · simp only [ai_s, sy_g, hg]; rfl
    · simp only [ai_s, sy_g, hg]; rfl
  | aload k =>
    rcases ai_ld_R hs with ⟨x, hg, rfl, rfl, rfl⟩ | ⟨hg, rfl, rfl, rfl⟩
    · simp only [ai_s, sy_g, hg]; rfl
    · simp only [ai_s, sy_g, hg]; rfl
  | istore_n k =>
    simp only [ai_s] at hs
    split at hs
    · split at hs
      · next hk => cases hs; rw [sy_s1]; exact if_pos hk
      · cases hs
    · cases hs
  | istore k =>
    simp only [ai_s] at hs
    split at hs
    · split at hs
      · next hk => cases hs; rw [sy_s1]; exact if_pos hk
      · cases hs
    · cases hs
  | lstore_n k =>
    simp only [ai_s] at hs
    split at hs
    · split at hs
      · next hk => cases hs; rw [sy_s2]; exact if_pos hk
      · cases hs
    · cases hs
  | lstore k =>
    simp only [ai_s] at hs
    split at hs
    · split at hs
      · next hk => cases hs; rw [sy_s2]; exact if_pos hk
      · cases hs
    · cases hs
  | astore_n k =>
    simp only [ai_s] at hs
    split at hs
    · split at hs
      · next hk => cases hs; rw [sy_s1]; exact if_pos hk
      · cases hs
    · cases hs
  | astore k =>
    simp only [ai_s] at hs
    split at hs
    · split at hs
      · next hk => cases hs; rw [sy_s1]; exact if_pos hk
      · cases hs
    · cases hs
  | iinc k n =>
    simp only [ai_s] at hs
    split at hs
    · next x hg =>
      split at hs
      · next hk => cases hs; rw [sy_s1]; simp only [ai_s, sy_g, hg]; exact if_pos hk
      · cases hs
    · cases hs
  | iadd =>
    simp only [ai_s] at hs
    split at hs
    · cases hs; rfl
    · cases hs
  | isub =>
    simp only [ai_s] at hs
    split at hs
    · cases hs; rfl
    · cases hs
  | imul =>
    simp only [ai_s] at hs
    split at hs
    · cases hs; rfl
    · cases hs
  | iand =>
    simp only [ai_s] at hs
    split at hs
    · cases hs; rfl
    · cases hs
  | ior =>
    simp only [ai_s] at hs
    split at hs
    · cases hs; rfl
    · cases hs
  | ixor =>
    simp only [ai_s] at hs
    split at hs
    · cases hs; rfl
    · cases hs
  | ishl =>
    simp only [ai_s] at hs
    split at hs
    · cases hs; rfl
    · cases hs
  | ishr =>
    simp only [ai_s] at hs
    split at hs
    · cases hs; rfl
    · cases hs
  | i2l =>
    simp only [ai_s] at hs
    split at hs
    · cases hs; rfl
    · cases hs
  | l2i =>
    simp only [ai_s] at hs
    split at hs
    · cases hs; rfl
    · cases hs
  | lcmp =>
    simp only [ai_s] at hs
    split at hs
    · cases hs; rfl
    · cases hs
  | idiv =>
    simp only [ai_s] at hs
    split at hs
    · split at hs
      · cases hs
      · next hk => cases hs; exact if_neg hk
    · cases hs
  | irem =>
    simp only [ai_s] at hs
    split at hs
    · split at hs
      · cases hs
      · next hk => cases hs; exact if_neg hk
    · cases hs
  | dup =>
    simp only [ai_s] at hs
    split at hs
    · split at hs
      · next hk => cases hs; exact if_pos (by rw [sy_cat]; exact hk)
      · cases hs
    · cases hs
  | pop =>
    simp only [ai_s] at hs
    split at hs
    · split at hs
      · next hk => cases hs; exact if_pos (by rw [sy_cat]; exact hk)
      · cases hs
    · cases hs
  | dup_x1 =>
    simp only [ai_s] at hs
    split at hs
    · split at hs
      · next hk => cases hs; exact if_pos (by rw [sy_cat, sy_cat]; exact hk)
      · cases hs
    · cases hs
  | dup2 =>
    simp only [ai_s] at hs
    split at hs
    · split at hs
      · next hk => cases hs; exact if_pos (by rw [sy_cat, sy_cat]; exact hk)
      · cases hs
    · cases hs
  | ifCond cd off =>
    simp only [ai_s] at hs
    split at hs
    · exact sy_j hs
    · cases hs
  | if_icmp cd off =>
    simp only [ai_s] at hs
    split at hs
    · exact sy_j hs
    · cases hs
  | goto off =>
    exact sy_to hs
  | tableswitch dflt lo hi offs =>
    simp only [ai_s] at hs
    split at hs
    · split at hs
      · next hk => simp only [ai_s, List.map_cons, sy_c]; rw [if_pos hk]; exact sy_to hs
      · next hk =>
        split at hs
        · next off ho => simp only [ai_s, List.map_cons, sy_c]; rw [if_neg hk]; simp only [ho]; exact sy_to hs
        · cases hs
    · cases hs
  | lookupswitch dflt ps =>
    simp only [ai_s] at hs
    split at hs
    · split at hs
      · next hk => simp only [ai_s, List.map_cons, sy_c]; rw [if_pos hk]; exact sy_to hs
      · cases hs
    · cases hs
  | _ => cases hs
theorem sy_ans {i : ClassFile.Instr} {ty : Option FieldType} {st : List Value} {v : Option Value} (h : ai_ans i ty st = some v) : ai_ans i ty (st.map (sy_c p)) = some (v.map (sy_c p)) := by
  have hst := ai_ansI h
  subst hst
  have hn : v.map (sy_c p) = v ∧ v.toList.map (sy_c p) = v.toList := by
    rcases v with _ | v
    · exact ⟨rfl, rfl⟩
    · cases v <;> first
        | exact ⟨rfl, rfl⟩
        | (exfalso
           unfold ai_ans at h
           repeat' split at h
           all_goals first
             | (cases h; done)
             | (simp_all; done))
  rw [hn.1, hn.2]
  exact h
end SY
