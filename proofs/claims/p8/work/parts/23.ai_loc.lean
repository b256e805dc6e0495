theorem ai_ld_I {o : Option Value} {a pc' : Nat} {L L' : List (Option Value)} {st st' : List Value} (h : ai_ld (ai_isI o) a L st = some (pc', L', st')) : ∃ x, o = some (.int x) ∧ pc' = a ∧ L' = L ∧ st' = .int x :: st := by
  rcases o with _ | v
  · cases h
  · cases v <;> cases h
    exact ⟨_, rfl, rfl, rfl, rfl⟩
theorem ai_ld_L {o : Option Value} {a pc' : Nat} {L L' : List (Option Value)} {st st' : List Value} (h : ai_ld (ai_isL o) a L st = some (pc', L', st')) : ∃ x, o = some (.long x) ∧ pc' = a ∧ L' = L ∧ st' = .long x :: st := by
  rcases o with _ | v
  · cases h
  · cases v <;> cases h
    exact ⟨_, rfl, rfl, rfl, rfl⟩
theorem ai_ld_R {o : Option Value} {a pc' : Nat} {L L' : List (Option Value)} {st st' : List Value} (h : ai_ld (ai_isR o) a L st = some (pc', L', st')) : (∃ x, o = some (.ref x) ∧ pc' = a ∧ L' = L ∧ st' = .ref x :: st) ∨ (o = some .null ∧ pc' = a ∧ L' = L ∧ st' = .null :: st) := by
  rcases o with _ | v
  · cases h
  · cases v <;> cases h
    · exact Or.inr ⟨rfl, rfl, rfl, rfl⟩
    · exact Or.inl ⟨_, rfl, rfl, rfl, rfl⟩
theorem ai_to_ok {pc pc' : Nat} {off : Int} {L L' : List (Option Value)} {st st' : List Value} (h : ai_to pc off L st = some (pc', L', st')) : (pc : Int) + off = (pc' : Int) ∧ L' = L ∧ st' = st := by
  unfold ai_to at h
  split at h
  · next t e => cases h; exact ⟨e, rfl, rfl⟩
  · cases h
theorem ai_j_ok {b : Bool} {pc pc' : Nat} {off : Int} {L L' : List (Option Value)} {st st' : List Value} (h : ai_j b pc off L st = some (pc', L', st')) : ∃ t : Nat, (pc : Int) + off = (t : Int) ∧ L' = L ∧ st' = st ∧ ((b = true ∧ pc' = t) ∨ (b = false ∧ pc' = pc + 3)) := by
  unfold ai_j at h
  split at h
  · next t e =>
    cases b with
    | true => cases h; exact ⟨_, e, rfl, rfl, Or.inl ⟨rfl, rfl⟩⟩
    | false => cases h; exact ⟨_, e, rfl, rfl, Or.inr ⟨rfl, rfl⟩⟩
  · cases h
section AIS
variable {p : Program} {l : Launch} {e : Env} {R : Room} {s : State} {m : MethodId} {args : Array Value} {below : List Frame} {meth : Method} {c : Code} {H : Heap} {locs : List Loc} {cells slots : Nat} {Q : State → Prop}
set_option maxHeartbeats 4000000 in
theorem ai_s_ok {cc : ByteArray} (hx : p.tables.exec = Jvm.exec) (hb : c.code = cc) {i : ClassFile.Instr} {pc pc' nL len : Nat} {L L' : List (Option Value)} {st st' : List Value} {ad : Nat → Nat} {ls : Array Slot} (hs : ai_s i pc nL L st = some (pc', L', st')) (hd : decode cc pc = .ok (i, len)) (hlen : len = ai_len i ∨ ai_len i = 0) (hl : lv_has ls nL (ai_l ad 0 L))
    (kk : ∀ ls' : Array Slot, lv_has ls' nL (ai_l ad 0 L') → W p l e R s m args below meth c H locs cells slots Q (F0 m pc' ls' (st'.map (ai_v ad)))) : W p l e R s m args below meth c H locs cells slots Q (F0 m pc ls (st.map (ai_v ad))) := by
  have hd1 : ai_len i ≠ 0 → decode cc pc = .ok (i, ai_len i) := fun hne => by
    rcases hlen with h | h
    · rw [← h]; exact hd
    · exact absurd h hne
  cases i with
  | iconst v =>
    cases hs
    exact lv_iconst hx hb (hd1 (Nat.succ_ne_zero _)) rfl (kk ls hl)
  | bipush v =>
    cases hs
    exact lv_bipush hx hb (hd1 (Nat.succ_ne_zero _)) rfl (kk ls hl)
  | sipush v =>
    cases hs
    exact lv_sipush hx hb (hd1 (Nat.succ_ne_zero _)) rfl (kk ls hl)
  | lconst v =>
    cases hs
    exact lv_lconst hx hb (hd1 (Nat.succ_ne_zero _)) rfl (kk ls hl)
  | iload_n k =>
    obtain ⟨x, hg, rfl, rfl, rfl⟩ := ai_ld_I hs
    exact lv_iload_n hx hb (hd1 (Nat.succ_ne_zero _)) rfl (ai_lh hl hg) (kk ls hl)
  | iload k =>
    obtain ⟨x, hg, rfl, rfl, rfl⟩ := ai_ld_I hs
    exact lv_iload hx hb (hd1 (Nat.succ_ne_zero _)) (ai_lh hl hg) (kk ls hl)
  | lload_n k =>
    obtain ⟨x, hg, rfl, rfl, rfl⟩ := ai_ld_L hs
    exact lv_lload_n hx hb (hd1 (Nat.succ_ne_zero _)) rfl (ai_lh hl hg) (kk ls hl)
  | lload k =>
    obtain ⟨x, hg, rfl, rfl, rfl⟩ := ai_ld_L hs
    exact lv_lload hx hb (hd1 (Nat.succ_ne_zero _)) (ai_lh hl hg) (kk ls hl)
  | aload_n k =>
    rcases ai_ld_R hs with ⟨x, hg, rfl, rfl, rfl⟩ | ⟨hg, rfl, rfl, rfl⟩
    · exact lv_aload_n hx hb (hd1 (Nat.succ_ne_zero _)) rfl (ai_lh hl hg) (kk ls hl)
    · exact lv_aload_nN hx hb (hd1 (Nat.succ_ne_zero _)) rfl (ai_lh hl hg) (kk ls hl)
  | aload k =>
    rcases ai_ld_R hs with ⟨x, hg, rfl, rfl, rfl⟩ | ⟨hg, rfl, rfl, rfl⟩
    · exact lv_aload hx hb (hd1 (Nat.succ_ne_zero _)) (ai_lh hl hg) (kk ls hl)
    · exact lv_aloadN hx hb (hd1 (Nat.succ_ne_zero _)) (ai_lh hl hg) (kk ls hl)
  | istore_n k =>
    simp only [ai_s] at hs
    split at hs
    · split at hs
      · next hk => cases hs; exact lv_istore_n hx hb (hd1 (Nat.succ_ne_zero _)) rfl hl hk rfl (fun ls' hl' => kk ls' (ai_store1 hl'))
      · cases hs
    · cases hs
  | istore k =>
    simp only [ai_s] at hs
    split at hs
    · split at hs
      · next hk => cases hs; exact lv_istore hx hb (hd1 (Nat.succ_ne_zero _)) hl hk rfl (fun ls' hl' => kk ls' (ai_store1 hl'))
      · cases hs
    · cases hs
  | lstore_n k =>
    simp only [ai_s] at hs
    split at hs
    · split at hs
      · next hk => cases hs; exact lv_lstore_n hx hb (hd1 (Nat.succ_ne_zero _)) rfl hl hk rfl (fun ls' hl' => kk ls' (ai_store2 hl'))
      · cases hs
    · cases hs
  | lstore k =>
    simp only [ai_s] at hs
    split at hs
    · split at hs
      · next hk => cases hs; exact lv_lstore hx hb (hd1 (Nat.succ_ne_zero _)) hl hk rfl (fun ls' hl' => kk ls' (ai_store2 hl'))
      · cases hs
    · cases hs
  | astore_n k =>
    simp only [ai_s] at hs
    split at hs
    · split at hs
      · next hk => cases hs; exact lv_astore_n hx hb (hd1 (Nat.succ_ne_zero _)) rfl hl hk rfl (fun ls' hl' => kk ls' (ai_store1 hl'))
      · cases hs
    · cases hs
  | astore k =>
    simp only [ai_s] at hs
    split at hs
    · split at hs
      · next hk => cases hs; exact lv_astore hx hb (hd1 (Nat.succ_ne_zero _)) hl hk rfl (fun ls' hl' => kk ls' (ai_store1 hl'))
      · cases hs
    · cases hs
  | iinc k n =>
    simp only [ai_s] at hs
    split at hs
    · next x hg =>
      split at hs
      · next hk =>
        cases hs
        have hm := ai_g_mem (ad := ad) L k 0 _ hg
        rw [Nat.zero_add] at hm
        obtain ⟨j, hj⟩ := List.getElem?_of_mem hm
        exact lv_iinc hx hb (hd1 (Nat.succ_ne_zero _)) hl hj rfl hk rfl (fun ls' hl' => kk ls' (ai_store1 hl'))
      · cases hs
    · cases hs
  | iadd =>
    simp only [ai_s] at hs
    split at hs
    · cases hs; exact lv_iadd hx hb (hd1 (Nat.succ_ne_zero _)) (kk ls hl)
    · cases hs
  | isub =>
    simp only [ai_s] at hs
    split at hs
    · cases hs; exact lv_isub hx hb (hd1 (Nat.succ_ne_zero _)) (kk ls hl)
    · cases hs
  | imul =>
    simp only [ai_s] at hs
    split at hs
    · cases hs; exact lv_imul hx hb (hd1 (Nat.succ_ne_zero _)) (kk ls hl)
    · cases hs
  | iand =>
    simp only [ai_s] at hs
    split at hs
    · cases hs; exact lv_iand hx hb (hd1 (Nat.succ_ne_zero _)) (kk ls hl)
    · cases hs
  | ior =>
    simp only [ai_s] at hs
    split at hs
    · cases hs; exact lv_ior hx hb (hd1 (Nat.succ_ne_zero _)) (kk ls hl)
    · cases hs
  | ixor =>
    simp only [ai_s] at hs
    split at hs
    · cases hs; exact lv_ixor hx hb (hd1 (Nat.succ_ne_zero _)) (kk ls hl)
    · cases hs
  | ishl =>
    simp only [ai_s] at hs
    split at hs
    · cases hs; exact lv_ishl hx hb (hd1 (Nat.succ_ne_zero _)) (kk ls hl)
    · cases hs
  | ishr =>
    simp only [ai_s] at hs
    split at hs
    · cases hs; exact lv_ishr hx hb (hd1 (Nat.succ_ne_zero _)) (kk ls hl)
    · cases hs
  | idiv =>
    simp only [ai_s] at hs
    split at hs
    · split at hs
      · cases hs
      · next hk => cases hs; exact lv_idiv hx hb (hd1 (Nat.succ_ne_zero _)) hk (kk ls hl)
    · cases hs
  | irem =>
    simp only [ai_s] at hs
    split at hs
    · split at hs
      · cases hs
      · next hk => cases hs; exact lv_irem hx hb (hd1 (Nat.succ_ne_zero _)) hk (kk ls hl)
    · cases hs
  | i2l =>
    simp only [ai_s] at hs
    split at hs
    · cases hs; exact lv_i2l hx hb (hd1 (Nat.succ_ne_zero _)) rfl (kk ls hl)
    · cases hs
  | l2i =>
    simp only [ai_s] at hs
    split at hs
    · cases hs; exact lv_l2i hx hb (hd1 (Nat.succ_ne_zero _)) rfl (kk ls hl)
    · cases hs
  | lcmp =>
    simp only [ai_s] at hs
    split at hs
    · cases hs; exact W.lcmp hx hb (hd1 (Nat.succ_ne_zero _)) (kk ls hl)
    · cases hs
  | dup =>
    simp only [ai_s] at hs
    split at hs
    · split at hs
      · next hk => cases hs; exact lv_dup hx hb (hd1 (Nat.succ_ne_zero _)) (by rw [ai_cat_v]; exact hk) (kk ls hl)
      · cases hs
    · cases hs
  | pop =>
    simp only [ai_s] at hs
    split at hs
    · split at hs
      · next hk => cases hs; exact lv_pop hx hb (hd1 (Nat.succ_ne_zero _)) (by rw [ai_cat_v]; exact hk) (kk ls hl)
      · cases hs
    · cases hs
  | pop2 =>
    simp only [ai_s] at hs
    split at hs
    · split at hs
      · next hk => cases hs; exact lv_pop2_2 hx hb (hd1 (Nat.succ_ne_zero _)) (by rw [ai_cat_v]; exact hk) (kk ls hl)
      · cases hs
    · cases hs
  | dup_x1 =>
    simp only [ai_s] at hs
    split at hs
    · split at hs
      · next hk => cases hs; exact lv_dup_x1 hx hb (hd1 (Nat.succ_ne_zero _)) (by rw [ai_cat_v]; exact hk.1) (by rw [ai_cat_v]; exact hk.2) (kk ls hl)
      · cases hs
    · cases hs
  | dup2 =>
    simp only [ai_s] at hs
    split at hs
    · split at hs
      · next hk => cases hs; exact lv_dup2_11 hx hb (hd1 (Nat.succ_ne_zero _)) (by rw [ai_cat_v]; exact hk.1) (by rw [ai_cat_v]; exact hk.2) (kk ls hl)
      · cases hs
    · cases hs
  | ifCond cd off =>
    simp only [ai_s] at hs
    split at hs
    · obtain ⟨t, ht, rfl, rfl, ⟨hc, rfl⟩ | ⟨hc, rfl⟩⟩ := ai_j_ok hs
      · cases cd with
        | eq => exact lv_if_eq hx hb (hd1 (Nat.succ_ne_zero _)) ht (fun _ => kk ls hl) (fun hn => by first | exact absurd (of_decide_eq_true hc) hn | exact absurd hn (of_decide_eq_true hc))
        | ne => exact lv_if_ne hx hb (hd1 (Nat.succ_ne_zero _)) ht (fun _ => kk ls hl) (fun hn => by first | exact absurd (of_decide_eq_true hc) hn | exact absurd hn (of_decide_eq_true hc))
        | lt => exact lv_if_lt hx hb (hd1 (Nat.succ_ne_zero _)) ht (fun _ => kk ls hl) (fun hn => by first | exact absurd (of_decide_eq_true hc) hn | exact absurd hn (of_decide_eq_true hc))
        | ge => exact lv_if_ge hx hb (hd1 (Nat.succ_ne_zero _)) ht (fun _ => kk ls hl) (fun hn => by first | exact absurd (of_decide_eq_true hc) hn | exact absurd hn (of_decide_eq_true hc))
        | gt => exact lv_if_gt hx hb (hd1 (Nat.succ_ne_zero _)) ht (fun _ => kk ls hl) (fun hn => by first | exact absurd (of_decide_eq_true hc) hn | exact absurd hn (of_decide_eq_true hc))
        | le => exact lv_if_le hx hb (hd1 (Nat.succ_ne_zero _)) ht (fun _ => kk ls hl) (fun hn => by first | exact absurd (of_decide_eq_true hc) hn | exact absurd hn (of_decide_eq_true hc))
      · cases cd with
        | eq => exact lv_if_eq hx hb (hd1 (Nat.succ_ne_zero _)) ht (fun hn => absurd hn (of_decide_eq_false hc)) (fun _ => kk ls hl)
        | ne => exact lv_if_ne hx hb (hd1 (Nat.succ_ne_zero _)) ht (fun hn => absurd hn (of_decide_eq_false hc)) (fun _ => kk ls hl)
        | lt => exact lv_if_lt hx hb (hd1 (Nat.succ_ne_zero _)) ht (fun hn => absurd hn (of_decide_eq_false hc)) (fun _ => kk ls hl)
        | ge => exact lv_if_ge hx hb (hd1 (Nat.succ_ne_zero _)) ht (fun hn => absurd hn (of_decide_eq_false hc)) (fun _ => kk ls hl)
        | gt => exact lv_if_gt hx hb (hd1 (Nat.succ_ne_zero _)) ht (fun hn => absurd hn (of_decide_eq_false hc)) (fun _ => kk ls hl)
        | le => exact lv_if_le hx hb (hd1 (Nat.succ_ne_zero _)) ht (fun hn => absurd hn (of_decide_eq_false hc)) (fun _ => kk ls hl)
    · cases hs
  | if_icmp cd off =>
    simp only [ai_s] at hs
    split at hs
    · obtain ⟨t, ht, rfl, rfl, ⟨hc, rfl⟩ | ⟨hc, rfl⟩⟩ := ai_j_ok hs
      · cases cd with
        | eq => exact lv_icmp_eq hx hb (hd1 (Nat.succ_ne_zero _)) ht (fun _ => kk ls hl) (fun hn => by first | exact absurd (of_decide_eq_true hc) hn | exact absurd hn (of_decide_eq_true hc))
        | ne => exact lv_icmp_ne hx hb (hd1 (Nat.succ_ne_zero _)) ht (fun _ => kk ls hl) (fun hn => by first | exact absurd (of_decide_eq_true hc) hn | exact absurd hn (of_decide_eq_true hc))
        | lt => exact lv_icmp_lt hx hb (hd1 (Nat.succ_ne_zero _)) ht (fun _ => kk ls hl) (fun hn => by first | exact absurd (of_decide_eq_true hc) hn | exact absurd hn (of_decide_eq_true hc))
        | ge => exact lv_icmp_ge hx hb (hd1 (Nat.succ_ne_zero _)) ht (fun _ => kk ls hl) (fun hn => by first | exact absurd (of_decide_eq_true hc) hn | exact absurd hn (of_decide_eq_true hc))
        | gt => exact lv_icmp_gt hx hb (hd1 (Nat.succ_ne_zero _)) ht (fun _ => kk ls hl) (fun hn => by first | exact absurd (of_decide_eq_true hc) hn | exact absurd hn (of_decide_eq_true hc))
        | le => exact lv_icmp_le hx hb (hd1 (Nat.succ_ne_zero _)) ht (fun _ => kk ls hl) (fun hn => by first | exact absurd (of_decide_eq_true hc) hn | exact absurd hn (of_decide_eq_true hc))
      · cases cd with
        | eq => exact lv_icmp_eq hx hb (hd1 (Nat.succ_ne_zero _)) ht (fun hn => absurd hn (of_decide_eq_false hc)) (fun _ => kk ls hl)
        | ne => exact lv_icmp_ne hx hb (hd1 (Nat.succ_ne_zero _)) ht (fun hn => absurd hn (of_decide_eq_false hc)) (fun _ => kk ls hl)
        | lt => exact lv_icmp_lt hx hb (hd1 (Nat.succ_ne_zero _)) ht (fun hn => absurd hn (of_decide_eq_false hc)) (fun _ => kk ls hl)
        | ge => exact lv_icmp_ge hx hb (hd1 (Nat.succ_ne_zero _)) ht (fun hn => absurd hn (of_decide_eq_false hc)) (fun _ => kk ls hl)
        | gt => exact lv_icmp_gt hx hb (hd1 (Nat.succ_ne_zero _)) ht (fun hn => absurd hn (of_decide_eq_false hc)) (fun _ => kk ls hl)
        | le => exact lv_icmp_le hx hb (hd1 (Nat.succ_ne_zero _)) ht (fun hn => absurd hn (of_decide_eq_false hc)) (fun _ => kk ls hl)
    · cases hs
  | goto off =>
    obtain ⟨ht, rfl, rfl⟩ := ai_to_ok hs
    exact lv_goto hx hb (hd1 (Nat.succ_ne_zero _)) ht (kk ls hl)
  | tableswitch dflt lo hi offs =>
    simp only [ai_s] at hs
    split at hs
    · split at hs
      · next hk => obtain ⟨ht, rfl, rfl⟩ := ai_to_ok hs; exact lv_tableOut hx hb hd hk ht (kk ls hl)
      · next hk =>
        split at hs
        · next off ho => obtain ⟨ht, rfl, rfl⟩ := ai_to_ok hs; exact lv_tableIn hx hb hd (fun z => hk (Or.inl z)) (fun z => hk (Or.inr z)) ho ht (kk ls hl)
        · cases hs
    · cases hs
  | lookupswitch dflt ps =>
    simp only [ai_s] at hs
    split at hs
    · split at hs
      · next hk => obtain ⟨ht, rfl, rfl⟩ := ai_to_ok hs; exact lv_lookup hx hb hd hk rfl ht (kk ls hl)
      · cases hs
    · cases hs
  | _ => cases hs
end AIS
