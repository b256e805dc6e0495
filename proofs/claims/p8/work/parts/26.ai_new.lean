set_option maxRecDepth 100000 in
theorem ai_wA : Cond.arrayClass .int ∈ lw_tbl ∧ Cond.arrayClass .boolean ∈ lw_tbl ∧ Cond.arrayClass .long ∈ lw_tbl ∧ Cond.arrayOver (.object RX0) ∈ lw_tbl := by decide +kernel
set_option maxRecDepth 100000 in
theorem ai_wY : Cond.native arraycopyName ∈ lw_tbl ∧ Cond.static arraycopyName ∈ lw_tbl ∧ Cond.initialized "java/lang/System" ∈ lw_tbl ∧ Cond.instanceMethod objectInit ∈ lw_tbl := by decide +kernel
set_option maxRecDepth 100000 in
theorem ai_wO : Cond.code objectInit ⟨#[0xb1]⟩ 1 none ∈ lw_tbl := by decide +kernel
theorem ai_ln {o x a : Nat} (h : (o, x, a) ∈ ai_LN) : ∃ C T N, vwCl[a]? = some (C, T, N) ∧ Cond.classLink (ai_cn o) x C ∈ ai_tb ∧ Cond.instantiable C N ∈ ai_tb ∧ Cond.initialized C ∈ ai_tb := by
  have h1 := List.all_eq_true.mp ai_wN _ h
  unfold ai_okN at h1
  split at h1
  · next C T N hc =>
    simp only [Bool.and_eq_true, decide_eq_true_eq] at h1
    exact ⟨C, T, N, hc, ai_tbI h1.1.1 rfl, ai_tbI h1.1.2 rfl, ai_tbI h1.2 rfl⟩
  · cases h1
theorem ai_nI {n : Int32} (h : (decide (n < 0) || Nat.blt 1000 n.toNatClampNeg) = false) : ¬ n < 0 ∧ n.toNatClampNeg ≤ 1000 := by
  rw [Bool.or_eq_false_iff] at h
  refine ⟨of_decide_eq_false h.1, ?_⟩
  have h2 := h.2
  rcases Nat.lt_or_ge 1000 n.toNatClampNeg with q | q
  · have : Nat.blt 1000 n.toNatClampNeg = true := Nat.ble_eq_true_of_le q
    rw [this] at h2; cases h2
  · exact q
def ai_nr (v : Value) : Bool := match v with
  | .ref _ => false
  | _ => true
theorem ai_dfn : ai_dfs.all (fun l => l.all ai_nr) = true := by decide +kernel
section AIN
variable {p : Program} {l : Launch} {e : Env} {R : Room} {s : State} {m : MethodId} {args : Array Value} {below : List Frame} {meth : Method} {c : Code} {H : Heap} {locs : List Loc} {cells slots : Nat} {Q : State → Prop}
set_option maxHeartbeats 4000000 in
theorem ai_a_ok {r : ai_R} (C : ai_C p s m args meth c r) {X : ai_X} {i : ClassFile.Instr} {a b pc dp ds : Nat} {st st' : List Value} {M : List va_E} {e0 : va_E} {D : va_G} {ac : Nat → ClassId} {ad : Nat → Nat} {A : Nat → Prop} {ls : Array Slot} (hch : ai_dec r.2.2.1 pc i = true ∧ ai_lnk r.1 r.2.1 i a b = true) (Wc : ai_Wc D ac X ad A s) (hA : ∀ q, s.heap.size ≤ q → A q) (hP : va_P D vwCl (ai_w ad ac M) H) (hD : va_D A (ai_w ad ac M)) (hS : va_S A s.heap H locs) (ha : ai_a i a st = some (dp, st', e0, ds)) (hB : M.length < ai_B) (hM : M.all (ai_ke M.length) = true) (hcells : cells + 1 ≤ R.cells) (hslots : slots + ds ≤ R.slots)
    (kk : ∀ (q : Nat) (H' : Heap), ai_ex ad (va_up ad M.length q) M.length → va_P D vwCl (ai_w (va_up ad M.length q) ac (M ++ [e0])) H' → va_D A (ai_w (va_up ad M.length q) ac (M ++ [e0])) → va_S A s.heap H' locs → W p l e R s m args below meth c H' locs (cells + 1) (slots + ds) Q (F0 m (pc + dp) ls (.ref q :: st'.map (ai_v ad)))) : W p l e R s m args below meth c H locs cells slots Q (F0 m pc ls (st.map (ai_v ad))) := by
  obtain ⟨hx, hb, hr, hml, hown, hts, hnw, hlocks, hin⟩ := C
  obtain ⟨hK, hZ, hT, hAO⟩ := Wc
  obtain ⟨hd, hlk⟩ := hch
  cases i with
  | newarray ty =>
    have hd := ai_decL hd (Nat.succ_ne_zero _)
    cases ty with
    | int =>
      simp only [ai_a] at ha
      split at ha
      · next n r' =>
        split at ha
        · cases ha
        · next hn =>
          cases ha
          obtain ⟨h1, h2⟩ := ai_nI hn
          refine va_newa (atype := .int) (ty := .int) (a0 := (n.toNatClampNeg, .inl (fun _ => 0))) hx hb (hts _ (ai_tbI ai_wA.1 rfl)) rfl hK hP hD hS hA (fun _ => rfl) h1 rfl (by show _ * 4 ≤ _; omega) hcells hslots hd (fun q cA H1 k1 k2 k3 k4 => ?_)
          have hcA : cA = ac 0 := Option.some.inj ((show s.vm.findClass ("[" ++ (FieldType.int).toString) = some cA from (k1.2 4 (cA, .int) rfl).2).symm.trans (hK.2 0 (ac 0, .int) rfl).2)
          subst hcA
          obtain ⟨w1, w2⟩ := ai_w_push (ad := ad) (ac := ac) (e := .inl (0, n.toNatClampNeg, .inl (fun _ => 0))) (q := q) hB hM rfl
          exact kk q H1 w1 (w2 ▸ k2) (w2 ▸ k3) k4
      · cases ha
    | boolean =>
      simp only [ai_a] at ha
      split at ha
      · next n r' =>
        split at ha
        · cases ha
        · next hn =>
          cases ha
          obtain ⟨h1, h2⟩ := ai_nI hn
          refine va_newa (atype := .boolean) (ty := .boolean) (a0 := (n.toNatClampNeg, .inl (fun _ => 0))) hx hb (hts _ (ai_tbI ai_wA.2.1 rfl)) rfl hK hP hD hS hA (fun _ => rfl) h1 rfl (by show _ * 1 ≤ _; omega) hcells hslots hd (fun q cA H1 k1 k2 k3 k4 => ?_)
          have hcA : cA = ac 1 := Option.some.inj ((show s.vm.findClass ("[" ++ (FieldType.boolean).toString) = some cA from (k1.2 4 (cA, .boolean) rfl).2).symm.trans (hK.2 1 (ac 1, .boolean) rfl).2)
          subst hcA
          obtain ⟨w1, w2⟩ := ai_w_push (ad := ad) (ac := ac) (e := .inl (1, n.toNatClampNeg, .inl (fun _ => 0))) (q := q) hB hM rfl
          exact kk q H1 w1 (w2 ▸ k2) (w2 ▸ k3) k4
      · cases ha
    | long =>
      simp only [ai_a] at ha
      split at ha
      · next n r' =>
        split at ha
        · cases ha
        · next hn =>
          cases ha
          obtain ⟨h1, h2⟩ := ai_nI hn
          refine va_newa (atype := .long) (ty := .long) (a0 := (n.toNatClampNeg, .inr (.inl (fun _ => 0)))) hx hb (hts _ (ai_tbI ai_wA.2.2.1 rfl)) rfl hK hP hD hS hA (fun _ => rfl) h1 rfl (by show _ * 8 ≤ _; omega) hcells hslots hd (fun q cA H1 k1 k2 k3 k4 => ?_)
          have hcA : cA = ac 2 := Option.some.inj ((show s.vm.findClass ("[" ++ (FieldType.long).toString) = some cA from (k1.2 4 (cA, .long) rfl).2).symm.trans (hK.2 2 (ac 2, .long) rfl).2)
          subst hcA
          obtain ⟨w1, w2⟩ := ai_w_push (ad := ad) (ac := ac) (e := .inl (2, n.toNatClampNeg, .inr (.inl (fun _ => 0)))) (q := q) hB hM rfl
          exact kk q H1 w1 (w2 ▸ k2) (w2 ▸ k3) k4
      · cases ha
    | _ => cases ha
  | anewarray x =>
    have hd := ai_decL hd (Nat.succ_ne_zero _)
    have hlk : (Nat.beq a 0 && decide ((r.1, x, a) ∈ ai_LN)) = true := hlk
    simp only [Bool.and_eq_true] at hlk
    obtain ⟨h0, hl0⟩ := hlk
    obtain rfl := Nat.eq_of_beq_eq_true h0
    obtain ⟨Cn, T, N, hc, hw1, hw2, hw3⟩ := ai_ln (of_decide_eq_true hl0)
    cases hc
    simp only [ai_a] at ha
    split at ha
    · next n r' =>
      split at ha
      · cases ha
      · next hn =>
        cases ha
        obtain ⟨h1, h2⟩ := ai_nI hn
        refine va_newq (C := RX0) hx hb hown (hts _ hw1) hAO hK hP hD hS hA h1 rfl (by omega) hcells hslots hd (fun q cA H1 k1 k2 k3 k4 => ?_)
        have hcA : cA = ac 3 := by
          obtain ⟨_, _, -, -, -, z1⟩ := (k1.2 4 (cA, .object RX0) rfl).2
          obtain ⟨_, _, -, -, -, z2⟩ := (hK.2 3 (ac 3, .object RX0) rfl).2
          exact Option.some.inj (z1.symm.trans z2)
        subst hcA
        obtain ⟨w1, w2⟩ := ai_w_push (ad := ad) (ac := ac) (e := .inl (3, n.toNatClampNeg, .inr (.inr (.inr (.inr (fun _ => none)))))) (e' := .inl (ac 3, n.toNatClampNeg, .inr (.inr (.inr (.inr (fun _ => none)))))) (q := q) hB hM (by
          show (Sum.inl _ : va_E) = Sum.inl _
          congr 7
          funext j
          by_cases hj : j < n.toNatClampNeg
          · rw [if_pos hj]; rfl
          · rw [if_neg hj])
        exact kk q H1 w1 (w2 ▸ k2) (w2 ▸ k3) k4
    · cases ha
  | new x =>
    have hd := ai_decL hd (Nat.succ_ne_zero _)
    have hlk : decide ((r.1, x, a) ∈ ai_LN) = true := hlk
    obtain ⟨Cn, T, N, hc, hw1, hw2, hw3⟩ := ai_ln (of_decide_eq_true hlk)
    obtain ⟨ty0, hty, -, -, -, hdf⟩ := ai_cl _ _ _ _ hc
    simp only [ai_a] at ha
    split at ha
    · next fs hfs =>
      cases ha
      obtain ⟨hN, hv⟩ := hdf _ hfs
      rw [hN] at hslots kk
      refine va_new (ci := a) (fs := fs) hx hb hts (ai_wU hc) ty0 hty hown (hts _ hw1) (hts _ hw2) (hts _ hw3) hK hP hD hS hA hc hv hcells hslots hd (fun q H1 k2 k3 k4 => ?_)
      have hmap : ∀ ad' : Nat → Nat, fs.map (ai_v ad') = fs := by
        intro ad'
        have hz := List.all_eq_true.mp ai_dfn _ (List.mem_of_getElem? hfs)
        conv => rhs; rw [← List.map_id fs]
        apply List.map_congr_left
        intro v hv2
        have := List.all_eq_true.mp hz v hv2
        cases v <;> first | rfl | cases this
      obtain ⟨w1, w2⟩ := ai_w_push (ad := ad) (ac := ac) (e := .inr (a, fs)) (e' := .inr (a, fs)) (q := q) hB hM (by
        show (Sum.inr _ : va_E) = Sum.inr _
        rw [hmap])
      exact kk q H1 w1 (w2 ▸ k2) (w2 ▸ k3) k4
    · cases ha
  | _ => cases ha
set_option maxHeartbeats 4000000 in
theorem ai_z_ok {r : ai_R} (C : ai_C p s m args meth c r) {X : ai_X} {i : ClassFile.Instr} {a b pc : Nat} {st st' : List Value} {M M' : List va_E} {D : va_G} {ac : Nat → ClassId} {ad : Nat → Nat} {A : Nat → Prop} {ls : Array Slot} (hch : ai_dec r.2.2.1 pc i = true ∧ ai_lnk r.1 r.2.1 i a b = true) (Wc : ai_Wc D ac X ad A s) (hP : va_P D vwCl (ai_w ad ac M) H) (hD : va_D A (ai_w ad ac M)) (hS : va_S A s.heap H locs) (hls : ls.size = r.2.2.2.1) (hz : ai_z i a st M = some (st', M')) (hf : 1 ≤ R.frames) (hw : 32 ≤ R.locals)
    (kk : ∀ (H' : Heap) (locs' : List Loc), va_P D vwCl (ai_w ad ac M') H' → va_D A (ai_w ad ac M') → va_S A s.heap H' locs' → W p l e R s m args below meth c H' locs' cells slots Q (F0 m (pc + 3) ls (st'.map (ai_v ad)))) : W p l e R s m args below meth c H locs cells slots Q (F0 m pc ls (st.map (ai_v ad))) := by
  obtain ⟨hx, hb, hr, hml, hown, hts, hnw, hlocks, hin⟩ := C
  obtain ⟨hK, hZ, hT, hAO⟩ := Wc
  obtain ⟨hd, hlk⟩ := hch
  cases i with
  | invokespecial x =>
    have hd := ai_decL hd (Nat.succ_ne_zero _)
    simp only [ai_z] at hz
    split at hz
    · next k r' h9 =>
      split at hz
      · next h8 =>
        cases hz
        have hlk : ((Nat.beq a 9 && decide (Cond.methodLink (ai_cn r.1) x objectInit ∈ lw_tbl)) || ((Nat.beq a 2 || Nat.beq a 5) && decide ((r.1, x, a, b) ∈ ai_LC))) = true := hlk
        obtain rfl := Nat.eq_of_beq_eq_true h9
        have hw1 : Cond.methodLink (ai_cn r.1) x objectInit ∈ lw_tbl := by
          rcases Bool.or_eq_true_iff.mp hlk with q | q
          · exact of_decide_eq_true (Bool.and_eq_true_iff.mp q).2
          · exact absurd (Bool.and_eq_true_iff.mp q).1 (by decide)
        have h8 := Nat.le_of_ble_eq_true h8
        refine W.objInit hx hb hown (hts _ (ai_tbI hw1 rfl)) (hts _ (ai_tbI ai_wY.2.2.2 rfl)) (hts _ (ai_tbI ai_wO rfl)) rfl (by rw [hml]; exact hls) rfl hd hf ?_ (kk H locs hP hD hS)
        show 2 * 0 + ((List.map (ai_v ad) st').map fun v => v.category).sum + 12 ≤ _
        rw [ai_cat_map]
        omega
      · cases hz
    · cases hz
  | invokestatic x =>
    have hd := ai_decL hd (Nat.succ_ne_zero _)
    simp only [ai_z] at hz
    split at hz
    · next n dp k1 sp k0 r' h9 =>
      split at hz
      · next hcond =>
        simp only [Bool.and_eq_true, Bool.not_eq_true', decide_eq_false_iff_not] at hcond
        obtain ⟨⟨⟨h8, c1⟩, c2⟩, c3⟩ := hcond
        have hlk : ((Nat.beq a 8 && decide (Cond.methodLink (ai_cn r.1) x arraycopyName ∈ lw_tbl)) || ((Nat.beq a 1 || Nat.beq a 4) && decide ((r.1, x, a, b) ∈ ai_LC))) = true := hlk
        obtain rfl := Nat.eq_of_beq_eq_true h9
        have hw1 : Cond.methodLink (ai_cn r.1) x arraycopyName ∈ lw_tbl := by
          rcases Bool.or_eq_true_iff.mp hlk with q | q
          · exact of_decide_eq_true (Bool.and_eq_true_iff.mp q).2
          · exact absurd (Bool.and_eq_true_iff.mp q).1 (by decide)
        have h8 := Nat.le_of_ble_eq_true h8
        have hloc : ((r'.map (ai_v ad)).map fun v => v.category).sum + (nativeFrameWords "java/lang/System" "arraycopy" 5 + 11) ≤ R.locals := by
          rw [ai_cat_map]
          have : nativeFrameWords "java/lang/System" "arraycopy" 5 = 7 := by decide
          omega
        split at hz
        · next n0 f n1 g e0 e1 =>
          split at hz
          · next hc2 =>
            cases hz
            simp only [Bool.and_eq_true] at hc2
            refine va_copyi hx hb (by rw [hml]; exact hls.symm) hown (hts _ (ai_tbI hw1 rfl)) (hts _ (ai_tbI ai_wY.1 rfl)) (hts _ (ai_tbI ai_wY.2.1 rfl)) (hts _ (ai_tbI ai_wY.2.2.1 rfl)) hK hP hD hS k0 k1 0 0 (ai_w_at e0) (ai_w_at e1) rfl rfl rfl c1 c2 c3 (Nat.le_of_ble_eq_true hc2.1) (Nat.le_of_ble_eq_true hc2.2) (fun _ _ => rfl) hf hloc hd (fun H1 locs1 a1 a2 a3 => ?_)
            have hset := ai_w_set (ad := ad) (ac := ac) (M := M) (k := k1) (e := .inl (0, n1, .inl (va_cpy f g sp.toNatClampNeg dp.toNatClampNeg n.toNatClampNeg)))
            exact kk H1 locs1 (hset ▸ a1) (hset ▸ a2) a3
          · cases hz
        · next n0 f n1 g e0 e1 =>
          split at hz
          · next hc2 =>
            cases hz
            simp only [Bool.and_eq_true] at hc2
            refine va_copyl hx hb (by rw [hml]; exact hls.symm) hown (hts _ (ai_tbI hw1 rfl)) (hts _ (ai_tbI ai_wY.1 rfl)) (hts _ (ai_tbI ai_wY.2.1 rfl)) (hts _ (ai_tbI ai_wY.2.2.1 rfl)) hK hP hD hS k0 k1 2 2 (ai_w_at e0) (ai_w_at e1) rfl rfl rfl c1 c2 c3 (Nat.le_of_ble_eq_true hc2.1) (Nat.le_of_ble_eq_true hc2.2) (fun _ _ => rfl) hf hloc hd (fun H1 locs1 a1 a2 a3 => ?_)
            have hset := ai_w_set (ad := ad) (ac := ac) (M := M) (k := k1) (e := .inl (2, n1, .inr (.inl (va_cpy f g sp.toNatClampNeg dp.toNatClampNeg n.toNatClampNeg))))
            exact kk H1 locs1 (hset ▸ a1) (hset ▸ a2) a3
          · cases hz
        · cases hz
      · cases hz
    · cases hz
  | _ => cases hz
end AIN
