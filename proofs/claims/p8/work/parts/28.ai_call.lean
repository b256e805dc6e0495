theorem ai_isI2 {q : Nat} {w : Cond} (h : ai_is q w = true) : w ∈ lw_tbl := List.mem_of_getElem? (of_decide_eq_true h)
theorem ai_lcN : ai_LC.all (fun q => Nat.blt q.2.2.2 ai_law) = true := by decide +kernel
theorem ai_lc {q : Nat × Nat × Nat × Nat} (h : q ∈ ai_LC) : ∃ z, ai_okC (q, z) = true := by
  obtain ⟨i, hi⟩ := List.getElem?_of_mem h
  have hl := (List.getElem?_eq_some_iff.mp hi).1
  rw [ai_wCl] at hl
  refine ⟨ai_PC[i], List.all_eq_true.mp ai_wC _ (List.mem_of_getElem? (i := i) ?_)⟩
  rw [List.getElem?_zip_eq_some]
  exact ⟨hi, List.getElem?_eq_getElem hl⟩
theorem ai_lcode {q : Nat × Nat × Nat × Nat} (h : q ∈ ai_LC) {r : ai_R} (hr : ai_ms[q.2.2.2]? = some r) : Cond.code r.2.1 r.2.2.1 r.2.2.2.1 r.2.2.2.2.1 ∈ lw_tbl := by
  have h1 : q.2.2.2 < ai_law := Nat.le_of_ble_eq_true (List.all_eq_true.mp ai_lcN q h)
  refine ai_call r (List.mem_of_getElem? (i := q.2.2.2) ?_)
  rw [List.getElem?_take]
  exact (if_pos h1).trans hr
section AIR
variable {p : Program} {l : Launch} {e : Env} {R : Room} {s : State} {m : MethodId} {args : Array Value} {below : List Frame} {meth : Method} {c : Code} {H : Heap} {locs : List Loc} {cells slots : Nat} {Q : State → Prop}
theorem ai_stk {ad : Nat → Nat} {st : List Value} {n : Nat} : st.map (ai_v ad) = ((st.take n).reverse.map (ai_v ad)).reverse ++ (st.drop n).map (ai_v ad) := by
  rw [← List.map_reverse, List.reverse_reverse, ← List.map_append, List.take_append_drop]
set_option maxHeartbeats 4000000 in
theorem ai_run {r : ai_R} (C : ai_C p s m args meth c r) {X : ai_X} {i : ClassFile.Instr} {a b pc d w : Nat} {st rest As : List Value} {M M1 : List va_E} {r' : ai_R} {v : Option Value} {kc ks : Nat} {D : va_G} {ac : Nat → ClassId} {ad : Nat → Nat} {A : Nat → Prop} {ls : Array Slot} (hch : ai_dec r.2.2.1 pc i = true ∧ ai_lnk r.1 r.2.1 i a b = true) (Wc : ai_Wc D ac X ad A s) (hP : va_P D vwCl (ai_w ad ac M) H) (hD : va_D A (ai_w ad ac M)) (hS : va_S A s.heap H locs) (hAf : ∀ q, va_A (ai_w ad ac M) H.size q → A q) (hls : ls.size = r.2.2.2.1) (hq : ai_q i a b st M = some (r', As, rest))
    (hM : Met l r'.2.1 (ai_ws r') ({ frames := d - 1, cells := kc, slots := ks, locals := w - (19 + r'.2.2.2.1) } : Room) (ai_P D ac X ad M H.size As) (ai_Q D ac ad M H.size v M1) kc ks (va_A (ai_w ad ac M) H.size)) (hd0 : 0 < d) (hw0 : 19 + r'.2.2.2.1 ≤ w) (hdR : d ≤ R.frames) (hwR : w ≤ R.locals) (hrest : ai_cat rest ≤ 8) (hcells : cells + kc ≤ R.cells) (hslots : slots + ks ≤ R.slots) :
    va_Run p l e R s m args below meth c H locs cells slots kc ks (F0 m pc ls (st.map (ai_v ad))) (rest.map (ai_v ad)) (ai_Q D ac ad M H.size v M1 (As.map (ai_v ad)).toArray) (va_A (ai_w ad ac M) H.size) := by
  have hCC := C
  obtain ⟨hx, hb, hr, hml, hown, hts, hnw, hlocks, hin⟩ := C
  have hK := Wc.1
  obtain ⟨hd, hlk⟩ := hch
  have hroom : (d - 1) + 1 ≤ R.frames ∧ 8 + (r'.2.2.2.1 + 11) + (w - (19 + r'.2.2.2.1)) ≤ R.locals := ⟨by omega, by omega⟩
  have hrest' : 2 * (F0 m pc ls (st.map (ai_v ad))).monitorRoom + ((rest.map (ai_v ad)).map fun v => v.category).sum ≤ 8 := lv_room (by rw [ai_cat_map]; exact hrest)
  have hpre : ∀ U : State, U.heap = H → s.WarmedH U.vm → ai_P D ac X ad M H.size As (As.map (ai_v ad)).toArray U := ai_pre Wc hnw hP hD hS hAf
  cases i with
  | invokevirtual x =>
    have hd := ai_decL hd (Nat.succ_ne_zero _)
    have hlk : (Nat.beq a 0 && decide ((r.1, x, a, b) ∈ ai_LC)) = true := hlk
    simp only [Bool.and_eq_true] at hlk
    obtain ⟨h0, h1⟩ := hlk
    obtain rfl := Nat.eq_of_beq_eq_true h0
    have h1 := of_decide_eq_true h1
    simp only [ai_q] at hq
    split at hq
    · next r2 hr2 =>
      split at hq
      · next k As' hAs =>
        split at hq
        · next ci fs hk =>
          split at hq
          · next hcond =>
            cases hq
            simp only [Bool.and_eq_true] at hcond
            have hci := Nat.eq_of_beq_eq_true hcond.1
            have hlen := Nat.eq_of_beq_eq_true hcond.2
            obtain ⟨z, hz⟩ := ai_lc h1
            have hcode := ai_lcode h1 hr2
            have hst := ai_stk (ad := ad) (st := st) (n := r'.2.2.2.2.2.1)
            rw [hAs] at hst
            obtain ⟨o', y, cd, mL, ret, na, tb⟩ := r'
            simp only [ai_okC, hr2, Bool.and_eq_true, decide_eq_true_eq] at hz
            obtain ⟨z0, ⟨⟨⟨⟨z1, z2⟩, z3⟩, z4⟩, z5⟩, z6⟩ := hz
            have hmem : ∃ q : vw_C, vwCl[ci]? = some q ∧ q.1 = y.cls := by
              rw [hci]
              cases hq2 : vwCl[o']? with
              | none => rw [hq2] at z6; cases z6
              | some q => rw [hq2] at z6; exact ⟨q, rfl, Option.some.inj z6⟩
            obtain ⟨q, hq1, hq2⟩ := hmem
            have hrecv := va_recv hK hP hq1 (ai_w_at (ad := ad) (ac := ac) hk)
            rw [hq2] at hrecv
            have hmh := (ai_msM (List.mem_of_getElem? hr2)).2.1
            have hG : GoodIn ai_tb (wsV (ai_cn r.1) x y.cls y (ai_ws (o', y, cd, mL, ret, na, tb))) := by
              intro w' hw'
              unfold wsV at hw'
              rcases List.mem_append.mp hw' with hw' | hw'
              · simp only [List.mem_cons, List.not_mem_nil, or_false] at hw'
                rcases hw' with rfl | rfl | rfl | rfl
                · exact ⟨ai_tbI (ai_isI2 z1) rfl, good_of_word rfl⟩
                · exact ⟨ai_tbI (ai_isI2 z2) rfl, good_of_word rfl⟩
                · exact ⟨ai_tbI (ai_isI2 z3) rfl, good_of_word rfl⟩
                · exact ⟨ai_tbI (ai_isI2 z0) rfl, good_of_word rfl⟩
              · exact ai_goodT _ hcode w' hw'
            exact va_runV (As := As'.map (ai_v ad)) (rest := (st.drop na).map (ai_v ad)) (b := ad k) (n := na - 1) ⟨hx, hb, hml, hown, hts⟩ hM (cwV (na - 1) hts hG rfl rfl rfl ⟨rfl, hmh.1, hmh.2, z4⟩ hroom) ⟨ai_blind, hrecv, hpre⟩ rfl (by rw [List.length_map]; have hlen : As'.length + 1 = na := hlen; omega) hls (by
              show st.map (ai_v ad) = _
              rw [hst, List.map_cons, List.reverse_cons, List.append_assoc]; rfl) hrest' hd ⟨hcells, hslots⟩
          · cases hq
        · cases hq
      · cases hq
    · cases hq
  | invokespecial x =>
    have hd := ai_decL hd (Nat.succ_ne_zero _)
    have hlk : ((Nat.beq a 9 && decide (Cond.methodLink (ai_cn r.1) x objectInit ∈ lw_tbl)) || ((Nat.beq a 2 || Nat.beq a 5) && decide ((r.1, x, a, b) ∈ ai_LC))) = true := hlk
    simp only [ai_q] at hq
    split at hq
    · next r2 h9 hr2 =>
      rw [h9, Bool.false_and, Bool.false_or, Bool.and_eq_true] at hlk
      have h1 := of_decide_eq_true hlk.2
      split at hq
      · next k As' hAs =>
        split at hq
        · next hlen =>
          cases hq
          have hlen := Nat.eq_of_beq_eq_true hlen
          obtain ⟨z, hz⟩ := ai_lc h1
          have hcode := ai_lcode h1 hr2
          have hst := ai_stk (ad := ad) (st := st) (n := r'.2.2.2.2.2.1)
          rw [hAs] at hst
          obtain ⟨o', y, cd, mL, ret, na, tb⟩ := r'
          have hmh := (ai_msM (List.mem_of_getElem? hr2)).2.1
          rcases Bool.or_eq_true_iff.mp hlk.1 with h2 | h2
          · obtain rfl := Nat.eq_of_beq_eq_true h2
            simp only [ai_okC, hr2, Bool.and_eq_true, decide_eq_true_eq] at hz
            obtain ⟨z0, ⟨⟨⟨⟨z1, z2⟩, z3⟩, z4⟩, z5⟩, z6⟩ := hz
            subst z6
            exact va_runI (As := As'.map (ai_v ad)) (rest := (st.drop na).map (ai_v ad)) (b := ad k) (n := na - 1) ⟨hx, hb, hml, hown, hts⟩ hM (cwI (na - 1) hts (ai_goodT _ hcode) rfl rfl rfl (hts _ (ai_tbI (ai_isI2 z0) rfl)) (hts _ (ai_tbI (ai_isI2 z1) rfl)) (hts _ (ai_tbI (ai_isI2 z2) rfl)) z5 ⟨hmh.1, hmh.2, z3⟩ hroom) ⟨ai_blind, hpre⟩ rfl (by rw [List.length_map]; have hlen : As'.length + 1 = na := hlen; omega) hls (by
              show st.map (ai_v ad) = _
              rw [hst, List.map_cons, List.reverse_cons, List.append_assoc]; rfl) hrest' hd ⟨hcells, hslots⟩
          · obtain rfl := Nat.eq_of_beq_eq_true h2
            simp only [ai_okC, hr2, Bool.and_eq_true, decide_eq_true_eq] at hz
            obtain ⟨z0, ⟨⟨⟨⟨z1, z2⟩, z3⟩, z4⟩, z5⟩, z6⟩ := hz
            subst z6
            exact va_runIN (As := As'.map (ai_v ad)) (rest := (st.drop na).map (ai_v ad)) (b := ad k) (n := na - 1) ⟨hx, hb, hml, hown, hts⟩ hM ⟨va_cnB (na - 1) hts (ai_goodT _ hcode) rfl rfl rfl (hnw _ (ai_nwI (ai_isI2 z1) rfl)) (hts _ (ai_tbI (ai_isI2 z0) rfl)) ⟨hmh.1, hmh.2, z3⟩ hroom, z5, hts _ (ai_tbI (ai_isI2 z2) rfl)⟩ ⟨ai_blind, hpre⟩ rfl (by rw [List.length_map]; have hlen : As'.length + 1 = na := hlen; omega) hls (by
              show st.map (ai_v ad) = _
              rw [hst, List.map_cons, List.reverse_cons, List.append_assoc]; rfl) hrest' hd ⟨hcells, hslots⟩
        · cases hq
      · cases hq
    · cases hq
  | invokestatic x =>
    have hd := ai_decL hd (Nat.succ_ne_zero _)
    have hlk : ((Nat.beq a 8 && decide (Cond.methodLink (ai_cn r.1) x arraycopyName ∈ lw_tbl)) || ((Nat.beq a 1 || Nat.beq a 4) && decide ((r.1, x, a, b) ∈ ai_LC))) = true := hlk
    simp only [ai_q] at hq
    split at hq
    · next r2 h9 hr2 =>
      rw [h9, Bool.false_and, Bool.false_or, Bool.and_eq_true] at hlk
      have h1 := of_decide_eq_true hlk.2
      split at hq
      · next hlen =>
        cases hq
        have hlen := Nat.eq_of_beq_eq_true hlen
        obtain ⟨z, hz⟩ := ai_lc h1
        have hcode := ai_lcode h1 hr2
        have hst := ai_stk (ad := ad) (st := st) (n := r'.2.2.2.2.2.1)
        obtain ⟨o', y, cd, mL, ret, na, tb⟩ := r'
        have hmh := (ai_msM (List.mem_of_getElem? hr2)).2.1
        have hlen : (st.take na).length = na := hlen
        rcases Bool.or_eq_true_iff.mp hlk.1 with h2 | h2
        · obtain rfl := Nat.eq_of_beq_eq_true h2
          simp only [ai_okC, hr2, Bool.and_eq_true, decide_eq_true_eq] at hz
          obtain ⟨z0, ⟨z1, z2⟩, z3⟩ := hz
          have hG : GoodIn ai_tb (va_wsS (ai_cn r.1) x y (ai_ws (o', y, cd, mL, ret, na, tb))) := by
            intro w' hw'
            unfold va_wsS at hw'
            rcases List.mem_append.mp hw' with hw' | hw'
            · simp only [List.mem_cons, List.not_mem_nil, or_false] at hw'
              rcases hw' with rfl | rfl | rfl
              · exact ⟨ai_tbI (ai_isI2 z1) rfl, good_of_word rfl⟩
              · exact ⟨ai_tbI (ai_isI2 z2) rfl, good_of_word rfl⟩
              · exact ⟨ai_tbI (ai_isI2 z0) rfl, good_of_word rfl⟩
            · exact ai_goodT _ hcode w' hw'
          exact va_runS (As := (st.take na).reverse.map (ai_v ad)) (rest := (st.drop na).map (ai_v ad)) (n := na) ⟨hx, hb, hml, hown, hts⟩ hM (va_cwS na hts hG rfl rfl rfl ⟨hmh.1, hmh.2, z3⟩ hroom) ⟨ai_blind, hpre⟩ rfl (by rw [List.length_map, List.length_reverse]; exact hlen) hls hst hrest' hd ⟨hcells, hslots⟩
        · obtain rfl := Nat.eq_of_beq_eq_true h2
          simp only [ai_okC, hr2, Bool.and_eq_true, decide_eq_true_eq] at hz
          obtain ⟨z0, ⟨z1, z2⟩, z3⟩ := hz
          exact va_runSN (As := (st.take na).reverse.map (ai_v ad)) (rest := (st.drop na).map (ai_v ad)) (n := na) ⟨hx, hb, hml, hown, hts⟩ hM ⟨va_cnB na hts (ai_goodT _ hcode) rfl rfl rfl (hnw _ (ai_nwI (ai_isI2 z1) rfl)) (hts _ (ai_tbI (ai_isI2 z0) rfl)) ⟨hmh.1, hmh.2, z3⟩ hroom, hts _ (ai_tbI (ai_isI2 z2) rfl), trivial⟩ ⟨ai_blind, hpre⟩ rfl (by rw [List.length_map, List.length_reverse]; exact hlen) hls hst hrest' hd ⟨hcells, hslots⟩
      · cases hq
    · cases hq
  | _ => cases hq
end AIR
