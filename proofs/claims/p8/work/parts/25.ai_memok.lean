theorem ai_ret3I {x : Option Value} {dp dp' : Nat} {r st' : List Value} {M M' : List va_E} (h : ai_ret3 x dp r M = some (dp', st', M')) : ∃ v, x = some v ∧ dp' = dp ∧ st' = v :: r ∧ M' = M := by
  cases x with
  | none => cases h
  | some v => cases h; exact ⟨v, rfl, rfl, rfl, rfl⟩
theorem ai_ialI {X : ai_X} {M : List va_E} {k : Nat} {i : Int32} {v : Value} (h : ai_ial X M k i = some v) : (∃ n f, ai_B ≤ k ∧ X[k - ai_B]? = some (n, f) ∧ vp_in i n ∧ v = .int (f i.toNatClampNeg)) ∨ (∃ n f, M[k]? = some (.inl (0, n, .inl f)) ∧ vp_in i n ∧ v = .int (f i.toNatClampNeg)) := by
  unfold ai_ial at h
  split at h
  · next hb =>
    split at h
    · next n f hx =>
      split at h
      · next hi => cases h; exact Or.inl ⟨n, f, Nat.le_of_ble_eq_true hb, hx, ai_inI hi, rfl⟩
      · cases h
    · cases h
  · split at h
    · next n f hx =>
      split at h
      · next hi => cases h; exact Or.inr ⟨n, f, hx, ai_inI hi, rfl⟩
      · cases h
    · cases h
theorem ai_len2I {X : ai_X} {M : List va_E} {k : Nat} {v : Value} (h : ai_len2 X M k = some v) : (∃ n f, ai_B ≤ k ∧ X[k - ai_B]? = some (n, f) ∧ v = .int (Int32.ofNat n)) ∨ (∃ t n z, t < 4 ∧ M[k]? = some (.inl (t, n, z)) ∧ v = .int (Int32.ofNat n)) := by
  unfold ai_len2 at h
  split at h
  · next hb =>
    split at h
    · next n f hx => cases h; exact Or.inl ⟨n, f, Nat.le_of_ble_eq_true hb, hx, rfl⟩
    · cases h
  · split at h
    · next t n z hx =>
      split at h
      · next ht => cases h; exact Or.inr ⟨t, n, z, Nat.le_of_ble_eq_true ht, hx, rfl⟩
      · cases h
    · cases h
theorem ai_rf (ad : Nat → Nat) (o : Option Nat) : ai_v ad (va_rf o) = va_rf (o.map ad) := by cases o <;> rfl
theorem ai_inlt {i : Int32} {n : Nat} (h : vp_in i n) : i.toNatClampNeg < n := by
  unfold vp_in at h
  simp only [not_or, Nat.not_le] at h
  exact h.2
set_option maxRecDepth 100000 in
theorem ai_wGS : Cond.fieldLink RX5 171 "DeadCode" "SHAPES" "[I" ∈ lw_tbl := by decide +kernel
set_option maxRecDepth 100000 in
theorem ai_wCn : (List.range 7).all (fun a => match vwCl[a]? with | some (C, _, _) => decide (C = ai_cn a) | none => false) = true := by decide +kernel
section AIM
variable {p : Program} {l : Launch} {e : Env} {R : Room} {s : State} {m : MethodId} {args : Array Value} {below : List Frame} {meth : Method} {c : Code} {H : Heap} {locs : List Loc} {cells slots : Nat} {Q : State → Prop}
set_option maxHeartbeats 4000000 in
theorem ai_m_ok {r : ai_R} (C : ai_C p s m args meth c r) {X : ai_X} {i : ClassFile.Instr} {a b pc dp : Nat} {st st' : List Value} {M M' : List va_E} {D : va_G} {ac : Nat → ClassId} {ad : Nat → Nat} {A : Nat → Prop} {ls : Array Slot} (hch : ai_dec r.2.2.1 pc i = true ∧ ai_lnk r.1 r.2.1 i a b = true) (Wc : ai_Wc D ac X ad A s) (hP : va_P D vwCl (ai_w ad ac M) H) (hD : va_D A (ai_w ad ac M)) (hS : va_S A s.heap H locs) (hm : ai_m X i a b st M = some (dp, st', M'))
    (kk : ∀ (H' : Heap) (locs' : List Loc), va_P D vwCl (ai_w ad ac M') H' → va_D A (ai_w ad ac M') → va_S A s.heap H' locs' → W p l e R s m args below meth c H' locs' cells slots Q (F0 m (pc + dp) ls (st'.map (ai_v ad)))) : W p l e R s m args below meth c H locs cells slots Q (F0 m pc ls (st.map (ai_v ad))) := by
  obtain ⟨hx, hb, hr, hml, hown, hts, hnw, hlocks, hin⟩ := C
  obtain ⟨hK, hZ, hT, hAO⟩ := Wc
  obtain ⟨hd, hlk⟩ := hch
  cases i with
  | getfield x =>
    have hd := ai_decL hd (Nat.succ_ne_zero _)
    simp only [ai_m] at hm
    split at hm
    · next k r' =>
      split at hm
      · next ci fs hk =>
        split at hm
        · next hci =>
          obtain rfl := Nat.eq_of_beq_eq_true hci
          obtain ⟨v, hv, rfl, rfl, rfl⟩ := ai_ret3I hm
          have he := ai_w_at (ad := ad) (ac := ac) hk
          have hv' : (fs.map (ai_v ad))[b]? = some (ai_v ad v) := by rw [List.getElem?_map, hv]; rfl
          have hlk : (decide ((r.1, x, ci, b) ∈ ai_LF) || decide ((r.1, x, ci, b) ∈ ai_LFN)) = true := hlk
          rcases Bool.or_eq_true_iff.mp hlk with h1 | h1
          · obtain ⟨Cn, T, N, hc, hbN, hw⟩ := ai_fl (of_decide_eq_true h1)
            exact va_get hx hb hts (ai_wU hc) hown hK hP k he hc b hbN (hts _ hw) (fun _ h => h) hv' hd (kk H locs hP hD hS)
          · obtain ⟨Cn, T, N, hc, hbN, hw⟩ := ai_fln (of_decide_eq_true h1)
            exact va_getN hx hb hts (ai_wU hc) hown hK hP k he hc b hbN (va_Nw.use rfl (hnw _ hw)) (fun _ h => h) hv' hd (kk H locs hP hD hS)
        · cases hm
      · cases hm
    · cases hm
  | putfield x =>
    have hd := ai_decL hd (Nat.succ_ne_zero _)
    simp only [ai_m] at hm
    split at hm
    · next v k r' =>
      split at hm
      · next ci fs hk =>
        split at hm
        · next hcond =>
          cases hm
          simp only [Bool.and_eq_true] at hcond
          obtain ⟨⟨hci, hbl⟩, hfit⟩ := hcond
          obtain rfl := Nat.eq_of_beq_eq_true hci
          have hbl : b < fs.length := Nat.le_of_ble_eq_true hbl
          have he := ai_w_at (ad := ad) (ac := ac) hk
          have hlk : (decide ((r.1, x, ci, b) ∈ ai_LF) && (!(ai_fin ci b) || (decide (r.2.1.name = "<init>") && Nat.beq r.1 ci))) = true := hlk
          simp only [Bool.and_eq_true, decide_eq_true_eq] at hlk
          obtain ⟨h1, h2⟩ := hlk
          obtain ⟨Cn, T, N, hc, hbN, hw⟩ := ai_fl h1
          obtain ⟨ty0, hty, hnm, hft, hown2, -⟩ := ai_cl _ _ _ _ hc
          rw [hft b hbN] at hfit
          obtain ⟨hn, hf⟩ := ai_fitI ad hfit
          have hset : (ai_w ad ac M).set k (ad k, .inr (ci, (fs.map (ai_v ad)).set b (ai_v ad v))) = ai_w ad ac (M.set k (.inr (ci, fs.set b v))) := by
            rw [← ai_w_set]
            show _ = (ai_w ad ac M).set k (ad k, .inr (ci, (fs.set b v).map (ai_v ad)))
            rw [List.map_set]
          by_cases hfin : (T b).2.2.2 = true
          · have hf2 : ai_fin ci b = true := by unfold ai_fin; rw [hc]; exact hfin
            rw [hf2] at h2
            have h2 : decide (r.2.1.name = "<init>") = true ∧ Nat.beq r.1 ci = true := by simpa using h2
            have ho := Nat.eq_of_beq_eq_true h2.2
            refine va_putF hx hb hts (ai_wU hc) ty0 hty hnm hown hK hP hD hS k he hc b hbN (hts _ hw) (fun _ h => h) hfin (hin (of_decide_eq_true h2.1)) ?_ (hty b hbN) hn hf (by rw [List.length_map]; exact hbl) hd (fun H1 locs1 a1 a2 a3 => ?_)
            · rw [hown2 b hbN, ho]
              have := List.all_eq_true.mp ai_wCn _ (List.mem_range.mpr (List.getElem?_eq_some_iff.mp hc).1)
              rw [hc] at this
              exact of_decide_eq_true this
            · rw [hset] at a1 a2
              exact kk H1 locs1 a1 a2 a3
          · refine va_put hx hb hts (ai_wU hc) ty0 hty hnm hown hK hP hD hS k he hc b hbN (hts _ hw) (fun _ h => h) (Bool.not_eq_true _ ▸ hfin) (hty b hbN) hn hf (by rw [List.length_map]; exact hbl) hd (fun H1 locs1 a1 a2 a3 => ?_)
            rw [hset] at a1 a2
            exact kk H1 locs1 a1 a2 a3
        · cases hm
      · cases hm
    · cases hm
  | getstatic x =>
    have hd := ai_decL hd (Nat.succ_ne_zero _)
    cases hm
    have hlk : (Nat.beq r.1 5 && Nat.beq x 171 && Nat.beq a 1) = true := hlk
    simp only [Bool.and_eq_true] at hlk
    obtain ⟨⟨h1, h2⟩, h3⟩ := hlk
    have h1 := Nat.eq_of_beq_eq_true h1
    obtain rfl := Nat.eq_of_beq_eq_true h2
    obtain rfl := Nat.eq_of_beq_eq_true h3
    rw [h1] at hown
    exact va_gets hx hb hZ hS hown (hts _ (ai_tbI ai_wGS rfl)) (fun _ h => h) hd (kk H locs hP hD hS)
  | ldc2_w x =>
    have hd := ai_decL hd (Nat.succ_ne_zero _)
    cases hm
    have hlk : decide ((r.1, x, a) ∈ ai_LK) = true := hlk
    have h1 := List.all_eq_true.mp ai_wK _ (of_decide_eq_true hlk)
    exact lv_ldc2 hx hb hown (hts _ (ai_tbI (of_decide_eq_true h1) rfl)) hd (kk H locs hP hD hS)
  | iaload =>
    have hd := ai_decL hd (Nat.succ_ne_zero _)
    simp only [ai_m] at hm
    split at hm
    · next i k r' =>
      obtain ⟨v, hv, rfl, rfl, rfl⟩ := ai_ret3I hm
      rcases ai_ialI hv with ⟨n, f, hB, hX, hi, rfl⟩ | ⟨n, f, hk, hi, rfl⟩
      · have := hT _ _ _ hX
        rw [show ai_B + (k - ai_B) = k by omega] at this
        exact va_ti hx hb this hS hi rfl hd (kk H locs hP hD hS)
      · exact va_iald hx hb hK hP k 0 (ai_w_at hk) rfl hi hd (kk H locs hP hD hS)
    · cases hm
  | arraylength =>
    have hd := ai_decL hd (Nat.succ_ne_zero _)
    simp only [ai_m] at hm
    split at hm
    · next k r' =>
      obtain ⟨v, hv, rfl, rfl, rfl⟩ := ai_ret3I hm
      rcases ai_len2I hv with ⟨n, f, hB, hX, rfl⟩ | ⟨t, n, z, ht, hk, rfl⟩
      · have := hT _ _ _ hX
        rw [show ai_B + (k - ai_B) = k by omega] at this
        exact va_tlen hx hb this hS rfl hd (kk H locs hP hD hS)
      · have hz : ∃ y, ai_e ad ac (.inl (t, n, z)) = .inl (ac t, n, y) := by rcases z with f | f | f | f | f <;> exact ⟨_, rfl⟩
        obtain ⟨y, hy⟩ := hz
        have he := ai_w_at (ad := ad) (ac := ac) hk
        rw [hy] at he
        have hty : ∃ ty, (ai_ty ac)[t]? = some (ac t, ty) := by
          rcases t with _ | _ | _ | _ | t
          · exact ⟨_, rfl⟩
          · exact ⟨_, rfl⟩
          · exact ⟨_, rfl⟩
          · exact ⟨_, rfl⟩
          · exact absurd ht (Nat.not_lt.mpr (Nat.le_add_left 4 t))
        obtain ⟨ty, hty⟩ := hty
        exact va_alen hx hb hK hP k t he hty rfl hd (kk H locs hP hD hS)
    · cases hm
  | baload =>
    have hd := ai_decL hd (Nat.succ_ne_zero _)
    simp only [ai_m] at hm
    split at hm
    · next i k r' =>
      split at hm
      · next n f hk =>
        split at hm
        · next hi => cases hm; exact va_zald hx hb hK hP k 1 (ai_w_at hk) rfl (ai_inI hi) hd (kk H locs hP hD hS)
        · cases hm
      · cases hm
    · cases hm
  | laload =>
    have hd := ai_decL hd (Nat.succ_ne_zero _)
    simp only [ai_m] at hm
    split at hm
    · next i k r' =>
      split at hm
      · next n f hk =>
        split at hm
        · next hi => cases hm; exact va_lald hx hb hK hP k 2 (ai_w_at hk) rfl (ai_inI hi) hd (kk H locs hP hD hS)
        · cases hm
      · cases hm
    · cases hm
  | aaload =>
    have hd := ai_decL hd (Nat.succ_ne_zero _)
    simp only [ai_m] at hm
    split at hm
    · next i k r' =>
      split at hm
      · next n f hk =>
        split at hm
        · next hi =>
          cases hm
          have h1 := ai_inlt (ai_inI hi)
          refine va_aldq hx hb hK hP k 3 (ai_w_at hk) rfl (ai_inI hi) hd ?_
          rw [if_pos h1, ← ai_rf]
          exact kk H locs hP hD hS
        · cases hm
      · cases hm
    · cases hm
  | iastore =>
    have hd := ai_decL hd (Nat.succ_ne_zero _)
    simp only [ai_m] at hm
    split at hm
    · next x i k r' =>
      split at hm
      · next n f hk =>
        split at hm
        · next hi =>
          cases hm
          refine va_iast hx hb hK hP hD hS k 0 (ai_w_at hk) rfl (ai_inI hi) hd (fun H1 locs1 a1 a2 a3 => ?_)
          have hset := ai_w_set (ad := ad) (ac := ac) (M := M) (k := k) (e := .inl (0, n, .inl (upd f i.toNatClampNeg x)))
          exact kk H1 locs1 (hset ▸ a1) (hset ▸ a2) a3
        · cases hm
      · cases hm
    · cases hm
  | bastore =>
    have hd := ai_decL hd (Nat.succ_ne_zero _)
    simp only [ai_m] at hm
    split at hm
    · next x i k r' =>
      split at hm
      · next n f hk =>
        split at hm
        · next hi =>
          cases hm
          refine va_zast hx hb hK hP hD hS k 1 (ai_w_at hk) rfl (ai_inI hi) hd (fun H1 locs1 a1 a2 a3 => ?_)
          have hset := ai_w_set (ad := ad) (ac := ac) (M := M) (k := k) (e := .inl (1, n, .inl (upd f i.toNatClampNeg (vp_nar .boolean x))))
          exact kk H1 locs1 (hset ▸ a1) (hset ▸ a2) a3
        · cases hm
      · cases hm
    · cases hm
  | lastore =>
    have hd := ai_decL hd (Nat.succ_ne_zero _)
    simp only [ai_m] at hm
    split at hm
    · next x i k r' =>
      split at hm
      · next n f hk =>
        split at hm
        · next hi =>
          cases hm
          refine va_last hx hb hK hP hD hS k 2 (ai_w_at hk) rfl (ai_inI hi) hd (fun H1 locs1 a1 a2 a3 => ?_)
          have hset := ai_w_set (ad := ad) (ac := ac) (M := M) (k := k) (e := .inl (2, n, .inr (.inl (vp_updL f i.toNatClampNeg x))))
          exact kk H1 locs1 (hset ▸ a1) (hset ▸ a2) a3
        · cases hm
      · cases hm
    · cases hm
  | aastore =>
    have hd := ai_decL hd (Nat.succ_ne_zero _)
    simp only [ai_m] at hm
    split at hm
    · next v i k r' =>
      split at hm
      · next n f vs hk hv =>
        split at hm
        · next hi =>
          cases hm
          have h1 := ai_inlt (ai_inI hi)
          refine va_astq hx hb hK hP hD hS k 3 v 0 (r := (RX0, TX0, 2)) (ai_w_at hk) rfl (ai_w_at hv) rfl (ai_inI hi) hd (fun H1 locs1 a1 a2 a3 => ?_)
          have hset := ai_w_set (ad := ad) (ac := ac) (M := M) (k := k) (e := .inl (3, n, .inr (.inr (.inr (.inr (va_up f i.toNatClampNeg (some v)))))))
          have hfun : (va_up (fun j => if j < n then (f j).map ad else none) i.toNatClampNeg (some (ad v))) = (fun j => if j < n then (va_up f i.toNatClampNeg (some v) j).map ad else none) := by
            funext j
            unfold va_up
            by_cases hj : j = i.toNatClampNeg
            · subst hj; rw [if_pos rfl, if_pos h1, if_pos rfl]; rfl
            · rw [if_neg hj, if_neg hj]
          rw [hfun] at a1 a2
          exact kk H1 locs1 (hset ▸ a1) (hset ▸ a2) a3
        · cases hm
      · cases hm
    · cases hm
  | _ => cases hm
end AIM
