def ai_shl : List Int32 := [2, 1, 0, 2, 2, 0, 2, 2, 2, 2, 2, 2, 2, 2, 2, 2, 2, 5, 5, 0, 0, 2, 3, 0, 2, 3, 0, 2, 4, 0, 2, 0, 0, 2, 0, 0, 2, 0, 0]
def ai_sh (j : Nat) : Int32 := ai_shl.getD j 0
/-- the tables that nobody writes: the script, SHAPES -/
def ai_XX (L : Nat) (xs : Nat → Int32) : ai_X := [(L, xs), (39, ai_sh)]
set_option maxRecDepth 100000 in
theorem ai_wI0 : vwCl.all (fun z => decide (Cond.instantiable z.1 z.2.2 ∈ lw_tbl)) = true := by decide +kernel
set_option maxRecDepth 100000 in
theorem ai_wLS : Cond.laysStatic "DeadCode" "SHAPES" "[I" ∈ lw_tbl ∧ Cond.initialized "DeadCode" ∈ lw_tbl := by decide +kernel
set_option maxRecDepth 100000 in
theorem ai_flat : Cond.arrayOf (.static "DeadCode" "SHAPES" "[I") .int ∈ flatC (Jvm.Cond.and given_1 narrow_1) ∧ Cond.eq (.length (.static "DeadCode" "SHAPES" "[I")) (.int 39) ∈ flatC (Jvm.Cond.and given_1 narrow_1) := by decide +kernel
set_option maxRecDepth 100000 in
theorem ai_flats : ∀ j, j < 39 → Cond.eq (.elem (.static "DeadCode" "SHAPES" "[I") (.int (Int32.ofNat j))) (.int (ai_sh j)) ∈ flatC (Jvm.Cond.and given_1 narrow_1) := by decide +kernel
theorem ai_lawr : ai_ms[ai_law]? = some ai_r143 := rfl
def ai_pureP (N : Nat) : Prop := ∀ (L : Nat) (xs : Nat → Int32), L ≤ N → ∃ n pc1 M1 c1 s1, ai_x (ai_XX L xs) n 9 348 ai_r143 0 (ai_en 4 [.ref ai_B]) [] [] 0 0 = some (pc1, some (.int 1), M1, c1, s1) ∧ c1 ≤ 600000 ∧ s1 ≤ 7302250
set_option maxHeartbeats 4000000 in
theorem ai_whole {N : Nat} (hN : ai_pureP N) {p : Program} {e : Env} {s : State} {m : MethodId} {below : List Frame} {meth : Method} {c : Code} (l : Launch) {b L : Nat} {xs : Nat → Int32} (hL : L ≤ N) (C0 : lw_At p s m meth c b L xs) : W p l e room_1 s m #[Value.ref b] below meth c s.heap [] 0 0 (lw_Z below #[Value.ref b] s) (entryFrame m ([Value.ref b] : List Value).toArray 4) := by
  obtain ⟨hx, hb, hr, hml, hown, hts, hX, hbl, hlocks, hgv⟩ := id C0
  have hA : ∀ q : Nat, s.heap.size ≤ q → (fun q : Nat => s.heap.size ≤ q) q := fun _ h => h
  have hbA : ¬ (fun q : Nat => s.heap.size ≤ q) b := Nat.not_le.mpr hbl
  have hAn : ∀ a : Nat, a < s.heap.size → ¬ (fun q : Nat => s.heap.size ≤ q) a := fun a h => Nat.not_le.mpr h
  have htb : ∀ w ∈ ai_tb, w.before #[Value.ref b] s = true := fun w hw => hts w (List.mem_filter.mp hw).1
  have hnw : ∀ w ∈ ai_nw, va_Nw w s := by
    intro w hw
    have h1 := hts w (List.mem_filter.mp hw).1
    have hN := (List.mem_filter.mp hw).2
    unfold ai_isN at hN
    split at hN
    · exact va_Nw.of rfl h1
    · exact va_Nw.of rfl h1
    · cases hN
  have hkn : ∀ k : Nat, ∃ z : ClassId × (Nat → Nat), ∀ q : vw_C, vwCl[k]? = some q → u_Kn s q.1 q.2.1 q.2.2 z.1 z.2 := by
    intro k
    cases hk : vwCl[k]? with
    | none => exact ⟨(0, fun _ => 0), fun q h => by cases h⟩
    | some q =>
      obtain ⟨C, T, N⟩ := q
      have hi := of_decide_eq_true (List.all_eq_true.mp ai_wI0 _ (List.mem_of_getElem? hk))
      obtain ⟨cC, iS, h⟩ := u_known (C := C) (T := T) (N := N) (n := N) htb (ai_wU hk) (hts _ hi)
      exact ⟨(cC, iS), fun q' h' => by cases h'; exact h⟩
  obtain ⟨zf, hzf⟩ := Classical.axiomOfChoice hkn
  obtain ⟨a0, k0, p0, f0, g0, d0⟩ := Cond.arrayClass_spec (hts _ ai_wA.1)
  obtain ⟨a1, k1, p1, f1, g1, d1⟩ := Cond.arrayClass_spec (hts _ ai_wA.2.1)
  obtain ⟨a2, k2, p2, f2, g2, d2⟩ := Cond.arrayClass_spec (hts _ ai_wA.2.2.1)
  obtain ⟨p3, a3, k3, f3, -, g3, d3, n3⟩ := Cond.arrayOver_spec (hts _ ai_wA.2.2.2)
  have hK : va_K ((fun k => (zf k).1, fun k => (zf k).2) : va_G) vwCl (ai_ty (fun t => match t with | 0 => a0 | 1 => a1 | 2 => a2 | _ => a3)) s := by
    refine ⟨fun k q hq => hzf k q hq, fun k q hq => ?_⟩
    match k, hq with
    | 0, hq => cases hq; exact ⟨fun n z => ⟨fun k h => (by cases h), k0, g0, p0, d0⟩, f0⟩
    | 1, hq => cases hq; exact ⟨fun n z => ⟨fun k h => (by cases h), k1, g1, p1, d1⟩, f1⟩
    | 2, hq => cases hq; exact ⟨fun n z => ⟨fun k h => (by cases h), k2, g2, p2, d2⟩, f2⟩
    | 3, hq => cases hq; exact ⟨fun n z => ⟨fun k h => (by cases h), k3, g3, p3, d3⟩, k3, p3, g3, d3, f3, n3⟩
    | k + 4, hq => cases hq
  have hfl := flat_of_before _ hgv
  obtain ⟨t, hte, hT1⟩ := va_Tof (A := fun q : Nat => s.heap.size ≤ q) (N := 39) (f := fun i => .int (ai_sh i)) (by decide) (hfl _ ai_flat.1) (va_eqt (hfl _ ai_flat.2)) (fun j hj => va_eqt (hfl _ (ai_flats j hj))) hAn
  have hZ := va_Zof (A := fun q : Nat => s.heap.size ≤ q) (hts _ ai_wLS.1) (hts _ ai_wLS.2) hte hAn
  have hT0 : va_T .int b L (fun i => .int (xs i)) (fun q : Nat => s.heap.size ≤ q) s s.heap := by
    obtain ⟨scr, h1, h2, h3, h4, h5⟩ := hX
    exact ⟨scr, h1, h2, h3, Nat.le_of_eq h4.symm, by rw [h4], h5, hbA⟩
  obtain ⟨n, pc1, M1, c1, s1, hpure, hc1, hs1⟩ := hN L xs hL
  have hl := ai_entry (ad := fun k => if k = ai_B then b else t) (n := 4) (vs := [.ref ai_B]) (by decide)
  rw [lg_entry_eq]
  have hv : ([Value.ref ai_B] : List Value).map (ai_v (fun k => if k = ai_B then b else t)) = [Value.ref b] := by
    show [Value.ref (if ai_B = ai_B then b else t)] = _
    rw [if_pos rfl]
  rw [hv] at hl
  generalize (lg_sl ([Value.ref b]) ++ List.replicate (4 - (lg_sl ([Value.ref b])).length) Slot.unset).toArray = ls at hl ⊢
  have hC : ai_C p s m #[Value.ref b] meth c ai_r143 := ⟨hx, hb, hr, hml, hown, htb, hnw, hlocks, fun h => absurd h (by decide)⟩
  refine ai_snd l (ai_XX L xs) n 9 348 ai_r143 0 _ [] [] 0 0 pc1 (some (.int 1)) M1 c1 s1 hpure (List.mem_of_getElem? ai_lawr) p e s m #[Value.ref b] below meth c room_1 _ _ (fun k => if k = ai_B then b else t) (fun q : Nat => s.heap.size ≤ q) s.heap [] ls _ hC (Nat.le_refl _) (Nat.le_refl _) hc1 hs1 ⟨hK, ?_, ?_, hts _ ai_wA.2.2.2⟩ hA ?_ ?_ va_S.rf hl ?_
  · show va_Z "DeadCode" "SHAPES" "[I" (.ref (if ai_B + 1 = ai_B then b else t)) _ s s.heap
    rw [if_neg (by omega)]; exact hZ
  · intro j n f hj
    match j, hj with
    | 0, hj =>
      cases hj
      show va_T .int (if ai_B + 0 = ai_B then b else t) L _ _ s s.heap
      rw [if_pos (Nat.add_zero ai_B)]; exact hT0
    | 1, hj =>
      cases hj
      show va_T .int (if ai_B + 1 = ai_B then b else t) 39 _ _ s s.heap
      rw [if_neg (by omega)]; exact hT1
    | j + 2, hj => cases hj
  · intro k q h; simp [ai_w] at h
  · exact ⟨fun i j x y h => by simp [ai_w] at h, fun k q h => by simp [ai_w] at h⟩
  · intro ad' H' locs' ls' hex hP' hD' hS' hans
    obtain ⟨i, a, b', bm, hat, hans⟩ := hans
    obtain ⟨hd, -⟩ := ai_atI (List.mem_of_getElem? ai_lawr) hat
    refine va_forget (fun q hq => hS'.2.2 q hq) ?_
    refine W.widen hc1 hs1 ?_
    cases i with
    | ireturn => exact lw_ret hx hb hr hlocks (ai_decL hd (Nat.succ_ne_zero _))
    | _ => cases hans
abbrev ai_w0 : Nat := 348
