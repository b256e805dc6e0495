def shN (k q : Nat) : Nat := [2, 1, 0, 2, 2, 0, 2, 2, 2, 2, 2, 2, 2, 2, 2, 2, 2, 5, 5, 0, 0, 2, 3, 0, 2, 3, 0, 2, 4, 0, 2, 0, 0, 2, 0, 0, 2, 0, 0].getD (3 * k + q - 1) 0
theorem shN_e : ∀ k, k < 13 → ∀ q, q < 4 → 0 < q → ai_sh (3 * k + q - 1) = nI (shN k q) ∧ shN k q < 6 := by decide +kernel
def tbd (s : Nat) : Nat := if s = 2 ∨ s = 3 then 4 else if s = 4 then 8 else 0
def okx (b : Nat) (x : Int32) : Bool := if b = 0 then true else ai_in x b
def okp (s : Nat) (x : Int32) : Bool := if s = 5 then ai_in x 25 else true
def nmv (k q : Nat) : Nat := if q = 0 then nb k / 100 else if q = 1 then nb k / 10 % 10 else nb k % 10
def nbd (v : Nat) : Nat := if v = 5 then 8 else if v = 1 ∨ v = 4 then 4 else 0
theorem nm_sh : ∀ k, k < 13 → ∀ q, q < 3 → nmv k q < 6 ∧ nbd (nmv k q) = tbd (shN k (q + 1)) ∧ (nmv k q = 3 ↔ shN k (q + 1) = 5) ∧ (decide (¬ nmv k q = 0) = nzs k (q + 1)) := by decide +kernel
section PU
variable {m m' : fm} {N : Nat → Nat} {P : Nat → cod} {R : Nat → Bool} {k q : Nat}
theorem inx {x : Int32} {n : Nat} (hn : n < 2147483648) (h : ai_in x n = true) : ∃ j, j < n ∧ x = nI j := vp_in_of (ai_inI h) (by omega)
theorem in_f {x : Int32} {n : Nat} (h : x < 0 ∨ nI n ≤ x) (hn : n < 2147483648) : ai_in x n = false := by
  cases e : ai_in x n with
  | false => rfl
  | true =>
    obtain ⟨j, hj, rfl⟩ := inx hn e
    rcases h with h | h
    · exact absurd h (nI_pos (by omega))
    · exact absurd ((nI_leI (by omega) (by omega)).mp h) (by omega)
theorem g8b {x : Int32} : g88 x m = some (bI (ai_in x 4), m) ∧ g89 x m = some (bI (ai_in x 4), m) ∧ g97 x m = some (bI (ai_in x 4), m) := by
  rcases dx_of (x := x) (n := 4) (by omega) with ⟨j, hj, rfl⟩ | hx
  · rw [dx_in hj (by omega)]; exact reg_y hj
  · rw [in_f hx (by omega)]; exact reg_n hx
theorem g7b {x : Int32} : g87 x m = some (bI (ai_in x 8), m) ∧ g96 x m = some (bI (ai_in x 8), m) := by
  rcases dx_of (x := x) (n := 8) (by omega) with ⟨j, hj, rfl⟩ | hx
  · rw [dx_in hj (by omega)]; exact mem_y hj
  · rw [in_f hx (by omega)]; exact mem_n hx
theorem g95b {x : Int32} {n : Nat} (hn : 0 < n) (hn2 : n < 2147483648) : g95 x (nI 0) (nI (n - 1)) m = some (bI (ai_in x n), m) := by
  rcases dx_of (x := x) (n := n) hn2 with ⟨j, hj, rfl⟩ | hx
  · rw [dx_in hj hn2]; exact g95_y hj hn2
  · rw [in_f hx hn2]; exact g95_n hn hn2 hx
theorem g91_s (hk : k < 13) (hq : q < 4) (h0 : 0 < q) {x : Int32} : g91 (nI k) (nI q) x m = some (bI (okx (tbd (shN k q)) x), m) := by
  obtain ⟨es, hs⟩ := shN_e k hk q hq h0
  unfold g91
  rw [g90_s hk hq h0, dx_cl2, es, g8b.1, g8b.2.1, g7b.1, dx_cl2, dx_cl2, show rtB (bI (ai_in x 4)) = rtB (nI (ai_in x 4).toNat) from rfl, show rtB (bI (ai_in x 8)) = rtB (nI (ai_in x 8).toNat) from rfl, dx_rtB (bt2 _), dx_rtB (bt2 _)]
  generalize shN k q = z at *
  have ez : z = 0 ∨ z = 1 ∨ z = 2 ∨ z = 3 ∨ z = 4 ∨ z = 5 := by omega
  rcases ez with rfl | rfl | rfl | rfl | rfl | rfl <;> rfl
theorem g92_s (hk : k < 13) (hq : q < 4) (h0 : 0 < q) {x : Int32} : g92 (nI k) (nI q) x m = some (bI (okp (shN k q) x), m) := by
  obtain ⟨es, hs⟩ := shN_e k hk q hq h0
  unfold g92 okp
  rw [g90_s hk hq h0, dx_cl2, es, dx_ne (by omega) (by omega)]
  by_cases h5 : shN k q = 5
  · rw [decide_eq_false (fun z => z h5), cond_false, if_pos h5]
    rcases dx_of (x := x) (n := 25) (by omega) with ⟨j, hj, rfl⟩ | hx
    · rw [dx_in hj (by omega), dx_lt0 (by omega), cond_false, dx_gt (by omega) (by omega), decide_eq_false (by omega), cond_false]; rfl
    · rw [in_f hx (by omega)]
      rcases lt_of (n := 25) (by omega) (by omega) hx with h | ⟨h1, h2, h3, h4⟩
      · rw [h, cond_true]; rfl
      · rw [h1, cond_false, show ai_c .gt x (nI 24) = true from h3, cond_true]; rfl
  · rw [decide_eq_true h5, cond_true, if_neg h5]; rfl
theorem g100_v (hk : k < 13) (hq : q < 3) : g100 (nI k) (nI q) m = some (nI (nmv k q), m) := by
  have e : q = 0 ∨ q = 1 ∨ q = 2 := by omega
  have n10 : ¬ nI 10 = 0 := by decide +kernel
  have n100 : ¬ nI 100 = 0 := by decide +kernel
  unfold g100
  rw [g99_s hk, dx_cl2]
  rcases e with rfl | rfl | rfl
  · rw [show ai_c .ne (nI 0) 0 = false by decide +kernel, cond_false]
    unfold dvI
    rw [if_neg n100, (nb_0 k hk).1]; rfl
  · obtain ⟨h1, h2, h3, h4⟩ := nb_1 k hk
    rw [show ai_c .ne (nI 1) 0 = true by decide +kernel, cond_true, show ai_c .ne (nI 1) (nI 1) = false by decide +kernel, cond_false]
    unfold dvI rmI
    rw [if_neg n10, h1]
    show (if nI 10 = 0 then none else some (nI (nb k / 10) - nI (nb k / 10) / nI 10 * nI 10, m)) = _
    rw [if_neg n10, h2]; rfl
  · rw [show ai_c .ne (nI 2) 0 = true by decide +kernel, cond_true, show ai_c .ne (nI 2) (nI 1) = true by decide +kernel, cond_true]
    unfold rmI
    rw [if_neg n10, (nb_2 k hk).1]; rfl
theorem g101_s {v : Nat} (hv : v < 6) {x : Int32} : g101 (nI v) x m = some (bI (okx (nbd v) x), m) := by
  unfold g101
  rw [g8b.2.2, g7b.2, dx_cl2, dx_cl2, bI_eq, bI_eq]
  have ez : v = 0 ∨ v = 1 ∨ v = 2 ∨ v = 3 ∨ v = 4 ∨ v = 5 := by omega
  rcases ez with rfl | rfl | rfl | rfl | rfl | rfl
  · rfl
  · show (bif !(ai_in x 4) then some (nI 0, m) else some (nI 1, m)) = some (bI (ai_in x 4), m)
    cases ai_in x 4 <;> rfl
  · rfl
  · rfl
  · show (bif !(ai_in x 4) then some (nI 0, m) else some (nI 1, m)) = some (bI (ai_in x 4), m)
    cases ai_in x 4 <;> rfl
  · show (bif !(ai_in x 8) then some (nI 0, m) else some (nI 1, m)) = some (bI (ai_in x 8), m)
    cases ai_in x 8 <;> rfl
theorem g102_s {v : Nat} (hv : v < 6) {x : Int32} : g102 (nI v) x m = some (bI (!(if v = 3 then ai_in x 25 else true)), m) := by
  unfold g102
  rw [dx_ne (by omega) (by omega)]
  by_cases h3 : v = 3
  · rw [decide_eq_false (fun z => z h3), cond_false, if_pos h3, show g95 x (nI 0) (nI 24) m = some (bI (ai_in x 25), m) from g95b (n := 25) (by omega) (by omega), dx_cl2, bI_ne]
    cases ai_in x 25 <;> rfl
  · rw [decide_eq_true h3, cond_true, if_neg h3]; rfl
theorem okp_n (hk : k < 13) (hq : q < 3) {x : Int32} : (if nmv k q = 3 then ai_in x 25 else true) = okp (shN k (q + 1)) x := by
  unfold okp
  have := (nm_sh k hk q hq).2.2.1
  by_cases h : nmv k q = 3
  · rw [if_pos h, if_pos (this.mp h)]
  · rw [if_neg h, if_neg (fun z => h (this.mpr z))]
set_option maxHeartbeats 1000000 in
theorem put_ok (hk : k < 13) {a b e : Int32} (t1 : okx (tbd (shN k 1)) a = true) (t2 : okx (tbd (shN k 2)) b = true) (t3 : okx (tbd (shN k 3)) e = true) (w1 : okp (shN k 1) a = true) (w3 : okp (shN k 3) e = true) : ∃ a' e' : Nat, ov k 1 a = nI a' ∧ ov k 3 e = nI e' ∧ WF1 k a' (ov k 2 b) e' ∧ NZ1 k (ov k 2 b) e' := by
  have i4 : ∀ x : Int32, ai_in x 4 = true → ∃ j, j < 4 ∧ x = nI j := fun x h => inx (by omega) h
  have i8 : ∀ x : Int32, ai_in x 8 = true → ∃ j, j < 8 ∧ x = nI j := fun x h => inx (by omega) h
  have i25 : ∀ x : Int32, ai_in x 25 = true → ∃ j, j < 25 ∧ x = nI j := fun x h => inx (by omega) h
  have cl : ∀ j, j < 25 → nI j = nI (nI j).toNatClampNeg ∧ (nI j).toNatClampNeg = j := fun j hj => by rw [dx_cl (by omega)]; exact ⟨rfl, rfl⟩
  have ov0 : ∀ x : Int32, nzs k 2 = false → ov k 2 x = nI 0 := fun x h => by unfold ov; rw [h]; rfl
  have ov3 : ∀ x : Int32, nzs k 3 = false → ov k 3 x = nI 0 := fun x h => by unfold ov; rw [h]; rfl
  have ov2t : ∀ x : Int32, nzs k 2 = true → ov k 2 x = x := fun x h => by unfold ov; rw [if_pos h]
  have ov3t : ∀ x : Int32, nzs k 3 = true → ov k 3 x = x := fun x h => by unfold ov; rw [if_pos h]
  rcases k13 hk with h | h | h | h | h | h | h | h | h | h | h | h | h <;> subst h
  · obtain ⟨ja, ha, rfl⟩ := i4 a t1
    refine ⟨ja, 0, ov_1 (by omega), ov3 _ (by decide +kernel), ?_, ?_⟩
    · exact ⟨by omega, by omega, by omega, fun _ => ha, fun z => absurd z (by omega), fun z => absurd z (by omega), fun z => absurd z (by omega)⟩
    · exact ⟨fun z => absurd z (by omega), fun _ => rfl⟩
  · obtain ⟨ja, ha, rfl⟩ := i4 a t1
    obtain ⟨jb, hb, rfl⟩ := i4 b t2
    refine ⟨ja, 0, ov_1 (by omega), ov3 _ (by decide +kernel), ?_, ?_⟩
    · rw [ov2t _ (by decide +kernel)]
      exact ⟨by omega, by omega, by omega, fun _ => ha, fun _ => ⟨(cl jb (by omega)).1, by rw [(cl jb (by omega)).2]; exact hb⟩, fun z => absurd z (by omega), fun z => absurd z (by omega)⟩
    · exact ⟨fun z => absurd z (by omega), fun _ => rfl⟩
  · obtain ⟨ja, ha, rfl⟩ := i4 a t1
    obtain ⟨jb, hb, rfl⟩ := i4 b t2
    obtain ⟨je, he, rfl⟩ := i4 e t3
    refine ⟨ja, je, ov_1 (by omega), ov3t _ (by decide +kernel), ?_, ?_⟩
    · rw [ov2t _ (by decide +kernel)]
      exact ⟨by omega, by omega, by omega, fun _ => ha, fun _ => ⟨(cl jb (by omega)).1, by rw [(cl jb (by omega)).2]; exact hb⟩, fun z => absurd z (by omega), fun _ => he⟩
    · exact ⟨fun z => absurd z (by omega), fun z => absurd (by omega) z⟩
  · obtain ⟨ja, ha, rfl⟩ := i4 a t1
    obtain ⟨jb, hb, rfl⟩ := i4 b t2
    obtain ⟨je, he, rfl⟩ := i4 e t3
    refine ⟨ja, je, ov_1 (by omega), ov3t _ (by decide +kernel), ?_, ?_⟩
    · rw [ov2t _ (by decide +kernel)]
      exact ⟨by omega, by omega, by omega, fun _ => ha, fun _ => ⟨(cl jb (by omega)).1, by rw [(cl jb (by omega)).2]; exact hb⟩, fun z => absurd z (by omega), fun _ => he⟩
    · exact ⟨fun z => absurd z (by omega), fun z => absurd (by omega) z⟩
  · obtain ⟨ja, ha, rfl⟩ := i4 a t1
    obtain ⟨jb, hb, rfl⟩ := i4 b t2
    obtain ⟨je, he, rfl⟩ := i4 e t3
    refine ⟨ja, je, ov_1 (by omega), ov3t _ (by decide +kernel), ?_, ?_⟩
    · rw [ov2t _ (by decide +kernel)]
      exact ⟨by omega, by omega, by omega, fun _ => ha, fun _ => ⟨(cl jb (by omega)).1, by rw [(cl jb (by omega)).2]; exact hb⟩, fun z => absurd z (by omega), fun _ => he⟩
    · exact ⟨fun z => absurd z (by omega), fun z => absurd (by omega) z⟩
  · obtain ⟨ja, ha, rfl⟩ := i4 a t1
    obtain ⟨jb, hb, rfl⟩ := i4 b t2
    obtain ⟨je, he, rfl⟩ := i25 e w3
    refine ⟨ja, je, ov_1 (by omega), ov3t _ (by decide +kernel), ?_, ?_⟩
    · rw [ov2t _ (by decide +kernel)]
      exact ⟨by omega, by omega, by omega, fun _ => ha, fun _ => ⟨(cl jb (by omega)).1, by rw [(cl jb (by omega)).2]; exact hb⟩, fun z => absurd z (by omega), fun z => absurd z (by omega)⟩
    · exact ⟨fun z => absurd z (by omega), fun z => absurd (by omega) z⟩
  · obtain ⟨ja, ha, rfl⟩ := i25 a w1
    refine ⟨ja, 0, ov_1 (by omega), ov3 _ (by decide +kernel), ?_, ?_⟩
    · exact ⟨by omega, by omega, by omega, fun z => absurd rfl z, fun z => absurd z (by omega), fun z => absurd z (by omega), fun z => absurd z (by omega)⟩
    · exact ⟨fun _ => ov0 _ (by decide +kernel), fun _ => rfl⟩
  · obtain ⟨ja, ha, rfl⟩ := i4 a t1
    obtain ⟨jb, hb, rfl⟩ := i4 b t2
    refine ⟨ja, 0, ov_1 (by omega), ov3 _ (by decide +kernel), ?_, ?_⟩
    · rw [ov2t _ (by decide +kernel)]
      exact ⟨by omega, by omega, by omega, fun _ => ha, fun _ => ⟨(cl jb (by omega)).1, by rw [(cl jb (by omega)).2]; exact hb⟩, fun z => absurd z (by omega), fun z => absurd z (by omega)⟩
    · exact ⟨fun z => absurd z (by omega), fun _ => rfl⟩
  · obtain ⟨ja, ha, rfl⟩ := i4 a t1
    obtain ⟨jb, hb, rfl⟩ := i4 b t2
    refine ⟨ja, 0, ov_1 (by omega), ov3 _ (by decide +kernel), ?_, ?_⟩
    · rw [ov2t _ (by decide +kernel)]
      exact ⟨by omega, by omega, by omega, fun _ => ha, fun _ => ⟨(cl jb (by omega)).1, by rw [(cl jb (by omega)).2]; exact hb⟩, fun z => absurd z (by omega), fun z => absurd z (by omega)⟩
    · exact ⟨fun z => absurd z (by omega), fun _ => rfl⟩
  · obtain ⟨ja, ha, rfl⟩ := i4 a t1
    obtain ⟨jb, hb, rfl⟩ := i8 b t2
    refine ⟨ja, 0, ov_1 (by omega), ov3 _ (by decide +kernel), ?_, ?_⟩
    · rw [ov2t _ (by decide +kernel)]
      exact ⟨by omega, by omega, by omega, fun _ => ha, fun z => absurd z (by omega), fun _ => ⟨(cl jb (by omega)).1, by rw [(cl jb (by omega)).2]; exact hb⟩, fun z => absurd z (by omega)⟩
    · exact ⟨fun z => absurd z (by omega), fun _ => rfl⟩
  all_goals (
    obtain ⟨ja, ha, rfl⟩ := i4 a t1
    refine ⟨ja, 0, ov_1 (by omega), ov3 _ (by decide +kernel), ?_, ?_⟩
    · exact ⟨by omega, by omega, by omega, fun _ => ha, fun z => absurd z (by omega), fun z => absurd z (by omega), fun z => absurd z (by omega)⟩
    · exact ⟨fun _ => ov0 _ (by decide +kernel), fun _ => rfl⟩)
end PU
