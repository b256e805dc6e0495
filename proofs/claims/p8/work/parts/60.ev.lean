/-! evaluation: indices, comparisons, loops -/
theorem dx_in {i n : Nat} (h : i < n) (hn : n < 2147483648) : ai_in (nI i) n = true := by
  have h5 := vp_in_nI (n := i) (N := n) h (by omega)
  unfold vp_in at h5
  unfold ai_in
  simpa using h5
theorem dx_cl {i : Nat} (h : i < 2147483648) : (nI i).toNatClampNeg = i := nI_clamp (by omega)
theorem dx_sub {a b : Nat} (h : b ≤ a) : nI a - nI b = nI (a - b) := by
  have e : nI a = nI (a - b) + nI b := by rw [nI_add]; congr 1; omega
  rw [e]
  exact Int32.add_sub_cancel _ _
section DX
variable {β : Type}
theorem dx_ldI {m : fm} {k n i : Nat} {f : Int32 → Option β} (h : i < n) (hn : n < 2147483648) : ldI m k n (nI i) f = f (m.1 k i) := by
  unfold ldI
  rw [dx_in h hn, dx_cl (by omega)]
  rfl
theorem dx_ldL {m : fm} {k n i : Nat} {f : Int64 → Option β} (h : i < n) (hn : n < 2147483648) : ldL m k n (nI i) f = f (m.2 k i) := by
  unfold ldL
  rw [dx_in h hn, dx_cl (by omega)]
  rfl
theorem dx_ldA {b i : Nat} {f : Nat → Option β} (h : i < 8) : ldA b (nI i) f = f (b + 4 * i) := by
  unfold ldA
  rw [dx_in h (by omega), dx_cl (by omega)]
  rfl
theorem dx_ldS {i : Nat} {f : Int32 → Option β} (h : i < 39) : ldS (nI i) f = f (ai_sh i) := by
  unfold ldS
  rw [dx_in h (by omega), dx_cl (by omega)]
  rfl
theorem dx_ldX {N i : Nat} {xs : Nat → Int32} {f : Int32 → Option β} (h : i < N) (hn : N < 2147483648) : ldX N xs (nI i) f = f (xs i) := by
  unfold ldX
  rw [dx_in h hn, dx_cl (by omega)]
  rfl
theorem dx_stI {m : fm} {k n i : Nat} {x : Int32} {f : fm → Option β} (h : i < n) (hn : n < 2147483648) : stI m k n (nI i) x f = f (fs1 m k i x) := by
  unfold stI
  rw [dx_in h hn, dx_cl (by omega)]
  rfl
theorem dx_stL {m : fm} {k n i : Nat} {x : Int64} {f : fm → Option β} (h : i < n) (hn : n < 2147483648) : stL m k n (nI i) x f = f (fs2 m k i x) := by
  unfold stL
  rw [dx_in h hn, dx_cl (by omega)]
  rfl
theorem dx_nar0 : vp_nar .boolean (nI 0) = nI 0 := by decide +kernel
theorem dx_nar1 : vp_nar .boolean (nI 1) = nI 1 := by decide +kernel
theorem dx_stB {m : fm} {k n i v : Nat} {f : fm → Option β} (h : i < n) (hn : n < 2147483648) (hv : v < 2) : stB m k n (nI i) (nI v) f = f (fs1 m k i (nI v)) := by
  unfold stB
  rw [dx_in h hn, dx_cl (by omega)]
  have e : v = 0 ∨ v = 1 := by omega
  rcases e with rfl | rfl
  · rw [dx_nar0]; rfl
  · rw [dx_nar1]; rfl
theorem dx_isB {v : Nat} (hv : v < 2) : isB (nI v) = true := by
  have e : v = 0 ∨ v = 1 := by omega
  rcases e with rfl | rfl <;> decide +kernel
theorem dx_rtB {v : Nat} {o : Option β} (hv : v < 2) : rtB (nI v) o = o := by
  unfold rtB
  rw [dx_isB hv]
  rfl
theorem dx_pfB {m : fm} {k b v : Nat} {f : fm → Option β} (hv : v < 2) : pfB m k b (nI v) f = f (fs1 m k b (nI v)) := by
  unfold pfB
  rw [dx_isB hv]
  rfl
theorem dx_cl2 {α : Type} {a : α} {m : fm} {f : α → fm → Option β} : cl2 (some (a, m)) f = f a m := rfl
theorem dx_cl1 {m : fm} {f : fm → Option β} : cl1 (some m) f = f m := rfl
theorem dx_gfI {m : fm} {k b : Nat} {f : Int32 → Option β} : gfI m k b f = f (m.1 k b) := rfl
theorem dx_pfI {m : fm} {k b : Nat} {y : Int32} {f : fm → Option β} : pfI m k b y f = f (fs1 m k b y) := rfl
theorem dx_some {K : β → Prop} {b : β} : ob (some b) K = K b := rfl
theorem ob_m {o : Option β} {K K' : β → Prop} (h : ob o K) (hk : ∀ b, K b → K' b) : ob o K' := by
  cases o with
  | none => exact h.elim
  | some b => exact hk b h
theorem ob_ex {o : Option β} {K : β → Prop} (h : ob o K) : ∃ b, o = some b ∧ K b := by
  cases o with
  | none => exact h.elim
  | some b => exact ⟨b, rfl, h⟩
theorem ob_2 {α : Type} {o : Option (α × fm)} {f : α → fm → Option β} {K : β → Prop} (h : ob o (fun r => ob (f r.1 r.2) K)) : ob (cl2 o f) K := by
  cases o with
  | none => exact h
  | some r => exact h
theorem ob_1 {o : Option fm} {f : fm → Option β} {K : β → Prop} (h : ob o (fun r => ob (f r) K)) : ob (cl1 o f) K := by
  cases o with
  | none => exact h
  | some r => exact h
theorem ob_mp {S : Type} {o : Option β} {P : S → Prop} {K : β → Prop} (h : ob o K) : ob (o.map (Sum.inr : β → S ⊕ β)) (Sum.elim P K) := by
  cases o with
  | none => exact h
  | some r => exact h
/-- a loop that counts -/
theorem wl_cnt {S : Type} {f : S → Option (S ⊕ β)} {P : β → Prop} (I : Nat → S → Prop) (N : Nat) (hs : ∀ i s, i < N → I i s → ob (f s) (Sum.elim (I (i + 1)) P)) (he : ∀ s, I N s → ob (f s) (Sum.elim (fun _ => False) P)) : ∀ (fuel i : Nat) (s : S), i ≤ N → N < i + fuel → I i s → ob (wl f fuel s) P
  | 0, i, s, h1, h2, _ => absurd h2 (by omega)
  | fuel + 1, i, s, h1, h2, h => by
    unfold wl
    by_cases hi : i < N
    · have h3 := hs i s hi h
      cases hf : f s with
      | none => rw [hf] at h3; exact h3.elim
      | some x =>
        rw [hf] at h3
        cases x with
        | inl s' => exact wl_cnt I N hs he fuel (i + 1) s' (by omega) (by omega) h3
        | inr b => exact h3
    · have e : i = N := by omega
      subst e
      have h3 := he s h
      cases hf : f s with
      | none => rw [hf] at h3; exact h3.elim
      | some x =>
        rw [hf] at h3
        cases x with
        | inl s' => exact h3.elim
        | inr b => exact h3
/-- a loop with a measure -/
theorem wl_ms {S : Type} {f : S → Option (S ⊕ β)} {P : β → Prop} (I : S → Prop) (μ : S → Nat) (hs : ∀ s, I s → ob (f s) (Sum.elim (fun s' => I s' ∧ μ s' < μ s) P)) : ∀ (fuel : Nat) (s : S), I s → μ s < fuel → ob (wl f fuel s) P
  | 0, s, _, h2 => absurd h2 (by omega)
  | fuel + 1, s, h, h2 => by
    unfold wl
    have h3 := hs s h
    cases hf : f s with
    | none => rw [hf] at h3; exact h3.elim
    | some x =>
      rw [hf] at h3
      cases x with
      | inl s' => exact wl_ms I μ hs fuel s' h3.1 (by have := h3.2; omega)
      | inr b => exact h3
theorem wl_c {S : Type} {f : S → Option (S ⊕ β)} {P : β → Prop} (I : Nat → S → Prop) (N : Nat) (hN : N < 20000) (s : S) (h0 : I 0 s) (hs : ∀ i s, i < N → I i s → ob (f s) (Sum.elim (I (i + 1)) P)) (he : ∀ s, I N s → ob (f s) (Sum.elim (fun _ => False) P)) : ob (wl f lf s) P :=
  wl_cnt I N hs he lf 0 s (Nat.zero_le _) (by rw [lf_eq]; omega) h0
theorem wl_m {S : Type} {f : S → Option (S ⊕ β)} {P : β → Prop} (I : S → Prop) (μ : S → Nat) (s : S) (h0 : I s) (hm : μ s < 20000) (hs : ∀ s, I s → ob (f s) (Sum.elim (fun s' => I s' ∧ μ s' < μ s) P)) : ob (wl f lf s) P :=
  wl_ms I μ hs lf s h0 (by rw [lf_eq]; exact hm)
end DX
theorem dx_lt {a b : Nat} (ha : a < 2147483648) (hb : b < 2147483648) : ai_c .lt (nI a) (nI b) = decide (a < b) := decide_eq_decide.mpr (nI_ltI (by omega) (by omega))
theorem dx_gt {a b : Nat} (ha : a < 2147483648) (hb : b < 2147483648) : ai_c .gt (nI a) (nI b) = decide (b < a) := decide_eq_decide.mpr (nI_ltI (by omega) (by omega))
theorem dx_ge {a b : Nat} (ha : a < 2147483648) (hb : b < 2147483648) : ai_c .ge (nI a) (nI b) = decide (b ≤ a) := decide_eq_decide.mpr (nI_leI (by omega) (by omega))
theorem dx_le {a b : Nat} (ha : a < 2147483648) (hb : b < 2147483648) : ai_c .le (nI a) (nI b) = decide (a ≤ b) := decide_eq_decide.mpr (nI_leI (by omega) (by omega))
theorem dx_eq {a b : Nat} (ha : a < 2147483648) (hb : b < 2147483648) : ai_c .eq (nI a) (nI b) = decide (a = b) := decide_eq_decide.mpr (nI_eq (by omega) (by omega))
theorem dx_ne {a b : Nat} (ha : a < 2147483648) (hb : b < 2147483648) : ai_c .ne (nI a) (nI b) = decide (¬ a = b) := decide_eq_decide.mpr (not_congr (nI_eq (by omega) (by omega)))
theorem dx_de {a b : Nat} (ha : a < 2147483648) (hb : b < 2147483648) : (nI a = nI b) = (a = b) := propext (nI_eq (by omega) (by omega))
theorem dx_z : (0 : Int32) = nI 0 := nI_0.symm
theorem dx_lt0 {a : Nat} (ha : a < 2147483648) : ai_c .lt (nI a) 0 = false := by rw [dx_z, dx_lt ha (by omega)]; exact decide_eq_false (by omega)
theorem dx_ge0 {a : Nat} (ha : a < 2147483648) : ai_c .ge (nI a) 0 = true := by rw [dx_z, dx_ge ha (by omega)]; exact decide_eq_true (by omega)
theorem dx_eq0 {a : Nat} (ha : a < 2147483648) : ai_c .eq (nI a) 0 = decide (a = 0) := by rw [dx_z, dx_eq ha (by omega)]
theorem dx_ne0 {a : Nat} (ha : a < 2147483648) : ai_c .ne (nI a) 0 = decide (¬ a = 0) := by rw [dx_z, dx_ne ha (by omega)]
theorem dx_leq {x y : Int64} : ai_c .eq (lg_cmp x y) 0 = decide (x = y) := decide_eq_decide.mpr (lg_cmp_eq x y)
theorem dx_lne {x y : Int64} : ai_c .ne (lg_cmp x y) 0 = decide (¬ x = y) := decide_eq_decide.mpr (not_congr (lg_cmp_eq x y))
theorem dx_lge {x y : Int64} : ai_c .ge (lg_cmp x y) 0 = decide (y ≤ x) := decide_eq_decide.mpr (lg_cmp_ge x y)
theorem dx_ceq {x y : Int32} : ai_c .eq x y = decide (x = y) := rfl
theorem dx_cne {x y : Int32} : ai_c .ne x y = decide (¬ x = y) := rfl
theorem dx_cif {α : Type} {p : Prop} [Decidable p] {a b : α} : (bif decide p then a else b) = if p then a else b := by
  by_cases h : p
  · rw [decide_eq_true h, if_pos h]; rfl
  · rw [decide_eq_false h, if_neg h]; rfl
theorem dx_m1 {p : Nat} : nI (p + 1) + (-1) = nI p := by
  have e : nI (p + 1) = nI p + 1 := nI_succ p
  rw [e, Int32.add_assoc]
  exact Int32.add_zero _
theorem dx_m0 : nI 0 + (-1) = -1 := by decide +kernel
theorem dx_ltm : ai_c .lt (-1) 0 = true := by decide +kernel
/-- an int is one of the first n, or it isn't -/
theorem dx_of {x : Int32} {n : Nat} (hn : n < 2147483648) : (∃ j, j < n ∧ x = nI j) ∨ (x < 0 ∨ nI n ≤ x) := by
  by_cases h : x < 0
  · exact Or.inr (Or.inl h)
  · obtain ⟨j, hj, e⟩ := nI_of h
    by_cases h2 : j < n
    · exact Or.inl ⟨j, h2, e⟩
    · refine Or.inr (Or.inr ?_)
      rw [e]
      exact (nI_leI (by omega) (by omega)).mpr (by omega)
