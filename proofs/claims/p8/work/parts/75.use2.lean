def clo (P : Nat → cod) (N : Nat → Nat) (W : Nat → Bool) : Prop := ∀ j t, j < 8 → t < 8 → W j = true → hit (P j) (N j) 9 t = true → W t = true
def LU (R : Nat → Bool) (P : Nat → cod) (N : Nat → Nat) (U : Nat → Bool) : Prop := (∀ j, j < 8 → R j = true → U j = true) ∧ clo P N U ∧ (∀ W, (∀ j, j < 8 → R j = true → W j = true) → clo P N W → ∀ j, j < 8 → U j = true → W j = true)
def FL (P : Nat → cod) (N : Nat → Nat) (U : Nat → Bool) (k f : Nat) : Bool := anyp (fun j => U j && hit (P j) (N j) k f) 8
theorem LU_uniq {R U U' : Nat → Bool} {P : Nat → cod} {N : Nat → Nat} (h : LU R P N U) (h' : LU R P N U') {j : Nat} (hj : j < 8) : U j = U' j := by
  rw [Bool.eq_iff_iff]
  exact ⟨h.2.2 U' h'.1 h'.2.1 j hj, h'.2.2 U h.1 h.2.1 j hj⟩
theorem FL_e {U U' : Nat → Bool} {P : Nat → cod} {N : Nat → Nat} {k f : Nat} (h : ∀ j, j < 8 → U j = U' j) : FL P N U k f = FL P N U' k f := anyp_e (fun i hi => by rw [h i hi])
theorem bt2 (z : Bool) : z.toNat < 2 := by cases z <;> decide
section U2
variable {m : fm} {R : Nat → Bool} {N : Nat → Nat} {P : Nat → cod}
/-- what holds between visits -/
def UI (R : Nat → Bool) (P : Nat → cod) (N : Nat → Nat) (u v : Nat → Bool) : Prop := (∀ j, j < 8 → R j = true → u j = true) ∧ (∀ W, (∀ j, j < 8 → R j = true → W j = true) → clo P N W → ∀ j, j < 8 → u j = true → W j = true) ∧ (∀ j, j < 8 → v j = true → u j = true) ∧ (∀ j t, j < 8 → t < 8 → v j = true → hit (P j) (N j) 9 t = true → u t = true)
theorem UI_end {u v : Nat → Bool} (h : UI R P N u v) (hv : ∀ j, j < 8 → u j = true → v j = true) : LU R P N u ∧ ∀ j, j < 8 → v j = u j := by
  refine ⟨⟨h.1, fun j t hj ht hu hh => h.2.2.2 j t hj ht (hv j hj hu) hh, h.2.1⟩, fun j hj => ?_⟩
  rw [Bool.eq_iff_iff]
  exact ⟨h.2.2.1 j hj, hv j hj⟩
theorem UI_up {u v : Nat → Bool} (h : UI R P N u v) {j : Nat} (hj : j < 8) (hu : u j = true) : UI R P N (orB u (fun f => hit (P j) (N j) 9 f)) (upB v j) := by
  obtain ⟨h1, h2, h3, h4⟩ := h
  have mono : ∀ i, u i = true → orB u (fun f => hit (P j) (N j) 9 f) i = true := fun i hi => by
    show (u i || _) = true
    rw [hi]; rfl
  refine ⟨fun i hi hr => mono i (h1 i hi hr), fun W hW hc i hi hh => ?_, fun i hi hv => ?_, fun i t hi ht hv hh => ?_⟩
  · rcases Bool.or_eq_true_iff.mp hh with hh | hh
    · exact h2 W hW hc i hi hh
    · exact hc j i hj hi (h2 W hW hc j hj hu) hh
  · by_cases e : i = j
    · subst e; exact mono i hu
    · rw [upB_n e] at hv; exact mono i (h3 i hi hv)
  · by_cases e : i = j
    · subst e
      show (u t || hit (P i) (N i) 9 t) = true
      rw [hh, Bool.or_true]
    · rw [upB_n e] at hv; exact mono t (h4 i t hi ht hv hh)
def UE (m m' : fm) (R : Nat → Bool) (P : Nat → cod) (N : Nat → Nat) : Prop := FU m m' ∧ hz5 m' ∧ ∃ U, LU R P N U ∧ (∀ j, j < 8 → m'.1 9 j = bI (U j)) ∧ ∀ f, f < 4 → m'.1 11 f = nI (w2 (FL P N U 7 f) (FL P N U 8 f))
theorem UE_of {mi : fm} {u v : Nat → Bool} (hF : FU m mi) (hz : hz5 mi) (hU : US mi u v (fun f => FL P N v 7 f) (fun f => FL P N v 8 f)) (hI : UI R P N u v) (hv : ∀ j, j < 8 → u j = true → v j = true) : UE m mi R P N := by
  obtain ⟨h1, h2⟩ := UI_end hI hv
  refine ⟨hF, hz, u, h1, hU.1, fun f hf => ?_⟩
  rw [hU.2.2 f hf]
  show nI (w2 (FL P N v 7 f) (FL P N v 8 f)) = _
  rw [FL_e h2, FL_e h2]
theorem g63_61_s (hC : ALLC m N P) (hW : ALLW N P) (hz : hz5 m) (hU : US m R (fun _ => false) (fun _ => false) (fun _ => false)) : ob (g63_61 (nI 0) m) (fun m' => UE m m' R P N) := by
  have hF0 : ∀ k f, FL P N (fun _ => false) k f = false := fun k f => by
    cases h : FL P N (fun _ => false) k f with
    | false => rfl
    | true =>
      obtain ⟨i, -, h2⟩ := anyp_t.mp h
      exact absurd (Bool.and_eq_true_iff.mp h2).1 Bool.false_ne_true
  unfold g63_61
  refine wl_c (f := fun s : Int32 × fm => s63_61 s.1 s.2) (fun i s => ∃ mi u v, s = (nI i, mi) ∧ FU m mi ∧ hz5 mi ∧ US mi u v (fun f => FL P N v 7 f) (fun f => FL P N v 8 f) ∧ UI R P N u v ∧ cntv v 8 = i) 8 (by omega) (nI 0, m) ⟨m, R, fun _ => false, rfl, FU_r m, hz, ⟨hU.1, hU.2.1, fun f hf => by show _ = nI (w2 (FL P N (fun _ => false) 7 f) (FL P N (fun _ => false) 8 f)); rw [hF0, hF0]; exact hU.2.2 f hf⟩, ⟨fun _ _ h => h, fun W hW _ => hW, (fun _ _ h => absurd h Bool.false_ne_true), (fun _ _ _ _ h => absurd h Bool.false_ne_true)⟩, by decide +kernel⟩ (fun i s hi hss => ?_) (fun s hss => ?_)
  · obtain ⟨mi, u, v, rfl, hF, hzi, hUi, hI, hcn⟩ := hss
    show ob (s63_61 (nI i) mi) _
    unfold s63_61
    rw [dx_ge (by omega) (by omega), decide_eq_false (by omega), cond_false]
    refine ob_2 (ob_m (g64_s hUi) (fun r hr => ?_))
    obtain ⟨rv, rm⟩ := r
    obtain ⟨rfl, hr⟩ := hr
    rcases hr with ⟨j, hj, rfl, huj, hvj⟩ | ⟨rfl, hall⟩
    · have en : ai_c .ne (nI j) (-1) = true := by
        have e : j = 0 ∨ j = 1 ∨ j = 2 ∨ j = 3 ∨ j = 4 ∨ j = 5 ∨ j = 6 ∨ j = 7 := by omega
        rcases e with rfl | rfl | rfl | rfl | rfl | rfl | rfl | rfl <;> decide +kernel
      show ob (bif ai_c .ne (nI j) (-1) then _ else _) _
      rw [en, cond_true, dx_stB hj (by omega) (by omega), dx_ldA hj]
      have f3 : FU rm (fs1 rm 10 j (nI 1)) := ⟨fun k _ h _ => fs1_k h, fun _ _ _ => rfl⟩
      have hC3 := ALLC_f (ALLC_f hC hF) f3
      obtain ⟨B, hB⟩ := g25_s (hC3 j hj) (hW j hj) hzi
      rw [hB, dx_cl1, dx_ldA hj]
      have f5 : FU (fs1 rm 10 j (nI 1)) (sr2 (sr2 (fs1 rm 10 j (nI 1)) 5 (FV (P j) (N j))) 7 B) := ⟨fun _ _ _ _ => rfl, fun k h1 h2 => by rw [sr2_n h2, sr2_n h1]⟩
      have hC5 := ALLC_f hC3 f5
      have e5 : (sr2 (sr2 (fs1 rm 10 j (nI 1)) 5 (FV (P j) (N j))) 7 B).2 5 = FV (P j) (N j) := by rw [sr2_n (by omega), sr2_s]
      have hU5 : US (sr2 (sr2 (fs1 rm 10 j (nI 1)) 5 (FV (P j) (N j))) 7 B) u (upB v j) (fun f => FL P N v 7 f) (fun f => FL P N v 8 f) := by
        refine ⟨fun q hq => ?_, fun q hq => ?_, fun f hf => ?_⟩
        · show (fs1 rm 10 j (nI 1)).1 9 q = _
          rw [fs1_k (by omega)]; exact hUi.1 q hq
        · show (fs1 rm 10 j (nI 1)).1 10 q = _
          by_cases e : q = j
          · subst e; rw [fs1_at, upB_s]; rfl
          · rw [fs1_i e, upB_n e]; exact hUi.2.1 q hq
        · show (fs1 rm 10 j (nI 1)).1 11 f = _
          rw [fs1_k (by omega)]; exact hUi.2.2 f hf
      refine ob_1 (ob_m (g65_s (hC5 j hj) (hW j hj) (by omega) e5 hU5) (fun m' hm => ?_))
      obtain ⟨a1, a2, a3⟩ := hm
      rw [nI_add]
      refine ⟨m', _, upB v j, rfl, FU_t hF (FU_t f3 (FU_t f5 a1)), ?_, ?_, UI_up hI hj huj, ?_⟩
      · intro q hq
        rw [a2, e5]
        exact FV_hi (hW j hj).1 hq
      · have e7 : ∀ k, orB (fun f => FL P N v k f) (fun f => hit (P j) (N j) k f) = fun f => FL P N (upB v j) k f := fun k => funext fun f => (anyp_up (h := fun i => hit (P i) (N i) k f) hj).symm
        rw [e7, e7] at a3
        exact a3
      · rw [cntv_up v hvj, if_pos hj, hcn]
    · show ob (bif ai_c .ne (-1) (-1) then _ else _) _
      rw [show ai_c .ne (-1) (-1) = false by decide +kernel, cond_false]
      exact UE_of hF hzi hUi hI hall
  · obtain ⟨mi, u, v, rfl, hF, hzi, hUi, hI, hcn⟩ := hss
    show ob (s63_61 (nI 8) mi) _
    unfold s63_61
    rw [dx_ge (by omega) (by omega), decide_eq_true (by omega), cond_true]
    exact UE_of hF hzi hUi hI (fun j hj _ => cntv_all v 8 hcn j hj)
theorem g63_s (hC : ALLC m N P) (hW : ALLW N P) (hz : hz5 m) (hR : ∀ j, j < 8 → m.1 3 j = bI (R j)) : ob (g63 m) (fun m' => UE m m' R P N) := by
  have h38 : ∀ m1, FU m m1 → m1.2 = m.2 → (∀ j, j < 8 → m1.1 9 j = bI (R j)) → (∀ j, j < 8 → m1.1 10 j = bI false) → ob (g63_38 (nI 0) m1) (fun m' => UE m m' R P N) := by
    intro m1 hF1 h21 h9 h10
    unfold g63_38
    refine wl_c (f := fun s : Int32 × fm => s63_38 s.1 s.2) (fun i s => ∃ mi, s = (nI i, mi) ∧ FU m mi ∧ mi.2 = m.2 ∧ (∀ j, j < 8 → mi.1 9 j = bI (R j)) ∧ (∀ j, j < 8 → mi.1 10 j = bI false) ∧ ∀ f, f < i → mi.1 11 f = nI 0) 4 (by omega) (nI 0, m1) ⟨m1, rfl, hF1, h21, h9, h10, fun f hf => absurd hf (by omega)⟩ (fun i s hi hss => ?_) (fun s hss => ?_)
    · obtain ⟨mi, rfl, hF, h2, a9, a10, hf⟩ := hss
      show ob (s63_38 (nI i) mi) _
      unfold s63_38
      rw [dx_ge (by omega) (by omega), decide_eq_false (by omega), cond_false, dx_stI hi (by omega), nI_add]
      refine ⟨_, rfl, FU_t hF ⟨fun k _ _ h => fs1_k h, fun _ _ _ => rfl⟩, h2, fun j hj => by rw [fs1_k (by omega)]; exact a9 j hj, fun j hj => by rw [fs1_k (by omega)]; exact a10 j hj, fun f hfi => ?_⟩
      by_cases e : f = i
      · subst e; exact fs1_at
      · rw [fs1_i e]; exact hf f (by omega)
    · obtain ⟨mi, rfl, hF, h2, a9, a10, hf⟩ := hss
      show ob (s63_38 (nI 4) mi) _
      unfold s63_38
      rw [dx_ge (by omega) (by omega), decide_eq_true (by omega), cond_true]
      refine ob_mp (ob_m (g63_61_s (R := R) (ALLC_f hC hF) hW (fun i hi => by rw [h2]; exact hz i hi) ⟨a9, a10, hf⟩) (fun m' hm => ⟨FU_t hF hm.1, hm.2⟩))
  unfold g63 g63_3
  refine wl_c (f := fun s : Int32 × fm => s63_3 s.1 s.2) (fun i s => ∃ mi, s = (nI i, mi) ∧ FU m mi ∧ mi.2 = m.2 ∧ (∀ j, j < i → mi.1 9 j = bI (R j)) ∧ (∀ j, j < i → mi.1 10 j = bI false)) 8 (by omega) (nI 0, m) ⟨m, rfl, FU_r m, rfl, fun j hj => absurd hj (by omega), fun j hj => absurd hj (by omega)⟩ (fun i s hi hss => ?_) (fun s hss => ?_)
  · obtain ⟨mi, rfl, hF, h2, a9, a10⟩ := hss
    show ob (s63_3 (nI i) mi) _
    unfold s63_3
    rw [dx_ge (by omega) (by omega), decide_eq_false (by omega), cond_false, dx_ldI hi (by omega), hF.1 3 (by omega) (by omega) (by omega), hR i hi]
    show ob (stB mi 9 8 (nI i) (nI (R i).toNat) _) _
    rw [dx_stB hi (by omega) (bt2 _), dx_stB hi (by omega) (by omega), nI_add]
    refine ⟨_, rfl, FU_t hF ⟨fun k h1 h2 _ => by rw [fs1_k h2, fs1_k h1], fun _ _ _ => rfl⟩, h2, fun j hj => ?_, fun j hj => ?_⟩
    · rw [fs1_k (by omega)]
      by_cases e : j = i
      · subst e; exact fs1_at
      · rw [fs1_i e]; exact a9 j (by omega)
    · by_cases e : j = i
      · subst e; exact fs1_at
      · rw [fs1_i e, fs1_k (by omega)]; exact a10 j (by omega)
  · obtain ⟨mi, rfl, hF, h2, a9, a10⟩ := hss
    show ob (s63_3 (nI 8) mi) _
    unfold s63_3
    rw [dx_ge (by omega) (by omega), decide_eq_true (by omega), cond_true]
    exact ob_mp (h38 mi hF h2 a9 a10)
end U2
