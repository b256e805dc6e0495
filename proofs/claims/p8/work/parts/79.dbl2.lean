theorem dx_cif_t {α : Type} {c : Bool} {a b : α} : (bif c then a else bif !false then a else b) = a := by cases c <;> rfl
def nb (k : Nat) : Nat := [120, 110, 111, 111, 111, 113, 300, 140, 140, 150, 100, 100, 100].getD k 0
section D2
variable {m : fm} {n p q k : Nat} {I J : cod} {N : Nat → Nat} {P : Nat → cod}
theorem g99_s (hk : k < 13) : g99 (nI k) m = some (nI (nb k), m) := by
  rcases k13 hk with h | h | h | h | h | h | h | h | h | h | h | h | h <;> subst h <;> rfl
theorem nb_0 : ∀ k, k < 13 → nI (nb k) / nI 100 = nI (nb k / 100) ∧ nb k / 100 < 10 ∧ (nb k / 100 = 1 ↔ rg k 1 = true) := by decide +kernel
theorem nb_1 : ∀ k, k < 13 → nI (nb k) / nI 10 = nI (nb k / 10) ∧ nI (nb k / 10) - nI (nb k / 10) / nI 10 * nI 10 = nI (nb k / 10 % 10) ∧ nb k / 10 % 10 < 10 ∧ (nb k / 10 % 10 = 1 ↔ rg k 2 = true) := by decide +kernel
theorem nb_2 : ∀ k, k < 13 → nI (nb k) - nI (nb k) / nI 10 * nI 10 = nI (nb k % 10) ∧ nb k % 10 < 10 ∧ (nb k % 10 = 1 ↔ rg k 3 = true) := by decide +kernel
theorem g100_s (hk : k < 13) (hq : q < 3) : ∃ x : Nat, x < 10 ∧ g100 (nI k) (nI q) m = some (nI x, m) ∧ (x = 1 ↔ rg k (q + 1) = true) := by
  have e : q = 0 ∨ q = 1 ∨ q = 2 := by omega
  have n10 : ¬ nI 10 = 0 := by decide +kernel
  have n100 : ¬ nI 100 = 0 := by decide +kernel
  unfold g100
  rw [g99_s hk, dx_cl2]
  rcases e with rfl | rfl | rfl
  · obtain ⟨h1, h2, h3⟩ := nb_0 k hk
    refine ⟨nb k / 100, h2, ?_, h3⟩
    rw [show ai_c .ne (nI 0) 0 = false by decide +kernel, cond_false]
    unfold dvI
    rw [if_neg n100, h1]
  · obtain ⟨h1, h2, h3, h4⟩ := nb_1 k hk
    refine ⟨nb k / 10 % 10, h3, ?_, h4⟩
    rw [show ai_c .ne (nI 1) 0 = true by decide +kernel, cond_true, show ai_c .ne (nI 1) (nI 1) = false by decide +kernel, cond_false]
    unfold dvI rmI
    rw [if_neg n10, h1]
    show (if nI 10 = 0 then none else some (nI (nb k / 10) - nI (nb k / 10) / nI 10 * nI 10, m)) = _
    rw [if_neg n10, h2]
  · obtain ⟨h1, h2, h3⟩ := nb_2 k hk
    refine ⟨nb k % 10, h2, ?_, h3⟩
    rw [show ai_c .ne (nI 2) 0 = true by decide +kernel, cond_true, show ai_c .ne (nI 2) (nI 1) = true by decide +kernel, cond_true]
    unfold rmI
    rw [if_neg n10, h1]
theorem g126_s {o : Nat} (hr : RR m o n I) (hn : n ≤ 24) (hp : p < n) (hq : q < 3) : g126 (nI (24 * o + p)) (nI q) m = some (cv I p (q + 1), m) := by
  have hi := ix_o hr.1 (show p < 24 by omega)
  obtain ⟨-, ea, eb, ec⟩ := hr.2.2 p hp
  have e : q = 0 ∨ q = 1 ∨ q = 2 := by omega
  unfold g126
  rw [dx_ldI hi (by omega), dx_ldI hi (by omega), dx_ldI hi (by omega), ea, eb, ec]
  rcases e with rfl | rfl | rfl <;> rfl
def fs (I : cod) (n : Nat) : Nat := if fo I n = 0 then 2 else fo I n
theorem g127_s {o : Nat} (ho : o < 8) (hr : RR m o n I) (hw : WF n I) : g127 (nI o) m = some (nI (fs I n), m) := by
  have hn := hw.1
  have inner : ∀ p, p < n → fo I p = 0 → ob (g127_22 (nI o) (nI p) (nI (24 * o + p)) (nI 0) m) (fun z => (f3 I p 3 = 0 ∧ z = .inl (nI (p + 1), m)) ∨ (¬ f3 I p 3 = 0 ∧ z = .inr (nI (f3 I p 3), m))) := by
    intro p hp _
    unfold g127_22
    refine wl_c (f := fun s : Int32 × fm => s127_22 (nI o) (nI p) (nI (24 * o + p)) s.1 s.2) (fun i s => s = (nI i, m) ∧ f3 I p i = 0) 3 (by omega) (nI 0, m) ⟨rfl, rfl⟩ (fun i s hi hss => ?_) (fun s hss => ?_)
    · obtain ⟨rfl, h0⟩ := hss
      have hk := WF_k hw hp
      have hi' := ix_o hr.1 (show p < 24 by omega)
      obtain ⟨x, hx, hg, hxr⟩ := g100_s (m := m) hk hi
      show ob (s127_22 (nI o) (nI p) (nI (24 * o + p)) (nI i) m) _
      unfold s127_22
      rw [dx_ge (by omega) (by omega), decide_eq_false (by omega), cond_false, dx_ldI hi' (by omega), (hr.2.2 p hp).1, hg, dx_cl2, dx_ne (by omega) (by omega), g126_s hr hn hp hi, dx_cl2, nI_add]
      have e1 := f3_1 (I := I) (p := p) (q := i)
      rw [if_neg (by rw [h0]; exact fun z => z rfl)] at e1
      by_cases h1 : x = 1
      · have hreg := hxr.mp h1
        obtain ⟨v1, v2⟩ := rv_s hw hp (show i + 1 < 4 by omega) (by omega) hreg
        rw [decide_eq_false (fun z => z h1), cond_false, v1, dx_le (by omega) (by omega)]
        by_cases h2 : rv I p (i + 1) ≤ 1
        · rw [decide_eq_true h2, cond_true]
          rw [if_neg (fun z => by omega)] at e1
          exact ⟨rfl, e1⟩
        · rw [decide_eq_false h2, cond_false, g126_s hr hn hp hi, dx_cl2, v1]
          rw [if_pos ⟨hreg, by omega⟩] at e1
          have e3 : f3 I p 3 = rv I p (i + 1) := by
            have := f3_le (I := I) (p := p) (q := i + 1) (by rw [e1]; omega) (3 - (i + 1))
            rw [show i + 1 + (3 - (i + 1)) = 3 by omega] at this
            rw [this, e1]
          exact Or.inr ⟨by omega, by rw [e3]⟩
      · rw [decide_eq_true h1, cond_true]
        rw [if_neg (fun z => h1 (hxr.mpr z.1))] at e1
        exact ⟨rfl, e1⟩
    · obtain ⟨rfl, h0⟩ := hss
      show ob (s127_22 (nI o) (nI p) (nI (24 * o + p)) (nI 3) m) _
      unfold s127_22
      rw [dx_ge (by omega) (by omega), decide_eq_true (by omega), cond_true, nI_add]
      exact Or.inl ⟨h0, rfl⟩
  have h : ob (g127 (nI o) m) (fun r => r = (nI (fs I n), m)) := by
    unfold g127 g127_2 fs
    refine wl_c (f := fun s : Int32 × fm => s127_2 (nI o) s.1 s.2) (fun i s => s = (nI i, m) ∧ fo I i = 0) n (by omega) (nI 0, m) ⟨rfl, rfl⟩ (fun i s hi hss => ?_) (fun s hss => ?_)
    · obtain ⟨rfl, h0⟩ := hss
      show ob (s127_2 (nI o) (nI i) m) _
      unfold s127_2 g98
      rw [dx_ldI (by omega) (by omega), hr.2.1, dx_ge (by omega) (by omega), decide_eq_false (by omega), cond_false, dx_cl2, pk_mul, nI_add, pk_mul, nI_add, show 24 * (8 * 0 + o) + i = 24 * o + i by omega]
      refine ob_m (inner i hi h0) (fun z hz => ?_)
      have e1 := fo_1 (I := I) (p := i)
      rw [if_neg (by rw [h0]; exact fun z => z rfl)] at e1
      rcases hz with ⟨a, rfl⟩ | ⟨a, rfl⟩
      · exact ⟨rfl, by rw [e1]; exact a⟩
      · have := fo_le (I := I) (p := i + 1) (by rw [e1]; exact a) (n - (i + 1))
        rw [show i + 1 + (n - (i + 1)) = n by omega] at this
        show _ = _
        rw [this, e1, if_neg a]
    · obtain ⟨rfl, h0⟩ := hss
      show ob (s127_2 (nI o) (nI n) m) _
      unfold s127_2
      rw [dx_ldI (by omega) (by omega), hr.2.1, dx_ge (by omega) (by omega), decide_eq_true (Nat.le_refl _), cond_true]
      show _ = _
      rw [h0]; rfl
  obtain ⟨b, h1, h2⟩ := ob_ex h
  rw [h1, h2]
def rn (r f : Nat) : Nat := if r < 2 then r else if r = f then 2 else 3
theorem rn_4 {r f : Nat} (h : r < 4) : rn r f < 4 := by unfold rn; split; omega; split <;> omega
theorem g128_s {r f : Nat} (hr : r < 4) (hf : f < 4) : g128 (nI r) (nI f) m = some (nI (rn r f), m) := by
  unfold g128 rn
  rw [dx_ge (by omega) (by omega), dx_ne (by omega) (by omega), dx_cif, dx_cif]
  by_cases h : r < 2
  · rw [if_neg (by omega), if_pos h]
  · rw [if_pos (by omega), if_neg h]
    by_cases e : r = f
    · rw [if_neg (fun z => z e), if_pos e]
    · rw [if_pos e, if_neg e]
theorem rn_e1 : ∀ v, v < 4 → ∀ w, w < 4 → ∀ f, f < 2 → ∀ g, g < 2 → decide (rn w (f + 2) = rn v (g + 2)) = decide ((if ((decide (g + 2 = 3) != decide (f + 2 = 3)) && !(decide (v < 2))) = true then 5 - v else v) = w) := by decide +kernel
theorem rn_e0 (v : Nat) (hv : v < 4) (w : Nat) (hw : w < 4) (f : Nat) (hf : f < 4) (hf2 : 2 ≤ f) (g : Nat) (hg : g < 4) (hg2 : 2 ≤ g) : decide (rn w f = rn v g) = decide ((if ((decide (g = 3) != decide (f = 3)) && !(decide (v < 2))) = true then 5 - v else v) = w) := by
  have := rn_e1 v hv w hw (f - 2) (by omega) (g - 2) (by omega)
  rw [show f - 2 + 2 = f by omega, show g - 2 + 2 = g by omega] at this
  exact this
theorem pq_r {s : Bool} {f g : Nat} (hi : cv I p q = nI (rv I p q) ∧ rv I p q < 4) (hj : cv J p q = nI (rv J p q) ∧ rv J p q < 4) (hr : rg (kd I p) q = true) (hf : f = 2 ∨ f = 3) (hg : g = 2 ∨ g = 3) (hs : s = (decide (g = 3) != decide (f = 3))) : pq I J s p q = decide (rn (rv J p q) f = rn (rv I p q) g) := by
  unfold pq
  have hl : ai_c .lt (nI (rv I p q)) (nI 2) = decide (rv I p q < 2) := dx_lt (by omega) (by omega)
  rw [rn_e0 _ hi.2 _ hj.2 f (by omega) (by omega) g (by omega) (by omega), hr, Bool.and_true, hi.1, hj.1, hl, ← hs]
  by_cases h : (s && !(decide (rv I p q < 2))) = true
  · rw [if_pos h, if_pos h, dx_sub (by omega)]
    exact decide_eq_decide.mpr (by rw [dx_de (by omega) (by omega)])
  · rw [if_neg h, if_neg h]
    exact decide_eq_decide.mpr (by rw [dx_de (by omega) (by omega)])
theorem pq_n {s : Bool} (hr : rg (kd I p) q = false) : pq I J s p q = decide (cv I p q = cv J p q) := by
  unfold pq
  rw [hr, Bool.and_false, if_neg Bool.false_ne_true]
theorem fs_23 (hw : WF n I) : fs I n = 2 ∨ fs I n = 3 := by
  unfold fs
  rcases fo_23 hw n (Nat.le_refl n) with h | h | h <;> rw [h] <;> decide
theorem fs_3 (hw : WF n I) : decide (fs I n = 3) = t3 I n := by
  unfold t3 fs
  rcases fo_23 hw n (Nat.le_refl n) with h | h | h <;> rw [h] <;> rfl
set_option maxHeartbeats 1000000 in
theorem g129_s {a b : Nat} (ha : a < 8) (hb : b < 8) (hR : ALLR m N P) (hW : ALLW N P) : g129 (nI a) (nI b) m = some (bI (LK (P b) (N b) (P a) (N a)), m) := by
  have wa := hW a ha
  have wb := hW b hb
  have hra := hR a ha
  have hrb := hR b hb
  have hna := wa.1
  have hnb := wb.1
  unfold g129
  rw [g127_s ha hra wa, dx_cl2, g127_s hb hrb wb, dx_cl2, dx_ldI (by omega) (by omega), dx_ldI (by omega) (by omega), hra.2.1, hrb.2.1, dx_ne (by omega) (by omega)]
  have fa := fs_23 wa
  have fb := fs_23 wb
  by_cases en : N a = N b
  · rw [decide_eq_false (fun z => z en), cond_false]
    unfold LK
    rw [decide_eq_true en.symm, Bool.true_and, ← fs_3 wa, ← fs_3 wb]
    generalize hS : (decide (fs (P b) (N b) = 3) != decide (fs (P a) (N a) = 3)) = S
    have inner : ∀ p, p < N a → kd (P b) p = kd (P a) p → ob (g129_99 (nI a) (nI b) (nI (fs (P a) (N a))) (nI (fs (P b) (N b))) (nI 1) (nI p) (nI (24 * a + p)) (nI (24 * b + p)) (nI 0) m) (fun z => z = .inl (bI (p3 (P b) (P a) S p 3), nI (p + 1), m)) := by
      intro p hp hk0
      have hka := WF_k wa hp
      unfold g129_99
      refine wl_c (f := fun s : Int32 × Int32 × fm => s129_99 (nI a) (nI b) (nI (fs (P a) (N a))) (nI (fs (P b) (N b))) s.1 (nI p) (nI (24 * a + p)) (nI (24 * b + p)) s.2.1 s.2.2) (fun i s => s = (bI (p3 (P b) (P a) S p i), nI i, m)) 3 (by omega) (nI 1, nI 0, m) (by show _ = (bI (decide (kd (P b) p = kd (P a) p)), nI 0, m); rw [decide_eq_true hk0]; rfl) (fun i s hi hss => ?_) (fun s hss => ?_)
      · subst hss
        obtain ⟨x, hx, hg, hxr⟩ := g100_s (m := m) hka hi
        have hi' := ix_o hra.1 (show p < 24 by omega)
        show ob (s129_99 _ _ _ _ _ (nI p) (nI (24 * a + p)) (nI (24 * b + p)) (nI i) m) _
        unfold s129_99
        rw [dx_ge (by omega) (by omega), decide_eq_false (by omega), cond_false, bI_eq, nI_add]
        cases h0 : p3 (P b) (P a) S p i with
        | false =>
          rw [Bool.not_false, cond_true]
          show _ = _
          have := p3_le h0 (3 - i)
          rw [show i + (3 - i) = 3 by omega] at this
          rw [this]
        | true =>
          have e1 := p3_1 (I := P b) (J := P a) (s := S) (p := p) (q := i)
          rw [h0, Bool.true_and] at e1
          rw [Bool.not_true, cond_false, dx_ldI hi' (by omega), (hra.2.2 p hp).1, hg, dx_cl2, dx_ne (by omega) (by omega)]
          unfold g129_131
          by_cases h1 : x = 1
          · have hrega := hxr.mp h1
            have hregb : rg (kd (P b) p) (i + 1) = true := by rw [hk0]; exact hrega
            have va := rv_s wa hp (show i + 1 < 4 by omega) (by omega) hrega
            have vb := rv_s wb (show p < N b by omega) (show i + 1 < 4 by omega) (by omega) hregb
            have r1 := rn_4 (f := fs (P a) (N a)) va.2
            have r2 := rn_4 (f := fs (P b) (N b)) vb.2
            rw [pq_r vb va hregb fa fb hS.symm] at e1
            rw [decide_eq_false (fun z => z h1), cond_false, show ai_c .eq (nI 1) 0 = false by decide +kernel, cond_false, g126_s hra hna hp hi, dx_cl2, va.1, g128_s va.2 (by omega), dx_cl2, g126_s hrb hnb (by omega) hi, dx_cl2, vb.1, g128_s vb.2 (by omega), dx_cl2, dx_ne (by omega) (by omega), nI_add]
            by_cases e : rn (rv (P a) p (i + 1)) (fs (P a) (N a)) = rn (rv (P b) p (i + 1)) (fs (P b) (N b))
            · rw [decide_eq_false (fun z => z e), cond_false]
              show _ = _
              rw [e1, decide_eq_true e]; rfl
            · rw [decide_eq_true e, cond_true]
              show _ = _
              rw [e1, decide_eq_false e]; rfl
          · have hregb : rg (kd (P b) p) (i + 1) = false := by
              rw [hk0]
              cases h : rg (kd (P a) p) (i + 1) with
              | false => rfl
              | true => exact absurd (hxr.mpr h) h1
            rw [pq_n hregb] at e1
            rw [decide_eq_true h1, cond_true, show ai_c .eq (nI 0) 0 = true by decide +kernel, cond_true, g126_s hra hna hp hi, dx_cl2, g126_s hrb hnb (by omega) hi, dx_cl2, nI_add, dx_cne]
            by_cases e : cv (P a) p (i + 1) = cv (P b) p (i + 1)
            · rw [decide_eq_false (fun z => z e), cond_false]
              show _ = _
              rw [e1, decide_eq_true e.symm]; rfl
            · rw [decide_eq_true e, cond_true]
              show _ = _
              rw [e1, decide_eq_false (fun z => e z.symm)]; rfl
      · subst hss
        show ob (s129_99 _ _ _ _ _ (nI p) (nI (24 * a + p)) (nI (24 * b + p)) (nI 3) m) _
        unfold s129_99
        rw [dx_ge (by omega) (by omega), decide_eq_true (by omega), cond_true, nI_add]
        rfl
    have h : ob (g129_38 (nI a) (nI b) (nI (fs (P a) (N a))) (nI (fs (P b) (N b))) (nI 1) (nI 0) m) (fun r => r = (bI (al (P b) (P a) S (N b)), m)) := by
      unfold g129_38
      refine wl_c (f := fun s : Int32 × Int32 × fm => s129_38 (nI a) (nI b) (nI (fs (P a) (N a))) (nI (fs (P b) (N b))) s.1 s.2.1 s.2.2) (fun i s => s = (bI (al (P b) (P a) S i), nI i, m)) (N a) (by omega) (nI 1, nI 0, m) rfl (fun i s hi hss => ?_) (fun s hss => ?_)
      · subst hss
        show ob (s129_38 _ _ _ _ _ (nI i) m) _
        unfold s129_38 g98
        have hia := ix_o hra.1 (show i < 24 by omega)
        have hib := ix_o hrb.1 (show i < 24 by omega)
        have hka := WF_k wa hi
        have hkb := WF_k wb (show i < N b by omega)
        rw [dx_ldI (by omega) (by omega), hra.2.1, dx_ge (by omega) (by omega), decide_eq_false (by omega), cond_false, bI_eq]
        cases h0 : al (P b) (P a) S i with
        | false =>
          rw [Bool.not_false, cond_true]
          show ob (rtB (nI 0) _) _
          rw [dx_rtB (by omega)]
          show _ = _
          have := al_le h0 (N b - i)
          rw [show i + (N b - i) = N b by omega] at this
          rw [this]
        | true =>
          have e1 := al_1 (I := P b) (J := P a) (s := S) (p := i)
          rw [h0, Bool.true_and] at e1
          rw [Bool.not_true, cond_false, dx_cl2, dx_cl2, pk_mul, nI_add, pk_mul, nI_add, nI_add, pk_mul, nI_add, show 24 * (8 * 0 + a) + i = 24 * a + i by omega, show 24 * (8 * 0 + b) + i = 24 * b + i by omega, dx_ldI hia (by omega), dx_ldI hib (by omega), (hra.2.2 i hi).1, (hrb.2.2 i (by omega)).1, dx_ne (by omega) (by omega)]
          by_cases ek : kd (P a) i = kd (P b) i
          · rw [decide_eq_false (fun z => z ek), cond_false]
            refine ob_m (inner i hi ek.symm) (fun z hz => ?_)
            subst hz
            show _ = _
            rw [e1]
          · rw [decide_eq_true ek, cond_true]
            unfold g129_99
            refine wl_c (f := fun s : Int32 × Int32 × fm => s129_99 (nI a) (nI b) (nI (fs (P a) (N a))) (nI (fs (P b) (N b))) s.1 (nI i) (nI (24 * a + i)) (nI (24 * b + i)) s.2.1 s.2.2) (fun _ s => s = (bI false, nI 0, m)) 0 (by omega) (nI 0, nI 0, m) rfl (fun j s hj _ => absurd hj (by omega)) (fun s hss => ?_)
            subst hss
            show ob (s129_99 _ _ _ _ (bI false) (nI i) _ _ (nI 0) m) _
            unfold s129_99
            rw [dx_ge (by omega) (by omega), decide_eq_false (by omega), cond_false, bI_eq, Bool.not_false, cond_true, nI_add]
            show _ = _
            have hp0 : p3 (P b) (P a) S i 0 = false := decide_eq_false (fun z => ek z.symm)
            rw [e1, p3_le hp0 3]
      · subst hss
        show ob (s129_38 _ _ _ _ _ (nI (N a)) m) _
        unfold s129_38
        rw [dx_ldI (by omega) (by omega), hra.2.1, dx_ge (by omega) (by omega), decide_eq_true (Nat.le_refl _), cond_true]
        show ob (rtB (nI _) _) _
        rw [dx_rtB (bt2 _), en]
        rfl
    obtain ⟨r, h1, h2⟩ := ob_ex h
    rw [h1, h2]
  · rw [decide_eq_true en, cond_true]
    unfold LK
    rw [decide_eq_false (fun z => en z.symm), Bool.false_and]
    have h : ob (g129_38 (nI a) (nI b) (nI (fs (P a) (N a))) (nI (fs (P b) (N b))) (nI 0) (nI 0) m) (fun r => r = (bI false, m)) := by
      unfold g129_38
      refine wl_c (f := fun s : Int32 × Int32 × fm => s129_38 (nI a) (nI b) (nI (fs (P a) (N a))) (nI (fs (P b) (N b))) s.1 s.2.1 s.2.2) (fun _ s => s = (bI false, nI 0, m)) 0 (by omega) (nI 0, nI 0, m) rfl (fun j s hj _ => absurd hj (by omega)) (fun s hss => ?_)
      subst hss
      show ob (s129_38 _ _ _ _ (bI false) (nI 0) m) _
      unfold s129_38
      rw [dx_ldI (by omega) (by omega), hra.2.1, bI_eq, dx_cif_t]
      show ob (rtB (nI 0) _) _
      rw [dx_rtB (by omega)]
      rfl
    obtain ⟨r, h1, h2⟩ := ob_ex h
    rw [h1, h2]
end D2
