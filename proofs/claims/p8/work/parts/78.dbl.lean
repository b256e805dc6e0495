/-! doubled -/
def rg (k q : Nat) : Bool := if q = 1 then decide (¬ k = 6) else if q = 2 then decide (1 ≤ k ∧ k ≤ 5) else decide (2 ≤ k ∧ k ≤ 4)
set_option maxRecDepth 100000 in
theorem sh_rg0 : ∀ k, k < 13 → ∀ q, q < 4 → 0 < q → ai_c .ne (ai_sh (3 * k + q - 1)) (nI 2) = !(rg k q) := by decide +kernel
def cv (I : cod) (p q : Nat) : Int32 := if q = 1 then nI (ra I p) else if q = 2 then rb I p else nI (rc I p)
def rv (I : cod) (p q : Nat) : Nat := if q = 1 then ra I p else if q = 2 then bn I p else rc I p
section DB
variable {m : fm} {c n p q k : Nat} {I J : cod}
theorem g90_s (hk : k < 13) (hq : q < 4) (h0 : 0 < q) : g90 (nI k) (nI q) m = some (ai_sh (3 * k + q - 1), m) := by
  unfold g90
  rw [pk_mul, nI_add, dx_sub (by omega), dx_ldS (by omega), show k * 3 + q - 1 = 3 * k + q - 1 by omega]
theorem g4_q (hc : CR m c n I) (hn : n ≤ 24) (hp : p < n) (hq : q < 4) (h0 : 0 < q) : g4 c (nI p) (nI q) m = some (cv I p q, m) := by
  have e : q = 1 ∨ q = 2 ∨ q = 3 := by omega
  unfold cv
  rcases e with rfl | rfl | rfl
  · exact g4_1 hc hn hp
  · exact g4_2 hc hn hp
  · exact g4_3 hc hn hp
theorem rv_s (hw : WF n I) (hp : p < n) (hq : q < 4) (h0 : 0 < q) (hr : rg (kd I p) q = true) : cv I p q = nI (rv I p q) ∧ rv I p q < 4 := by
  have e : q = 1 ∨ q = 2 ∨ q = 3 := by omega
  unfold cv rv
  unfold rg at hr
  rcases e with rfl | rfl | rfl
  · exact ⟨rfl, WF_a hw hp (of_decide_eq_true hr)⟩
  · have h := of_decide_eq_true (show decide (1 ≤ kd I p ∧ kd I p ≤ 5) = true from hr)
    exact WF_b hw hp (Or.inl h)
  · have h := of_decide_eq_true (show decide (2 ≤ kd I p ∧ kd I p ≤ 4) = true from hr)
    exact ⟨rfl, WF_c hw hp h⟩
/-- the first of registers 2, 3 that is named: 0, if none is -/
def f3 (I : cod) (p : Nat) : Nat → Nat
  | 0 => 0
  | q + 1 => if ¬ f3 I p q = 0 then f3 I p q else if rg (kd I p) (q + 1) = true ∧ 2 ≤ rv I p (q + 1) then rv I p (q + 1) else 0
def fo (I : cod) : Nat → Nat
  | 0 => 0
  | p + 1 => if ¬ fo I p = 0 then fo I p else f3 I p 3
theorem f3_1 : f3 I p (q + 1) = if ¬ f3 I p q = 0 then f3 I p q else if rg (kd I p) (q + 1) = true ∧ 2 ≤ rv I p (q + 1) then rv I p (q + 1) else 0 := rfl
theorem fo_1 : fo I (p + 1) = if ¬ fo I p = 0 then fo I p else f3 I p 3 := rfl
theorem f3_le (h : ¬ f3 I p q = 0) : ∀ d, f3 I p (q + d) = f3 I p q
  | 0 => rfl
  | d + 1 => by
    have := f3_le h d
    show f3 I p (q + d + 1) = _
    rw [f3_1, if_pos (by rw [this]; exact h), this]
theorem fo_le (h : ¬ fo I p = 0) : ∀ d, fo I (p + d) = fo I p
  | 0 => rfl
  | d + 1 => by
    have := fo_le h d
    show fo I (p + d + 1) = _
    rw [fo_1, if_pos (by rw [this]; exact h), this]
theorem f3_23 (hw : WF n I) (hp : p < n) : ∀ q, q < 4 → f3 I p q = 0 ∨ f3 I p q = 2 ∨ f3 I p q = 3
  | 0, _ => Or.inl rfl
  | q + 1, hq => by
    rw [f3_1]
    by_cases h : ¬ f3 I p q = 0
    · rw [if_pos h]; exact f3_23 hw hp q (by omega)
    · rw [if_neg h]
      by_cases h2 : rg (kd I p) (q + 1) = true ∧ 2 ≤ rv I p (q + 1)
      · rw [if_pos h2]
        have := (rv_s hw hp hq (by omega) h2.1).2
        omega
      · rw [if_neg h2]; exact Or.inl rfl
theorem fo_23 (hw : WF n I) : ∀ p, p ≤ n → fo I p = 0 ∨ fo I p = 2 ∨ fo I p = 3
  | 0, _ => Or.inl rfl
  | p + 1, hp => by
    rw [fo_1]
    by_cases h : ¬ fo I p = 0
    · rw [if_pos h]; exact fo_23 hw p (by omega)
    · rw [if_neg h]; exact f3_23 hw (by omega) 3 (by omega)
def t3 (I : cod) (n : Nat) : Bool := decide (fo I n = 3)
theorem g14_s (hc : CR m c n I) (hw : WF n I) : g14 c m = some (bI (t3 I n), m) := by
  have hn := hw.1
  have inner : ∀ p, p < n → fo I p = 0 → ob (g14_12 c (nI p) (nI 1) m) (fun z => (f3 I p 3 = 0 ∧ z = .inl (nI (p + 1), m)) ∨ (¬ f3 I p 3 = 0 ∧ z = .inr (bI (decide (f3 I p 3 = 3)), m))) := by
    intro p hp _
    unfold g14_12
    refine wl_c (f := fun s : Int32 × fm => s14_12 c (nI p) s.1 s.2) (fun i s => s = (nI (i + 1), m) ∧ f3 I p i = 0) 3 (by omega) (nI 1, m) ⟨rfl, rfl⟩ (fun i s hi hss => ?_) (fun s hss => ?_)
    · obtain ⟨rfl, h0⟩ := hss
      have hk := WF_k hw hp
      show ob (s14_12 c (nI p) (nI (i + 1)) m) _
      unfold s14_12
      rw [dx_gt (by omega) (by omega), decide_eq_false (by omega), cond_false, g4_0 hc hn hp, dx_cl2, g90_s hk (by omega) (by omega), dx_cl2, sh_rg0 _ hk _ (by omega) (by omega), nI_add]
      have e1 := f3_1 (I := I) (p := p) (q := i)
      rw [if_neg (by rw [h0]; exact fun z => z rfl)] at e1
      cases hr : rg (kd I p) (i + 1) with
      | false =>
        rw [Bool.not_false, cond_true]
        rw [hr, if_neg (fun z => Bool.false_ne_true z.1)] at e1
        exact ⟨rfl, e1⟩
      | true =>
        obtain ⟨v1, v2⟩ := rv_s hw hp (show i + 1 < 4 by omega) (by omega) hr
        rw [Bool.not_true, cond_false, g4_q hc hn hp (by omega) (by omega), dx_cl2, v1, dx_lt (by omega) (by omega)]
        by_cases h2 : rv I p (i + 1) < 2
        · rw [decide_eq_true h2, cond_true]
          rw [if_neg (fun z => by omega)] at e1
          exact ⟨rfl, e1⟩
        · rw [decide_eq_false h2, cond_false, g4_q hc hn hp (by omega) (by omega), dx_cl2, v1, dx_ne (by omega) (by omega)]
          rw [if_pos ⟨hr, by omega⟩] at e1
          have e3 : f3 I p 3 = rv I p (i + 1) := by
            have := f3_le (I := I) (p := p) (q := i + 1) (by rw [e1]; omega) (3 - (i + 1))
            rw [show i + 1 + (3 - (i + 1)) = 3 by omega] at this
            rw [this, e1]
          by_cases h3 : rv I p (i + 1) = 3
          · rw [decide_eq_false (fun z => z h3), cond_false]
            exact Or.inr ⟨by omega, by rw [e3, h3]; rfl⟩
          · rw [decide_eq_true h3, cond_true]
            exact Or.inr ⟨by omega, by rw [e3, decide_eq_false h3]; rfl⟩
    · obtain ⟨rfl, h0⟩ := hss
      show ob (s14_12 c (nI p) (nI 4) m) _
      unfold s14_12
      rw [dx_gt (by omega) (by omega), decide_eq_true (by omega), cond_true, nI_add]
      exact Or.inl ⟨h0, rfl⟩
  have h : ob (g14 c m) (fun r => r = (bI (t3 I n), m)) := by
    unfold g14 g14_2 t3
    refine wl_c (f := fun s : Int32 × fm => s14_2 c s.1 s.2) (fun i s => s = (nI i, m) ∧ fo I i = 0) n (by omega) (nI 0, m) ⟨rfl, rfl⟩ (fun i s hi hss => ?_) (fun s hss => ?_)
    · obtain ⟨rfl, h0⟩ := hss
      show ob (s14_2 c (nI i) m) _
      unfold s14_2
      rw [dx_gfI, hc.1, dx_ge (by omega) (by omega), decide_eq_false (by omega), cond_false]
      refine ob_m (inner i hi h0) (fun z hz => ?_)
      have e1 := fo_1 (I := I) (p := i)
      rw [if_neg (by rw [h0]; exact fun z => z rfl)] at e1
      rcases hz with ⟨a, rfl⟩ | ⟨a, rfl⟩
      · exact ⟨rfl, by rw [e1]; exact a⟩
      · have := fo_le (I := I) (p := i + 1) (by rw [e1]; exact a) (n - (i + 1))
        rw [show i + 1 + (n - (i + 1)) = n by omega] at this
        show _ = _
        rw [this, e1]
    · obtain ⟨rfl, h0⟩ := hss
      show ob (s14_2 c (nI n) m) _
      unfold s14_2
      rw [dx_gfI, hc.1, dx_ge (by omega) (by omega), decide_eq_true (Nat.le_refl _), cond_true]
      show _ = _
      rw [h0]; rfl
  obtain ⟨b, h1, h2⟩ := ob_ex h
  rw [h1, h2]
def pq (I J : cod) (s : Bool) (p q : Nat) : Bool := decide ((if (s && !(ai_c .lt (cv I p q) (nI 2)) && rg (kd I p) q) = true then nI 5 - cv I p q else cv I p q) = cv J p q)
def p3 (I J : cod) (s : Bool) (p : Nat) : Nat → Bool
  | 0 => decide (kd I p = kd J p)
  | q + 1 => p3 I J s p q && pq I J s p (q + 1)
def al (I J : cod) (s : Bool) : Nat → Bool
  | 0 => true
  | p + 1 => al I J s p && p3 I J s p 3
theorem p3_1 {s : Bool} : p3 I J s p (q + 1) = (p3 I J s p q && pq I J s p (q + 1)) := rfl
theorem al_1 {s : Bool} : al I J s (p + 1) = (al I J s p && p3 I J s p 3) := rfl
theorem p3_le {s : Bool} (h : p3 I J s p q = false) : ∀ d, p3 I J s p (q + d) = false
  | 0 => h
  | d + 1 => by
    show p3 I J s p (q + d + 1) = false
    rw [p3_1, p3_le h d]; rfl
theorem al_le {s : Bool} (h : al I J s p = false) : ∀ d, al I J s (p + d) = false
  | 0 => h
  | d + 1 => by
    show al I J s (p + d + 1) = false
    rw [al_1, al_le h d]; rfl
def LK (I : cod) (n : Nat) (J : cod) (n' : Nat) : Bool := decide (n = n') && al I J (t3 I n != t3 J n') n
theorem g13_s {c' n' : Nat} {s : Bool} (hc : CR m c n I) (hw : WF n I) (hc' : CR m c' n' J) (hw' : WF n' J) (hp : p < n) (hp' : p < n') (hk0 : kd I p = kd J p) : g13 c c' (nI p) (bI s) m = some (bI (p3 I J s p 3), m) := by
  have hn := hw.1
  have hn' := hw'.1
  have hk := WF_k hw hp
  have h : ob (g13 c c' (nI p) (bI s) m) (fun r => r = (bI (p3 I J s p 3), m)) := by
    unfold g13 g13_3
    refine wl_c (f := fun z : Int32 × fm => s13_3 c c' (nI p) (bI s) z.1 z.2) (fun i z => z = (nI (i + 1), m) ∧ p3 I J s p i = true) 3 (by omega) (nI 1, m) ⟨rfl, decide_eq_true hk0⟩ (fun i z hi hss => ?_) (fun z hss => ?_)
    · obtain ⟨rfl, h0⟩ := hss
      show ob (s13_3 c c' (nI p) (bI s) (nI (i + 1)) m) _
      have h64 : ∀ y : Int32, ob (g13_64 c c' (nI p) (bI s) (nI (i + 1)) y m) (Sum.elim (fun z => y = cv J p (i + 1) ∧ z = (nI (i + 1 + 1), m)) (fun b => ¬ y = cv J p (i + 1) ∧ b = (nI 0, m))) := by
        intro y
        unfold g13_64
        rw [g4_q hc' hn' hp' (by omega) (by omega), dx_cl2, nI_add]
        show ob (bif decide (y = cv J p (i + 1)) then _ else _) _
        by_cases e : y = cv J p (i + 1)
        · rw [decide_eq_true e, cond_true]; exact ⟨e, rfl⟩
        · rw [decide_eq_false e, cond_false]; exact ⟨e, rfl⟩
      have e1 := p3_1 (I := I) (J := J) (s := s) (p := p) (q := i)
      rw [h0, Bool.true_and] at e1
      have hb : ∀ t : Bool, t = (s && !(ai_c .lt (cv I p (i + 1)) (nI 2)) && rg (kd I p) (i + 1)) → ob (g13_48 c c' (nI p) (bI s) (nI (i + 1)) (cv I p (i + 1)) (bI t) m) (Sum.elim (fun z => z = (nI (i + 1 + 1), m) ∧ p3 I J s p (i + 1) = true) (fun r => r = (bI (p3 I J s p 3), m))) := by
        intro t ht
        unfold g13_48
        rw [bI_eq]
        unfold pq at e1
        rw [← ht] at e1
        have fl : p3 I J s p (i + 1) = false → p3 I J s p 3 = false := fun h => by
          have := p3_le h (3 - (i + 1))
          rw [show i + 1 + (3 - (i + 1)) = 3 by omega] at this
          exact this
        cases t with
        | false =>
          rw [if_neg Bool.false_ne_true] at e1
          rw [Bool.not_false, cond_true]
          refine ob_m (h64 _) (fun z hz => ?_)
          cases z with
          | inl z => exact ⟨hz.2, by rw [e1]; exact decide_eq_true hz.1⟩
          | inr z =>
            show _ = _
            rw [hz.2, fl (by rw [e1]; exact decide_eq_false hz.1)]; rfl
        | true =>
          rw [if_pos rfl] at e1
          rw [Bool.not_true, cond_false]
          refine ob_m (h64 _) (fun z hz => ?_)
          cases z with
          | inl z => exact ⟨hz.2, by rw [e1]; exact decide_eq_true hz.1⟩
          | inr z =>
            show _ = _
            rw [hz.2, fl (by rw [e1]; exact decide_eq_false hz.1)]; rfl
      unfold s13_3
      rw [dx_gt (by omega) (by omega), decide_eq_false (by omega), cond_false, g4_q hc hn hp (by omega) (by omega), dx_cl2, bI_eq, g4_0 hc hn hp, dx_cl2, g90_s hk (by omega) (by omega), dx_cl2, sh_rg0 _ hk _ (by omega) (by omega)]
      cases s with
      | false => exact hb false rfl
      | true =>
        rw [Bool.not_true, cond_false]
        cases hl : ai_c .lt (cv I p (i + 1)) (nI 2) with
        | true => exact hb false (by rw [hl]; rfl)
        | false =>
          rw [cond_false]
          cases hr : rg (kd I p) (i + 1) with
          | false => exact hb false (by rw [hl, hr]; rfl)
          | true => exact hb true (by rw [hl, hr]; rfl)
    · obtain ⟨rfl, h0⟩ := hss
      show ob (s13_3 c c' (nI p) (bI s) (nI 4) m) _
      unfold s13_3
      rw [dx_gt (by omega) (by omega), decide_eq_true (by omega), cond_true]
      show _ = _
      rw [h0]; rfl
  obtain ⟨b, h1, h2⟩ := ob_ex h
  rw [h1, h2]
theorem g12_s {c' n' : Nat} (hc : CR m c n I) (hw : WF n I) (hc' : CR m c' n' J) (hw' : WF n' J) : g12 c c' m = some (bI (LK I n J n'), m) := by
  have hn := hw.1
  have hn' := hw'.1
  have loop : n = n' → ∀ s : Bool, g12_32 c c' (bI s) (nI 0) m = some (bI (al I J s n), m) := by
    intro en s
    have h : ob (g12_32 c c' (bI s) (nI 0) m) (fun r => r = (bI (al I J s n), m)) := by
      unfold g12_32
      refine wl_c (f := fun z : Int32 × fm => s12_32 c c' (bI s) z.1 z.2) (fun i z => z = (nI i, m) ∧ al I J s i = true) n (by omega) (nI 0, m) ⟨rfl, rfl⟩ (fun i z hi hss => ?_) (fun z hss => ?_)
      · obtain ⟨rfl, h0⟩ := hss
        have hk := WF_k hw hi
        have hk' := WF_k hw' (show i < n' by omega)
        have e1 := al_1 (I := I) (J := J) (s := s) (p := i)
        rw [h0, Bool.true_and] at e1
        have fl : p3 I J s i 3 = false → al I J s n = false := fun h => by
          have := al_le (I := I) (J := J) (s := s) (p := i + 1) (by rw [e1]; exact h) (n - (i + 1))
          rw [show i + 1 + (n - (i + 1)) = n by omega] at this
          exact this
        show ob (s12_32 c c' (bI s) (nI i) m) _
        unfold s12_32
        rw [dx_gfI, hc.1, dx_ge (by omega) (by omega), decide_eq_false (by omega), cond_false, g4_0 hc hn hi, dx_cl2, g4_0 hc' hn' (by omega), dx_cl2, dx_ne (by omega) (by omega)]
        by_cases ek : kd I i = kd J i
        · rw [decide_eq_false (fun z => z ek), cond_false, g13_s hc hw hc' hw' hi (by omega) ek, dx_cl2, bI_ne, nI_add]
          cases h3 : p3 I J s i 3 with
          | true => exact ⟨rfl, by rw [e1]; exact h3⟩
          | false =>
            show _ = _
            rw [fl h3]; rfl
        · rw [decide_eq_true ek, cond_true]
          show _ = _
          rw [fl]
          · rfl
          · have : p3 I J s i 0 = false := decide_eq_false ek
            exact p3_le this 3
      · obtain ⟨rfl, h0⟩ := hss
        show ob (s12_32 c c' (bI s) (nI n) m) _
        unfold s12_32
        rw [dx_gfI, hc.1, dx_ge (by omega) (by omega), decide_eq_true (Nat.le_refl _), cond_true]
        show _ = _
        rw [h0]; rfl
    obtain ⟨b, h1, h2⟩ := ob_ex h
    rw [h1, h2]
  unfold g12 LK
  rw [dx_gfI, dx_gfI, hc.1, hc'.1, dx_eq (by omega) (by omega), g14_s hc hw, dx_cl2, g14_s hc' hw', dx_cl2]
  by_cases en : n = n'
  · rw [decide_eq_true en, cond_true, Bool.true_and]
    cases h1 : t3 I n <;> cases h2 : t3 J n' <;> first | exact loop en false | exact loop en true
  · rw [decide_eq_false en]; rfl
end DB
