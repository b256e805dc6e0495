def ai_ws (r : ai_R) : List Cond := Cond.code r.2.1 r.2.2.1 r.2.2.2.1 r.2.2.2.2.1 :: ai_tb
def ai_P (D : va_G) (ac : Nat → ClassId) (X : ai_X) (ad : Nat → Nat) (M : List va_E) (sz : Nat) (As : List Value) : Array Value → State → Prop := fun v U => v = (As.map (ai_v ad)).toArray ∧ U.heap.size = sz ∧ va_P D vwCl (ai_w ad ac M) U.heap ∧ va_D (fun _ => True) (ai_w ad ac M) ∧ ai_Wc D ac X ad (va_A (ai_w ad ac M) sz) U ∧ ∀ w ∈ ai_nw, va_Nw w U
def ai_Q (D : va_G) (ac : Nat → ClassId) (ad : Nat → Nat) (M : List va_E) (sz : Nat) (v : Option Value) (M1 : List va_E) : Array Value → State → Outcome → State → Prop := fun _ st oc t => (∃ ad' : Nat → Nat, ai_ex ad ad' M.length ∧ oc = .returned (v.map (ai_v ad')) ∧ va_P D vwCl (ai_w ad' ac M1) t.heap ∧ va_D (va_A (ai_w ad ac M) sz) (ai_w ad' ac M1)) ∧ va_F (va_A (ai_w ad ac M) sz) st t
theorem ai_good (r : ai_R) (hr : Cond.code r.2.1 r.2.2.1 r.2.2.2.1 r.2.2.2.2.1 ∈ lw_tbl) (r0 : ai_R) : GoodIn (ai_ws r0) (ai_ws r) := by
  intro w hw
  rcases List.mem_cons.mp hw with rfl | h
  · exact ⟨List.mem_cons_of_mem _ (ai_tbI hr rfl), good_of_word rfl⟩
  · exact ⟨List.mem_cons_of_mem _ h, good_of_word (List.mem_filter.mp h).2⟩
theorem ai_goodT (r : ai_R) (hr : Cond.code r.2.1 r.2.2.1 r.2.2.2.1 r.2.2.2.2.1 ∈ lw_tbl) : GoodIn ai_tb (ai_ws r) := by
  intro w hw
  rcases List.mem_cons.mp hw with rfl | h
  · exact ⟨ai_tbI hr rfl, good_of_word rfl⟩
  · exact ⟨h, good_of_word (List.mem_filter.mp h).2⟩
theorem ai_nwM {s U : State} (hW : s.WarmedH U.vm) (h : ∀ w ∈ ai_nw, va_Nw w s) : ∀ w ∈ ai_nw, va_Nw w U := by
  intro w hw
  have hs := h w hw
  have hN := (List.mem_filter.mp hw).2
  unfold ai_isN at hN
  split at hN
  · exact va_Nw.warmM hW hs
  · exact va_Nw.warmF hW hs
  · cases hN
theorem ai_nwS {s U : State} (hvm : s.vm = U.vm) (h : ∀ w ∈ ai_nw, va_Nw w s) : ∀ w ∈ ai_nw, va_Nw w U := by
  intro w hw
  have hs := h w hw
  have hN := (List.mem_filter.mp hw).2
  unfold ai_isN at hN
  split at hN
  · exact va_Nw.same rfl hvm hs
  · exact va_Nw.same rfl hvm hs
  · cases hN
theorem ai_blind {D : va_G} {ac : Nat → ClassId} {X : ai_X} {ad : Nat → Nat} {M : List va_E} {sz : Nat} {As : List Value} : FrameBlind (ai_P D ac X ad M sz As) := by
  intro a U g mm h
  obtain ⟨h1, h2, h3, h4, ⟨k1, k2, k3, k4⟩, h6⟩ := h
  refine ⟨h1, h2, h3, h4, ⟨va_K.moved (u := U) (U := U.calling g mm a) (Vm.Alike.refl U.vm) k1, va_Z.moved (u := U) (U := U.calling g mm a) (Vm.Alike.refl U.vm) k2, fun j n f hj => va_T.moved (u := U) (U := U.calling g mm a) (Vm.Alike.refl U.vm) (k3 j n f hj), ?_⟩, ai_nwS (s := U) (U := U.calling g mm a) rfl h6⟩
  exact va_AO.moved (u := U) (U := U.calling g mm a) (Vm.Alike.refl U.vm) k4
theorem ai_pre {D : va_G} {ac : Nat → ClassId} {X : ai_X} {ad : Nat → Nat} {A : Nat → Prop} {M : List va_E} {As : List Value} {s : State} {H : Heap} {locs : List Loc} (Wc : ai_Wc D ac X ad A s) (hnw : ∀ w ∈ ai_nw, va_Nw w s) (hP : va_P D vwCl (ai_w ad ac M) H) (hD : va_D A (ai_w ad ac M)) (hS : va_S A s.heap H locs) (hAf : ∀ q, va_A (ai_w ad ac M) H.size q → A q) : ∀ U : State, U.heap = H → s.WarmedH U.vm → ai_P D ac X ad M H.size As (As.map (ai_v ad)).toArray U := by
  intro U hU hW
  obtain ⟨k1, k2, k3, k4⟩ := Wc
  refine ⟨rfl, by rw [hU], by rw [hU]; exact hP, hD.weaken (fun _ _ _ _ => trivial), ⟨va_K.moved hW.alike k1, ?_, fun j n f hj => ?_, va_AO.moved hW.alike k4⟩, ai_nwM hW hnw⟩
  · rw [hU]
    exact va_Z.moved hW.alike ((k2.kept hS.2.1).narrow hAf)
  · rw [hU]
    exact va_T.moved hW.alike (((k3 j n f hj).kept hS.2.1).narrow hAf)
section AIC
variable {p : Program} {l : Launch} {e : Env} {R : Room} {s : State} {m : MethodId} {args : Array Value} {below : List Frame} {meth : Method} {c : Code} {H : Heap} {locs : List Loc} {cells slots : Nat} {Q : State → Prop}
theorem ai_callk {D : va_G} {ac : Nat → ClassId} {ad : Nat → Nat} {A : Nat → Prop} {M M1 : List va_E} {v : Option Value} {mc ms pc : Nat} {ls : Array Slot} {st0 rest : List Value} {a : Array Value} (hr : va_Run p l e R s m args below meth c H locs cells slots mc ms (F0 m pc ls st0) rest (ai_Q D ac ad M H.size v M1 a) (va_A (ai_w ad ac M) H.size)) (hS : va_S A s.heap H locs) (hAf : ∀ q, va_A (ai_w ad ac M) H.size q → A q)
    (kk : ∀ (ad' : Nat → Nat) (H1 : Heap) (locs1 : List Loc), ai_ex ad ad' M.length → va_P D vwCl (ai_w ad' ac M1) H1 → va_D A (ai_w ad' ac M1) → va_S A s.heap H1 locs1 → W p l e R s m args below meth c H1 locs1 (cells + mc) (slots + ms) Q (F0 m (pc + 3) ls ((v.map (ai_v ad')).toList ++ rest))) : W p l e R s m args below meth c H locs cells slots Q (F0 m pc ls st0) := by
  intro T hT X
  obtain ⟨w, st₀, t, T', L, h0, X', hL, e1, e2, ⟨⟨ad', hex, hv, hp, hdd⟩, hz, hk⟩, st⟩ := hr T hT X
  cases hv
  rw [h0] at hz hk
  obtain ⟨t2, a1, b1⟩ := kk ad' T'.heap (locs ++ L) hex (by rw [e1]; exact hp) (hdd.weaken (fun _ _ _ z => hAf _ z))
    ⟨Nat.le_trans hS.1 (by rw [e1]; exact hz), fun q h1 h2 => by rw [e1, hk q (Nat.lt_of_lt_of_le h1 hS.1) (fun z => h2 (hAf q z))]; exact hS.2.1 q h1 h2, fun q hq => by
      rcases List.mem_append.mp hq with h | h
      · exact hS.2.2 q h
      · exact hAf _ (hL q h)⟩ T' rfl X'
  exact ⟨t2, st t2 a1, b1⟩
end AIC
/-- every run of the interpreter with this fuel is one of the machine -/
def ai_Snd (l : Launch) (X : ai_X) (n : Nat) : Prop := ∀ (d w : Nat) (r : ai_R) (pc : Nat) (L : List (Option Value)) (st : List Value) (M : List va_E) (c0 s0 pc1 : Nat) (v : Option Value) (M1 : List va_E) (c1 s1 : Nat), ai_x X n d w r pc L st M c0 s0 = some (pc1, v, M1, c1, s1) → r ∈ ai_ms →
  ∀ (p : Program) (e : Env) (s : State) (m : MethodId) (args : Array Value) (below : List Frame) (meth : Method) (c : Code) (R : Room) (D : va_G) (ac : Nat → ClassId) (ad : Nat → Nat) (A : Nat → Prop) (H : Heap) (locs : List Loc) (ls : Array Slot) (Q : State → Prop),
  ai_C p s m args meth c r → d ≤ R.frames → w ≤ R.locals → c1 ≤ R.cells → s1 ≤ R.slots → ai_Wc D ac X ad A s → (∀ q, s.heap.size ≤ q → A q) → va_P D vwCl (ai_w ad ac M) H → va_D A (ai_w ad ac M) → va_S A s.heap H locs → lv_has ls r.2.2.2.1 (ai_l ad 0 L) →
  (∀ (ad' : Nat → Nat) (H' : Heap) (locs' : List Loc) (ls' : Array Slot), ai_ex ad ad' M.length → va_P D vwCl (ai_w ad' ac M1) H' → va_D A (ai_w ad' ac M1) → va_S A s.heap H' locs' → (∃ i a b bm, ai_at r pc1 = some (i, a, b, bm) ∧ ai_ans i r.2.2.2.2.1 v.toList = some v) → W p l e R s m args below meth c H' locs' c1 s1 Q (F0 m pc1 ls' (v.toList.map (ai_v ad')))) →
  W p l e R s m args below meth c H locs c0 s0 Q (F0 m pc ls (st.map (ai_v ad)))
theorem ai_msM {r : ai_R} (hr : r ∈ ai_ms) : plainName r.2.1.cls = true ∧ (r.2.1.cls ≠ "java/lang/invoke/MethodHandle" ∧ r.2.1.cls ≠ "java/lang/invoke/VarHandle") ∧ r.2.1.cls = ai_cn r.1 := by
  have h := List.all_eq_true.mp ai_wM r hr
  unfold ai_okM at h
  simp only [Bool.and_eq_true, decide_eq_true_eq] at h
  exact ⟨h.1.1.1, ⟨h.1.1.2, h.1.2⟩, h.2⟩
set_option maxHeartbeats 4000000 in
theorem ai_met {l : Launch} {X : ai_X} {n : Nat} (hn : ai_Snd l X n) {d w : Nat} {r : ai_R} {As : List Value} {M M1 : List va_E} {pc1 kc ks : Nat} {v : Option Value} (h : ai_x X n d w r 0 (ai_en r.2.2.2.1 As) [] M 0 0 = some (pc1, v, M1, kc, ks)) (hr : r ∈ ai_ms) (hc : ai_cat As ≤ r.2.2.2.1) (D : va_G) (ac : Nat → ClassId) (ad : Nat → Nat) (sz : Nat) : Met l r.2.1 (ai_ws r) ({ frames := d, cells := kc, slots := ks, locals := w } : Room) (ai_P D ac X ad M sz As) (ai_Q D ac ad M sz v M1) kc ks (va_A (ai_w ad ac M) sz) := by
  obtain ⟨hpl, hmh, hcn⟩ := ai_msM hr
  refine Met.ofW (cc := r.2.2.1) (maxL := r.2.2.2.1) (ret := r.2.2.2.2.1) hpl rfl ?_
  intro p e s m args below meth c s₁ B hml hv
  obtain ⟨rfl, hsz, hP, hD0, hWc, hnw⟩ := hv
  have hts := atoms_spec (ws := ai_ws r) B.pre
  have hown : s.vm.findClass r.2.1.cls = some m.cls := findClass_of_methodNamed B.named
  rw [hcn] at hown
  have hC : ai_C p s m (As.map (ai_v ad)).toArray meth c r := ⟨B.exec, B.bytes, B.returns, hml, hown, fun w hw => hts w (List.mem_cons_of_mem _ hw), hnw, B.notSynchronized, fun hi => (name_of_methodNamed B.named B.method).1.trans hi⟩
  subst hsz
  have hD := hD0.self (sz := s.heap.size)
  have hA : ∀ q : Nat, s.heap.size ≤ q → va_A (ai_w ad ac M) s.heap.size q := fun q hq => Or.inr hq
  have hl := ai_entry (ad := ad) (n := r.2.2.2.1) (vs := As) hc
  rw [lg_entry_eq]
  generalize (lg_sl (As.map (ai_v ad)) ++ List.replicate (r.2.2.2.1 - (lg_sl (As.map (ai_v ad))).length) Slot.unset).toArray = ls at hl ⊢
  refine hn d w r 0 _ [] M 0 0 pc1 v M1 kc ks h hr p e s m _ below meth c _ D ac ad _ s.heap [] ls _ hC (Nat.le_refl _) (Nat.le_refl _) (Nat.le_refl _) (Nat.le_refl _) hWc hA hP hD va_S.rf hl ?_
  intro ad' H' locs' ls' hex hP' hD' hS' hans
  obtain ⟨i, a, b, bm, hat, hans⟩ := hans
  obtain ⟨hx, hb, hrt, -, -, -, -, hlocks, -⟩ := hC
  obtain ⟨hd, -⟩ := ai_atI hr hat
  have hfin : ∀ t : State, t.heap = H' → ai_Q D ac ad M s.heap.size v M1 (As.map (ai_v ad)).toArray s (.returned (v.map (ai_v ad'))) t := fun t ht => ⟨⟨ad', hex, rfl, by rw [ht]; exact hP', hD'⟩, hS'.F ht⟩
  generalize r.2.2.2.2.1 = ty at hrt hans
  cases i with
  | return_ =>
    have hd := ai_decL hd (Nat.succ_ne_zero _)
    rcases v with _ | v
    · rcases ty with _ | ty
      · exact W.vret hx hb hrt (fun t ht _ => hfin t ht) hS'.2.2 hd hlocks
      · cases hans
    · rcases ty with _ | ty <;> cases hans
  | ireturn =>
    have hd := ai_decL hd (Nat.succ_ne_zero _)
    rcases v with _ | v
    · rcases ty with _ | ty
      · cases hans
      · cases ty <;> cases hans
    · rcases ty with _ | ty
      · cases hans
      · cases ty <;> cases v <;> first
          | exact W.iret hx hb hrt (fun t ht _ => hfin t ht) hS'.2.2 hd hlocks
          | (cases hans; done)
          | (next x =>
              have hb2 : x = 0 ∨ x = 1 := by
                simp only [ai_ans, Option.toList_some] at hans
                split at hans
                · next hq => simpa using hq
                · cases hans
              refine W.zret hx hb hrt ?_ (fun t ht _ => hfin t ht) hS'.2.2 hd hlocks
              rcases hb2 with rfl | rfl <;> rfl)
  | lreturn =>
    have hd := ai_decL hd (Nat.succ_ne_zero _)
    rcases v with _ | v
    · rcases ty with _ | ty
      · cases hans
      · cases ty <;> cases hans
    · rcases ty with _ | ty
      · cases hans
      · cases ty <;> cases v <;> first
          | exact W.lret hx hb hrt (fun t ht _ => hfin t ht) hS'.2.2 hd hlocks
          | (cases hans; done)
  | areturn =>
    have hd := ai_decL hd (Nat.succ_ne_zero _)
    rcases v with _ | v
    · rcases ty with _ | ty
      · cases hans
      · cases ty <;> cases hans
    · rcases ty with _ | ty
      · cases hans
      · cases ty <;> cases v <;> first
          | exact W.aret hx hb hrt (Or.inr ⟨_, rfl⟩) (Or.inr ⟨_, rfl⟩) (fun t ht _ => hfin t ht) hS'.2.2 hd hlocks
          | (cases hans; done)
  | _ => cases hans
