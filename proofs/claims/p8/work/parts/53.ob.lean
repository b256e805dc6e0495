/-! the bytecode as functions over the flat memory: the words that they are made of, and a rule for each -/
def ob {β : Type} (o : Option β) (K : β → Prop) : Prop := match o with
  | none => False
  | some b => K b
/-- 20000, in a form that nothing unfolds -/
noncomputable def lf : Nat := Classical.choose (⟨20000, rfl⟩ : ∃ n : Nat, n = 20000)
theorem lf_eq : lf = 20000 := Classical.choose_spec (⟨20000, rfl⟩ : ∃ n : Nat, n = 20000)
/-- a loop: it goes on with a state, or comes to an end -/
def wl {S β : Type} (f : S → Option (S ⊕ β)) : Nat → S → Option β
  | 0, _ => none
  | n + 1, s => match f s with
    | none => none
    | some (.inl s') => wl f n s'
    | some (.inr b) => some b
def ldI {β : Type} (m : fm) (k n : Nat) (j : Int32) (f : Int32 → Option β) : Option β := bif ai_in j n then f (m.1 k j.toNatClampNeg) else none
def ldL {β : Type} (m : fm) (k n : Nat) (j : Int32) (f : Int64 → Option β) : Option β := bif ai_in j n then f (m.2 k j.toNatClampNeg) else none
def ldA {β : Type} (b : Nat) (j : Int32) (f : Nat → Option β) : Option β := bif ai_in j 8 then f (b + 4 * j.toNatClampNeg) else none
def ldS {β : Type} (j : Int32) (f : Int32 → Option β) : Option β := bif ai_in j 39 then f (ai_sh j.toNatClampNeg) else none
def ldX {β : Type} (N : Nat) (xs : Nat → Int32) (j : Int32) (f : Int32 → Option β) : Option β := bif ai_in j N then f (xs j.toNatClampNeg) else none
def stI {β : Type} (m : fm) (k n : Nat) (j x : Int32) (f : fm → Option β) : Option β := bif ai_in j n then f (fs1 m k j.toNatClampNeg x) else none
def stB {β : Type} (m : fm) (k n : Nat) (j x : Int32) (f : fm → Option β) : Option β := bif ai_in j n then f (fs1 m k j.toNatClampNeg (vp_nar .boolean x)) else none
def stL {β : Type} (m : fm) (k n : Nat) (j : Int32) (x : Int64) (f : fm → Option β) : Option β := bif ai_in j n then f (fs2 m k j.toNatClampNeg x) else none
def gfI {β : Type} (m : fm) (k b : Nat) (f : Int32 → Option β) : Option β := f (m.1 k b)
def pfI {β : Type} (m : fm) (k b : Nat) (y : Int32) (f : fm → Option β) : Option β := f (fs1 m k b y)
def isB (y : Int32) : Bool := decide (y = 0) || decide (y = 1)
def pfB {β : Type} (m : fm) (k b : Nat) (y : Int32) (f : fm → Option β) : Option β := bif isB y then f (fs1 m k b y) else none
def rtB {β : Type} (y : Int32) (o : Option β) : Option β := bif isB y then o else none
def cl2 {α β : Type} (o : Option (α × fm)) (f : α → fm → Option β) : Option β := match o with
  | none => none
  | some r => f r.1 r.2
def cl1 {β : Type} (o : Option fm) (f : fm → Option β) : Option β := match o with
  | none => none
  | some r => f r
def dvI {β : Type} (x y : Int32) (f : Int32 → Option β) : Option β := if y = 0 then none else f (x / y)
def rmI {β : Type} (x y : Int32) (f : Int32 → Option β) : Option β := if y = 0 then none else f (x - x / y * y)
def cpy1 (m : fm) (k0 sp k1 dp n : Nat) : fm := (fun a b => if a = k1 ∧ dp ≤ b ∧ b < dp + n then m.1 k0 (sp + (b - dp)) else m.1 a b, m.2)
def cpy2 (m : fm) (k0 sp k1 dp n : Nat) : fm := (m.1, fun a b => if a = k1 ∧ dp ≤ b ∧ b < dp + n then m.2 k0 (sp + (b - dp)) else m.2 a b)
def cpok (sp dp n : Int32) (n0 n1 : Nat) : Bool := (!(decide (sp < 0)) && !(decide (dp < 0)) && !(decide (n < 0))) && (Nat.ble (sp.toNatClampNeg + n.toNatClampNeg) n0 && Nat.ble (dp.toNatClampNeg + n.toNatClampNeg) n1)
def cpI {β : Type} (m : fm) (k0 n0 : Nat) (sp : Int32) (k1 n1 : Nat) (dp n : Int32) (f : fm → Option β) : Option β := bif cpok sp dp n n0 n1 then f (cpy1 m k0 sp.toNatClampNeg k1 dp.toNatClampNeg n.toNatClampNeg) else none
def cpL {β : Type} (m : fm) (k0 n0 : Nat) (sp : Int32) (k1 n1 : Nat) (dp n : Int32) (f : fm → Option β) : Option β := bif cpok sp dp n n0 n1 then f (cpy2 m k0 sp.toNatClampNeg k1 dp.toNatClampNeg n.toNatClampNeg) else none
def plk {β : Type} (x : Int32) (f : Nat → Option β) : Option β := bif ai_c .ne x 0 then f 22 else f 20
/-- k is the address of a Code -/
def isC (k : Nat) : Prop := fl_t[k]? = some (.inr (0, [.ref (k + 1), .int 0])) ∧ fl_t[k + 1]? = some (.inl (0, 96, .inl (fun _ => 0))) ∧ Nat.blt k 72 = true ∧ Nat.blt (k + 1) 72 = true ∧ Nat.ble ai_B (k + 1) = false
theorem isC_p : ∀ j, j < 8 → isC (20 + 4 * j)
  | 0, _ => ⟨rfl, rfl, rfl, rfl, rfl⟩
  | 1, _ => ⟨rfl, rfl, rfl, rfl, rfl⟩
  | 2, _ => ⟨rfl, rfl, rfl, rfl, rfl⟩
  | 3, _ => ⟨rfl, rfl, rfl, rfl, rfl⟩
  | 4, _ => ⟨rfl, rfl, rfl, rfl, rfl⟩
  | 5, _ => ⟨rfl, rfl, rfl, rfl, rfl⟩
  | 6, _ => ⟨rfl, rfl, rfl, rfl, rfl⟩
  | 7, _ => ⟨rfl, rfl, rfl, rfl, rfl⟩
  | j + 8, h => absurd h (by omega)
theorem isC_s : ∀ j, j < 8 → isC (22 + 4 * j)
  | 0, _ => ⟨rfl, rfl, rfl, rfl, rfl⟩
  | 1, _ => ⟨rfl, rfl, rfl, rfl, rfl⟩
  | 2, _ => ⟨rfl, rfl, rfl, rfl, rfl⟩
  | 3, _ => ⟨rfl, rfl, rfl, rfl, rfl⟩
  | 4, _ => ⟨rfl, rfl, rfl, rfl, rfl⟩
  | 5, _ => ⟨rfl, rfl, rfl, rfl, rfl⟩
  | 6, _ => ⟨rfl, rfl, rfl, rfl, rfl⟩
  | 7, _ => ⟨rfl, rfl, rfl, rfl, rfl⟩
  | j + 8, h => absurd h (by omega)
/-- p is the address of an array of Codes, the first of which lies at b -/
def isP (p b : Nat) : Prop := fl_t[p]? = some (.inl (3, 8, .inr (.inr (.inr (.inr (fun i => if i < 8 then some (b + 4 * i) else none)))))) ∧ (∀ j, j < 8 → isC (b + 4 * j)) ∧ Nat.blt p 72 = true
theorem isP_1 : isP 1 20 := ⟨rfl, isC_p, rfl⟩
theorem isP_2 : isP 2 22 := ⟨rfl, isC_s, rfl⟩
theorem kl_c {k : Nat} (h : Nat.blt k 72 = true) : ai_kl 72 (some (.ref k)) = true := by
  show (Nat.blt k 72 || Nat.ble ai_B k) = true
  rw [h]
  rfl
theorem k_c {k : Nat} (h : Nat.blt k 72 = true) : ai_k 72 (.ref k) = true := by
  show (Nat.blt k 72 || Nat.ble ai_B k) = true
  rw [h]
  rfl
theorem and_t {a b : Bool} (h1 : a = true) (h2 : b = true) : (a && b) = true := by rw [h1, h2]; rfl
theorem ob_if {β : Type} {c : Bool} {o1 o2 : Option β} {K : β → Prop} (h : ob (bif c then o1 else o2) K) : (c = true ∧ ob o1 K) ∨ (c = false ∧ ob o2 K) := by
  cases c with
  | true => exact Or.inl ⟨rfl, h⟩
  | false => exact Or.inr ⟨rfl, h⟩
theorem ob_g {β : Type} {c : Bool} {o1 : Option β} {K : β → Prop} (h : ob (bif c then o1 else none) K) : c = true ∧ ob o1 K := by
  cases c with
  | true => exact ⟨rfl, h⟩
  | false => exact h.elim
theorem ob_cl2 {α β : Type} {o : Option (α × fm)} {f : α → fm → Option β} {K : β → Prop} (h : ob (cl2 o f) K) : ob o (fun r => ob (f r.1 r.2) K) := by
  cases o with
  | none => exact h
  | some r => exact h
theorem ob_cl1 {β : Type} {o : Option fm} {f : fm → Option β} {K : β → Prop} (h : ob (cl1 o f) K) : ob o (fun r => ob (f r) K) := by
  cases o with
  | none => exact h
  | some r => exact h
theorem ob_mapR {S β : Type} {o : Option β} {P : S → Prop} {K : β → Prop} (h : ob (o.map (Sum.inr : β → S ⊕ β)) (Sum.elim P K)) : ob o K := by
  cases o with
  | none => exact h
  | some r => exact h
theorem wl_ob {S β : Type} {f : S → Option (S ⊕ β)} {K : β → Prop} {P : S → Prop} (hs : ∀ s, ob (f s) (Sum.elim P K) → P s) : ∀ n s, ob (wl f n s) K → P s
  | 0, s, h => h.elim
  | n + 1, s, h => by
    apply hs
    unfold wl at h
    cases hf : f s with
    | none => rw [hf] at h; exact h.elim
    | some x =>
      rw [hf] at h
      cases x with
      | inl s' => exact wl_ob hs n s' h
      | inr b => exact h
/-- n instructions on locals and stack alone -/
def ai_ss (r : ai_R) : Nat → Nat → List (Option Value) → List Value → Option (Nat × List (Option Value) × List Value)
  | 0, pc, L, st => some (pc, L, st)
  | n + 1, pc, L, st => match ai_at r pc with
    | none => none
    | some (i, _, _, bm) => match ai_s i pc r.2.2.2.1 (ai_mk bm L) st with
      | some (pc', L', st') => ai_ss r n pc' L' st'
      | none => none
theorem ai_mk_mk : ∀ (bm : List Bool) (L : List (Option Value)), ai_mk bm (ai_mk bm L) = ai_mk bm L
  | [], L => by unfold ai_mk; rfl
  | b :: bm, [] => by cases b <;> rfl
  | true :: bm, x :: t => congrArg (x :: ·) (ai_mk_mk bm t)
  | false :: bm, x :: t => congrArg (none :: ·) (ai_mk_mk bm t)
section OB
variable {X : ai_X} {d w : Nat} {r : ai_R} {pc : Nat} {L : List (Option Value)} {st : List Value} {m : fm} {Q : Option Value → fm → Prop} {i : ClassFile.Instr} {a b : Nat} {bm : List Bool} {β : Type} {K : β → Prop}
theorem fT_ss (n : Nat) {pc' : Nat} {L' : List (Option Value)} {st' : List Value} (hs : ai_ss r n pc L st = some (pc', L', st')) (h : fT X d w r pc' L' st' m Q) : fT X d w r pc L st m Q := by
  induction n generalizing pc L st with
  | zero => cases hs; exact h
  | succ n ih =>
    unfold ai_ss at hs
    cases hat : ai_at r pc with
    | none => rw [hat] at hs; cases hs
    | some z =>
      obtain ⟨i, a, b, bm⟩ := z
      rw [hat] at hs
      cases h1 : ai_s i pc r.2.2.2.1 (ai_mk bm L) st with
      | none => simp only [h1] at hs; cases hs
      | some y =>
        obtain ⟨p2, L2, s2⟩ := y
        simp only [h1] at hs
        exact fT_s hat h1 (ih hs)
theorem fT_mk (hat : ai_at r pc = some (i, a, b, bm)) {L' : List (Option Value)} (hL : ai_mk bm L = L') (h : fT X d w r pc L' st m Q) : fT X d w r pc L st m Q := by
  obtain ⟨pc1, v, m1, h, q⟩ := h
  refine ⟨pc1, v, m1, fun c s => ?_, q⟩
  obtain ⟨n, h⟩ := h c s
  refine ⟨n, ?_⟩
  cases n with
  | zero => cases h
  | succ n =>
    subst hL
    unfold ai_x at h ⊢
    rw [hat] at h ⊢
    simp only [ai_mk_mk] at h
    exact h
theorem fO_if {cd : ClassFile.Cond} {off : Int} {x : Int32} {o1 o2 : Option β} (t : Nat) (hat : ai_at r pc = some (.ifCond cd off, a, b, bm)) (ht : (pc : Int) + off = (t : Int)) (h : ob (bif ai_c cd x 0 then o1 else o2) K) (h1 : ob o1 K → fT X d w r t (ai_mk bm L) st m Q) (h2 : ob o2 K → fT X d w r (pc + 3) (ai_mk bm L) st m Q) : fT X d w r pc L (.int x :: st) m Q := by
  refine fT_if (t := t) hat ht (fun hc => ?_) (fun hc => ?_)
  · rw [hc] at h; exact h1 h
  · rw [hc] at h; exact h2 h
theorem fO_ic {cd : ClassFile.Cond} {off : Int} {x y : Int32} {o1 o2 : Option β} (t : Nat) (hat : ai_at r pc = some (.if_icmp cd off, a, b, bm)) (ht : (pc : Int) + off = (t : Int)) (h : ob (bif ai_c cd x y then o1 else o2) K) (h1 : ob o1 K → fT X d w r t (ai_mk bm L) st m Q) (h2 : ob o2 K → fT X d w r (pc + 3) (ai_mk bm L) st m Q) : fT X d w r pc L (.int y :: .int x :: st) m Q := by
  refine fT_ic (t := t) hat ht (fun hc => ?_) (fun hc => ?_)
  · rw [hc] at h; exact h1 h
  · rw [hc] at h; exact h2 h
theorem fO_gi {x k : Nat} {fs : List Value} {z : Int32} {f : Int32 → Option β} (hat : ai_at r pc = some (.getfield x, a, b, bm)) (hk : fl_t[k]? = some (.inr (a, fs))) (hb : fs[b]? = some (.int z)) (h : ob (gfI m k b f) K) (h2 : ∀ v, ob (f v) K → fT X d w r (pc + 3) (ai_mk bm L) (.int v :: st) m Q) : fT X d w r pc L (.ref k :: st) m Q :=
  fT_gi hat hk hb (h2 _ h)
theorem fO_pi {x k : Nat} {fs : List Value} {z y : Int32} {f : fm → Option β} (hat : ai_at r pc = some (.putfield x, a, b, bm)) (hk : fl_t[k]? = some (.inr (a, fs))) (hb : fs[b]? = some (.int z)) (hty : ai_ft a b = some .int) (h : ob (pfI m k b y f) K) (h2 : ∀ m1, ob (f m1) K → fT X d w r (pc + 3) (ai_mk bm L) st m1 Q) : fT X d w r pc L (.int y :: .ref k :: st) m Q :=
  fT_pi hat hk hb hty rfl (h2 _ h)
theorem fO_pb {x k : Nat} {fs : List Value} {z y : Int32} {f : fm → Option β} (hat : ai_at r pc = some (.putfield x, a, b, bm)) (hk : fl_t[k]? = some (.inr (a, fs))) (hb : fs[b]? = some (.int z)) (hty : ai_ft a b = some .boolean) (h : ob (pfB m k b y f) K) (h2 : ∀ m1, ob (f m1) K → fT X d w r (pc + 3) (ai_mk bm L) st m1 Q) : fT X d w r pc L (.int y :: .ref k :: st) m Q :=
  fT_pi hat hk hb hty (ob_g h).1 (h2 _ (ob_g h).2)
theorem fO_ia {k n : Nat} {g : Nat → Int32} {j : Int32} {f : Int32 → Option β} (hat : ai_at r pc = some (.iaload, a, b, bm)) (hk : fl_t[k]? = some (.inl (0, n, .inl g))) (hkB : Nat.ble ai_B k = false) (h : ob (ldI m k n j f) K) (h2 : ∀ v, ob (f v) K → fT X d w r (pc + 1) (ai_mk bm L) (.int v :: st) m Q) : fT X d w r pc L (.int j :: .ref k :: st) m Q :=
  fT_ia hat hk hkB (ob_g h).1 (h2 _ (ob_g h).2)
theorem fO_ba {k n : Nat} {g : Nat → Int32} {j : Int32} {f : Int32 → Option β} (hat : ai_at r pc = some (.baload, a, b, bm)) (hk : fl_t[k]? = some (.inl (1, n, .inl g))) (h : ob (ldI m k n j f) K) (h2 : ∀ v, ob (f v) K → fT X d w r (pc + 1) (ai_mk bm L) (.int v :: st) m Q) : fT X d w r pc L (.int j :: .ref k :: st) m Q :=
  fT_ba hat hk (ob_g h).1 (h2 _ (ob_g h).2)
theorem fO_la {k n : Nat} {g : Nat → Int64} {j : Int32} {f : Int64 → Option β} (hat : ai_at r pc = some (.laload, a, b, bm)) (hk : fl_t[k]? = some (.inl (2, n, .inr (.inl g)))) (h : ob (ldL m k n j f) K) (h2 : ∀ v, ob (f v) K → fT X d w r (pc + 1) (ai_mk bm L) (.long v :: st) m Q) : fT X d w r pc L (.int j :: .ref k :: st) m Q :=
  fT_la hat hk (ob_g h).1 (h2 _ (ob_g h).2)
theorem fO_aa {k k0 : Nat} {j : Int32} {f : Nat → Option β} (hat : ai_at r pc = some (.aaload, a, b, bm)) (hk : isP k k0) (h : ob (ldA k0 j f) K) (h2 : ∀ c, isC c → ob (f c) K → fT X d w r (pc + 1) (ai_mk bm L) (.ref c :: st) m Q) : fT X d w r pc L (.int j :: .ref k :: st) m Q := by
  have hj := ai_inlt (ai_inI (ob_g h).1)
  exact fT_aa hat hk.1 (ob_g h).1 (if_pos hj) (h2 _ (hk.2.1 _ hj) (ob_g h).2)
theorem fO_sh {j : Int32} {f : Int32 → Option β} (hX : X[1]? = some (39, ai_sh)) (hat : ai_at r pc = some (.iaload, a, b, bm)) (h : ob (ldS j f) K) (h2 : ∀ v, ob (f v) K → fT X d w r (pc + 1) (ai_mk bm L) (.int v :: st) m Q) : fT X d w r pc L (.int j :: .ref (ai_B + 1) :: st) m Q :=
  fT_sh (k := ai_B + 1) hat rfl hX (ob_g h).1 (h2 _ (ob_g h).2)
theorem fO_xa {N : Nat} {xs : Nat → Int32} {j : Int32} {f : Int32 → Option β} (hX : X[0]? = some (N, xs)) (hat : ai_at r pc = some (.iaload, a, b, bm)) (h : ob (ldX N xs j f) K) (h2 : ∀ v, ob (f v) K → fT X d w r (pc + 1) (ai_mk bm L) (.int v :: st) m Q) : fT X d w r pc L (.int j :: .ref ai_B :: st) m Q :=
  fT_sh (k := ai_B) hat rfl (by rw [Nat.sub_self]; exact hX) (ob_g h).1 (h2 _ (ob_g h).2)
theorem fO_is {k n : Nat} {g : Nat → Int32} {j x : Int32} {f : fm → Option β} (hat : ai_at r pc = some (.iastore, a, b, bm)) (hk : fl_t[k]? = some (.inl (0, n, .inl g))) (h : ob (stI m k n j x f) K) (h2 : ∀ m1, ob (f m1) K → fT X d w r (pc + 1) (ai_mk bm L) st m1 Q) : fT X d w r pc L (.int x :: .int j :: .ref k :: st) m Q :=
  fT_is hat hk (ob_g h).1 (h2 _ (ob_g h).2)
theorem fO_bs {k n : Nat} {g : Nat → Int32} {j x : Int32} {f : fm → Option β} (hat : ai_at r pc = some (.bastore, a, b, bm)) (hk : fl_t[k]? = some (.inl (1, n, .inl g))) (h : ob (stB m k n j x f) K) (h2 : ∀ m1, ob (f m1) K → fT X d w r (pc + 1) (ai_mk bm L) st m1 Q) : fT X d w r pc L (.int x :: .int j :: .ref k :: st) m Q :=
  fT_bs hat hk (ob_g h).1 (h2 _ (ob_g h).2)
theorem fO_ls {k n : Nat} {g : Nat → Int64} {j : Int32} {x : Int64} {f : fm → Option β} (hat : ai_at r pc = some (.lastore, a, b, bm)) (hk : fl_t[k]? = some (.inl (2, n, .inr (.inl g)))) (h : ob (stL m k n j x f) K) (h2 : ∀ m1, ob (f m1) K → fT X d w r (pc + 1) (ai_mk bm L) st m1 Q) : fT X d w r pc L (.long x :: .int j :: .ref k :: st) m Q :=
  fT_ls hat hk (ob_g h).1 (h2 _ (ob_g h).2)
theorem fO_dv {x y : Int32} {f : Int32 → Option β} (hat : ai_at r pc = some (.idiv, a, b, bm)) (h : ob (dvI x y f) K) (h2 : ∀ v, ob (f v) K → fT X d w r (pc + 1) (ai_mk bm L) (.int v :: st) m Q) : fT X d w r pc L (.int y :: .int x :: st) m Q := by
  unfold dvI at h
  by_cases hy : y = 0
  · rw [if_pos hy] at h; exact h.elim
  · rw [if_neg hy] at h
    exact fT_s hat (by show (if y = 0 then none else _) = _; rw [if_neg hy]) (h2 _ h)
theorem fO_rm {x y : Int32} {f : Int32 → Option β} (hat : ai_at r pc = some (.irem, a, b, bm)) (h : ob (rmI x y f) K) (h2 : ∀ v, ob (f v) K → fT X d w r (pc + 1) (ai_mk bm L) (.int v :: st) m Q) : fT X d w r pc L (.int y :: .int x :: st) m Q := by
  unfold rmI at h
  by_cases hy : y = 0
  · rw [if_pos hy] at h; exact h.elim
  · rw [if_neg hy] at h
    exact fT_s hat (by show (if y = 0 then none else _) = _; rw [if_neg hy]) (h2 _ h)
theorem fO_al {k n : Nat} (hat : ai_at r pc = some (.arraylength, a, b, bm)) (hk : ai_len2 X (fl m) k = some (.int (nI n))) (h2 : fT X d w r (pc + 1) (ai_mk bm L) (.int (nI n) :: st) m Q) : fT X d w r pc L (.ref k :: st) m Q := by
  refine fT_m hat (dp := 1) (m' := m) ?_ h2
  show ai_ret3 (ai_len2 X (fl m) k) 1 st (fl m) = _
  rw [hk]
  rfl
theorem len_c {c : Nat} (hc : isC c) : ai_len2 X (fl m) (c + 1) = some (.int (nI 96)) := by
  unfold ai_len2
  rw [hc.2.2.2.2]
  simp only [fl_i hc.2.1]
  rfl
theorem len_5 : ai_len2 X (fl m) 5 = some (.int (nI 96)) := by
  unfold ai_len2
  rw [show Nat.ble ai_B 5 = false from rfl]
  have e : (fl m)[5]? = some (.inl (2, 96, .inr (.inl (m.2 5)))) := fl_l (k := 5) rfl
  simp only [e]
  rfl
theorem len_x {N : Nat} {xs : Nat → Int32} (hX : X[0]? = some (N, xs)) : ai_len2 X (fl m) ai_B = some (.int (nI N)) := by
  unfold ai_len2
  rw [show Nat.ble ai_B ai_B = true from rfl, Nat.sub_self, hX]
  rfl
theorem fO_rb {y : Int32} {o : Option β} (hat : ai_at r pc = some (.ireturn, a, b, bm)) (hty : r.2.2.2.2.1 = some .boolean) (h : ob (rtB y o) K) (hq : ob o K → Q (some (.int y)) m) : fT X d w r pc L [.int y] m Q := by
  refine fT_r hat (v := some (.int y)) ?_ (hq (ob_g h).2)
  rw [hty]
  have e : (decide (y = 0) || decide (y = 1)) = true := (ob_g h).1
  simp only [ai_ans, e]
def vl {α : Type} (x : α) (f : α → Option β) : Option β := f x
theorem fO_vl {x : Int32} {f : Int32 → Option β} (h : ob (vl x f) K) (h2 : ∀ y, ob (f y) K → fT X d w r pc L (.int y :: st) m Q) : fT X d w r pc L (.int x :: st) m Q := h2 _ h
theorem ob_s {c : β} (h : ob (some c) K) : K c := h
theorem ob_inl {S : Type} {s : S} {P : S → Prop} (h : ob (some (Sum.inl s : S ⊕ β)) (Sum.elim P K)) : P s := h
theorem ob_inr {S : Type} {c : β} {P : S → Prop} (h : ob (some (Sum.inr c : S ⊕ β)) (Sum.elim P K)) : ob (some c) K := h
theorem ob_eqT {α : Type} [DecidableEq α] {x : α} {o1 o2 : Option β} (h : ob (bif decide (x = x) then o1 else o2) K) : ob o1 K := by
  rw [decide_eq_true rfl] at h; exact h
theorem ob_eqF {x y : Int32} {o1 o2 : Option β} (e : ¬ x = y) (h : ob (bif decide (x = y) then o1 else o2) K) : ob o2 K := by
  rw [decide_eq_false e] at h; exact h
theorem nt {x : Int32} {k : Nat} (hk : k < 2 ^ 31) (h : ¬ x = nI k) : x.toInt ≠ (k : Int) := fun e => h (Int32.toInt_inj.mp (by rw [e, nI_toInt hk]))
theorem fO_td {df lo hi : Int} {offs : Array Int} {x : Int32} (t : Nat) (hat : ai_at r pc = some (.tableswitch df lo hi offs, a, b, bm)) (ht : (pc : Int) + df = (t : Int)) (hx : x.toInt < lo ∨ hi < x.toInt) (h : fT X d w r t (ai_mk bm L) st m Q) : fT X d w r pc L (.int x :: st) m Q := by
  refine fT_s hat (pc' := t) (L' := ai_mk bm L) (st' := st) ?_ h
  show (if x.toInt < lo ∨ hi < x.toInt then ai_to pc df (ai_mk bm L) st else _) = _
  rw [if_pos hx]
  unfold ai_to
  rw [ht]
theorem fO_ld {df : Int} {ps : Array (Int × Int)} {x : Int32} (t : Nat) (hat : ai_at r pc = some (.lookupswitch df ps, a, b, bm)) (ht : (pc : Int) + df = (t : Int)) (hz : (ps.toList.zip (ps.toList.drop 1)).all (fun (a, next) => a.1 < next.1) = true) (hx : Op.lookupswitch.offset ps.toList df x.toInt = df) (h : fT X d w r t (ai_mk bm L) st m Q) : fT X d w r pc L (.int x :: st) m Q := by
  refine fT_s hat (pc' := t) (L' := ai_mk bm L) (st' := st) ?_ h
  show (if (ps.toList.zip (ps.toList.drop 1)).all (fun (a, next) => a.1 < next.1) = true then ai_to pc (Op.lookupswitch.offset ps.toList df x.toInt) (ai_mk bm L) st else none) = _
  rw [if_pos hz, hx]
  unfold ai_to
  rw [ht]
theorem all_c {α : Type} {p : α → Bool} {x : α} {l : List α} (h1 : p x = true) (h2 : l.all p = true) : (x :: l).all p = true := by
  show (p x && l.all p) = true
  rw [h1, h2]; rfl
theorem fO_qv2 {α : Type} (emb : α → Value) {x k ci : Nat} {r' : ai_R} {fs As rest : List Value} {g : Option (α × fm)} {f : α → fm → Option β} (hat : ai_at r pc = some (.invokevirtual x, a, b, bm)) (hr : ai_ms[b]? = some r') (hst : (st.take r'.2.2.2.2.2.1).reverse = .ref k :: As) (hre : st.drop r'.2.2.2.2.2.1 = rest) (hk : fl_t[k]? = some (.inr (ci, fs))) (hc : (Nat.beq ci r'.1 && Nat.beq (As.length + 1) r'.2.2.2.2.2.1) = true) (g1 : 0 < d) (g2 : 19 + r'.2.2.2.1 ≤ w) (g3 : ai_cat rest ≤ 8) (g4 : ai_cat (.ref k :: As) ≤ r'.2.2.2.1) (g5 : (ai_mk bm L).all (ai_kl 72) = true) (g6 : rest.all (ai_k 72) = true) (h1 : ∀ Qc, ob g (fun z => Qc (some (emb z.1)) z.2) → fT X (d - 1) (w - (19 + r'.2.2.2.1)) r' 0 (ai_en r'.2.2.2.1 (.ref k :: As)) [] m Qc) (h : ob (cl2 g f) K) (h2 : ∀ v m1, ob (f v m1) K → fT X d w r (pc + 3) (ai_mk bm L) (emb v :: rest) m1 Q) : fT X d w r pc L st m Q := by
  refine fT_qv hat hr hst hre hk hc g1 g2 g3 g4 g5 g6 (Qc := fun v m1 => ∃ z, v = some (emb z) ∧ ob (f z m1) K) (h1 _ ?_) (fun v m1 hq => ?_)
  · cases g with
    | none => exact h.elim
    | some z => exact ⟨z.1, rfl, h⟩
  · obtain ⟨z, rfl, hz⟩ := hq
    exact h2 z m1 hz
theorem fO_qv1 {x k ci : Nat} {r' : ai_R} {fs As rest : List Value} {g : Option fm} {f : fm → Option β} (hat : ai_at r pc = some (.invokevirtual x, a, b, bm)) (hr : ai_ms[b]? = some r') (hst : (st.take r'.2.2.2.2.2.1).reverse = .ref k :: As) (hre : st.drop r'.2.2.2.2.2.1 = rest) (hk : fl_t[k]? = some (.inr (ci, fs))) (hc : (Nat.beq ci r'.1 && Nat.beq (As.length + 1) r'.2.2.2.2.2.1) = true) (g1 : 0 < d) (g2 : 19 + r'.2.2.2.1 ≤ w) (g3 : ai_cat rest ≤ 8) (g4 : ai_cat (.ref k :: As) ≤ r'.2.2.2.1) (g5 : (ai_mk bm L).all (ai_kl 72) = true) (g6 : rest.all (ai_k 72) = true) (h1 : ∀ Qc, ob g (fun z => Qc none z) → fT X (d - 1) (w - (19 + r'.2.2.2.1)) r' 0 (ai_en r'.2.2.2.1 (.ref k :: As)) [] m Qc) (h : ob (cl1 g f) K) (h2 : ∀ m1, ob (f m1) K → fT X d w r (pc + 3) (ai_mk bm L) rest m1 Q) : fT X d w r pc L st m Q := by
  refine fT_qv hat hr hst hre hk hc g1 g2 g3 g4 g5 g6 (Qc := fun v m1 => v = none ∧ ob (f m1) K) (h1 _ ?_) (fun v m1 hq => ?_)
  · cases g with
    | none => exact h.elim
    | some z => exact ⟨rfl, h⟩
  · obtain ⟨rfl, hz⟩ := hq
    exact h2 m1 hz
theorem fO_qs2 {α : Type} (emb : α → Value) {x : Nat} {r' : ai_R} {As rest : List Value} {g : Option (α × fm)} {f : α → fm → Option β} (hat : ai_at r pc = some (.invokestatic x, a, b, bm)) (ha : Nat.beq a 8 = false) (hr : ai_ms[b]? = some r') (hst : (st.take r'.2.2.2.2.2.1).reverse = As) (hre : st.drop r'.2.2.2.2.2.1 = rest) (hc : Nat.beq (st.take r'.2.2.2.2.2.1).length r'.2.2.2.2.2.1 = true) (g1 : 0 < d) (g2 : 19 + r'.2.2.2.1 ≤ w) (g3 : ai_cat rest ≤ 8) (g4 : ai_cat As ≤ r'.2.2.2.1) (g5 : (ai_mk bm L).all (ai_kl 72) = true) (g6 : rest.all (ai_k 72) = true) (h1 : ∀ Qc, ob g (fun z => Qc (some (emb z.1)) z.2) → fT X (d - 1) (w - (19 + r'.2.2.2.1)) r' 0 (ai_en r'.2.2.2.1 As) [] m Qc) (h : ob (cl2 g f) K) (h2 : ∀ v m1, ob (f v m1) K → fT X d w r (pc + 3) (ai_mk bm L) (emb v :: rest) m1 Q) : fT X d w r pc L st m Q := by
  refine fT_qs hat ha hr hst hre hc g1 g2 g3 g4 g5 g6 (Qc := fun v m1 => ∃ z, v = some (emb z) ∧ ob (f z m1) K) (h1 _ ?_) (fun v m1 hq => ?_)
  · cases g with
    | none => exact h.elim
    | some z => exact ⟨z.1, rfl, h⟩
  · obtain ⟨z, rfl, hz⟩ := hq
    exact h2 z m1 hz
theorem cp_set1 {k1 n1 : Nat} {g : Nat → Int32} {k0 sp dp n : Nat} (h0 : fl_t[k1]? = some (.inl (0, n1, .inl g))) : (fl m).set k1 (.inl (0, n1, .inl (va_cpy (m.1 k0) (m.1 k1) sp dp n))) = fl (cpy1 m k0 sp k1 dp n) := by
  refine fl_set h0 ?_ (fun j hj z => ?_)
  · show (Sum.inl (0, n1, Sum.inl ((cpy1 m k0 sp k1 dp n).1 k1)) : va_E) = _
    congr 4
    funext b
    show (if k1 = k1 ∧ dp ≤ b ∧ b < dp + n then m.1 k0 (sp + (b - dp)) else m.1 k1 b) = (if dp ≤ b ∧ b < dp + n then m.1 k0 (sp + (b - dp)) else m.1 k1 b)
    by_cases hb : dp ≤ b ∧ b < dp + n
    · rw [if_pos ⟨rfl, hb⟩, if_pos hb]
    · rw [if_neg (fun z => hb z.2), if_neg hb]
  · have hf : (cpy1 m k0 sp k1 dp n).1 j = m.1 j := by
      funext b
      show (if j = k1 ∧ dp ≤ b ∧ b < dp + n then m.1 k0 (sp + (b - dp)) else m.1 j b) = _
      rw [if_neg (fun z => hj z.1)]
    unfold fl_e
    rw [hf]
    rfl
theorem cp_set2 {k1 n1 : Nat} {g : Nat → Int64} {k0 sp dp n : Nat} (h0 : fl_t[k1]? = some (.inl (2, n1, .inr (.inl g)))) : (fl m).set k1 (.inl (2, n1, .inr (.inl (va_cpy (m.2 k0) (m.2 k1) sp dp n)))) = fl (cpy2 m k0 sp k1 dp n) := by
  refine fl_set h0 ?_ (fun j hj z => ?_)
  · show (Sum.inl (2, n1, Sum.inr (Sum.inl ((cpy2 m k0 sp k1 dp n).2 k1))) : va_E) = _
    congr 5
    funext b
    show (if k1 = k1 ∧ dp ≤ b ∧ b < dp + n then m.2 k0 (sp + (b - dp)) else m.2 k1 b) = (if dp ≤ b ∧ b < dp + n then m.2 k0 (sp + (b - dp)) else m.2 k1 b)
    by_cases hb : dp ≤ b ∧ b < dp + n
    · rw [if_pos ⟨rfl, hb⟩, if_pos hb]
    · rw [if_neg (fun z => hb z.2), if_neg hb]
  · have hf : (cpy2 m k0 sp k1 dp n).2 j = m.2 j := by
      funext b
      show (if j = k1 ∧ dp ≤ b ∧ b < dp + n then m.2 k0 (sp + (b - dp)) else m.2 j b) = _
      rw [if_neg (fun z => hj z.1)]
    unfold fl_e
    rw [hf]
    rfl
theorem fO_cpI {x k0 n0 k1 n1 : Nat} {g0 g1 : Nat → Int32} {sp dp n : Int32} {f : fm → Option β} (hat : ai_at r pc = some (.invokestatic x, 8, b, bm)) (h0 : fl_t[k0]? = some (.inl (0, n0, .inl g0))) (h1 : fl_t[k1]? = some (.inl (0, n1, .inl g1))) (hc : ai_cat st ≤ 8) (hd : 0 < d) (hw : 32 ≤ w) (h : ob (cpI m k0 n0 sp k1 n1 dp n f) K) (h2 : ∀ m1, ob (f m1) K → fT X d w r (pc + 3) (ai_mk bm L) st m1 Q) : fT X d w r pc L (.int n :: .int dp :: .ref k1 :: .int sp :: .ref k0 :: st) m Q := by
  refine fT_z hat (m' := cpy1 m k0 sp.toNatClampNeg k1 dp.toNatClampNeg n.toNatClampNeg) ?_ hd hw (h2 _ (ob_g h).2)
  obtain ⟨e1, e2⟩ := Bool.and_eq_true_iff.mp (ob_g h).1
  obtain ⟨e1, e5⟩ := Bool.and_eq_true_iff.mp e1
  obtain ⟨e3, e4⟩ := Bool.and_eq_true_iff.mp e1
  simp only [ai_z, fl_i h0, fl_i h1, Nat.beq_refl, e2, e3, e4, e5, Nat.ble_eq_true_of_le hc, Bool.and_self]
  rw [cp_set1 h1]
theorem fO_cpL {x k0 n0 k1 n1 : Nat} {g0 g1 : Nat → Int64} {sp dp n : Int32} {f : fm → Option β} (hat : ai_at r pc = some (.invokestatic x, 8, b, bm)) (h0 : fl_t[k0]? = some (.inl (2, n0, .inr (.inl g0)))) (h1 : fl_t[k1]? = some (.inl (2, n1, .inr (.inl g1)))) (hc : ai_cat st ≤ 8) (hd : 0 < d) (hw : 32 ≤ w) (h : ob (cpL m k0 n0 sp k1 n1 dp n f) K) (h2 : ∀ m1, ob (f m1) K → fT X d w r (pc + 3) (ai_mk bm L) st m1 Q) : fT X d w r pc L (.int n :: .int dp :: .ref k1 :: .int sp :: .ref k0 :: st) m Q := by
  refine fT_z hat (m' := cpy2 m k0 sp.toNatClampNeg k1 dp.toNatClampNeg n.toNatClampNeg) ?_ hd hw (h2 _ (ob_g h).2)
  obtain ⟨e1, e2⟩ := Bool.and_eq_true_iff.mp (ob_g h).1
  obtain ⟨e1, e5⟩ := Bool.and_eq_true_iff.mp e1
  obtain ⟨e3, e4⟩ := Bool.and_eq_true_iff.mp e1
  simp only [ai_z, fl_l h0, fl_l h1, Nat.beq_refl, e2, e3, e4, e5, Nat.ble_eq_true_of_le hc, Bool.and_self]
  rw [cp_set2 h1]
theorem t85 {x : Int32} : fT X d w ai_r85 0 [some (.ref 0), some (.int x)] [] m (fun v m1 => (ai_c .ne x 0 = true ∧ v = some (.ref 2) ∧ m1 = m) ∨ (ai_c .ne x 0 = false ∧ v = some (.ref 1) ∧ m1 = m)) := by
  refine fT_ss 1 rfl ?_
  refine fT_if (t := 11) rfl rfl (fun h => ?_) (fun h => ?_)
  · refine fT_ss 1 rfl ?_
    refine fT_gr rfl rfl rfl ?_
    exact fT_r rfl rfl (Or.inl ⟨h, rfl, rfl⟩)
  · refine fT_ss 1 rfl ?_
    refine fT_gr rfl rfl rfl ?_
    refine fT_ss 1 rfl ?_
    exact fT_r rfl rfl (Or.inr ⟨h, rfl, rfl⟩)
theorem fO_pl {x : Int32} {x0 : Nat} {f : Nat → Option β} (hat : ai_at r pc = some (.invokevirtual x0, a, 85, bm)) (g1 : 0 < d) (g2 : 21 ≤ w) (g3 : ai_cat st ≤ 8) (g5 : (ai_mk bm L).all (ai_kl 72) = true) (g6 : st.all (ai_k 72) = true) (h : ob (plk x f) K) (h2 : ∀ p q, isP p q → ob (f q) K → fT X d w r (pc + 3) (ai_mk bm L) (.ref p :: st) m Q) : fT X d w r pc L (.int x :: .ref 0 :: st) m Q := by
  refine fT_qv (r' := ai_r85) (As := [.int x]) (rest := st) hat rfl rfl rfl rfl rfl g1 g2 g3 (Nat.le_of_ble_eq_true rfl) g5 g6 t85 (fun v m1 hq => ?_)
  unfold plk at h
  rcases hq with ⟨hc, rfl, rfl⟩ | ⟨hc, rfl, rfl⟩
  · rw [hc] at h
    exact h2 2 22 isP_2 h
  · rw [hc] at h
    exact h2 1 20 isP_1 h
end OB
