def ai_len (i : ClassFile.Instr) : Nat := match i with
  | .bipush _ | .iload _ | .lload _ | .aload _ | .istore _ | .lstore _ | .astore _ | .newarray _ => 2
  | .sipush _ | .ifCond _ _ | .if_icmp _ _ | .goto _ | .iinc _ _ | .getfield _ | .putfield _ | .getstatic _ | .invokevirtual _ | .invokespecial _ | .invokestatic _ | .new _ | .anewarray _ | .ldc2_w _ => 3
  | .tableswitch _ _ _ _ | .lookupswitch _ _ => 0
  | _ => 1
def ai_dec (c : ByteArray) (pc : Nat) (i : ClassFile.Instr) : Bool := match decode c pc with
  | .ok (j, n) => decide (j = i) && (Nat.beq n (ai_len i) || Nat.beq (ai_len i) 0)
  | .error _ => false
/-- is field b of class a final? -/
def ai_fin (a b : Nat) : Bool := match vwCl[a]? with
  | some (_, T, _) => (T b).2.2.2
  | none => true
def ai_lnk (o : Nat) (y : MethodName) (i : ClassFile.Instr) (a b : Nat) : Bool := match i with
  | .getfield x => decide ((o, x, a, b) ∈ ai_LF) || decide ((o, x, a, b) ∈ ai_LFN)
  | .putfield x => decide ((o, x, a, b) ∈ ai_LF) && (!(ai_fin a b) || (decide (y.name = "<init>") && Nat.beq o a))
  | .getstatic x => Nat.beq o 5 && Nat.beq x 171 && Nat.beq a 1
  | .invokevirtual x => Nat.beq a 0 && decide ((o, x, a, b) ∈ ai_LC)
  | .invokespecial x => (Nat.beq a 9 && decide (Cond.methodLink (ai_cn o) x objectInit ∈ lw_tbl)) || ((Nat.beq a 2 || Nat.beq a 5) && decide ((o, x, a, b) ∈ ai_LC))
  | .invokestatic x => (Nat.beq a 8 && decide (Cond.methodLink (ai_cn o) x arraycopyName ∈ lw_tbl)) || ((Nat.beq a 1 || Nat.beq a 4) && decide ((o, x, a, b) ∈ ai_LC))
  | .new x => decide ((o, x, a) ∈ ai_LN)
  | .anewarray x => Nat.beq a 0 && decide ((o, x, a) ∈ ai_LN)
  | .ldc2_w x => decide ((o, x, a) ∈ ai_LK)
  | _ => true
def ai_ch1 (r : ai_R) (j : Nat) : Nat → List (Option ai_N) → Bool
  | _, [] => true
  | t, none :: l => ai_ch1 r j (t + 1) l
  | t, some (i, a, b, _) :: l => ai_dec r.2.2.1 (16 * j + t) i && ai_lnk r.1 r.2.1 i a b && ai_ch1 r j (t + 1) l
def ai_ch (r : ai_R) : Nat → List (List (Option ai_N)) → Bool
  | _, [] => true
  | j, ch :: l => ai_ch1 r j 0 ch && ai_ch r (j + 1) l
def ai_chk (r : ai_R) : Bool := ai_ch r 0 r.2.2.2.2.2.2
theorem ai_ch_cons {r : ai_R} {j : Nat} {ch : List (Option ai_N)} {l : List (List (Option ai_N))} (h1 : ai_ch1 r j 0 ch = true) (h2 : ai_ch r (j + 1) l = true) : ai_ch r j (ch :: l) = true := Bool.and_eq_true_iff.mpr ⟨h1, h2⟩
def ai_okF (q : Nat × Nat × Nat × Nat) : Bool := match vwCl[q.2.2.1]? with
  | some (_, T, N) => decide (q.2.2.2 < N) && decide (Cond.fieldLink (ai_cn q.1) q.2.1 (T q.2.2.2).1 (T q.2.2.2).2.1 (T q.2.2.2).2.2.1 ∈ lw_tbl)
  | none => false
def ai_okFN (q : Nat × Nat × Nat × Nat) : Bool := match vwCl[q.2.2.1]? with
  | some (_, T, N) => decide (q.2.2.2 < N) && decide (Cond.fieldLinkNest (ai_cn q.1) q.2.1 (T q.2.2.2).1 (T q.2.2.2).2.1 (T q.2.2.2).2.2.1 "DeadCode" ∈ lw_tbl)
  | none => false
def ai_is (p : Nat) (w : Cond) : Bool := decide (lw_tbl[p]? = some w)
def ai_okC (z : (Nat × Nat × Nat × Nat) × (Nat × Nat × Nat × Nat)) : Bool := match z with
  | (q, p) => match ai_ms[q.2.2.2]? with
  | some (o, y, _, _, ret, na, _) => ai_is p.2.2.2 (Cond.initialized y.cls) && (match q.2.2.1 with
    | 0 => ai_is p.1 (Cond.methodLink (ai_cn q.1) q.2.1 y) && ai_is p.2.1 (Cond.instanceMethod y) && ai_is p.2.2.1 (Cond.selects y.cls y y) && decide ((parseMethodDescriptor y.desc).map (fun d => d.parameters.length) = some (na - 1)) && Nat.blt 0 na && decide ((vwCl[o]?).map (fun z => z.1) = some y.cls)
    | 1 => ai_is p.1 (Cond.methodLink (ai_cn q.1) q.2.1 y) && ai_is p.2.1 (Cond.static y) && decide ((parseMethodDescriptor y.desc).map (fun d => d.parameters.length) = some na)
    | 2 => ai_is p.1 (Cond.methodLink (ai_cn q.1) q.2.1 y) && ai_is p.2.1 (Cond.instanceMethod y) && decide ((parseMethodDescriptor y.desc).map (fun d => d.parameters.length) = some (na - 1)) && Nat.blt 0 na && decide (y.name = "<init>") && decide (ret = none)
    | 4 => ai_is p.1 (Cond.methodLinkNest (ai_cn q.1) q.2.1 y "DeadCode") && ai_is p.2.1 (Cond.static y) && decide ((parseMethodDescriptor y.desc).map (fun d => d.parameters.length) = some na)
    | 5 => ai_is p.1 (Cond.methodLinkNest (ai_cn q.1) q.2.1 y "DeadCode") && ai_is p.2.1 (Cond.instanceMethod y) && decide ((parseMethodDescriptor y.desc).map (fun d => d.parameters.length) = some (na - 1)) && Nat.blt 0 na && decide (y.name = "<init>") && decide (ret = none)
    | _ => false)
  | none => false
def ai_okN (q : Nat × Nat × Nat) : Bool := match vwCl[q.2.2]? with
  | some (C, _, N) => decide (Cond.classLink (ai_cn q.1) q.2.1 C ∈ lw_tbl) && decide (Cond.instantiable C N ∈ lw_tbl) && decide (Cond.initialized C ∈ lw_tbl)
  | none => false
def ai_okK (q : Nat × Nat × Nat) : Bool := decide (Cond.constantLong (ai_cn q.1) q.2.1 (Int64.ofNat q.2.2) ∈ lw_tbl)
/-- a method's own word, but for its code's -/
def ai_okM (r : ai_R) : Bool := plainName r.2.1.cls && decide (r.2.1.cls ≠ "java/lang/invoke/MethodHandle") && decide (r.2.1.cls ≠ "java/lang/invoke/VarHandle") && decide (r.2.1.cls = ai_cn r.1)
set_option maxRecDepth 100000 in
theorem ai_wF : ai_LF.all ai_okF = true := by decide +kernel
set_option maxRecDepth 100000 in
theorem ai_wFN : ai_LFN.all ai_okFN = true := by decide +kernel
set_option maxRecDepth 100000 in
theorem ai_wC : (ai_LC.zip ai_PC).all ai_okC = true := by decide +kernel
theorem ai_wCl : ai_LC.length = ai_PC.length := by decide +kernel
set_option maxRecDepth 100000 in
theorem ai_wN : ai_LN.all ai_okN = true := by decide +kernel
set_option maxRecDepth 100000 in
theorem ai_wK : ai_LK.all ai_okK = true := by decide +kernel
set_option maxRecDepth 100000 in
theorem ai_wM : ai_ms.all ai_okM = true := by decide +kernel
