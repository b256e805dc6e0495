/-! An interpreter of the bytecode over abstract worlds (addresses are numbers 0, 1, ..; tables that nobody writes stand from ai_B on). Tables of the claim: ai_I (code), ai_ms (methods), ai_ft (field types), ai_df (fresh fields) stand ahead. -/
def ai_B : Nat := 1000000
def ai_v (ad : Nat → Nat) (v : Value) : Value := match v with
  | .ref k => .ref (ad k)
  | .int x => .int x
  | .long x => .long x
  | .float x => .float x
  | .double x => .double x
  | .null => .null
  | .retAddr p => .retAddr p
def ai_e (ad : Nat → Nat) (ac : Nat → ClassId) (e : va_E) : va_E := match e with
  | .inl (t, n, .inr (.inr (.inr (.inr f)))) => .inl (ac t, n, .inr (.inr (.inr (.inr (fun i => if i < n then (f i).map ad else none)))))
  | .inl (t, n, .inl f) => .inl (ac t, n, .inl f)
  | .inl (t, n, .inr (.inl f)) => .inl (ac t, n, .inr (.inl f))
  | .inl (t, n, .inr (.inr (.inl f))) => .inl (ac t, n, .inr (.inr (.inl f)))
  | .inl (t, n, .inr (.inr (.inr (.inl f)))) => .inl (ac t, n, .inr (.inr (.inr (.inl f))))
  | .inr (ci, fs) => .inr (ci, fs.map (ai_v ad))
def ai_w (ad : Nat → Nat) (ac : Nat → ClassId) (M : List va_E) : va_W := M.mapIdx (fun k e => (ad k, ai_e ad ac e))
def ai_k (n : Nat) (v : Value) : Bool := match v with
  | .ref k => Nat.blt k n || Nat.ble ai_B k
  | _ => true
def ai_kl (n : Nat) (x : Option Value) : Bool := match x with
  | some v => ai_k n v
  | none => true
def ai_ko (n : Nat) (x : Option Nat) : Bool := match x with
  | some k => Nat.blt k n || Nat.ble ai_B k
  | none => true
def ai_ke (n : Nat) (e : va_E) : Bool := match e with
  | .inl (_, len, .inr (.inr (.inr (.inr f)))) => (List.range len).all (fun i => ai_ko n (f i))
  | .inl _ => true
  | .inr (_, fs) => fs.all (ai_k n)
def ai_g : List (Option Value) → Nat → Option Value
  | [], _ => none
  | x :: _, 0 => x
  | _ :: t, n + 1 => ai_g t n
def ai_f1 (x : Option Value) : Option Value := match x with
  | some (.long _) => none
  | some (.double _) => none
  | y => y
def ai_s1 (v : Value) : Nat → List (Option Value) → List (Option Value)
  | _, [] => []
  | 0, _ :: t => some v :: t
  | 1, x :: t => ai_f1 x :: ai_s1 v 0 t
  | n + 2, x :: t => x :: ai_s1 v (n + 1) t
def ai_s2 (v : Value) : Nat → List (Option Value) → List (Option Value)
  | _, [] => []
  | 0, _ :: [] => []
  | 0, _ :: _ :: t => some v :: none :: t
  | 1, x :: t => ai_f1 x :: ai_s2 v 0 t
  | n + 2, x :: t => x :: ai_s2 v (n + 1) t
def ai_l (ad : Nat → Nat) : Nat → List (Option Value) → List (Nat × Value)
  | _, [] => []
  | i, some v :: t => (i, ai_v ad v) :: ai_l ad (i + 1) t
  | i, none :: t => ai_l ad (i + 1) t
/-- the locals with which a method begins -/
def ai_en : Nat → List Value → List (Option Value)
  | 0, _ => []
  | n + 1, [] => none :: ai_en n []
  | n + 1, .long x :: t => some (.long x) :: (match n with | 0 => [] | k + 1 => none :: ai_en k t)
  | _ + 1, .double _ :: _ => []
  | n + 1, v :: t => some v :: ai_en n t
/-- fewer locals: those that a mask keeps -/
def ai_mk : List Bool → List (Option Value) → List (Option Value)
  | [], L => L
  | _, [] => []
  | true :: b, x :: t => x :: ai_mk b t
  | false :: b, _ :: t => none :: ai_mk b t
def ai_c (c : ClassFile.Cond) (x y : Int32) : Bool := match c with
  | .eq => decide (x = y)
  | .ne => decide (¬ x = y)
  | .lt => decide (x < y)
  | .ge => decide (y ≤ x)
  | .gt => decide (y < x)
  | .le => decide (x ≤ y)
def ai_to (pc : Nat) (off : Int) (L : List (Option Value)) (st : List Value) : Option (Nat × List (Option Value) × List Value) := match (pc : Int) + off with
  | .ofNat t => some (t, L, st)
  | .negSucc _ => none
def ai_j (b : Bool) (pc : Nat) (off : Int) (L : List (Option Value)) (st : List Value) : Option (Nat × List (Option Value) × List Value) := match (pc : Int) + off with
  | .ofNat t => (match b with
    | true => some (t, L, st)
    | false => some (pc + 3, L, st))
  | .negSucc _ => none
def ai_ld (x : Option Value) (pc : Nat) (L : List (Option Value)) (st : List Value) : Option (Nat × List (Option Value) × List Value) := match x with
  | some v => some (pc, L, v :: st)
  | none => none
def ai_isI (x : Option Value) : Option Value := match x with
  | some (.int v) => some (.int v)
  | _ => none
def ai_isL (x : Option Value) : Option Value := match x with
  | some (.long v) => some (.long v)
  | _ => none
def ai_isR (x : Option Value) : Option Value := match x with
  | some (.ref v) => some (.ref v)
  | some .null => some .null
  | _ => none
def ai_in (i : Int32) (n : Nat) : Bool := !(decide (i < 0) || decide (n ≤ i.toNatClampNeg))
/-- instructions on locals and stack alone -/
def ai_s (i : ClassFile.Instr) (pc nL : Nat) (L : List (Option Value)) (st : List Value) : Option (Nat × List (Option Value) × List Value) := match i with
  | .iconst v => some (pc + 1, L, .int (Int32.ofInt v) :: st)
  | .bipush v => some (pc + 2, L, .int (Int8.ofInt v).toInt32 :: st)
  | .sipush v => some (pc + 3, L, .int (Int16.ofInt v).toInt32 :: st)
  | .lconst v => some (pc + 1, L, .long (Int64.ofNat v) :: st)
  | .iload_n k => ai_ld (ai_isI (ai_g L k)) (pc + 1) L st
  | .iload k => ai_ld (ai_isI (ai_g L k)) (pc + 2) L st
  | .lload_n k => ai_ld (ai_isL (ai_g L k)) (pc + 1) L st
  | .lload k => ai_ld (ai_isL (ai_g L k)) (pc + 2) L st
  | .aload_n k => ai_ld (ai_isR (ai_g L k)) (pc + 1) L st
  | .aload k => ai_ld (ai_isR (ai_g L k)) (pc + 2) L st
  | .istore_n k => match st with
    | .int x :: r => if (k : Nat) < nL then some (pc + 1, ai_s1 (.int x) k L, r) else none
    | _ => none
  | .istore k => match st with
    | .int x :: r => if k < nL then some (pc + 2, ai_s1 (.int x) k L, r) else none
    | _ => none
  | .lstore_n k => match st with
    | .long x :: r => if (k : Nat) + 1 < nL then some (pc + 1, ai_s2 (.long x) k L, r) else none
    | _ => none
  | .lstore k => match st with
    | .long x :: r => if k + 1 < nL then some (pc + 2, ai_s2 (.long x) k L, r) else none
    | _ => none
  | .astore_n k => match st with
    | .ref x :: r => if (k : Nat) < nL then some (pc + 1, ai_s1 (.ref x) k L, r) else none
    | _ => none
  | .astore k => match st with
    | .ref x :: r => if k < nL then some (pc + 2, ai_s1 (.ref x) k L, r) else none
    | _ => none
  | .iinc k n => match ai_g L k with
    | some (.int x) => if k < nL then some (pc + 3, ai_s1 (.int (x + Int32.ofInt n)) k L, st) else none
    | _ => none
  | .iadd => match st with
    | .int y :: .int x :: r => some (pc + 1, L, .int (x + y) :: r)
    | _ => none
  | .isub => match st with
    | .int y :: .int x :: r => some (pc + 1, L, .int (x - y) :: r)
    | _ => none
  | .imul => match st with
    | .int y :: .int x :: r => some (pc + 1, L, .int (x * y) :: r)
    | _ => none
  | .iand => match st with
    | .int y :: .int x :: r => some (pc + 1, L, .int (x &&& y) :: r)
    | _ => none
  | .ior => match st with
    | .int y :: .int x :: r => some (pc + 1, L, .int (x ||| y) :: r)
    | _ => none
  | .ixor => match st with
    | .int y :: .int x :: r => some (pc + 1, L, .int (x ^^^ y) :: r)
    | _ => none
  | .ishl => match st with
    | .int y :: .int x :: r => some (pc + 1, L, .int (x <<< (y &&& 31)) :: r)
    | _ => none
  | .ishr => match st with
    | .int y :: .int x :: r => some (pc + 1, L, .int (x >>> (y &&& 31)) :: r)
    | _ => none
  | .idiv => match st with
    | .int y :: .int x :: r => if y = 0 then none else some (pc + 1, L, .int (x / y) :: r)
    | _ => none
  | .irem => match st with
    | .int y :: .int x :: r => if y = 0 then none else some (pc + 1, L, .int (x - x / y * y) :: r)
    | _ => none
  | .i2l => match st with
    | .int x :: r => some (pc + 1, L, .long x.toInt64 :: r)
    | _ => none
  | .l2i => match st with
    | .long x :: r => some (pc + 1, L, .int x.toInt32 :: r)
    | _ => none
  | .lcmp => match st with
    | .long y :: .long x :: r => some (pc + 1, L, .int (lg_cmp x y) :: r)
    | _ => none
  | .dup => match st with
    | v :: r => if v.category = 1 then some (pc + 1, L, v :: v :: r) else none
    | _ => none
  | .pop => match st with
    | v :: r => if v.category = 1 then some (pc + 1, L, r) else none
    | _ => none
  | .pop2 => match st with
    | v :: r => if v.category = 2 then some (pc + 1, L, r) else none
    | _ => none
  | .dup_x1 => match st with
    | v :: w :: r => if v.category = 1 ∧ w.category = 1 then some (pc + 1, L, v :: w :: v :: r) else none
    | _ => none
  | .dup2 => match st with
    | v :: w :: r => if v.category = 1 ∧ w.category = 1 then some (pc + 1, L, v :: w :: v :: w :: r) else none
    | _ => none
  | .ifCond c off => match st with
    | .int x :: r => ai_j (ai_c c x 0) pc off L r
    | _ => none
  | .if_icmp c off => match st with
    | .int y :: .int x :: r => ai_j (ai_c c x y) pc off L r
    | _ => none
  | .goto off => ai_to pc off L st
  | .tableswitch dflt lo hi offs => match st with
    | .int x :: r => if x.toInt < lo ∨ hi < x.toInt then ai_to pc dflt L r else (match offs[(x.toInt - lo).toNat]? with
      | some off => ai_to pc off L r
      | none => none)
    | _ => none
  | .lookupswitch dflt ps => match st with
    | .int x :: r => if (ps.toList.zip (ps.toList.drop 1)).all (fun (a, next) => a.1 < next.1) = true then ai_to pc (Op.lookupswitch.offset ps.toList dflt x.toInt) L r else none
    | _ => none
  | _ => none
def ai_fit (ty : FieldType) (v : Value) : Bool := match ty, v with
  | .int, .int _ => true
  | .boolean, .int x => decide (x = 0) || decide (x = 1)
  | .long, .long _ => true
  | .object _, .ref _ => true
  | .array _, .ref _ => true
  | _, _ => false
