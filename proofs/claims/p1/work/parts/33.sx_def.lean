/-! runs over symbols: a float of k stands for the int that symbol k is; intervals of the symbols; ints of arrays that symbols were stored to are poisoned -/
abbrev sy_E : Type := List (Int × Int)
abbrev sy_O : Type := sy_E × Option Value × List va_E × List (Nat × Nat) × Nat × Nat
def sy_r (E : sy_E) (v : Value) : Value := match v with
  | .float k => (match E[k.toNat]? with
    | some (lo, hi) => (match decide (lo = hi) with
      | true => .int (Int32.ofInt lo)
      | false => .float k)
    | none => .float k)
  | .int x => .int x
  | .long x => .long x
  | .double x => .double x
  | .null => .null
  | .ref k => .ref k
  | .retAddr p => .retAddr p
/-- the regions of [lo, hi] under a comparison with y, and its answer there -/
def sy_reg (cd : ClassFile.Cond) (y lo hi : Int) : List (Bool × Int × Int) := match cd with
  | .eq => [(true, max lo y, min hi y), (false, lo, min hi (y - 1)), (false, max lo (y + 1), hi)]
  | .ne => [(false, max lo y, min hi y), (true, lo, min hi (y - 1)), (true, max lo (y + 1), hi)]
  | .lt => [(true, lo, min hi (y - 1)), (false, max lo y, hi)]
  | .ge => [(false, lo, min hi (y - 1)), (true, max lo y, hi)]
  | .gt => [(false, lo, min hi y), (true, max lo (y + 1), hi)]
  | .le => [(true, lo, min hi y), (false, max lo (y + 1), hi)]
def sy_flip (cd : ClassFile.Cond) : ClassFile.Cond := match cd with
  | .eq => .eq
  | .ne => .ne
  | .lt => .gt
  | .ge => .le
  | .gt => .lt
  | .le => .ge
def sy_sing (lo : Int) (q : Nat) (E : sy_E) (pc : Nat) (st : List Value) : Nat → List (Nat × List Value × sy_E)
  | 0 => []
  | n + 1 => (pc, st, E.set q (lo + n, lo + n)) :: sy_sing lo q E pc st n
/-- all values of a small symbol, one by one, at the same place -/
def sy_all (q : Nat) (E : sy_E) (pc : Nat) (st : List Value) : Option (List (Nat × List Value × sy_E)) := match E[q]? with
  | some (lo, hi) => (match decide (lo < hi) && decide (hi < lo + 17) with
    | true => some (sy_sing lo q E pc st (hi - lo + 1).toNat)
    | false => none)
  | none => none
def sy_any (E : sy_E) (pc : Nat) (st0 : List Value) : List Value → Option (List (Nat × List Value × sy_E))
  | .float q :: t => (match sy_all q.toNat E pc st0 with
    | some x => some x
    | none => sy_any E pc st0 t)
  | _ :: t => sy_any E pc st0 t
  | [] => none
def sy_jmp (pc : Nat) (off : Int) (z : Bool × Int × Int) (q : Nat) (E : sy_E) (st : List Value) : List (Nat × List Value × sy_E) := match decide (z.2.1 ≤ z.2.2) with
  | true => [(match z.1 with
    | true => ((pc : Int) + off).toNat
    | false => pc + 3, st, E.set q z.2)]
  | false => []
/-- where a step goes several ways -/
def sy_2 (i : ClassFile.Instr) (pc : Nat) (st : List Value) (E : sy_E) : Option (List (Nat × List Value × sy_E)) := match i with
  | .ifCond cd off => match st with
    | .float q :: r => (match E[q.toNat]?, decide (0 ≤ (pc : Int) + off) with
      | some (lo, hi), true => some ((sy_reg cd 0 lo hi).flatMap (fun z => sy_jmp pc off z q.toNat E r))
      | _, _ => none)
    | _ => none
  | .if_icmp cd off => match st with
    | .int y :: .float q :: r => (match E[q.toNat]?, decide (0 ≤ (pc : Int) + off) with
      | some (lo, hi), true => some ((sy_reg cd y.toInt lo hi).flatMap (fun z => sy_jmp pc off z q.toNat E r))
      | _, _ => none)
    | .float q :: .int x :: r => (match E[q.toNat]?, decide (0 ≤ (pc : Int) + off) with
      | some (lo, hi), true => some ((sy_reg (sy_flip cd) x.toInt lo hi).flatMap (fun z => sy_jmp pc off z q.toNat E r))
      | _, _ => none)
    | _ => none
  | .tableswitch dflt tl th _ => match st with
    | .float q :: r => (match E[q.toNat]?, decide (0 ≤ (pc : Int) + dflt) with
      | some (lo, hi), true => (match decide (tl ≤ lo) && decide (hi ≤ th) with
        | true => sy_all q.toNat E pc st
        | false => some (sy_jmp pc dflt (true, lo, min hi (tl - 1)) q.toNat E r ++ sy_jmp pc dflt (true, max lo (th + 1), hi) q.toNat E r ++ (match decide (max lo tl ≤ min hi th) with
          | true => [(pc, st, E.set q.toNat (max lo tl, min hi th))]
          | false => [])))
      | _, _ => none)
    | _ => none
  | _ => sy_any E pc st (st.take 3)
/-- a step that goes one way, on locals, stack and memory -/
def sy_1 (Ln : Nat) (E : sy_E) (i : ClassFile.Instr) (a b pc nL : Nat) (L : List (Option Value)) (st : List Value) (M : List va_E) (P : List (Nat × Nat)) : Option (Nat × List (Option Value) × List Value × List va_E × List (Nat × Nat)) := match ai_s i pc nL L st with
  | some (pc', L', st') => some (pc', L', st', M, P)
  | none => match i with
    | .iload_n k => (match ai_g L k with
      | some (.float q) => some (pc + 1, L, .float q :: st, M, P)
      | _ => none)
    | .iload k => (match ai_g L k with
      | some (.float q) => some (pc + 2, L, .float q :: st, M, P)
      | _ => none)
    | .istore_n k => (match st with
      | .float q :: r => if (k : Nat) < nL then some (pc + 1, ai_s1 (.float q) k L, r, M, P) else none
      | _ => none)
    | .istore k => (match st with
      | .float q :: r => if k < nL then some (pc + 2, ai_s1 (.float q) k L, r, M, P) else none
      | _ => none)
    | .iand => (match st with
      | .int y :: .float q :: r => (match decide (y = 15) && Nat.beq q.toNat 0 with
        | true => some (pc + 1, L, .float 6 :: r, M, P)
        | false => none)
      | _ => none)
    | .iaload => (match st with
      | .int j :: .ref k :: r => (match Nat.beq k ai_B with
        | true => (match ai_in j Ln && Nat.blt j.toNatClampNeg 6 with
          | true => some (pc + 1, L, .float (UInt32.ofNat j.toNatClampNeg) :: r, M, P)
          | false => none)
        | false => (match ai_ial (ai_XX Ln (fun _ => 0)) M k j with
          | some v => (match P.contains (k, j.toNatClampNeg) with
            | true => none
            | false => some (pc + 1, L, v :: r, M, P))
          | none => none))
      | _ => none)
    | .iastore => (match st with
      | .float q :: .int j :: .ref k :: r => (match M[k]? with
        | some (.inl (0, n, .inl _)) => (match ai_in j n && (Nat.blt 2 q.toNat || !(sy_all q.toNat E 0 []).isSome) with
          | true => some (pc + 1, L, r, M, (k, j.toNatClampNeg) :: P)
          | false => none)
        | _ => none)
      | .int x :: .int j :: .ref k :: r => (match M[k]? with
        | some (.inl (0, n, .inl f)) => (match ai_in j n with
          | true => some (pc + 1, L, r, M.set k (.inl (0, n, .inl (upd f j.toNatClampNeg x))), P)
          | false => none)
        | _ => none)
      | _ => none)
    | .getfield x => (match ai_m (ai_XX Ln (fun _ => 0)) (.getfield x) a b st M with
      | some (dp, v :: st', M') => (match v with
        | .float _ => none
        | u => some (pc + dp, L, u :: st', M', P))
      | _ => none)
    | _ => (match ai_m (ai_XX Ln (fun _ => 0)) i a b st M with
      | some (dp, st', M') => some (pc + dp, L, st', M', P)
      | none => none)
def sy_b {α : Type} (f : α → Option (List sy_O)) : List α → Option (List sy_O)
  | [] => some []
  | x :: t => (match f x with
    | some u => (match sy_b f t with
      | some v => some (u ++ v)
      | none => none)
    | none => none)
def sy_zz (i : ClassFile.Instr) (a : Nat) (st : List Value) (M : List va_E) : Option (List Value × List va_E) := match i with
  | .invokespecial x => ai_z (.invokespecial x) a st M
  | _ => none
def sx (Ln : Nat) : Nat → Nat → Nat → ai_R → Nat → List (Option Value) → List Value → List va_E → List (Nat × Nat) → Nat → Nat → sy_E → Option (List sy_O)
  | 0, _, _, _, _, _, _, _, _, _, _, _ => none
  | n + 1, d, w, r, pc, L0, st, M, P, c, s, E => match ai_at r pc with
    | none => none
    | some (i, a, b, bm) => match sy_1 Ln E i a b pc r.2.2.2.1 (ai_mk bm L0) (st.map (sy_r E)) M P with
      | some (pc', L', st', M', P') => sx Ln n d w r pc' L' st' M' P' c s E
      | none => match ai_ans i r.2.2.2.2.1 (st.map (sy_r E)) with
        | some v => some [(E, v, M, P, c, s)]
        | none => match ai_q i a b (st.map (sy_r E)) M with
          | some (r', As, rest) => (match Nat.blt 0 d && Nat.ble (19 + r'.2.2.2.1) w && Nat.ble (ai_cat rest) 8 && Nat.ble (ai_cat As) r'.2.2.2.1 && (ai_mk bm L0).all (ai_kl M.length) && rest.all (ai_k M.length) with
            | true => (match sx Ln n (d - 1) (w - (19 + r'.2.2.2.1)) r' 0 (ai_en r'.2.2.2.1 As) [] M P 0 0 E with
              | some outs => sy_b (fun o => sx Ln n d w r (pc + 3) (ai_mk bm L0) (o.2.1.toList ++ rest) o.2.2.1 o.2.2.2.1 (c + o.2.2.2.2.1) (s + o.2.2.2.2.2) o.1) outs
              | none => none)
            | false => none)
          | none => match sy_zz i a (st.map (sy_r E)) M with
            | some (st', M') => (match Nat.blt 0 d && Nat.ble 32 w with
              | true => sx Ln n d w r (pc + 3) (ai_mk bm L0) st' M' P c s E
              | false => none)
            | none => match ai_a i a (st.map (sy_r E)) with
              | some (dp, st', e, ds) => (match Nat.blt M.length ai_B && M.all (ai_ke M.length) && (ai_mk bm L0).all (ai_kl M.length) && st'.all (ai_k M.length) with
                | true => sx Ln n d w r (pc + dp) (ai_mk bm L0) (.ref M.length :: st') (M ++ [e]) P (c + 1) (s + ds) E
                | false => none)
              | none => match sy_2 i pc (st.map (sy_r E)) E with
                | some l => sy_b (fun z => sx Ln n d w r z.1 (ai_mk bm L0) z.2.1 M P c s z.2.2) l
                | none => none
def sy_E0 : sy_E := [(-2147483648, 2147483647), (-2147483648, 2147483647), (-2147483648, 2147483647), (-2147483648, 2147483647), (-2147483648, 2147483647), (-2147483648, 2147483647), (0, 15)]
def sy_good (l : Option (List sy_O)) : Bool := match l with
  | some l => l.all (fun o => decide (o.2.1 = some (.int 1)) && Nat.ble o.2.2.2.2.1 600000 && Nat.ble o.2.2.2.2.2 7302250)
  | none => false
def sy_run (Ln n : Nat) (E : sy_E) : Option (List sy_O) := sx Ln n 9 350 ai_r143 0 (ai_en 4 [.ref ai_B]) [] [] [] 0 0 E
