section FQ
variable {X : ai_X} {d w : Nat} {r : ai_R} {pc : Nat} {L : List (Option Value)} {st : List Value} {m : fm} {Q : Option Value → fm → Prop} {a b : Nat} {bm : List Bool}
/-- a call of an object's method; r' is its row, k the object, As the other arguments -/
theorem fT_qv {x k ci : Nat} {r' : ai_R} {fs As rest : List Value} {Qc : Option Value → fm → Prop} (hat : ai_at r pc = some (.invokevirtual x, a, b, bm)) (hr : ai_ms[b]? = some r') (hst : (st.take r'.2.2.2.2.2.1).reverse = .ref k :: As) (hre : st.drop r'.2.2.2.2.2.1 = rest) (hk : fl_t[k]? = some (.inr (ci, fs))) (hc : (Nat.beq ci r'.1 && Nat.beq (As.length + 1) r'.2.2.2.2.2.1) = true) (g1 : 0 < d) (g2 : 19 + r'.2.2.2.1 ≤ w) (g3 : ai_cat rest ≤ 8) (g4 : ai_cat (.ref k :: As) ≤ r'.2.2.2.1) (g5 : (ai_mk bm L).all (ai_kl 72) = true) (g6 : rest.all (ai_k 72) = true) (h1 : fT X (d - 1) (w - (19 + r'.2.2.2.1)) r' 0 (ai_en r'.2.2.2.1 (.ref k :: As)) [] m Qc) (h2 : ∀ v m1, Qc v m1 → fT X d w r (pc + 3) (ai_mk bm L) (v.toList ++ rest) m1 Q) : fT X d w r pc L st m Q := by
  refine fT_q hat ?_ g1 g2 g3 g4 g5 g6 h1 h2
  simp only [ai_q, hr, hst, fl_o hk, hc, hre]
theorem fT_qs {x : Nat} {r' : ai_R} {As rest : List Value} {Qc : Option Value → fm → Prop} (hat : ai_at r pc = some (.invokestatic x, a, b, bm)) (ha : Nat.beq a 8 = false) (hr : ai_ms[b]? = some r') (hst : (st.take r'.2.2.2.2.2.1).reverse = As) (hre : st.drop r'.2.2.2.2.2.1 = rest) (hc : Nat.beq (st.take r'.2.2.2.2.2.1).length r'.2.2.2.2.2.1 = true) (g1 : 0 < d) (g2 : 19 + r'.2.2.2.1 ≤ w) (g3 : ai_cat rest ≤ 8) (g4 : ai_cat As ≤ r'.2.2.2.1) (g5 : (ai_mk bm L).all (ai_kl 72) = true) (g6 : rest.all (ai_k 72) = true) (h1 : fT X (d - 1) (w - (19 + r'.2.2.2.1)) r' 0 (ai_en r'.2.2.2.1 As) [] m Qc) (h2 : ∀ v m1, Qc v m1 → fT X d w r (pc + 3) (ai_mk bm L) (v.toList ++ rest) m1 Q) : fT X d w r pc L st m Q := by
  refine fT_q hat ?_ g1 g2 g3 g4 g5 g6 h1 h2
  simp only [ai_q, ha, hr, hst, hc, hre]
end FQ
section FI
variable {X : ai_X} {d w : Nat} {r : ai_R} {pc : Nat} {L : List (Option Value)} {st : List Value} {m : fm} {Q : Option Value → fm → Prop} {a b : Nat} {bm : List Bool}
theorem fT_ifT {cd : ClassFile.Cond} {off : Int} {x : Int32} {t : Nat} (hat : ai_at r pc = some (.ifCond cd off, a, b, bm)) (ht : (pc : Int) + off = (t : Int)) (hc : ai_c cd x 0 = true) (h : fT X d w r t (ai_mk bm L) st m Q) : fT X d w r pc L (.int x :: st) m Q :=
  fT_if hat ht (fun _ => h) (fun h2 => absurd (hc.symm.trans h2) (by decide))
theorem fT_ifF {cd : ClassFile.Cond} {off : Int} {x : Int32} {t : Nat} (hat : ai_at r pc = some (.ifCond cd off, a, b, bm)) (ht : (pc : Int) + off = (t : Int)) (hc : ai_c cd x 0 = false) (h : fT X d w r (pc + 3) (ai_mk bm L) st m Q) : fT X d w r pc L (.int x :: st) m Q :=
  fT_if hat ht (fun h2 => absurd (h2.symm.trans hc) (by decide)) (fun _ => h)
theorem fT_icT {cd : ClassFile.Cond} {off : Int} {x y : Int32} {t : Nat} (hat : ai_at r pc = some (.if_icmp cd off, a, b, bm)) (ht : (pc : Int) + off = (t : Int)) (hc : ai_c cd x y = true) (h : fT X d w r t (ai_mk bm L) st m Q) : fT X d w r pc L (.int y :: .int x :: st) m Q :=
  fT_ic hat ht (fun _ => h) (fun h2 => absurd (hc.symm.trans h2) (by decide))
theorem fT_icF {cd : ClassFile.Cond} {off : Int} {x y : Int32} {t : Nat} (hat : ai_at r pc = some (.if_icmp cd off, a, b, bm)) (ht : (pc : Int) + off = (t : Int)) (hc : ai_c cd x y = false) (h : fT X d w r (pc + 3) (ai_mk bm L) st m Q) : fT X d w r pc L (.int y :: .int x :: st) m Q :=
  fT_ic hat ht (fun h2 => absurd (h2.symm.trans hc) (by decide)) (fun _ => h)
end FI
