section PT
variable {m m' : fm} {N : Nat → Nat} {P : Nat → cod} {R : Nat → Bool} {j n k a e : Nat} {b : Int32} {J : cod}
theorem CR_a {c : Nat} (hc : CR m c n J) : CR (wr4 (fs1 m c 1 (nI (n + 1))) (c + 1) n (nI k) (nI a) b (nI e)) c (n + 1) (seI J n (k, a, b, e)) := by
  refine ⟨by rw [wr4_k (by omega), fs1_at], fun q hq => ?_⟩
  unfold wr4
  by_cases h : q = n
  · subst h
    obtain ⟨h1, h2, h3, h4⟩ := seI_s (J := J) (t := q) (x := (k, a, b, e))
    rw [h1, h2, h3, h4, fs1_i (by omega), fs1_i (by omega), fs1_i (by omega), fs1_at, fs1_i (by omega), fs1_i (by omega), fs1_at, fs1_i (by omega), fs1_at, fs1_at]
    exact ⟨rfl, rfl, rfl, rfl⟩
  · obtain ⟨h1, h2, h3, h4⟩ := seI_n (J := J) (t := n) (x := (k, a, b, e)) (q := q) h
    rw [h1, h2, h3, h4]
    have e0 : ∀ j, (j < 4 * n ∨ 4 * n + 3 < j) → (fs1 (fs1 (fs1 (fs1 (fs1 m c 1 (nI (n + 1))) (c + 1) (4 * n) (nI k)) (c + 1) (4 * n + 1) (nI a)) (c + 1) (4 * n + 2) b) (c + 1) (4 * n + 3) (nI e)).1 (c + 1) j = m.1 (c + 1) j := fun j hj => by
      rw [fs1_i (by omega), fs1_i (by omega), fs1_i (by omega), fs1_i (by omega), fs1_k (by omega)]
    rw [e0 _ (by omega), e0 _ (by omega), e0 _ (by omega), e0 _ (by omega)]
    exact hc.2 q (by omega)
theorem RR_a (hr : RR m j n J) : RR (fs1 (wr5 m (24 * j + n) (nI k) (nI a) b (nI e)) 57 j (nI (n + 1))) j (n + 1) (seI J n (k, a, b, e)) := by
  refine ⟨hr.1, fs1_at, fun q hq => ?_⟩
  rw [fs1_k (by omega), fs1_k (by omega), fs1_k (by omega), fs1_k (by omega)]
  by_cases h : q = n
  · subst h
    obtain ⟨h1, h2, h3, h4⟩ := seI_s (J := J) (t := q) (x := (k, a, b, e))
    rw [h1, h2, h3, h4]
    exact wr5_s
  · obtain ⟨h1, h2, h3, h4⟩ := seI_n (J := J) (t := n) (x := (k, a, b, e)) (q := q) h
    rw [h1, h2, h3, h4, wr5_i (by omega) (by omega) (by omega), wr5_i (by omega) (by omega) (by omega), wr5_i (by omega) (by omega) (by omega), wr5_i (by omega) (by omega) (by omega)]
    exact hr.2.2 q (by omega)
theorem WF_p (hw : WF n J) (hn : n < 24) (h : WF1 k a b e) : WF (n + 1) (seI J n (k, a, b, e)) := by
  refine ⟨by omega, fun q hq => ?_⟩
  by_cases h' : q = n
  · subst h'
    obtain ⟨h1, h2, h3, h4⟩ := seI_s (J := J) (t := q) (x := (k, a, b, e))
    rw [h1, h2, h3, h4]; exact h
  · obtain ⟨h1, h2, h3, h4⟩ := seI_n (J := J) (t := n) (x := (k, a, b, e)) (q := q) h'
    rw [h1, h2, h3, h4]; exact hw.2 q (by omega)
theorem NZ_p (hw : NZ n J) (h : NZ1 k b e) : NZ (n + 1) (seI J n (k, a, b, e)) := by
  intro q hq
  by_cases h' : q = n
  · subst h'
    obtain ⟨h1, h2, h3, h4⟩ := seI_s (J := J) (t := q) (x := (k, a, b, e))
    rw [h1, h3, h4]; exact h
  · obtain ⟨h1, h2, h3, h4⟩ := seI_n (J := J) (t := n) (x := (k, a, b, e)) (q := q) h'
    rw [h1, h3, h4]; exact hw q (by omega)
theorem IN_p (h : IN m N P R) (hj : j < 8) (hn : N j < 24) (h1 : WF1 k a b e) (h2 : NZ1 k b e) : INV (fs1 (wr5 (wr4 (fs1 m (20 + 4 * j) 1 (nI (N j + 1))) (20 + 4 * j + 1) (N j) (nI k) (nI a) b (nI e)) (24 * j + N j) (nI k) (nI a) b (nI e)) 57 j (nI (N j + 1))) := by
  have hR : RR (wr4 (fs1 m (20 + 4 * j) 1 (nI (N j + 1))) (20 + 4 * j + 1) (N j) (nI k) (nI a) b (nI e)) j (N j) (P j) := RR_f (h.2.1 j hj) (by rw [wr4_k (by omega), fs1_k (by omega)]) (by rw [wr4_k (by omega), fs1_k (by omega)]) (by rw [wr4_k (by omega), fs1_k (by omega)]) (by rw [wr4_k (by omega), fs1_k (by omega)]) (by rw [wr4_k (by omega), fs1_k (by omega)])
  refine ⟨_, _, R, IN_u (n' := N j + 1) (I' := seI (P j) (N j) (k, a, b, e)) h hj ?_ (RR_a hR) (WF_p (h.2.2.1 j hj) hn h1) (NZ_p (h.2.2.2.1 j hj) h2) (fun q x y z => ?_) rfl (fun q x y i hi => ?_) (fun i hi => ?_)⟩
  · refine CR_f (CR_a (k := k) (a := a) (e := e) (b := b) (h.1 j hj)) ?_ ?_
    · rw [fs1_k (by omega), wr5_k (by omega)]
    · rw [fs1_k (by omega), wr5_k (by omega)]
  · rw [fs1_k (by omega), wr5_k (by omega), wr4_k y, fs1_k x]
  · rw [fs1_k (by omega), wr5_i x y (by omega), wr4_k (by omega), fs1_k (by omega)]
  · rw [fs1_i hi, wr5_k (by omega), wr4_k (by omega), fs1_k (by omega)]
theorem g3_s {c : Nat} (hc : CR m c n J) (hn : n ≤ 24) : g3 c m = some (bI (decide (¬ n < 24)), m) := by
  unfold g3
  rw [dx_gfI, hc.1, dx_lt (by omega) (by omega)]
  by_cases h : n < 24
  · rw [decide_eq_true h, cond_true, decide_eq_false (fun z => z h)]; rfl
  · rw [decide_eq_false h, cond_false, decide_eq_true h]; rfl
theorem g5_s {c : Nat} (hc : CR m c n J) (hn : n < 24) (hk : k < 13) {a b e : Int32} : g5 c (nI k) a b e m = some (nI n, wr4 (fs1 m c 1 (nI (n + 1))) (c + 1) n (nI k) (ov k 1 a) (ov k 2 b) (ov k 3 e)) := by
  unfold g5
  rw [dx_gfI, dx_gfI, dx_pfI, hc.1, nI_add, g6_s hn hk, dx_cl1]
theorem rw_r (hr : RR m j n J) (hj : j < 8) (hn : n < 24) (hk : k < 13) {a b e : Int32} : (cl2 (g98 (nI 0) (nI j) (nI n) m) fun v26 m25 =>
    stI m25 53 384 v26 (nI k) fun m27 =>
    bif nzs k 1 then g103_156 (nI j) b e (nI (nmv k 1)) (nI (nmv k 2)) v26 a v26 m27 else g103_156 (nI j) b e (nI (nmv k 1)) (nI (nmv k 2)) v26 (nI 0) v26 m27) = some (nI n, fs1 (wr5 m (24 * j + n) (nI k) (ov k 1 a) (ov k 2 b) (ov k 3 e)) 57 j (nI (n + 1))) := by
  obtain ⟨a1, a2, a3, a4⟩ := nm_sh k hk 1 (by omega)
  obtain ⟨b1, b2, b3, b4⟩ := nm_sh k hk 2 (by omega)
  have x98 : g98 (nI 0) (nI j) (nI n) m = some (nI (24 * j + n), m) := by
    unfold g98
    rw [pk_mul, nI_add, pk_mul, nI_add, show 24 * (8 * 0 + j) + n = 24 * j + n by omega]
  have hl : 24 * j + n < 384 := by omega
  rw [x98, dx_cl2, dx_stI hl (by omega)]
  unfold g103_156 g103_174 g103_192
  simp only [dx_stI hl (show 384 < 2147483648 by omega), dx_ne0 (show nmv k 1 < 2147483648 by omega), dx_ne0 (show nmv k 2 < 2147483648 by omega), a4, b4, dx_ldI (show j < 16 by omega) (show 16 < 2147483648 by omega), dx_stI (show j < 16 by omega) (show 16 < 2147483648 by omega), fs1_at]
  have e57 : ∀ u v w x : Int32, (fs1 (fs1 (fs1 (fs1 m 53 (24 * j + n) u) 54 (24 * j + n) v) 55 (24 * j + n) w) 56 (24 * j + n) x).1 57 j = nI n := fun u v w x => by
    rw [fs1_k (by omega), fs1_k (by omega), fs1_k (by omega), fs1_k (by omega)]; exact hr.2.1
  simp only [e57, nI_add, dx_sub (show 1 ≤ n + 1 by omega), Nat.add_sub_cancel]
  unfold ov wr5
  cases nzs k 1 <;> cases nzs k 2 <;> cases nzs k (2 + 1) <;> rfl
set_option maxHeartbeats 1000000 in
theorem op_put (h : INV m) (x y a b e : Int32) : OK (g68 x y a b e m) (g103 x y a b e) := by
  obtain ⟨N, P, R, h⟩ := h
  obtain ⟨e1, e2, e3, e4⟩ := e10
  rcases dx_of (x := x) (n := 8) (by omega) with ⟨j, hj, rfl⟩ | hx
  · rcases dx_of (x := y) (n := 13) (by omega) with ⟨k, hk, rfl⟩ | hy
    · have hn := (h.2.2.1 j hj).1
      obtain ⟨a1, a2, a3, a4⟩ := nm_sh k hk 0 (by omega)
      obtain ⟨b1, b2, b3, b4⟩ := nm_sh k hk 1 (by omega)
      obtain ⟨c1, c2, c3, c4⟩ := nm_sh k hk 2 (by omega)
      have l0 : ai_c .lt (nI k) 0 = false := dx_lt0 (by omega)
      have l1 : ai_c .lt (nI k) (nI 13) = true := by rw [dx_lt (by omega) (by omega)]; exact decide_eq_true hk
      have p1 : ∀ m : fm, g91 (nI k) (nI 1) a m = some (bI (okx (tbd (shN k 1)) a), m) := fun m => g91_s hk (by omega) (by omega)
      have p2 : ∀ m : fm, g91 (nI k) (nI 2) b m = some (bI (okx (tbd (shN k 2)) b), m) := fun m => g91_s hk (by omega) (by omega)
      have p3 : ∀ m : fm, g91 (nI k) (nI 3) e m = some (bI (okx (tbd (shN k 3)) e), m) := fun m => g91_s hk (by omega) (by omega)
      have q1 : ∀ m : fm, g92 (nI k) (nI 1) a m = some (bI (okp (shN k 1) a), m) := fun m => g92_s hk (by omega) (by omega)
      have q2 : ∀ m : fm, g92 (nI k) (nI 2) b m = some (bI (okp (shN k 2) b), m) := fun m => g92_s hk (by omega) (by omega)
      have q3 : ∀ m : fm, g92 (nI k) (nI 3) e m = some (bI (okp (shN k 3) e), m) := fun m => g92_s hk (by omega) (by omega)
      have r0 : ∀ m : fm, g95 (nI k) (nI 0) (nI 12) m = some (nI 1, m) := fun m => g95_y (n := 13) hk (by omega)
      have v0 : ∀ m : fm, g100 (nI k) (nI 0) m = some (nI (nmv k 0), m) := fun m => g100_v hk (by omega)
      have v1 : ∀ m : fm, g100 (nI k) (nI 1) m = some (nI (nmv k 1), m) := fun m => g100_v hk (by omega)
      have v2 : ∀ m : fm, g100 (nI k) (nI 2) m = some (nI (nmv k 2), m) := fun m => g100_v hk (by omega)
      have s1 : ∀ m : fm, g101 (nI (nmv k 0)) a m = some (bI (okx (tbd (shN k 1)) a), m) := fun m => by rw [g101_s a1, a2]
      have s2 : ∀ m : fm, g101 (nI (nmv k 1)) b m = some (bI (okx (tbd (shN k 2)) b), m) := fun m => by rw [g101_s b1, b2]
      have s3 : ∀ m : fm, g101 (nI (nmv k 2)) e m = some (bI (okx (tbd (shN k 3)) e), m) := fun m => by rw [g101_s c1, c2]
      have t1 : ∀ m : fm, g102 (nI (nmv k 0)) a m = some (bI (!okp (shN k 1) a), m) := fun m => by rw [g102_s a1, okp_n hk (by omega)]
      have t2 : ∀ m : fm, g102 (nI (nmv k 1)) b m = some (bI (!okp (shN k 2) b), m) := fun m => by rw [g102_s b1, okp_n hk (by omega)]
      have t3 : ∀ m : fm, g102 (nI (nmv k 2)) e m = some (bI (!okp (shN k 3) e), m) := fun m => by rw [g102_s c1, okp_n hk (by omega)]
      have hC : ∀ m : fm, g68 (nI j) (nI k) a b e m = bif !okx (tbd (shN k 1)) a then some (-101, m) else bif !okx (tbd (shN k 2)) b then some (-101, m) else bif okx (tbd (shN k 3)) e then (bif !okp (shN k 1) a then some (-102, m) else bif !okp (shN k 2) b then some (-102, m) else bif okp (shN k 3) e then (cl2 (g3 (20 + 4 * j) m) fun v17 m16 => bif ai_c .eq v17 0 then (cl2 (g5 (20 + 4 * j) (nI k) a b e m16) fun v20 m19 => some (v20, m19)) else some (-104, m16)) else some (-102, m)) else some (-101, m) := fun m => by
        unfold g68
        rw [(mem_y hj).1, dx_cl2, e1, cond_false, l0, cond_false, l1, cond_true]
        simp only [p1, p2, p3, q1, q2, q3, dx_cl2, bI_eq, bI_ne, dx_ldA hj]
      have hR : ∀ m : fm, m.1 57 j = nI (N j) → g103 (nI j) (nI k) a b e m = bif !okx (tbd (shN k 1)) a then some (-101, m) else bif !okx (tbd (shN k 2)) b then some (-101, m) else bif okx (tbd (shN k 3)) e then (bif !okp (shN k 1) a then some (-102, m) else bif !okp (shN k 2) b then some (-102, m) else bif okp (shN k 3) e then (bif decide (¬ N j = 24) then (cl2 (g98 (nI 0) (nI j) (nI (N j)) m) fun v26 m25 => stI m25 53 384 v26 (nI k) fun m27 => bif nzs k 1 then g103_156 (nI j) b e (nI (nmv k 1)) (nI (nmv k 2)) v26 a v26 m27 else g103_156 (nI j) b e (nI (nmv k 1)) (nI (nmv k 2)) v26 (nI 0) v26 m27) else some (-104, m)) else some (-102, m)) else some (-101, m) := fun m h57 => by
        unfold g103
        rw [(mem_y hj).2, dx_cl2, e1, cond_false, r0, dx_cl2, e2, cond_true]
        simp only [v0, v1, v2, s1, s2, s3, t1, t2, t3, dx_cl2, bI_eq, bI_ne, Bool.not_not, dx_ldI (show j < 16 by omega) (show 16 < 2147483648 by omega), h57, dx_ne (show N j < 2147483648 by omega) (show 24 < 2147483648 by omega), dx_ne0 (show nmv k 0 < 2147483648 by omega), a4]
      have h57 := (h.2.1 j hj).2.1
      have hI : INV m := ⟨N, P, R, h⟩
      cases x1 : okx (tbd (shN k 1)) a with
      | false => exact OK_e (a := -101) (m := m) (by rw [hC, x1]; rfl) (by rw [hR m h57, x1]; rfl) hI
      | true =>
      cases x2 : okx (tbd (shN k 2)) b with
      | false => exact OK_e (a := -101) (m := m) (by rw [hC, x1, x2]; rfl) (by rw [hR m h57, x1, x2]; rfl) hI
      | true =>
      cases x3 : okx (tbd (shN k 3)) e with
      | false => exact OK_e (a := -101) (m := m) (by rw [hC, x1, x2, x3]; rfl) (by rw [hR m h57, x1, x2, x3]; rfl) hI
      | true =>
      cases y1 : okp (shN k 1) a with
      | false => exact OK_e (a := -102) (m := m) (by rw [hC, x1, x2, x3, y1]; rfl) (by rw [hR m h57, x1, x2, x3, y1]; rfl) hI
      | true =>
      cases y2 : okp (shN k 2) b with
      | false => exact OK_e (a := -102) (m := m) (by rw [hC, x1, x2, x3, y1, y2]; rfl) (by rw [hR m h57, x1, x2, x3, y1, y2]; rfl) hI
      | true =>
      cases y3 : okp (shN k 3) e with
      | false => exact OK_e (a := -102) (m := m) (by rw [hC, x1, x2, x3, y1, y2, y3]; rfl) (by rw [hR m h57, x1, x2, x3, y1, y2, y3]; rfl) hI
      | true =>
      have kC : g68 (nI j) (nI k) a b e m = (cl2 (g3 (20 + 4 * j) m) fun v17 m16 => bif ai_c .eq v17 0 then (cl2 (g5 (20 + 4 * j) (nI k) a b e m16) fun v20 m19 => some (v20, m19)) else some (-104, m16)) := by rw [hC, x1, x2, x3, y1, y2, y3]; rfl
      rw [g3_s (h.1 j hj) hn, dx_cl2, bI_eq] at kC
      have kR : ∀ m : fm, m.1 57 j = nI (N j) → g103 (nI j) (nI k) a b e m = (bif decide (¬ N j = 24) then (cl2 (g98 (nI 0) (nI j) (nI (N j)) m) fun v26 m25 => stI m25 53 384 v26 (nI k) fun m27 => bif nzs k 1 then g103_156 (nI j) b e (nI (nmv k 1)) (nI (nmv k 2)) v26 a v26 m27 else g103_156 (nI j) b e (nI (nmv k 1)) (nI (nmv k 2)) v26 (nI 0) v26 m27) else some (-104, m)) := fun m h57 => by rw [hR m h57, x1, x2, x3, y1, y2, y3]; rfl
      by_cases hlt : N j < 24
      · rw [decide_eq_false (fun z => z hlt)] at kC
        obtain ⟨a', e', oa, oe, w1, w2⟩ := put_ok hk x1 x2 x3 y1 y3
        have kC2 : g68 (nI j) (nI k) a b e m = (cl2 (g5 (20 + 4 * j) (nI k) a b e m) fun v20 m19 => some (v20, m19)) := kC
        rw [g5_s (h.1 j hj) hlt hk, dx_cl2, oa, oe] at kC2
        have hRR : RR (wr4 (fs1 m (20 + 4 * j) 1 (nI (N j + 1))) (20 + 4 * j + 1) (N j) (nI k) (nI a') (ov k 2 b) (nI e')) j (N j) (P j) := RR_f (h.2.1 j hj) (by rw [wr4_k (by omega), fs1_k (by omega)]) (by rw [wr4_k (by omega), fs1_k (by omega)]) (by rw [wr4_k (by omega), fs1_k (by omega)]) (by rw [wr4_k (by omega), fs1_k (by omega)]) (by rw [wr4_k (by omega), fs1_k (by omega)])
        have kR2 := kR _ hRR.2.1
        rw [decide_eq_true (show ¬ N j = 24 by omega), cond_true, rw_r hRR hj hlt hk, oa, oe] at kR2
        unfold OK
        rw [kC2, dx_some, kR2, dx_some]
        exact ⟨rfl, IN_p h hj hlt w1 w2⟩
      · rw [decide_eq_true hlt] at kC
        have kR2 := kR m h57
        rw [decide_eq_false (fun z => z (show N j = 24 by omega)), cond_false] at kR2
        exact OK_e (a := -104) (m := m) kC kR2 hI
    · refine OK_e (a := -101) (m := m) ?_ ?_ ⟨N, P, R, h⟩
      · unfold g68
        rw [(mem_y hj).1, dx_cl2, e1, cond_false]
        rcases lt_of (n := 13) (by omega) (by omega) hy with h | ⟨h1, h2, h3, h4⟩
        · rw [h, cond_true]
        · rw [h1, cond_false, h4, cond_false]
      · unfold g103
        rw [(mem_y hj).2, dx_cl2, e1, cond_false, show (nI 12) = nI (13 - 1) from rfl, g95_n (by omega) (by omega) hy, dx_cl2, e4, cond_false]
  · refine OK_e (a := -101) (m := m) ?_ ?_ ⟨N, P, R, h⟩
    · unfold g68
      rw [(mem_n hx).1, dx_cl2, e3, cond_true]
    · unfold g103
      rw [(mem_n hx).2, dx_cl2, e3, cond_true]
end PT
