/-- what is kept of a part that a kind may not have -/
def opn (s v : Int32) : Int32 := match ai_c .ne s 0 with
  | true => v
  | false => 0
/-- a written INSTRUCTION -/
def wri (m : fm) (c p k : Nat) (a b e : Int32) : fm := fs1 (fs1 (fs1 (fs1 m c (4 * p) (nI k)) c (4 * p + 1) (opn (shp k 1) a)) c (4 * p + 2) (opn (shp k 2) b)) c (4 * p + 3) (opn (shp k 3) e)
theorem ix4 {p q : Nat} (hp : p < 24) (hq : q < 4) : nI p * 4 + nI q = nI (4 * p + q) ∧ ai_in (nI p * 4 + nI q) 96 = true ∧ (nI p * 4 + nI q).toNatClampNeg = 4 * p + q := by
  have e : nI p * 4 + nI q = nI (4 * p + q) := by
    rw [show (4 : Int32) = nI 4 from rfl, pk_mul, nI_add, show p * 4 + q = 4 * p + q by omega]
  refine ⟨e, ?_, ?_⟩
  · rw [e]
    have h5 := vp_in_nI (n := 4 * p + q) (N := 96) (by omega) (by omega)
    unfold vp_in at h5
    unfold ai_in
    simpa using h5
  · rw [e, nI_clamp (by omega)]
section SP5
variable {X : ai_X} {d w : Nat} {m : fm}
theorem s92 (hX : X[1]? = some (39, ai_sh)) {k wt : Nat} (hk : k < 13) (h1 : wt < 4) (h2 : 0 < wt) (x : Int32) (hd : 1 ≤ d) (hw : 21 ≤ w) : fT X d w ai_r92 0 [some (.int (nI k)), some (.int (nI wt)), some (.int x)] [] m (fun v m1 => v = some (bz (win (shp k wt) x)) ∧ m1 = m) := by
  iterate 2 refine fT_s rfl rfl ?_
  refine fT_qs (r' := ai_r90) (As := [.int (nI k), .int (nI wt)]) (rest := []) rfl rfl rfl rfl rfl rfl (by omega) (show 19 + 2 ≤ w from hw) (Nat.le_of_ble_eq_true rfl) (Nat.le_of_ble_eq_true rfl) rfl rfl (s90 hX hk h1 h2) (fun v m1 hq => ?_)
  obtain ⟨rfl, rfl⟩ := hq
  refine fT_s rfl rfl ?_
  refine fT_ic (t := 19) rfl rfl (fun g1 => ?_) (fun g1 => ?_)
  · iterate 2 refine fT_s rfl rfl ?_
    refine fT_r rfl rfl ?_
    exact ⟨by unfold win; rw [show ai_c .ne (shp k wt) 5 = true from g1]; rfl, rfl⟩
  · refine fT_s rfl rfl ?_
    refine fT_if (t := 23) rfl rfl (fun g2 => ?_) (fun g2 => ?_)
    · refine fT_s rfl rfl ?_
      refine fT_r rfl rfl ?_
      exact ⟨by unfold win; rw [show ai_c .ne (shp k wt) 5 = false from g1]; unfold inb; rw [g2]; rfl, rfl⟩
    · iterate 2 refine fT_s rfl rfl ?_
      refine fT_ic (t := 23) rfl rfl (fun g3 => ?_) (fun g3 => ?_)
      · refine fT_s rfl rfl ?_
        refine fT_r rfl rfl ?_
        exact ⟨by unfold win; rw [show ai_c .ne (shp k wt) 5 = false from g1]; unfold inb; rw [g2, show ai_c .gt x 24 = true from g3]; rfl, rfl⟩
      · iterate 2 refine fT_s rfl rfl ?_
        refine fT_r rfl rfl ?_
        exact ⟨by unfold win; rw [show ai_c .ne (shp k wt) 5 = false from g1]; unfold inb; rw [g2, show ai_c .gt x 24 = false from g3]; rfl, rfl⟩
theorem s3 {k : Nat} (hk : isC k) : fT X d w ai_r3 0 [some (.ref k)] [] m (fun v m1 => v = some (bz (!(ai_c .lt (m.1 k 1) 24))) ∧ m1 = m) := by
  refine fT_s rfl rfl ?_
  refine fT_gi rfl hk.1 rfl ?_
  refine fT_s rfl rfl ?_
  refine fT_ic (t := 13) rfl rfl (fun g1 => ?_) (fun g1 => ?_)
  · refine fT_s rfl rfl ?_
    refine fT_r rfl rfl ?_
    exact ⟨by rw [show ai_c .lt (m.1 k 1) 24 = true from g1]; rfl, rfl⟩
  · iterate 2 refine fT_s rfl rfl ?_
    refine fT_r rfl rfl ?_
    exact ⟨by rw [show ai_c .lt (m.1 k 1) 24 = false from g1]; rfl, rfl⟩
set_option maxHeartbeats 1000000 in
theorem s6 (hX : X[1]? = some (39, ai_sh)) {c p k : Nat} (hc : isC c) (hp : p < 24) (hk : k < 13) (a b e : Int32) (hd : 1 ≤ d) (hw : 21 ≤ w) : fT X d w ai_r6 0 [some (.ref c), some (.int (nI p)), some (.int (nI k)), some (.int a), some (.int b), some (.int e), none] [] m (fun v m1 => v = none ∧ m1 = wri m (c + 1) p k a b e) := by
  obtain ⟨-, i0, c0⟩ := ix4 (q := 0) hp (by omega)
  obtain ⟨-, i1, c1⟩ := ix4 (q := 1) hp (by omega)
  obtain ⟨-, i2, c2⟩ := ix4 (q := 2) hp (by omega)
  obtain ⟨-, i3, c3⟩ := ix4 (q := 3) hp (by omega)
  have tail3 : ∀ m' : fm, fT X d w ai_r6 60 [some (.ref c), none, some (.int (nI k)), none, none, some (.int e), some (.int (nI p * 4))] [] m' (fun v m1 => v = none ∧ m1 = fs1 m' (c + 1) (4 * p + 3) (opn (shp k 3) e)) := fun m' => by
    refine fT_s rfl rfl ?_
    refine fT_gr rfl hc.1 rfl ?_
    iterate 5 refine fT_s rfl rfl ?_
    refine fT_qs (r' := ai_r90) (As := [.int (nI k), .int (nI 3)]) (rest := [.int (nI p * 4 + nI 3), .ref (c + 1)]) rfl rfl rfl rfl rfl rfl (by omega) (show 19 + 2 ≤ w from hw) (Nat.le_of_ble_eq_true rfl) (Nat.le_of_ble_eq_true rfl) (by show ((Nat.blt c 72 || _) && true) = true; rw [hc.2.2.1]; rfl) (by show (true && ((Nat.blt (c + 1) 72 || _) && true)) = true; rw [hc.2.2.2]; rfl) (s90 hX hk (by omega) (by omega)) (fun v m1 hq => ?_)
    obtain ⟨rfl, rfl⟩ := hq
    cases g : ai_c .ne (shp k 3) 0 with
    | true =>
      refine fT_ifT (t := 80) rfl rfl g ?_
      refine fT_s rfl rfl ?_
      refine fT_is rfl hc.2.1 i3 ?_
      refine fT_r rfl rfl ?_
      exact ⟨rfl, by rw [c3]; unfold opn; rw [g]⟩
    | false =>
      refine fT_ifF (t := 80) rfl rfl g ?_
      iterate 2 refine fT_s rfl rfl ?_
      refine fT_is rfl hc.2.1 i3 ?_
      refine fT_r rfl rfl ?_
      exact ⟨rfl, by rw [c3]; unfold opn; rw [g]; rfl⟩
  have tail2 : ∀ m' : fm, fT X d w ai_r6 37 [some (.ref c), none, some (.int (nI k)), none, some (.int b), some (.int e), some (.int (nI p * 4))] [] m' (fun v m1 => v = none ∧ m1 = fs1 (fs1 m' (c + 1) (4 * p + 2) (opn (shp k 2) b)) (c + 1) (4 * p + 3) (opn (shp k 3) e)) := fun m' => by
    refine fT_s rfl rfl ?_
    refine fT_gr rfl hc.1 rfl ?_
    iterate 5 refine fT_s rfl rfl ?_
    refine fT_qs (r' := ai_r90) (As := [.int (nI k), .int (nI 2)]) (rest := [.int (nI p * 4 + nI 2), .ref (c + 1)]) rfl rfl rfl rfl rfl rfl (by omega) (show 19 + 2 ≤ w from hw) (Nat.le_of_ble_eq_true rfl) (Nat.le_of_ble_eq_true rfl) (by show ((Nat.blt c 72 || _) && true) = true; rw [hc.2.2.1]; rfl) (by show (true && ((Nat.blt (c + 1) 72 || _) && true)) = true; rw [hc.2.2.2]; rfl) (s90 hX hk (by omega) (by omega)) (fun v m1 hq => ?_)
    obtain ⟨rfl, rfl⟩ := hq
    cases g : ai_c .ne (shp k 2) 0 with
    | true =>
      refine fT_ifT (t := 57) rfl rfl g ?_
      refine fT_s rfl rfl ?_
      refine fT_is rfl hc.2.1 i2 ?_
      refine fT_w (tail3 _) (fun v m1 hq => ?_)
      obtain ⟨rfl, rfl⟩ := hq
      exact ⟨rfl, by rw [c2]; unfold opn; rw [g]⟩
    | false =>
      refine fT_ifF (t := 57) rfl rfl g ?_
      iterate 2 refine fT_s rfl rfl ?_
      refine fT_is rfl hc.2.1 i2 ?_
      refine fT_w (tail3 _) (fun v m1 hq => ?_)
      obtain ⟨rfl, rfl⟩ := hq
      exact ⟨rfl, by rw [c2]; unfold opn; rw [g]; rfl⟩
  iterate 5 refine fT_s rfl rfl ?_
  refine fT_gr rfl hc.1 rfl ?_
  iterate 4 refine fT_s rfl rfl ?_
  refine fT_is (j := nI p * 4 + nI 0) rfl hc.2.1 i0 ?_
  refine fT_s rfl rfl ?_
  refine fT_gr rfl hc.1 rfl ?_
  iterate 5 refine fT_s rfl rfl ?_
  refine fT_qs (r' := ai_r90) (As := [.int (nI k), .int (nI 1)]) (rest := [.int (nI p * 4 + nI 1), .ref (c + 1)]) rfl rfl rfl rfl rfl rfl (by omega) (show 19 + 2 ≤ w from hw) (Nat.le_of_ble_eq_true rfl) (Nat.le_of_ble_eq_true rfl) (by show ((Nat.blt c 72 || _) && true) = true; rw [hc.2.2.1]; rfl) (by show (true && ((Nat.blt (c + 1) 72 || _) && true)) = true; rw [hc.2.2.2]; rfl) (s90 hX hk (by omega) (by omega)) (fun v m1 hq => ?_)
  obtain ⟨rfl, rfl⟩ := hq
  cases g : ai_c .ne (shp k 1) 0 with
  | true =>
    refine fT_ifT (t := 35) rfl rfl g ?_
    refine fT_s rfl rfl ?_
    refine fT_is rfl hc.2.1 i1 ?_
    refine fT_w (tail2 _) (fun v m1 hq => ?_)
    obtain ⟨rfl, rfl⟩ := hq
    refine ⟨rfl, ?_⟩
    rw [c0, c1]
    unfold wri opn
    rw [g]
    rfl
  | false =>
    refine fT_ifF (t := 35) rfl rfl g ?_
    iterate 2 refine fT_s rfl rfl ?_
    refine fT_is rfl hc.2.1 i1 ?_
    refine fT_w (tail2 _) (fun v m1 hq => ?_)
    obtain ⟨rfl, rfl⟩ := hq
    refine ⟨rfl, ?_⟩
    rw [c0, c1]
    unfold wri opn
    rw [g]
    rfl
end SP5
