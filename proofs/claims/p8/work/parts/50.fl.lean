/-! the memory behind the constructors: its shape is fixed; m holds its ints and longs, by cell and place -/
abbrev fm : Type := (Nat → Nat → Int32) × (Nat → Nat → Int64)
def fl_fs (f : Nat → Int32) : Nat → List Value → List Value
  | _, [] => []
  | i, .int _ :: t => .int (f i) :: fl_fs f (i + 1) t
  | i, v :: t => v :: fl_fs f (i + 1) t
def fl_e (m : fm) (k : Nat) (e : va_E) : va_E := match e with
  | .inl (t, n, .inl _) => .inl (t, n, .inl (m.1 k))
  | .inl (t, n, .inr (.inl _)) => .inl (t, n, .inr (.inl (m.2 k)))
  | .inl (t, n, .inr (.inr x)) => .inl (t, n, .inr (.inr x))
  | .inr (ci, fs) => .inr (ci, fl_fs (m.1 k) 0 fs)
def fl_t : List va_E := [.inr (5, [.ref 1, .ref 2, .ref 3, .ref 4, .ref 8, .ref 12, .ref 14, .int 0]),
  .inl (3, 8, .inr (.inr (.inr (.inr (fun i => if i < 8 then some (20 + 4 * i) else none))))),
  .inl (3, 8, .inr (.inr (.inr (.inr (fun i => if i < 8 then some (22 + 4 * i) else none))))),
  .inl (1, 8, .inl (fun _ => 0)),
  .inr (1, [.ref 5, .ref 6, .ref 7]),
  .inl (2, 96, .inr (.inl (fun _ => 0))),
  .inl (0, 24, .inl (fun _ => 0)),
  .inl (2, 4, .inr (.inl (fun _ => 0))),
  .inr (4, [.ref 9, .ref 10, .ref 11]),
  .inl (1, 8, .inl (fun _ => 0)),
  .inl (1, 8, .inl (fun _ => 0)),
  .inl (0, 4, .inl (fun _ => 0)),
  .inr (3, [.ref 13]),
  .inl (0, 25, .inl (fun _ => 0)),
  .inr (2, [.ref 15, .ref 16, .ref 17, .ref 18, .ref 19, .int 0, .int 0, .int 0, .int 0, .int 0]),
  .inl (0, 4, .inl (fun _ => 0)),
  .inl (0, 60, .inl (fun _ => 0)),
  .inl (0, 32, .inl (fun _ => 0)),
  .inl (0, 8, .inl (fun _ => 0)),
  .inl (0, 8, .inl (fun _ => 0)),
  .inr (0, [.ref 21, .int 0]),
  .inl (0, 96, .inl (fun _ => 0)),
  .inr (0, [.ref 23, .int 0]),
  .inl (0, 96, .inl (fun _ => 0)),
  .inr (0, [.ref 25, .int 0]),
  .inl (0, 96, .inl (fun _ => 0)),
  .inr (0, [.ref 27, .int 0]),
  .inl (0, 96, .inl (fun _ => 0)),
  .inr (0, [.ref 29, .int 0]),
  .inl (0, 96, .inl (fun _ => 0)),
  .inr (0, [.ref 31, .int 0]),
  .inl (0, 96, .inl (fun _ => 0)),
  .inr (0, [.ref 33, .int 0]),
  .inl (0, 96, .inl (fun _ => 0)),
  .inr (0, [.ref 35, .int 0]),
  .inl (0, 96, .inl (fun _ => 0)),
  .inr (0, [.ref 37, .int 0]),
  .inl (0, 96, .inl (fun _ => 0)),
  .inr (0, [.ref 39, .int 0]),
  .inl (0, 96, .inl (fun _ => 0)),
  .inr (0, [.ref 41, .int 0]),
  .inl (0, 96, .inl (fun _ => 0)),
  .inr (0, [.ref 43, .int 0]),
  .inl (0, 96, .inl (fun _ => 0)),
  .inr (0, [.ref 45, .int 0]),
  .inl (0, 96, .inl (fun _ => 0)),
  .inr (0, [.ref 47, .int 0]),
  .inl (0, 96, .inl (fun _ => 0)),
  .inr (0, [.ref 49, .int 0]),
  .inl (0, 96, .inl (fun _ => 0)),
  .inr (0, [.ref 51, .int 0]),
  .inl (0, 96, .inl (fun _ => 0)),
  .inr (6, [.ref 53, .ref 54, .ref 55, .ref 56, .ref 57, .ref 58, .int 0, .int 0, .int 0, .ref 59, .ref 60, .int 0, .ref 61, .ref 62, .ref 63, .int 0, .ref 64, .ref 65, .ref 66, .ref 67, .int 0, .int 0, .int 0, .int 0, .int 0, .ref 68, .ref 69, .ref 70, .ref 71]),
  .inl (0, 384, .inl (fun _ => 0)),
  .inl (0, 384, .inl (fun _ => 0)),
  .inl (0, 384, .inl (fun _ => 0)),
  .inl (0, 384, .inl (fun _ => 0)),
  .inl (0, 16, .inl (fun _ => 0)),
  .inl (1, 8, .inl (fun _ => 0)),
  .inl (1, 25, .inl (fun _ => 0)),
  .inl (2, 100, .inr (.inl (fun _ => 0))),
  .inl (2, 4, .inr (.inl (fun _ => 0))),
  .inl (0, 25, .inl (fun _ => 0)),
  .inl (0, 26, .inl (fun _ => 0)),
  .inl (1, 25, .inl (fun _ => 0)),
  .inl (1, 25, .inl (fun _ => 0)),
  .inl (0, 4, .inl (fun _ => 0)),
  .inl (0, 60, .inl (fun _ => 0)),
  .inl (0, 9, .inl (fun _ => 0)),
  .inl (0, 9, .inl (fun _ => 0)),
  .inl (0, 9, .inl (fun _ => 0)),
  .inl (0, 36, .inl (fun _ => 0))]
def fl (m : fm) : List va_E := fl_t.mapIdx (fun k e => fl_e m k e)
theorem fl_at (m : fm) (k : Nat) : (fl m)[k]? = (fl_t[k]?).map (fl_e m k) := by
  unfold fl
  rw [List.getElem?_mapIdx]
theorem fl_len (m : fm) : (fl m).length = 72 := by
  unfold fl
  rw [List.length_mapIdx]
  rfl
/-- one int, one long is changed -/
def fs1 (m : fm) (k i : Nat) (x : Int32) : fm := (fun a b => if a = k ∧ b = i then x else m.1 a b, m.2)
def fs2 (m : fm) (k i : Nat) (x : Int64) : fm := (m.1, fun a b => if a = k ∧ b = i then x else m.2 a b)
theorem fl_fs_get (f : Nat → Int32) : ∀ (fs : List Value) (i b : Nat), (fl_fs f i fs)[b]? = (fs[b]?).map (fun v => match v with | .int _ => .int (f (i + b)) | v => v)
  | [], _, _ => by simp [fl_fs]
  | v :: t, i, 0 => by cases v <;> rfl
  | v :: t, i, b + 1 => by
    have h := fl_fs_get f t (i + 1) b
    rw [show i + 1 + b = i + (b + 1) by omega] at h
    have e : (fl_fs f i (v :: t))[b + 1]? = (fl_fs f (i + 1) t)[b]? := by cases v <;> rfl
    rw [e, h]
    rfl
theorem fl_ext {l1 l2 : List va_E} (h : ∀ j : Nat, l1[j]? = l2[j]?) : l1 = l2 := List.ext_getElem? h
theorem fl_e_ne {m : fm} {k i j : Nat} {x : Int32} (h : j ≠ k) (e : va_E) : fl_e (fs1 m k i x) j e = fl_e m j e := by
  have hf : (fs1 m k i x).1 j = m.1 j := by
    funext b
    show (if j = k ∧ b = i then x else m.1 j b) = _
    rw [if_neg (fun z => h z.1)]
  unfold fl_e
  rw [hf]
  rfl
theorem fl_e_ne2 {m : fm} {k i j : Nat} {x : Int64} (h : j ≠ k) (e : va_E) : fl_e (fs2 m k i x) j e = fl_e m j e := by
  have hf : (fs2 m k i x).2 j = m.2 j := by
    funext b
    show (if j = k ∧ b = i then x else m.2 j b) = _
    rw [if_neg (fun z => h z.1)]
  unfold fl_e
  rw [hf]
  rfl
theorem fl_set {m : fm} {k : Nat} {e e0 : va_E} {m' : fm} (h0 : fl_t[k]? = some e0) (he : fl_e m' k e0 = e) (hn : ∀ j, j ≠ k → ∀ z, fl_e m' j z = fl_e m j z) : (fl m).set k e = fl m' := by
  apply fl_ext
  intro j
  by_cases hj : k = j
  · subst hj
    rw [List.getElem?_set_self (by rw [fl_len]; exact (List.getElem?_eq_some_iff.mp h0).1), fl_at, h0]
    show some e = some (fl_e m' k e0)
    rw [he]
  · rw [List.getElem?_set_ne hj, fl_at, fl_at]
    cases fl_t[j]? with
    | none => rfl
    | some z =>
      show some (fl_e m j z) = some (fl_e m' j z)
      rw [hn j (fun q => hj q.symm)]
theorem fl_set1 {m : fm} {k t n i : Nat} {g : Nat → Int32} {x : Int32} (h0 : fl_t[k]? = some (.inl (t, n, .inl g))) : (fl m).set k (.inl (t, n, .inl (upd (m.1 k) i x))) = fl (fs1 m k i x) := by
  refine fl_set h0 ?_ (fun j hj z => fl_e_ne hj z)
  show (Sum.inl (t, n, Sum.inl ((fs1 m k i x).1 k)) : va_E) = _
  congr 4
  funext b
  show (if k = k ∧ b = i then x else m.1 k b) = (if b = i then x else m.1 k b)
  by_cases hb : b = i
  · rw [if_pos ⟨rfl, hb⟩, if_pos hb]
  · rw [if_neg (fun z => hb z.2), if_neg hb]
theorem fl_set2 {m : fm} {k t n i : Nat} {g : Nat → Int64} {x : Int64} (h0 : fl_t[k]? = some (.inl (t, n, .inr (.inl g)))) : (fl m).set k (.inl (t, n, .inr (.inl (vp_updL (m.2 k) i x)))) = fl (fs2 m k i x) := by
  refine fl_set h0 ?_ (fun j hj z => fl_e_ne2 hj z)
  show (Sum.inl (t, n, Sum.inr (Sum.inl ((fs2 m k i x).2 k))) : va_E) = _
  congr 5
  funext b
  show (if k = k ∧ b = i then x else m.2 k b) = (if b = i then x else m.2 k b)
  by_cases hb : b = i
  · rw [if_pos ⟨rfl, hb⟩, if_pos hb]
  · rw [if_neg (fun z => hb z.2), if_neg hb]
theorem fl_setf {m : fm} {k ci b : Nat} {fs : List Value} {x z0 : Int32} (h0 : fl_t[k]? = some (.inr (ci, fs))) (hb : fs[b]? = some (.int z0)) : (fl m).set k (.inr (ci, (fl_fs (m.1 k) 0 fs).set b (.int x))) = fl (fs1 m k b x) := by
  refine fl_set h0 ?_ (fun j hj z => fl_e_ne hj z)
  show (Sum.inr (ci, fl_fs ((fs1 m k b x).1 k) 0 fs) : va_E) = _
  congr 2
  apply List.ext_getElem?
  intro j
  rw [fl_fs_get]
  by_cases hj : b = j
  · subst hj
    have hl : b < (fl_fs (m.1 k) 0 fs).length := by
      have h5 := fl_fs_get (m.1 k) fs 0 b
      rw [hb] at h5
      exact (List.getElem?_eq_some_iff.mp h5).1
    rw [List.getElem?_set_self hl, hb]
    show some (Value.int (if k = k ∧ 0 + b = b then x else _)) = _
    rw [if_pos ⟨rfl, by omega⟩]
  · rw [List.getElem?_set_ne hj, fl_fs_get]
    cases fs[j]? with
    | none => rfl
    | some v =>
      cases v with
      | int y =>
        show some (Value.int (if k = k ∧ 0 + j = b then x else m.1 k (0 + j))) = some (Value.int (m.1 k (0 + j)))
        rw [if_neg (fun z => hj (by omega))]
      | _ => rfl
