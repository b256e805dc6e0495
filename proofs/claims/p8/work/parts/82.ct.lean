def ct_A : List va_E := [.inr (5, [.ref 1, .ref 2, .ref 3, .ref 4, .ref 8, .ref 12, .ref 14, .int 0]),
  .inl (3, 8, .inr (.inr (.inr (.inr (va_up (va_up (va_up (va_up (va_up (va_up (va_up (va_up (fun _ => none) 0 (some 20)) 1 (some 24)) 2 (some 28)) 3 (some 32)) 4 (some 36)) 5 (some 40)) 6 (some 44)) 7 (some 48)))))),
  .inl (3, 8, .inr (.inr (.inr (.inr (va_up (va_up (va_up (va_up (va_up (va_up (va_up (va_up (fun _ => none) 0 (some 22)) 1 (some 26)) 2 (some 30)) 3 (some 34)) 4 (some 38)) 5 (some 42)) 6 (some 46)) 7 (some 50)))))),
  .inl (1, 8, .inl (fun _ => 0)),
  .inr (1, [.ref 5, .ref 6, .ref 7]),
  .inl (2, 96, .inr (.inl (fun _ => 0))),
  .inl (0, 24, .inl (fun _ => 0)),
  .inl (2, 4, .inr (.inl (fun _ => 0))),
  .inr (4, [.ref 9, .ref 10, .ref 11]),
  .inl (1, 8, .inl (fun _ => 0)),
  .inl (1, 8, .inl (fun _ => 0)),
  .inl (0, 4, .inl (fun _ => 0)),
  .inr (3, [.ref 13]),
  .inl (0, 25, .inl (fun _ => 0)),
  .inr (2, [.ref 15, .ref 16, .ref 17, .ref 18, .ref 19, .int 0, .int 0, .int 0, .int 0, .int 0]),
  .inl (0, 4, .inl (fun _ => 0)),
  .inl (0, 60, .inl (fun _ => 0)),
  .inl (0, 32, .inl (fun _ => 0)),
  .inl (0, 8, .inl (fun _ => 0)),
  .inl (0, 8, .inl (fun _ => 0)),
  .inr (0, [.ref 21, .int 0]),
  .inl (0, 96, .inl (fun _ => 0)),
  .inr (0, [.ref 23, .int 0]),
  .inl (0, 96, .inl (fun _ => 0)),
  .inr (0, [.ref 25, .int 0]),
  .inl (0, 96, .inl (fun _ => 0)),
  .inr (0, [.ref 27, .int 0]),
  .inl (0, 96, .inl (fun _ => 0)),
  .inr (0, [.ref 29, .int 0]),
  .inl (0, 96, .inl (fun _ => 0)),
  .inr (0, [.ref 31, .int 0]),
  .inl (0, 96, .inl (fun _ => 0)),
  .inr (0, [.ref 33, .int 0]),
  .inl (0, 96, .inl (fun _ => 0)),
  .inr (0, [.ref 35, .int 0]),
  .inl (0, 96, .inl (fun _ => 0)),
  .inr (0, [.ref 37, .int 0]),
  .inl (0, 96, .inl (fun _ => 0)),
  .inr (0, [.ref 39, .int 0]),
  .inl (0, 96, .inl (fun _ => 0)),
  .inr (0, [.ref 41, .int 0]),
  .inl (0, 96, .inl (fun _ => 0)),
  .inr (0, [.ref 43, .int 0]),
  .inl (0, 96, .inl (fun _ => 0)),
  .inr (0, [.ref 45, .int 0]),
  .inl (0, 96, .inl (fun _ => 0)),
  .inr (0, [.ref 47, .int 0]),
  .inl (0, 96, .inl (fun _ => 0)),
  .inr (0, [.ref 49, .int 0]),
  .inl (0, 96, .inl (fun _ => 0)),
  .inr (0, [.ref 51, .int 0]),
  .inl (0, 96, .inl (fun _ => 0))]
def ct_B : List va_E := [.inr (6, [.ref 53, .ref 54, .ref 55, .ref 56, .ref 57, .ref 58, .int 0, .int 0, .int 0, .ref 59, .ref 60, .int 0, .ref 61, .ref 62, .ref 63, .int 0, .ref 64, .ref 65, .ref 66, .ref 67, .int 0, .int 0, .int 0, .int 0, .int 0, .ref 68, .ref 69, .ref 70, .ref 71]),
  .inl (0, 384, .inl (fun _ => 0)),
  .inl (0, 384, .inl (fun _ => 0)),
  .inl (0, 384, .inl (fun _ => 0)),
  .inl (0, 384, .inl (fun _ => 0)),
  .inl (0, 16, .inl (fun _ => 0)),
  .inl (1, 8, .inl (fun _ => 0)),
  .inl (1, 25, .inl (fun _ => 0)),
  .inl (2, 100, .inr (.inl (fun _ => 0))),
  .inl (2, 4, .inr (.inl (fun _ => 0))),
  .inl (0, 25, .inl (fun _ => 0)),
  .inl (0, 26, .inl (fun _ => 0)),
  .inl (1, 25, .inl (fun _ => 0)),
  .inl (1, 25, .inl (fun _ => 0)),
  .inl (0, 4, .inl (fun _ => 0)),
  .inl (0, 60, .inl (fun _ => 0)),
  .inl (0, 9, .inl (fun _ => 0)),
  .inl (0, 9, .inl (fun _ => 0)),
  .inl (0, 9, .inl (fun _ => 0)),
  .inl (0, 36, .inl (fun _ => 0))]
set_option maxRecDepth 1000000 in
set_option maxHeartbeats 0 in
theorem ct_67 (X : ai_X) : ai_x X 3000 8 (ai_w0 - 21) ai_r67 0 (ai_en 2 [.ref 0]) [] [.inr (5, [.null, .null, .null, .null, .null, .null, .null, .int 0])] 0 0 = some (114, none, ct_A, 51, 1890) := by rfl
set_option maxRecDepth 1000000 in
set_option maxHeartbeats 0 in
theorem ct_94 (X : ai_X) : ai_x X 3000 8 (ai_w0 - 20) ai_r94 0 (ai_en 1 [.ref 52]) [] (ct_A ++ [.inr (6, ai_dfs.getD 6 [])]) 0 0 = some (158, none, ct_A ++ ct_B, 19, 1917) := by rfl
def m0 : fm := (fun _ _ => 0, fun _ _ => 0)
theorem ct_up (b : Nat) : (va_up (va_up (va_up (va_up (va_up (va_up (va_up (va_up (fun _ => none) 0 (some (b + 4 * 0))) 1 (some (b + 4 * 1))) 2 (some (b + 4 * 2))) 3 (some (b + 4 * 3))) 4 (some (b + 4 * 4))) 5 (some (b + 4 * 5))) 6 (some (b + 4 * 6))) 7 (some (b + 4 * 7))) = (fun i : Nat => if i < 8 then some (b + 4 * i) else none) := by
  funext i
  by_cases h : i < 8
  · rw [if_pos h]
    have e : i = 0 ∨ i = 1 ∨ i = 2 ∨ i = 3 ∨ i = 4 ∨ i = 5 ∨ i = 6 ∨ i = 7 := by omega
    rcases e with rfl | rfl | rfl | rfl | rfl | rfl | rfl | rfl <;> rfl
  · rw [if_neg h, va_up_ne _ _ (by omega), va_up_ne _ _ (by omega), va_up_ne _ _ (by omega), va_up_ne _ _ (by omega), va_up_ne _ _ (by omega), va_up_ne _ _ (by omega), va_up_ne _ _ (by omega), va_up_ne _ _ (by omega)]
set_option maxRecDepth 1000000 in
theorem ct_fl : ct_A ++ ct_B = fl m0 := by
  have e1 : (va_up (va_up (va_up (va_up (va_up (va_up (va_up (va_up (fun _ => none) 0 (some 20)) 1 (some 24)) 2 (some 28)) 3 (some 32)) 4 (some 36)) 5 (some 40)) 6 (some 44)) 7 (some 48)) = _ := ct_up 20
  have e2 : (va_up (va_up (va_up (va_up (va_up (va_up (va_up (va_up (fun _ => none) 0 (some 22)) 1 (some 26)) 2 (some 30)) 3 (some 34)) 4 (some 38)) 5 (some 42)) 6 (some 46)) 7 (some 50)) = _ := ct_up 22
  unfold ct_A
  rw [e1, e2]
  rfl
theorem ct_inv : INV m0 := by
  have z : (0 : Int32) = nI 0 := dx_z
  refine ⟨fun _ => 0, fun _ => (fun _ => 0, fun _ => 0, fun _ => 0, fun _ => 0), fun _ => false, ?_⟩
  refine ⟨fun j hj => ⟨z, fun p hp => absurd hp (Nat.not_lt_zero p)⟩, fun j hj => ⟨by omega, z, fun p hp => absurd hp (Nat.not_lt_zero p)⟩, fun j hj => WF_0, fun j hj => NZ_0, fun i hi => rfl, fun j hj => ⟨z, z⟩, ⟨false, z, z, fun h => absurd h (by decide)⟩, ⟨0, 0, z, z, by omega, z, z, by omega, fun i _ hi => absurd hi (by omega), rfl, fun f hf => rfl⟩⟩
set_option maxRecDepth 1000000 in
set_option maxHeartbeats 4000000 in
theorem ct_law {X : ai_X} {o : Nat × Option Value × List va_E × Nat × Nat} (h : ai_T X 9 ai_w0 ai_r143 16 [some (.ref ai_B), some (.ref 0), some (.ref 52), none] [] (fl m0) 72 3844 o) : ai_T X 9 ai_w0 ai_r143 0 (ai_en 4 [.ref ai_B]) [] [] 0 0 o := by
  rw [← ct_fl] at h
  refine ai_Ta (dp := 3) (ds := 8) (st' := []) (e := .inr (5, [.null, .null, .null, .null, .null, .null, .null, .int 0])) rfl rfl (Nat.le_of_ble_eq_true rfl) rfl rfl rfl ?_
  refine ai_Ts (pc' := 4) (L' := [some (.ref ai_B), none, none, none]) (st' := [.ref 0, .ref 0]) rfl rfl ?_
  refine ai_Tq (r' := ai_r67) (As := [.ref 0]) (rest := [.ref 0]) (q := 114) (v := none) (M' := ct_A) (kc := 51) (ks := 1890) rfl rfl (by omega) (Nat.le_of_ble_eq_true rfl) (Nat.le_of_ble_eq_true rfl) (Nat.le_of_ble_eq_true rfl) rfl rfl ⟨3000, ct_67 X⟩ ?_
  refine ai_Ts (pc' := 8) (L' := [some (.ref ai_B), some (.ref 0), none, none]) (st' := []) rfl rfl ?_
  refine ai_Ta (dp := 3) (ds := 29) (st' := []) (e := .inr (6, ai_dfs.getD 6 [])) rfl rfl (Nat.le_of_ble_eq_true rfl) rfl rfl rfl ?_
  refine ai_Ts (pc' := 12) (L' := [some (.ref ai_B), some (.ref 0), none, none]) (st' := [.ref 52, .ref 52]) rfl rfl ?_
  refine ai_Tq (r' := ai_r94) (As := [.ref 52]) (rest := [.ref 52]) (q := 158) (v := none) (M' := ct_A ++ ct_B) (kc := 19) (ks := 1917) rfl rfl (by omega) (Nat.le_of_ble_eq_true rfl) (Nat.le_of_ble_eq_true rfl) (Nat.le_of_ble_eq_true rfl) rfl rfl ⟨3000, ct_94 X⟩ ?_
  refine ai_Ts (pc' := 16) (L' := [some (.ref ai_B), some (.ref 0), some (.ref 52), none]) (st' := []) rfl rfl ?_
  exact h
theorem ai_pure_all : ai_pureP 3072 := by
  intro L xs hL
  have hf : fT (ai_XX L xs) 9 ai_w0 ai_r143 16 [some (.ref ai_B), some (.ref 0), some (.ref 52), none] [] m0 (fun v _ => v = some (.int (nI 1))) := t143_16 (N := L) (xs := xs) rfl rfl (by omega) (Nat.le_of_ble_eq_true rfl) m0 _ (ob_m (law_s hL xs ct_inv) (fun r hr => by rw [hr]))
  obtain ⟨pc1, v, m1, hT, hv⟩ := hf
  obtain ⟨n, hn⟩ := ct_law (hT 72 3844)
  rw [hv, show nI 1 = (1 : Int32) by decide +kernel] at hn
  exact ⟨n, pc1, fl m1, 72, 3844, hn, by omega, by omega⟩
