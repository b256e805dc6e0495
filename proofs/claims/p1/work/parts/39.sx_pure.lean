theorem sy_put {xs : Nat → Int32} (h : xs 0 &&& 15 = nI 0) : ∃ n pc1 M1 c1 s1, ai_x (ai_XX 6 xs) n 9 350 ai_r143 0 (ai_en 4 [.ref ai_B]) [] [] 0 0 = some (pc1, some (.int 1), M1, c1, s1) ∧ c1 ≤ 600000 ∧ s1 ≤ 7302250 := by
  have h0 := sy_E0ok xs h (by omega)
  have e1 : (sy_p xs 1).toInt = (xs 1).toInt := rfl
  have e2 : (sy_p xs 2).toInt = (xs 2).toInt := rfl
  have r1 := sy_range (xs 1)
  have r2 := sy_range (xs 2)
  by_cases a1 : (xs 1).toInt < 0
  · exact sy_fin sy_plo (sy_okS (sy_okS h0 (by rw [e1]; omega) (by rw [e1]; omega)) (by rw [e2]; omega) (by rw [e2]; omega))
  · by_cases a2 : 7 < (xs 1).toInt
    · exact sy_fin sy_phi (sy_okS (sy_okS h0 (by rw [e1]; omega) (by rw [e1]; omega)) (by rw [e2]; omega) (by rw [e2]; omega))
    · by_cases b1 : (xs 2).toInt < 0
      · exact sy_fin sy_pklo (sy_okS (sy_okS h0 (by rw [e1]; omega) (by rw [e1]; omega)) (by rw [e2]; omega) (by rw [e2]; omega))
      · by_cases b2 : 12 < (xs 2).toInt
        · exact sy_fin sy_pkhi (sy_okS (sy_okS h0 (by rw [e1]; omega) (by rw [e1]; omega)) (by rw [e2]; omega) (by rw [e2]; omega))
        · have hk : ∃ k : Nat, k < 13 ∧ (xs 2).toInt = (k : Int) := ⟨(xs 2).toInt.toNat, by omega, by omega⟩
          obtain ⟨k, hk, hk2⟩ := hk
          match k, hk, hk2 with
          | 0, _, hk2 => exact sy_fin sy_pk0 (sy_okS (sy_okS h0 (by rw [e1]; omega) (by rw [e1]; omega)) (by rw [e2]; omega) (by rw [e2]; omega))
          | 1, _, hk2 => exact sy_fin sy_pk1 (sy_okS (sy_okS h0 (by rw [e1]; omega) (by rw [e1]; omega)) (by rw [e2]; omega) (by rw [e2]; omega))
          | 2, _, hk2 => exact sy_fin sy_pk2 (sy_okS (sy_okS h0 (by rw [e1]; omega) (by rw [e1]; omega)) (by rw [e2]; omega) (by rw [e2]; omega))
          | 3, _, hk2 => exact sy_fin sy_pk3 (sy_okS (sy_okS h0 (by rw [e1]; omega) (by rw [e1]; omega)) (by rw [e2]; omega) (by rw [e2]; omega))
          | 4, _, hk2 => exact sy_fin sy_pk4 (sy_okS (sy_okS h0 (by rw [e1]; omega) (by rw [e1]; omega)) (by rw [e2]; omega) (by rw [e2]; omega))
          | 5, _, hk2 => exact sy_fin sy_pk5 (sy_okS (sy_okS h0 (by rw [e1]; omega) (by rw [e1]; omega)) (by rw [e2]; omega) (by rw [e2]; omega))
          | 6, _, hk2 => exact sy_fin sy_pk6 (sy_okS (sy_okS h0 (by rw [e1]; omega) (by rw [e1]; omega)) (by rw [e2]; omega) (by rw [e2]; omega))
          | 7, _, hk2 => exact sy_fin sy_pk7 (sy_okS (sy_okS h0 (by rw [e1]; omega) (by rw [e1]; omega)) (by rw [e2]; omega) (by rw [e2]; omega))
          | 8, _, hk2 => exact sy_fin sy_pk8 (sy_okS (sy_okS h0 (by rw [e1]; omega) (by rw [e1]; omega)) (by rw [e2]; omega) (by rw [e2]; omega))
          | 9, _, hk2 => exact sy_fin sy_pk9 (sy_okS (sy_okS h0 (by rw [e1]; omega) (by rw [e1]; omega)) (by rw [e2]; omega) (by rw [e2]; omega))
          | 10, _, hk2 => exact sy_fin sy_pk10 (sy_okS (sy_okS h0 (by rw [e1]; omega) (by rw [e1]; omega)) (by rw [e2]; omega) (by rw [e2]; omega))
          | 11, _, hk2 => exact sy_fin sy_pk11 (sy_okS (sy_okS h0 (by rw [e1]; omega) (by rw [e1]; omega)) (by rw [e2]; omega) (by rw [e2]; omega))
          | 12, _, hk2 => exact sy_fin sy_pk12 (sy_okS (sy_okS h0 (by rw [e1]; omega) (by rw [e1]; omega)) (by rw [e2]; omega) (by rw [e2]; omega))
          | k + 13, hk, _ => exact absurd hk (by omega)
theorem ai_pure6 : ai_pureP 6 := by
  intro L xs hL
  match L, hL with
  | 0, _ => exact sy_fin sy_l0 (sy_E00 xs)
  | 1, _ => exact sy_fin sy_l1 (sy_E00 xs)
  | 2, _ => exact sy_fin sy_l2 (sy_E00 xs)
  | 3, _ => exact sy_fin sy_l3 (sy_E00 xs)
  | 4, _ => exact sy_fin sy_l4 (sy_E00 xs)
  | 5, _ => exact sy_fin sy_l5 (sy_E00 xs)
  | 6, _ =>
    obtain ⟨j, hj, h⟩ := sy_and15 (xs 0)
    match j, hj, h with
    | 0, _, h => exact sy_put h
    | 1, hj, h => exact sy_fin sy_k1 (sy_E0ok xs h hj)
    | 2, hj, h => exact sy_fin sy_k2 (sy_E0ok xs h hj)
    | 3, hj, h => exact sy_fin sy_k3 (sy_E0ok xs h hj)
    | 4, hj, h => exact sy_fin sy_k4 (sy_E0ok xs h hj)
    | 5, hj, h => exact sy_fin sy_k5 (sy_E0ok xs h hj)
    | 6, hj, h => exact sy_fin sy_k6 (sy_E0ok xs h hj)
    | 7, hj, h => exact sy_fin sy_k7 (sy_E0ok xs h hj)
    | 8, hj, h => exact sy_fin sy_k8 (sy_E0ok xs h hj)
    | 9, hj, h => exact sy_fin sy_k9 (sy_E0ok xs h hj)
    | 10, hj, h => exact sy_fin sy_k10 (sy_E0ok xs h hj)
    | 11, hj, h => exact sy_fin sy_k11 (sy_E0ok xs h hj)
    | 12, hj, h => exact sy_fin sy_k12 (sy_E0ok xs h hj)
    | 13, hj, h => exact sy_fin sy_k13 (sy_E0ok xs h hj)
    | 14, hj, h => exact sy_fin sy_k14 (sy_E0ok xs h hj)
    | 15, hj, h => exact sy_fin sy_k15 (sy_E0ok xs h hj)
    | j + 16, hj, _ => exact absurd hj (by omega)
  | L + 7, hL => exact absurd hL (by omega)
