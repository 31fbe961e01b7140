section
theorem flo64 {s n : Int32} (hn : 0 < n.toInt) (h1 : -1998 ≤ s.toInt) (h2 : s.toInt ≤ 1998) : v_284 s n = v_212 s n ∧ bt (-1999) 1998 (v_212 s n) := by
  have t0 : (0 : Int32).toInt = 0 := by decide
  have t1 : (1 : Int32).toInt = 1 := by decide
  have hx := xs (s := s) (n := n) (by omega)
  obtain ⟨D, hD⟩ : ∃ D, D = s.toInt.tdiv n.toInt := ⟨_, rfl⟩
  have hD2 := hD
  rw [td hn] at hD2
  obtain ⟨P, hP⟩ : ∃ P, P = D * n.toInt := ⟨_, rfl⟩
  have key : -1998 ≤ D ∧ D ≤ 1998 ∧ (0 ≤ s.toInt → 0 ≤ s.toInt - P ∧ 0 ≤ P) ∧ (¬ 0 ≤ s.toInt → s.toInt - P ≤ 0 ∧ P ≤ 0) := by
    by_cases z : 0 ≤ s.toInt
    · rw [if_pos z] at hD2
      have q1 := Int.emod_add_mul_ediv s.toInt n.toInt
      have q2 := Int.emod_nonneg s.toInt (show n.toInt ≠ 0 by omega)
      have q3 : 0 ≤ s.toInt / n.toInt := Int.ediv_nonneg z (by omega)
      have q4 := Int.ediv_le_self n.toInt z
      rw [← hD2, Int.mul_comm, ← hP] at q1
      rw [← hD2] at q3 q4
      have q5 : 0 ≤ P := by rw [hP]; exact Int.mul_nonneg q3 (by omega)
      exact ⟨by omega, by omega, fun _ => ⟨by omega, q5⟩, fun w => absurd z w⟩
    · rw [if_neg z] at hD2
      have q1 := Int.emod_add_mul_ediv (-s.toInt) n.toInt
      have q2 := Int.emod_nonneg (-s.toInt) (show n.toInt ≠ 0 by omega)
      have q3 : 0 ≤ (-s.toInt) / n.toInt := Int.ediv_nonneg (by omega) (by omega)
      have q4 := Int.ediv_le_self n.toInt (show 0 ≤ -s.toInt by omega)
      obtain ⟨Q, hQ⟩ : ∃ Q, Q = (-s.toInt) / n.toInt := ⟨_, rfl⟩
      rw [← hQ] at hD2 q1 q3 q4
      have e : P = -(n.toInt * Q) := by rw [hP, hD2, Int.neg_mul, Int.mul_comm]
      have q5 : 0 ≤ n.toInt * Q := Int.mul_nonneg (by omega) q3
      generalize n.toInt * Q = R at e q1 q5
      exact ⟨by omega, by omega, fun w => absurd w z, fun _ => ⟨by omega, by omega⟩⟩
  obtain ⟨k1, k2, k3, k4⟩ := key
  have bo : -1998 ≤ P ∧ P ≤ 1998 := by
    by_cases z : 0 ≤ s.toInt
    · have := k3 z; omega
    · have := k4 z; omega
  have eD : (s / n).toInt = D := by
    rw [Int32.toInt_div, ← hD]
    exact Int.bmod_eq_of_le (by omega) (by omega)
  have em : (s / n * n).toInt = P := by
    rw [ti_mul (by rw [eD, ← hP]; omega) (by rw [eD, ← hP]; omega), eD, hP]
  have es : (s - s / n * n).toInt = s.toInt - P := by
    rw [ti_sub (by omega) (by omega), em]
  have e1 : (s / n - 1).toInt = D - 1 := by
    rw [ti_sub (by omega) (by omega), eD, t1]
  have c1 : (0 ≤ s - s / n * n) ↔ 0 ≤ s.toInt - P := by rw [Int32.le_iff_toInt_le, t0, es]
  have c2 : s / n * n = s ↔ P = s.toInt := by rw [← Int32.toInt_inj, em]
  unfold v_284 v_212
  by_cases z : 0 ≤ s.toInt
  · rw [if_pos (hx.mpr z), if_pos (c1.mpr (k3 z).1)]
    exact ⟨rfl, by unfold bt; omega⟩
  · rw [if_neg (fun y => z (hx.mp y))]
    have k := k4 z
    by_cases y : s.toInt - P = 0
    · rw [if_pos (c2.mpr (by omega)), if_pos (c1.mpr (by omega))]
      exact ⟨rfl, by unfold bt; omega⟩
    · rw [if_neg (fun w => y (by have := c2.mp w; omega)), if_neg (fun w => y (by have := c1.mp w; omega))]
      refine ⟨rfl, ?_⟩
      unfold bt
      rw [e1]
      omega
end
