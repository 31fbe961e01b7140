section
/-- what the floor is -/
theorem flo_f {s n : Int32} (hn : 0 < n.toInt) (h1 : -1998 ≤ s.toInt) (h2 : s.toInt ≤ 1998) : (v_212 s n).toInt * n.toInt ≤ s.toInt ∧ s.toInt < (v_212 s n).toInt * n.toInt + n.toInt := by
  have t0 : (0 : Int32).toInt = 0 := by decide
  have t1 : (1 : Int32).toInt = 1 := by decide
  obtain ⟨D, hD⟩ : ∃ D, D = s.toInt.tdiv n.toInt := ⟨_, rfl⟩
  have hD2 := hD
  rw [td hn] at hD2
  obtain ⟨P, hP⟩ : ∃ P, P = D * n.toInt := ⟨_, rfl⟩
  have key : -1998 ≤ D ∧ D ≤ 1998 ∧ -1998 ≤ P ∧ P ≤ 1998 ∧ s.toInt - P < n.toInt ∧ -n.toInt < s.toInt - P := by
    by_cases z : 0 ≤ s.toInt
    · rw [if_pos z] at hD2
      have q1 := Int.emod_add_mul_ediv s.toInt n.toInt
      have q2 := Int.emod_nonneg s.toInt (show n.toInt ≠ 0 by omega)
      have q2' := Int.emod_lt_of_pos s.toInt hn
      have q3 : 0 ≤ s.toInt / n.toInt := Int.ediv_nonneg z (by omega)
      have q4 := Int.ediv_le_self n.toInt z
      rw [← hD2, Int.mul_comm, ← hP] at q1
      rw [← hD2] at q3 q4
      have q5 : 0 ≤ P := by rw [hP]; exact Int.mul_nonneg q3 (by omega)
      exact ⟨by omega, by omega, by omega, by omega, by omega, by omega⟩
    · rw [if_neg z] at hD2
      have q1 := Int.emod_add_mul_ediv (-s.toInt) n.toInt
      have q2 := Int.emod_nonneg (-s.toInt) (show n.toInt ≠ 0 by omega)
      have q2' := Int.emod_lt_of_pos (-s.toInt) hn
      have q3 : 0 ≤ (-s.toInt) / n.toInt := Int.ediv_nonneg (by omega) (by omega)
      have q4 := Int.ediv_le_self n.toInt (show 0 ≤ -s.toInt by omega)
      obtain ⟨Q, hQ⟩ : ∃ Q, Q = (-s.toInt) / n.toInt := ⟨_, rfl⟩
      rw [← hQ] at hD2 q1 q3 q4
      have e : P = -(n.toInt * Q) := by rw [hP, hD2, Int.neg_mul, Int.mul_comm]
      have q5 : 0 ≤ n.toInt * Q := Int.mul_nonneg (by omega) q3
      generalize n.toInt * Q = R at e q1 q5
      exact ⟨by omega, by omega, by omega, by omega, by omega, by omega⟩
  obtain ⟨k1, k2, k3, k4, k5, k6⟩ := key
  have eD : (s / n).toInt = D := by
    rw [Int32.toInt_div, ← hD]
    exact Int.bmod_eq_of_le (by omega) (by omega)
  have em : (s / n * n).toInt = P := by
    rw [ti_mul (by rw [eD, ← hP]; omega) (by rw [eD, ← hP]; omega), eD, hP]
  have es : (s - s / n * n).toInt = s.toInt - P := by
    rw [ti_sub (by omega) (by omega), em]
  have e1 : (s / n - 1).toInt = D - 1 := by
    rw [ti_sub (by omega) (by omega), eD, t1]
  have c1 : (0 ≤ s - s / n * n) ↔ 0 ≤ s.toInt - P := by rw [Int32.le_iff_toInt_le, t0, es]
  unfold v_212
  by_cases z : 0 ≤ s.toInt - P
  · rw [if_pos (c1.mpr z), eD, ← hP]
    omega
  · rw [if_neg (fun w => z (c1.mp w)), e1, Int.sub_mul, ← hP, Int.one_mul]
    omega
end
