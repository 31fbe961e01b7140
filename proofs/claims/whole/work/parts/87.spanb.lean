section
variable {b nv nc : Nat} {I J : WI}
theorem v220_bt {q lo hi : Int32} {P : Int} (hq : bt (-999) 999 q) (h1 : -10000 ≤ lo.toInt) (h2 : lo.toInt ≤ P) (h3 : P ≤ hi.toInt) (h4 : hi.toInt ≤ 10000) (h5 : -999 ≤ P) (h6 : P ≤ 999) : bt 0 1998 (v_220 q lo hi) := by
  obtain ⟨q1, q2⟩ := hq
  have t0 : (0 : Int32).toInt = 0 := by decide
  unfold v_220 bt
  by_cases a : lo ≤ q
  · rw [if_pos a]
    by_cases c : q ≤ hi
    · rw [if_pos c, t0]; omega
    · rw [if_neg c]
      rw [Int32.le_iff_toInt_le] at c
      rw [ti_sub (by omega) (by omega)]
      omega
  · rw [if_neg a]
    rw [Int32.le_iff_toInt_le] at a
    rw [ti_sub (by omega) (by omega)]
    omega
end
