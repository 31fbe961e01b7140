section
/-! the floor of a quotient, and how many bits -/
theorem td {s n : Int} (hn : 0 < n) : s.tdiv n = if 0 ≤ s then s / n else -((-s) / n) := by
  split
  · rename_i h
    exact Int.tdiv_eq_ediv_of_nonneg h
  · have e := Int.neg_tdiv (-s) n
    rw [Int.neg_neg] at e
    rw [e, Int.tdiv_eq_ediv_of_nonneg (by omega)]
theorem xs {s n : Int32} (hn : 0 ≤ n.toInt) : (0 ≤ s ^^^ n) ↔ 0 ≤ s.toInt := by
  have t0 : (0 : Int32).toInt = 0 := by decide
  rw [Int32.le_iff_toInt_le, t0]
  have m1 : ∀ x : Int32, x.toBitVec.msb = decide (x.toInt < 0) := fun x => BitVec.msb_eq_toInt
  have a := m1 (s ^^^ n)
  have b := m1 s
  have c := m1 n
  have e : (s ^^^ n).toBitVec = s.toBitVec ^^^ n.toBitVec := rfl
  rw [e, BitVec.msb_xor, b, c, decide_eq_false (show ¬ n.toInt < 0 by omega)] at a
  have a2 : decide (s.toInt < 0) = decide ((s ^^^ n).toInt < 0) := by simpa using a
  have a3 := decide_eq_decide.mp a2
  omega
theorem flo {s n : Int32} (hn : 0 < n.toInt) (hn2 : n.toInt ≤ 12) (h1 : -999 * n.toInt ≤ s.toInt) (h2 : s.toInt ≤ 999 * n.toInt) : v_284 s n = v_212 s n ∧ bt (-999) 999 (v_212 s n) := by
  have t0 : (0 : Int32).toInt = 0 := by decide
  have t1 : (1 : Int32).toInt = 1 := by decide
  have hx := xs (s := s) (n := n) (by omega)
  obtain ⟨D, hD⟩ : ∃ D, D = s.toInt.tdiv n.toInt := ⟨_, rfl⟩
  have hD2 := hD
  rw [td hn] at hD2
  have key : -999 ≤ D ∧ D ≤ 999 ∧ (0 ≤ s.toInt → 0 ≤ s.toInt - D * n.toInt ∧ -11988 ≤ D * n.toInt ∧ D * n.toInt ≤ 11988) ∧ (¬ 0 ≤ s.toInt → s.toInt - D * n.toInt ≤ 0 ∧ -11988 ≤ D * n.toInt ∧ D * n.toInt ≤ 11988 ∧ (¬ s.toInt - D * n.toInt = 0 → -999 ≤ D - 1)) := by
    rcases (show n.toInt = 1 ∨ n.toInt = 2 ∨ n.toInt = 3 ∨ n.toInt = 4 ∨ n.toInt = 5 ∨ n.toInt = 6 ∨ n.toInt = 7 ∨ n.toInt = 8 ∨ n.toInt = 9 ∨ n.toInt = 10 ∨ n.toInt = 11 ∨ n.toInt = 12 by omega) with z | z | z | z | z | z | z | z | z | z | z | z <;> rw [z] at hD2 h1 h2 <;> rw [z] <;> clear hD hx <;> split at hD2 <;> omega
  obtain ⟨k1, k2, k3, k4⟩ := key
  have bo : -11988 ≤ D * n.toInt ∧ D * n.toInt ≤ 11988 := by
    by_cases z : 0 ≤ s.toInt
    · exact (k3 z).2
    · exact ⟨(k4 z).2.1, (k4 z).2.2.1⟩
  have eD : (s / n).toInt = D := by
    rw [Int32.toInt_div, ← hD]
    exact Int.bmod_eq_of_le (by omega) (by omega)
  have em : (s / n * n).toInt = D * n.toInt := by
    rw [ti_mul (by rw [eD]; omega) (by rw [eD]; omega), eD]
  have es : (s - s / n * n).toInt = s.toInt - D * n.toInt := by
    rw [ti_sub (by omega) (by omega), em]
  have e1 : (s / n - 1).toInt = D - 1 := by
    rw [ti_sub (by omega) (by omega), eD, t1]
  have c1 : (0 ≤ s - s / n * n) ↔ 0 ≤ s.toInt - D * n.toInt := by rw [Int32.le_iff_toInt_le, t0, es]
  have c2 : s / n * n = s ↔ D * n.toInt = s.toInt := by rw [← Int32.toInt_inj, em]
  unfold v_284 v_212
  by_cases z : 0 ≤ s.toInt
  · rw [if_pos (hx.mpr z), if_pos (c1.mpr (k3 z).1)]
    exact ⟨rfl, by unfold bt; omega⟩
  · rw [if_neg (fun y => z (hx.mp y))]
    obtain ⟨y1, -, -, y2⟩ := k4 z
    by_cases y : s.toInt - D * n.toInt = 0
    · rw [if_pos (c2.mpr (by omega)), if_pos (c1.mpr (by omega))]
      exact ⟨rfl, by unfold bt; omega⟩
    · rw [if_neg (fun w => y (by have := c2.mp w; omega)), if_neg (fun w => y (by have := c1.mp w; omega))]
      refine ⟨rfl, ?_⟩
      unfold bt
      rw [e1]
      have := y2 y
      omega
def pc (m : Nat) : Nat → Nat
  | 0 => 0
  | k + 1 => pc m k + if m.testBit k then 1 else 0
theorem pop12 {m : Nat} (h : m < 4096) : v_286 (nI m) = nI (pc m 12) := by
  have key : ∀ a, a < 64 → ∀ b, b < 64 → v_286 (nI (64 * a + b)) = nI (pc (64 * a + b) 12) := by decide +kernel
  have e := key (m / 64) (by omega) (m % 64) (by omega)
  rw [show 64 * (m / 64) + m % 64 = m by omega] at e
  exact e
theorem pc_stop {m n : Nat} (h : m < 2 ^ n) : ∀ d, pc m (n + d) = pc m n := by
  intro d
  induction d with
  | zero => rfl
  | succ d ih =>
    show pc m (n + d) + (if m.testBit (n + d) then 1 else 0) = pc m n
    rw [Nat.testBit_lt_two_pow (Nat.lt_of_lt_of_le h (Nat.pow_le_pow_right (by omega) (by omega))), ih]
    rfl
theorem pop {m n : Nat} (h : m < 2 ^ n) (h12 : n ≤ 12) : v_286 (nI m) = nI (pc m n) := by
  rw [pop12 (p12 h h12)]
  have := pc_stop h (12 - n)
  rw [show n + (12 - n) = 12 by omega] at this
  rw [this]
/-- the vectors of a cell, bit by bit -/
theorem mask {I : WI} {b c : Nat} : ∀ k, k ≤ 12 → ∃ m, m < 2 ^ k ∧ lp_66_4 I b (nI c) 0 k = nI m ∧ ∀ j, j < k → m.testBit j = decide (I (b + 9) j = nI c) := by
  intro k
  induction k with
  | zero => intro _; exact ⟨0, by decide, rfl, fun j hj => by omega⟩
  | succ k ih =>
    intro hk
    obtain ⟨m, h1, h2, h3⟩ := ih (by omega)
    simp only [lp_66_4, bx, cl (show k < 2 ^ 31 by omega), h2]
    have hm : m < 2 ^ (k + 1) := Nat.lt_of_lt_of_le h1 (Nat.pow_le_pow_right (by omega) (by omega))
    by_cases z : I (b + 9) k = nI c
    · rw [if_neg (fun a => a z)]
      refine ⟨m ||| 2 ^ k, Nat.or_lt_two_pow hm (Nat.pow_lt_pow_right (by omega) (by omega)), bit_or (p12 h1 (by omega)) (by omega), fun j hj => ?_⟩
      rw [Nat.testBit_or, Nat.testBit_two_pow]
      by_cases y : k = j
      · subst y
        simp [z]
      · rw [h3 j (by omega)]
        simp [y]
    · rw [if_pos z]
      refine ⟨m, hm, rfl, fun j hj => ?_⟩
      by_cases y : k = j
      · subst y
        rw [Nat.testBit_lt_two_pow h1]
        simp [z]
      · exact h3 j (by omega)
end
