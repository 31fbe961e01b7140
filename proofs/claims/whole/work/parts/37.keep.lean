section
variable {J : WI}
/-! what the reference keeps, and gives back -/
theorem l234a : ∀ k, k ≤ 12 → (∀ q j, q ≠ 90 → q ≠ 91 → q ≠ 92 → q ≠ 94 → lp_234_2 J k q j = J q j) ∧ ∀ j, j < k → lp_234_2 J k 90 j = J 80 j ∧ lp_234_2 J k 91 j = J 81 j ∧ lp_234_2 J k 92 j = J 82 j ∧ lp_234_2 J k 94 j = J 86 j := by
  intro k
  induction k with
  | zero => intro _; exact ⟨fun _ _ _ _ _ _ => rfl, fun j h => absurd h (Nat.not_lt_zero j)⟩
  | succ k ih =>
    intro hk
    obtain ⟨i1, i2⟩ := ih (by omega)
    simp only [lp_234_2, bx, cl (show k < 2 ^ 31 by omega)]
    generalize lp_234_2 J k = P at i1 i2
    refine ⟨fun q j a1 a2 a3 a4 => ?_, fun j hj => ?_⟩
    · rw [up2_nk (by omega), up2_nk (by omega), up2_nk (by omega), up2_nk (by omega)]
      exact i1 q j a1 a2 a3 a4
    · by_cases z : j = k
      · subst z
        have e1 := i1 80 j (by omega) (by omega) (by omega) (by omega)
        have e2 := i1 81 j (by omega) (by omega) (by omega) (by omega)
        have e3 := i1 82 j (by omega) (by omega) (by omega) (by omega)
        have e4 := i1 86 j (by omega) (by omega) (by omega) (by omega)
        simp [up2, e1, e2, e3, e4]
      · have o : ∀ q, up2 (up2 (up2 (up2 P 90 k (P 80 k)) 91 k (P 81 k)) 92 k (P 82 k)) 94 k (P 86 k) q j = P q j := fun q => by
          rw [up2_nk (by omega), up2_nk (by omega), up2_nk (by omega), up2_nk (by omega)]
        rw [o, o, o, o]
        exact i2 j (by omega)
theorem l235a : ∀ k, k ≤ 12 → (∀ q j, q ≠ 80 → q ≠ 81 → q ≠ 82 → q ≠ 86 → lp_235_2 J k q j = J q j) ∧ ∀ j, j < k → lp_235_2 J k 80 j = J 90 j ∧ lp_235_2 J k 81 j = J 91 j ∧ lp_235_2 J k 82 j = J 92 j ∧ lp_235_2 J k 86 j = J 94 j := by
  intro k
  induction k with
  | zero => intro _; exact ⟨fun _ _ _ _ _ _ => rfl, fun j h => absurd h (Nat.not_lt_zero j)⟩
  | succ k ih =>
    intro hk
    obtain ⟨i1, i2⟩ := ih (by omega)
    simp only [lp_235_2, bx, cl (show k < 2 ^ 31 by omega)]
    generalize lp_235_2 J k = P at i1 i2
    refine ⟨fun q j a1 a2 a3 a4 => ?_, fun j hj => ?_⟩
    · rw [up2_nk (by omega), up2_nk (by omega), up2_nk (by omega), up2_nk (by omega)]
      exact i1 q j a1 a2 a3 a4
    · by_cases z : j = k
      · subst z
        have e1 := i1 90 j (by omega) (by omega) (by omega) (by omega)
        have e2 := i1 91 j (by omega) (by omega) (by omega) (by omega)
        have e3 := i1 92 j (by omega) (by omega) (by omega) (by omega)
        have e4 := i1 94 j (by omega) (by omega) (by omega) (by omega)
        simp [up2, e1, e2, e3, e4]
      · have o : ∀ q, up2 (up2 (up2 (up2 P 80 k (P 90 k)) 81 k (P 91 k)) 82 k (P 92 k)) 86 k (P 94 k) q j = P q j := fun q => by
          rw [up2_nk (by omega), up2_nk (by omega), up2_nk (by omega), up2_nk (by omega)]
        rw [o, o, o, o]
        exact i2 j (by omega)
theorem l234b : ∀ k, k ≤ 4 → (∀ q j, q ≠ 93 → lp_234_64 J k q j = J q j) ∧ ∀ j, j < k → lp_234_64 J k 93 j = vp_nar (bT 0) (J 83 j) := by
  intro k
  induction k with
  | zero => intro _; exact ⟨fun _ _ _ => rfl, fun j h => absurd h (Nat.not_lt_zero j)⟩
  | succ k ih =>
    intro hk
    obtain ⟨i1, i2⟩ := ih (by omega)
    simp only [lp_234_64, bx, cl (show k < 2 ^ 31 by omega)]
    generalize lp_234_64 J k = P at i1 i2
    refine ⟨fun q j a1 => ?_, fun j hj => ?_⟩
    · rw [up2_nk (by omega)]; exact i1 q j a1
    · by_cases z : j = k
      · subst z
        have e1 := i1 83 j (by omega)
        simp only [up2, and_self, if_true, e1]
      · rw [up2_nk (by omega)]; exact i2 j (by omega)
theorem l235b : ∀ k, k ≤ 4 → (∀ q j, q ≠ 83 → lp_235_64 J k q j = J q j) ∧ ∀ j, j < k → lp_235_64 J k 83 j = vp_nar (bT 0) (J 93 j) := by
  intro k
  induction k with
  | zero => intro _; exact ⟨fun _ _ _ => rfl, fun j h => absurd h (Nat.not_lt_zero j)⟩
  | succ k ih =>
    intro hk
    obtain ⟨i1, i2⟩ := ih (by omega)
    simp only [lp_235_64, bx, cl (show k < 2 ^ 31 by omega)]
    generalize lp_235_64 J k = P at i1 i2
    refine ⟨fun q j a1 => ?_, fun j hj => ?_⟩
    · rw [up2_nk (by omega)]; exact i1 q j a1
    · by_cases z : j = k
      · subst z
        have e1 := i1 93 j (by omega)
        simp only [up2, and_self, if_true, e1]
      · rw [up2_nk (by omega)]; exact i2 j (by omega)
theorem l234c : ∀ k, k ≤ 3 → (∀ q j, q ≠ 95 → lp_234_89 J k q j = J q j) ∧ ∀ j, j < k → lp_234_89 J k 95 j = J 79 j := by
  intro k
  induction k with
  | zero => intro _; exact ⟨fun _ _ _ => rfl, fun j h => absurd h (Nat.not_lt_zero j)⟩
  | succ k ih =>
    intro hk
    obtain ⟨i1, i2⟩ := ih (by omega)
    simp only [lp_234_89, bx, cl (show k < 2 ^ 31 by omega)]
    generalize lp_234_89 J k = P at i1 i2
    refine ⟨fun q j a1 => ?_, fun j hj => ?_⟩
    · rw [up2_nk (by omega)]; exact i1 q j a1
    · by_cases z : j = k
      · subst z
        have e1 := i1 79 j (by omega)
        simp only [up2, and_self, if_true, e1]
      · rw [up2_nk (by omega)]; exact i2 j (by omega)
theorem l235c : ∀ k, k ≤ 3 → (∀ q j, q ≠ 79 → lp_235_89 J k q j = J q j) ∧ ∀ j, j < k → lp_235_89 J k 79 j = J 95 j := by
  intro k
  induction k with
  | zero => intro _; exact ⟨fun _ _ _ => rfl, fun j h => absurd h (Nat.not_lt_zero j)⟩
  | succ k ih =>
    intro hk
    obtain ⟨i1, i2⟩ := ih (by omega)
    simp only [lp_235_89, bx, cl (show k < 2 ^ 31 by omega)]
    generalize lp_235_89 J k = P at i1 i2
    refine ⟨fun q j a1 => ?_, fun j hj => ?_⟩
    · rw [up2_nk (by omega)]; exact i1 q j a1
    · by_cases z : j = k
      · subst z
        have e1 := i1 95 j (by omega)
        simp only [up2, and_self, if_true, e1]
      · rw [up2_nk (by omega)]; exact i2 j (by omega)
theorem c12_4 : (12 : Int32).toNatClampNeg = 12 ∧ (4 : Int32).toNatClampNeg = 4 := by decide
/-- kept: rows 79 80 81 82 83 86 in 95 90 91 92 93 94 -/
theorem v234_pt : (∀ q j, q < 90 ∨ 95 < q → v_234 J q j = J q j) ∧ (∀ j, j < 12 → v_234 J 90 j = J 80 j ∧ v_234 J 91 j = J 81 j ∧ v_234 J 92 j = J 82 j ∧ v_234 J 94 j = J 86 j) ∧ (∀ j, j < 4 → v_234 J 93 j = vp_nar (bT 0) (J 83 j)) ∧ ∀ j, j < 3 → v_234 J 95 j = J 79 j := by
  unfold v_234
  simp only [bx, c12_4.1, c12_4.2, c3]
  have a := l234a (J := J) 12 (Nat.le_refl _)
  generalize lp_234_2 J 12 = P at a
  have b := l234b (J := P) 4 (Nat.le_refl _)
  generalize lp_234_64 P 4 = Q at b
  have c := l234c (J := Q) 3 (Nat.le_refl _)
  generalize lp_234_89 Q 3 = R at c
  refine ⟨fun q j h => ?_, fun j h => ?_, fun j h => ?_, fun j h => ?_⟩
  · rw [c.1 q j (by omega), b.1 q j (by omega), a.1 q j (by omega) (by omega) (by omega) (by omega)]
  · rw [c.1 90 j (by omega), b.1 90 j (by omega), c.1 91 j (by omega), b.1 91 j (by omega), c.1 92 j (by omega), b.1 92 j (by omega), c.1 94 j (by omega), b.1 94 j (by omega)]
    exact a.2 j h
  · rw [c.1 93 j (by omega), b.2 j h, a.1 83 j (by omega) (by omega) (by omega) (by omega)]
  · rw [c.2 j h, b.1 79 j (by omega), a.1 79 j (by omega) (by omega) (by omega) (by omega)]
theorem v235_pt : (∀ q j, q ≠ 79 → q ≠ 80 → q ≠ 81 → q ≠ 82 → q ≠ 83 → q ≠ 86 → v_235 J q j = J q j) ∧ (∀ j, j < 12 → v_235 J 80 j = J 90 j ∧ v_235 J 81 j = J 91 j ∧ v_235 J 82 j = J 92 j ∧ v_235 J 86 j = J 94 j) ∧ (∀ j, j < 4 → v_235 J 83 j = vp_nar (bT 0) (J 93 j)) ∧ ∀ j, j < 3 → v_235 J 79 j = J 95 j := by
  unfold v_235
  simp only [bx, c12_4.1, c12_4.2, c3]
  have a := l235a (J := J) 12 (Nat.le_refl _)
  generalize lp_235_2 J 12 = P at a
  have b := l235b (J := P) 4 (Nat.le_refl _)
  generalize lp_235_64 P 4 = Q at b
  have c := l235c (J := Q) 3 (Nat.le_refl _)
  generalize lp_235_89 Q 3 = R at c
  refine ⟨fun q j h1 h2 h3 h4 h5 h6 => ?_, fun j h => ?_, fun j h => ?_, fun j h => ?_⟩
  · rw [c.1 q j (by omega), b.1 q j (by omega), a.1 q j (by omega) (by omega) (by omega) (by omega)]
  · rw [c.1 80 j (by omega), b.1 80 j (by omega), c.1 81 j (by omega), b.1 81 j (by omega), c.1 82 j (by omega), b.1 82 j (by omega), c.1 86 j (by omega), b.1 86 j (by omega)]
    exact a.2 j h
  · rw [c.1 83 j (by omega), b.2 j h, a.1 93 j (by omega) (by omega) (by omega) (by omega)]
  · rw [c.2 j h, b.1 95 j (by omega), a.1 95 j (by omega) (by omega) (by omega) (by omega)]
theorem g_keep : g_234 J ∧ g_235 J :=
  ⟨⟨fun _ hk => vin (c12_4.1 ▸ hk) (by omega), fun _ hk => vin (c12_4.2 ▸ hk) (by omega), fun _ hk => vin hk (by omega)⟩, ⟨fun _ hk => vin (c12_4.1 ▸ hk) (by omega), fun _ hk => vin (c12_4.2 ▸ hk) (by omega), fun _ hk => vin hk (by omega)⟩⟩
end
