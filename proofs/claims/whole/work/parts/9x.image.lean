section
variable {S : Nat → List Int32 × List Int32} {b nv nc tc r : Nat} {I J J' : WI} {L L' : WL}
/-! image, back -/
theorem c_lp_268_2 : ∀ k, k ≤ 36 → gl_268_2 J k ∧ (∀ q j, q ≠ 107 → lp_268_2 J k q j = J q j) ∧ ∀ j, j < k → lp_268_2 J k 107 j = J 84 j := by
  intro k
  induction k with
  | zero => intro _; exact ⟨fun i hi => absurd hi (Nat.not_lt_zero _), fun _ _ _ => rfl, fun j h => absurd h (Nat.not_lt_zero j)⟩
  | succ k ih =>
    intro hk
    obtain ⟨-, i1, i2⟩ := ih (by omega)
    refine ⟨fun i hi => by rw [bxd]; exact vin (by omega) (by omega), ?_⟩
    simp only [lp_268_2, bx, cl (show k < 2 ^ 31 by omega)]
    generalize lp_268_2 J k = P at i1 i2
    refine ⟨fun q j a0 => ?_, fun j hj => ?_⟩
    · rw [up2_nk (by omega)]
      exact i1 q j a0
    · by_cases z : j = k
      · subst z
        have e0 := i1 84 j (by omega)
        simp [up2, e0]
      · have o : ∀ q, up2 P 107 k (P 84 k) q j = P q j := fun q => by
          rw [up2_nk (by omega)]
        rw [o]
        exact i2 j (by omega)
theorem c_lp_268_28 : ∀ k, k ≤ 12 → gl_268_28 J k ∧ (∀ q j, q ≠ 103 → q ≠ 104 → q ≠ 105 → q ≠ 108 → q ≠ 109 → q ≠ 110 → lp_268_28 J k q j = J q j) ∧ ∀ j, j < k → lp_268_28 J k 103 j = J 80 j ∧ lp_268_28 J k 104 j = J 81 j ∧ lp_268_28 J k 105 j = J 82 j ∧ lp_268_28 J k 108 j = J 85 j ∧ lp_268_28 J k 109 j = J 86 j ∧ lp_268_28 J k 110 j = J 87 j := by
  intro k
  induction k with
  | zero => intro _; exact ⟨fun i hi => absurd hi (Nat.not_lt_zero _), fun _ _ _ _ _ _ _ _ => rfl, fun j h => absurd h (Nat.not_lt_zero j)⟩
  | succ k ih =>
    intro hk
    obtain ⟨-, i1, i2⟩ := ih (by omega)
    refine ⟨fun i hi => by rw [bxd]; exact vin (by omega) (by omega), ?_⟩
    simp only [lp_268_28, bx, cl (show k < 2 ^ 31 by omega)]
    generalize lp_268_28 J k = P at i1 i2
    refine ⟨fun q j a0 a1 a2 a3 a4 a5 => ?_, fun j hj => ?_⟩
    · rw [up2_nk (by omega), up2_nk (by omega), up2_nk (by omega), up2_nk (by omega), up2_nk (by omega), up2_nk (by omega)]
      exact i1 q j a0 a1 a2 a3 a4 a5
    · by_cases z : j = k
      · subst z
        have e0 := i1 80 j (by omega) (by omega) (by omega) (by omega) (by omega) (by omega)
        have e1 := i1 81 j (by omega) (by omega) (by omega) (by omega) (by omega) (by omega)
        have e2 := i1 82 j (by omega) (by omega) (by omega) (by omega) (by omega) (by omega)
        have e3 := i1 85 j (by omega) (by omega) (by omega) (by omega) (by omega) (by omega)
        have e4 := i1 86 j (by omega) (by omega) (by omega) (by omega) (by omega) (by omega)
        have e5 := i1 87 j (by omega) (by omega) (by omega) (by omega) (by omega) (by omega)
        simp [up2, e0, e1, e2, e3, e4, e5]
      · have o : ∀ q, up2 (up2 (up2 (up2 (up2 (up2 P 103 k (P 80 k)) 104 k (P 81 k)) 105 k (P 82 k)) 108 k (P 85 k)) 109 k (P 86 k)) 110 k (P 87 k) q j = P q j := fun q => by
          rw [up2_nk (by omega), up2_nk (by omega), up2_nk (by omega), up2_nk (by omega), up2_nk (by omega), up2_nk (by omega)]
        rw [o, o, o, o, o, o]
        exact i2 j (by omega)
theorem c_lp_268_114 : ∀ k, k ≤ 7 → gl_268_114 J k ∧ (∀ q j, q ≠ 101 → lp_268_114 J k q j = J q j) ∧ ∀ j, j < k → lp_268_114 J k 101 j = J 78 j := by
  intro k
  induction k with
  | zero => intro _; exact ⟨fun i hi => absurd hi (Nat.not_lt_zero _), fun _ _ _ => rfl, fun j h => absurd h (Nat.not_lt_zero j)⟩
  | succ k ih =>
    intro hk
    obtain ⟨-, i1, i2⟩ := ih (by omega)
    refine ⟨fun i hi => by rw [bxd]; exact vin (by omega) (by omega), ?_⟩
    simp only [lp_268_114, bx, cl (show k < 2 ^ 31 by omega)]
    generalize lp_268_114 J k = P at i1 i2
    refine ⟨fun q j a0 => ?_, fun j hj => ?_⟩
    · rw [up2_nk (by omega)]
      exact i1 q j a0
    · by_cases z : j = k
      · subst z
        have e0 := i1 78 j (by omega)
        simp [up2, e0]
      · have o : ∀ q, up2 P 101 k (P 78 k) q j = P q j := fun q => by
          rw [up2_nk (by omega)]
        rw [o]
        exact i2 j (by omega)
theorem c_lp_268_140 : ∀ k, k ≤ 4 → gl_268_140 J k ∧ (∀ q j, q ≠ 106 → lp_268_140 J k q j = J q j) ∧ ∀ j, j < k → lp_268_140 J k 106 j = vp_nar (bT 0) (J 83 j) := by
  intro k
  induction k with
  | zero => intro _; exact ⟨fun i hi => absurd hi (Nat.not_lt_zero _), fun _ _ _ => rfl, fun j h => absurd h (Nat.not_lt_zero j)⟩
  | succ k ih =>
    intro hk
    obtain ⟨-, i1, i2⟩ := ih (by omega)
    refine ⟨fun i hi => by rw [bxd]; exact vin (by omega) (by omega), ?_⟩
    simp only [lp_268_140, bx, cl (show k < 2 ^ 31 by omega)]
    generalize lp_268_140 J k = P at i1 i2
    refine ⟨fun q j a0 => ?_, fun j hj => ?_⟩
    · rw [up2_nk (by omega)]
      exact i1 q j a0
    · by_cases z : j = k
      · subst z
        have e0 := i1 83 j (by omega)
        simp [up2, e0]
      · have o : ∀ q, up2 P 106 k (vp_nar (bT 0) (P 83 k)) q j = P q j := fun q => by
          rw [up2_nk (by omega)]
        rw [o]
        exact i2 j (by omega)
theorem c_lp_268_165 : ∀ k, k ≤ 3 → gl_268_165 J k ∧ (∀ q j, q ≠ 102 → lp_268_165 J k q j = J q j) ∧ ∀ j, j < k → lp_268_165 J k 102 j = J 79 j := by
  intro k
  induction k with
  | zero => intro _; exact ⟨fun i hi => absurd hi (Nat.not_lt_zero _), fun _ _ _ => rfl, fun j h => absurd h (Nat.not_lt_zero j)⟩
  | succ k ih =>
    intro hk
    obtain ⟨-, i1, i2⟩ := ih (by omega)
    refine ⟨fun i hi => by rw [bxd]; exact vin (by omega) (by omega), ?_⟩
    simp only [lp_268_165, bx, cl (show k < 2 ^ 31 by omega)]
    generalize lp_268_165 J k = P at i1 i2
    refine ⟨fun q j a0 => ?_, fun j hj => ?_⟩
    · rw [up2_nk (by omega)]
      exact i1 q j a0
    · by_cases z : j = k
      · subst z
        have e0 := i1 79 j (by omega)
        simp [up2, e0]
      · have o : ∀ q, up2 P 102 k (P 79 k) q j = P q j := fun q => by
          rw [up2_nk (by omega)]
        rw [o]
        exact i2 j (by omega)
theorem c_lp_269_13 : ∀ k, k ≤ 36 → gl_269_13 J k ∧ (∀ q j, q ≠ 84 → lp_269_13 J k q j = J q j) ∧ ∀ j, j < k → lp_269_13 J k 84 j = J 107 j := by
  intro k
  induction k with
  | zero => intro _; exact ⟨fun i hi => absurd hi (Nat.not_lt_zero _), fun _ _ _ => rfl, fun j h => absurd h (Nat.not_lt_zero j)⟩
  | succ k ih =>
    intro hk
    obtain ⟨-, i1, i2⟩ := ih (by omega)
    refine ⟨fun i hi => by rw [bxd]; exact vin (by omega) (by omega), ?_⟩
    simp only [lp_269_13, bx, cl (show k < 2 ^ 31 by omega)]
    generalize lp_269_13 J k = P at i1 i2
    refine ⟨fun q j a0 => ?_, fun j hj => ?_⟩
    · rw [up2_nk (by omega)]
      exact i1 q j a0
    · by_cases z : j = k
      · subst z
        have e0 := i1 107 j (by omega)
        simp [up2, e0]
      · have o : ∀ q, up2 P 84 k (P 107 k) q j = P q j := fun q => by
          rw [up2_nk (by omega)]
        rw [o]
        exact i2 j (by omega)
theorem c_lp_269_39 : ∀ k, k ≤ 12 → gl_269_39 J k ∧ (∀ q j, q ≠ 80 → q ≠ 81 → q ≠ 82 → q ≠ 85 → q ≠ 86 → q ≠ 87 → lp_269_39 J k q j = J q j) ∧ ∀ j, j < k → lp_269_39 J k 80 j = J 103 j ∧ lp_269_39 J k 81 j = J 104 j ∧ lp_269_39 J k 82 j = J 105 j ∧ lp_269_39 J k 85 j = J 108 j ∧ lp_269_39 J k 86 j = J 109 j ∧ lp_269_39 J k 87 j = J 110 j := by
  intro k
  induction k with
  | zero => intro _; exact ⟨fun i hi => absurd hi (Nat.not_lt_zero _), fun _ _ _ _ _ _ _ _ => rfl, fun j h => absurd h (Nat.not_lt_zero j)⟩
  | succ k ih =>
    intro hk
    obtain ⟨-, i1, i2⟩ := ih (by omega)
    refine ⟨fun i hi => by rw [bxd]; exact vin (by omega) (by omega), ?_⟩
    simp only [lp_269_39, bx, cl (show k < 2 ^ 31 by omega)]
    generalize lp_269_39 J k = P at i1 i2
    refine ⟨fun q j a0 a1 a2 a3 a4 a5 => ?_, fun j hj => ?_⟩
    · rw [up2_nk (by omega), up2_nk (by omega), up2_nk (by omega), up2_nk (by omega), up2_nk (by omega), up2_nk (by omega)]
      exact i1 q j a0 a1 a2 a3 a4 a5
    · by_cases z : j = k
      · subst z
        have e0 := i1 103 j (by omega) (by omega) (by omega) (by omega) (by omega) (by omega)
        have e1 := i1 104 j (by omega) (by omega) (by omega) (by omega) (by omega) (by omega)
        have e2 := i1 105 j (by omega) (by omega) (by omega) (by omega) (by omega) (by omega)
        have e3 := i1 108 j (by omega) (by omega) (by omega) (by omega) (by omega) (by omega)
        have e4 := i1 109 j (by omega) (by omega) (by omega) (by omega) (by omega) (by omega)
        have e5 := i1 110 j (by omega) (by omega) (by omega) (by omega) (by omega) (by omega)
        simp [up2, e0, e1, e2, e3, e4, e5]
      · have o : ∀ q, up2 (up2 (up2 (up2 (up2 (up2 P 80 k (P 103 k)) 81 k (P 104 k)) 82 k (P 105 k)) 85 k (P 108 k)) 86 k (P 109 k)) 87 k (P 110 k) q j = P q j := fun q => by
          rw [up2_nk (by omega), up2_nk (by omega), up2_nk (by omega), up2_nk (by omega), up2_nk (by omega), up2_nk (by omega)]
        rw [o, o, o, o, o, o]
        exact i2 j (by omega)
theorem c_lp_269_125 : ∀ k, k ≤ 7 → gl_269_125 J k ∧ (∀ q j, q ≠ 78 → lp_269_125 J k q j = J q j) ∧ ∀ j, j < k → lp_269_125 J k 78 j = J 101 j := by
  intro k
  induction k with
  | zero => intro _; exact ⟨fun i hi => absurd hi (Nat.not_lt_zero _), fun _ _ _ => rfl, fun j h => absurd h (Nat.not_lt_zero j)⟩
  | succ k ih =>
    intro hk
    obtain ⟨-, i1, i2⟩ := ih (by omega)
    refine ⟨fun i hi => by rw [bxd]; exact vin (by omega) (by omega), ?_⟩
    simp only [lp_269_125, bx, cl (show k < 2 ^ 31 by omega)]
    generalize lp_269_125 J k = P at i1 i2
    refine ⟨fun q j a0 => ?_, fun j hj => ?_⟩
    · rw [up2_nk (by omega)]
      exact i1 q j a0
    · by_cases z : j = k
      · subst z
        have e0 := i1 101 j (by omega)
        simp [up2, e0]
      · have o : ∀ q, up2 P 78 k (P 101 k) q j = P q j := fun q => by
          rw [up2_nk (by omega)]
        rw [o]
        exact i2 j (by omega)
theorem c_lp_269_151 : ∀ k, k ≤ 4 → gl_269_151 J k ∧ (∀ q j, q ≠ 83 → lp_269_151 J k q j = J q j) ∧ ∀ j, j < k → lp_269_151 J k 83 j = vp_nar (bT 0) (J 106 j) := by
  intro k
  induction k with
  | zero => intro _; exact ⟨fun i hi => absurd hi (Nat.not_lt_zero _), fun _ _ _ => rfl, fun j h => absurd h (Nat.not_lt_zero j)⟩
  | succ k ih =>
    intro hk
    obtain ⟨-, i1, i2⟩ := ih (by omega)
    refine ⟨fun i hi => by rw [bxd]; exact vin (by omega) (by omega), ?_⟩
    simp only [lp_269_151, bx, cl (show k < 2 ^ 31 by omega)]
    generalize lp_269_151 J k = P at i1 i2
    refine ⟨fun q j a0 => ?_, fun j hj => ?_⟩
    · rw [up2_nk (by omega)]
      exact i1 q j a0
    · by_cases z : j = k
      · subst z
        have e0 := i1 106 j (by omega)
        simp [up2, e0]
      · have o : ∀ q, up2 P 83 k (vp_nar (bT 0) (P 106 k)) q j = P q j := fun q => by
          rw [up2_nk (by omega)]
        rw [o]
        exact i2 j (by omega)
theorem c_lp_269_176 : ∀ k, k ≤ 3 → gl_269_176 J k ∧ (∀ q j, q ≠ 79 → lp_269_176 J k q j = J q j) ∧ ∀ j, j < k → lp_269_176 J k 79 j = J 102 j := by
  intro k
  induction k with
  | zero => intro _; exact ⟨fun i hi => absurd hi (Nat.not_lt_zero _), fun _ _ _ => rfl, fun j h => absurd h (Nat.not_lt_zero j)⟩
  | succ k ih =>
    intro hk
    obtain ⟨-, i1, i2⟩ := ih (by omega)
    refine ⟨fun i hi => by rw [bxd]; exact vin (by omega) (by omega), ?_⟩
    simp only [lp_269_176, bx, cl (show k < 2 ^ 31 by omega)]
    generalize lp_269_176 J k = P at i1 i2
    refine ⟨fun q j a0 => ?_, fun j hj => ?_⟩
    · rw [up2_nk (by omega)]
      exact i1 q j a0
    · by_cases z : j = k
      · subst z
        have e0 := i1 102 j (by omega)
        simp [up2, e0]
      · have o : ∀ q, up2 P 79 k (P 102 k) q j = P q j := fun q => by
          rw [up2_nk (by omega)]
        rw [o]
        exact i2 j (by omega)
theorem cNn : (36 : Int32).toNatClampNeg = 36 ∧ (12 : Int32).toNatClampNeg = 12 ∧ (7 : Int32).toNatClampNeg = 7 ∧ (4 : Int32).toNatClampNeg = 4 ∧ (3 : Int32).toNatClampNeg = 3 := ⟨rfl, rfl, rfl, rfl, rfl⟩
/-- the image as it would stand -/
def KJ (J : WI) : WI := fun c k => if 78 ≤ c ∧ c ≤ 87 then J (c + 23) k else if c = 74 then (if k = 18 then J 74 60 else if k = 13 then J 74 61 else if k = 4 then J 74 62 else J 74 k) else J c k
theorem KJ_c {c k : Nat} (h : 78 ≤ c ∧ c ≤ 87) : KJ J c k = J (c + 23) k := by unfold KJ; rw [if_pos h]
theorem KJ_74 : KJ J 74 18 = J 74 60 ∧ KJ J 74 13 = J 74 61 ∧ KJ J 74 4 = J 74 62 := by
  unfold KJ
  refine ⟨?_, ?_, ?_⟩
  · rw [if_neg (by omega), if_pos rfl, if_pos rfl]
  · rw [if_neg (by omega), if_pos rfl, if_neg (by omega), if_pos rfl]
  · rw [if_neg (by omega), if_pos rfl, if_neg (by omega), if_neg (by omega), if_pos rfl]
theorem v268_pt : g_268 J ∧ (v_268 J).1 = J 74 18 ∧ (∀ j, j < 36 → (v_268 J).2 107 j = J 84 j) ∧ (∀ j, j < 12 → (v_268 J).2 103 j = J 80 j ∧ (v_268 J).2 104 j = J 81 j ∧ (v_268 J).2 105 j = J 82 j ∧ (v_268 J).2 108 j = J 85 j ∧ (v_268 J).2 109 j = J 86 j ∧ (v_268 J).2 110 j = J 87 j) ∧ (∀ j, j < 7 → (v_268 J).2 101 j = J 78 j) ∧ (∀ j, j < 4 → (v_268 J).2 106 j = vp_nar (bT 0) (J 83 j)) ∧ (∀ j, j < 3 → (v_268 J).2 102 j = J 79 j) ∧ (v_268 J).2 74 60 = J 74 18 ∧ (v_268 J).2 74 61 = J 74 13 ∧ (v_268 J).2 74 62 = J 74 4 := by
  obtain ⟨n1, n2, n3, n4, n5⟩ := cNn
  obtain ⟨g1, f1, w1⟩ := c_lp_268_2 (J := J) 36 (Nat.le_refl _)
  obtain ⟨J1, h1⟩ : ∃ J1, J1 = lp_268_2 J 36 := ⟨_, rfl⟩
  rw [← h1] at f1 w1
  obtain ⟨g2, f2, w2⟩ := c_lp_268_28 (J := J1) 12 (Nat.le_refl _)
  obtain ⟨J2, h2⟩ : ∃ J2, J2 = lp_268_28 J1 12 := ⟨_, rfl⟩
  rw [← h2] at f2 w2
  obtain ⟨g3, f3, w3⟩ := c_lp_268_114 (J := J2) 7 (Nat.le_refl _)
  obtain ⟨J3, h3⟩ : ∃ J3, J3 = lp_268_114 J2 7 := ⟨_, rfl⟩
  rw [← h3] at f3 w3
  obtain ⟨g4, f4, w4⟩ := c_lp_268_140 (J := J3) 4 (Nat.le_refl _)
  obtain ⟨J4, h4⟩ : ∃ J4, J4 = lp_268_140 J3 4 := ⟨_, rfl⟩
  rw [← h4] at f4 w4
  obtain ⟨g5, f5, w5⟩ := c_lp_268_165 (J := J4) 3 (Nat.le_refl _)
  obtain ⟨J5, h5⟩ : ∃ J5, J5 = lp_268_165 J4 3 := ⟨_, rfl⟩
  rw [← h5] at f5 w5
  have fr : ∀ q j, q < 101 → J5 q j = J q j := fun q j hq => by
    rw [f5 q j (by omega), f4 q j (by omega), f3 q j (by omega), f2 q j (by omega) (by omega) (by omega) (by omega) (by omega) (by omega), f1 q j (by omega)]
  have ev : v_268 J = (J5 74 18, up2 (up2 (up2 J5 74 60 (J5 74 18)) 74 61 (J5 74 13)) 74 62 (J5 74 4)) := by
    unfold v_268
    rw [n1, n2, n3, n4, n5]
    dsimp only [bx]
    rw [← h1, ← h2, ← h3, ← h4, ← h5]
  rw [ev]
  dsimp only
  refine ⟨?_, fr 74 18 (by omega), fun j hj => ?_, fun j hj => ?_, fun j hj => ?_, fun j hj => ?_, fun j hj => ?_, ?_, ?_, ?_⟩
  · unfold g_268
    rw [n1, n2, n3, n4, n5]
    dsimp only [bx]
    rw [← h1, ← h2, ← h3, ← h4]
    exact ⟨g1, g2, g3, g4, g5⟩
  · rw [up2_nk (by omega), up2_nk (by omega), up2_nk (by omega), f5 _ _ (by omega), f4 _ _ (by omega), f3 _ _ (by omega), f2 _ _ (by omega) (by omega) (by omega) (by omega) (by omega) (by omega), w1 j hj]
  · obtain ⟨a1, a2, a3, a4, a5, a6⟩ := w2 j hj
    have e : ∀ q, (103 ≤ q ∧ q ≤ 105) ∨ (108 ≤ q ∧ q ≤ 110) → up2 (up2 (up2 J5 74 60 (J5 74 18)) 74 61 (J5 74 13)) 74 62 (J5 74 4) q j = J2 q j := fun q hq => by
      rw [up2_nk (by omega), up2_nk (by omega), up2_nk (by omega), f5 _ _ (by omega), f4 _ _ (by omega), f3 _ _ (by omega)]
    rw [e 103 (by omega), e 104 (by omega), e 105 (by omega), e 108 (by omega), e 109 (by omega), e 110 (by omega), a1, a2, a3, a4, a5, a6, f1 _ _ (by omega), f1 _ _ (by omega), f1 _ _ (by omega), f1 _ _ (by omega), f1 _ _ (by omega), f1 _ _ (by omega)]
    exact ⟨rfl, rfl, rfl, rfl, rfl, rfl⟩
  · rw [up2_nk (by omega), up2_nk (by omega), up2_nk (by omega), f5 _ _ (by omega), f4 _ _ (by omega), w3 j hj, f2 _ _ (by omega) (by omega) (by omega) (by omega) (by omega) (by omega), f1 _ _ (by omega)]
  · rw [up2_nk (by omega), up2_nk (by omega), up2_nk (by omega), f5 _ _ (by omega), w4 j hj, f3 _ _ (by omega), f2 _ _ (by omega) (by omega) (by omega) (by omega) (by omega) (by omega), f1 _ _ (by omega)]
  · rw [up2_nk (by omega), up2_nk (by omega), up2_nk (by omega), w5 j hj, f4 _ _ (by omega), f3 _ _ (by omega), f2 _ _ (by omega) (by omega) (by omega) (by omega) (by omega) (by omega), f1 _ _ (by omega)]
  · rw [up2_nk (by omega), up2_nk (by omega), up2_pt, fr _ _ (by omega)]
  · rw [up2_nk (by omega), up2_pt, fr _ _ (by omega)]
  · rw [up2_pt, fr _ _ (by omega)]
theorem v269_pt (hn : ¬ J 74 60 = -1) : g_269 J ∧ (v_269 J).1 = J 74 60 ∧ (∀ j, j < 36 → (v_269 J).2 84 j = J 107 j) ∧ (∀ j, j < 12 → (v_269 J).2 80 j = J 103 j ∧ (v_269 J).2 81 j = J 104 j ∧ (v_269 J).2 82 j = J 105 j ∧ (v_269 J).2 85 j = J 108 j ∧ (v_269 J).2 86 j = J 109 j ∧ (v_269 J).2 87 j = J 110 j) ∧ (∀ j, j < 7 → (v_269 J).2 78 j = J 101 j) ∧ (∀ j, j < 4 → (v_269 J).2 83 j = vp_nar (bT 0) (J 106 j)) ∧ (∀ j, j < 3 → (v_269 J).2 79 j = J 102 j) ∧ (v_269 J).2 74 18 = J 74 60 ∧ (v_269 J).2 74 13 = J 74 61 ∧ (v_269 J).2 74 4 = J 74 62 := by
  obtain ⟨n1, n2, n3, n4, n5⟩ := cNn
  obtain ⟨g1, f1, w1⟩ := c_lp_269_13 (J := J) 36 (Nat.le_refl _)
  obtain ⟨J1, h1⟩ : ∃ J1, J1 = lp_269_13 J 36 := ⟨_, rfl⟩
  rw [← h1] at f1 w1
  obtain ⟨g2, f2, w2⟩ := c_lp_269_39 (J := J1) 12 (Nat.le_refl _)
  obtain ⟨J2, h2⟩ : ∃ J2, J2 = lp_269_39 J1 12 := ⟨_, rfl⟩
  rw [← h2] at f2 w2
  obtain ⟨g3, f3, w3⟩ := c_lp_269_125 (J := J2) 7 (Nat.le_refl _)
  obtain ⟨J3, h3⟩ : ∃ J3, J3 = lp_269_125 J2 7 := ⟨_, rfl⟩
  rw [← h3] at f3 w3
  obtain ⟨g4, f4, w4⟩ := c_lp_269_151 (J := J3) 4 (Nat.le_refl _)
  obtain ⟨J4, h4⟩ : ∃ J4, J4 = lp_269_151 J3 4 := ⟨_, rfl⟩
  rw [← h4] at f4 w4
  obtain ⟨g5, f5, w5⟩ := c_lp_269_176 (J := J4) 3 (Nat.le_refl _)
  obtain ⟨J5, h5⟩ : ∃ J5, J5 = lp_269_176 J4 3 := ⟨_, rfl⟩
  rw [← h5] at f5 w5
  have fr : ∀ q j, (100 ≤ q ∨ q = 74) → J5 q j = J q j := fun q j hq => by
    rw [f5 q j (by omega), f4 q j (by omega), f3 q j (by omega), f2 q j (by omega) (by omega) (by omega) (by omega) (by omega) (by omega), f1 q j (by omega)]
  have ev : v_269 J = (J5 74 60, up2 (up2 (up2 J5 74 18 (J5 74 60)) 74 13 (J5 74 61)) 74 4 (J5 74 62)) := by
    unfold v_269
    rw [if_pos hn, n1, n2, n3, n4, n5]
    dsimp only [bx]
    rw [← h1, ← h2, ← h3, ← h4, ← h5]
  rw [ev]
  dsimp only
  refine ⟨?_, fr 74 60 (by omega), fun j hj => ?_, fun j hj => ?_, fun j hj => ?_, fun j hj => ?_, fun j hj => ?_, ?_, ?_, ?_⟩
  · unfold g_269
    rw [n1, n2, n3, n4, n5]
    dsimp only [bx]
    rw [← h1, ← h2, ← h3, ← h4]
    exact fun _ => ⟨g1, g2, g3, g4, g5⟩
  · rw [up2_nk (by omega), up2_nk (by omega), up2_nk (by omega), f5 _ _ (by omega), f4 _ _ (by omega), f3 _ _ (by omega), f2 _ _ (by omega) (by omega) (by omega) (by omega) (by omega) (by omega), w1 j hj]
  · obtain ⟨a1, a2, a3, a4, a5, a6⟩ := w2 j hj
    have e : ∀ q, (80 ≤ q ∧ q ≤ 82) ∨ (85 ≤ q ∧ q ≤ 87) → up2 (up2 (up2 J5 74 18 (J5 74 60)) 74 13 (J5 74 61)) 74 4 (J5 74 62) q j = J2 q j := fun q hq => by
      rw [up2_nk (by omega), up2_nk (by omega), up2_nk (by omega), f5 _ _ (by omega), f4 _ _ (by omega), f3 _ _ (by omega)]
    rw [e 80 (by omega), e 81 (by omega), e 82 (by omega), e 85 (by omega), e 86 (by omega), e 87 (by omega), a1, a2, a3, a4, a5, a6, f1 _ _ (by omega), f1 _ _ (by omega), f1 _ _ (by omega), f1 _ _ (by omega), f1 _ _ (by omega), f1 _ _ (by omega)]
    exact ⟨rfl, rfl, rfl, rfl, rfl, rfl⟩
  · rw [up2_nk (by omega), up2_nk (by omega), up2_nk (by omega), f5 _ _ (by omega), f4 _ _ (by omega), w3 j hj, f2 _ _ (by omega) (by omega) (by omega) (by omega) (by omega) (by omega), f1 _ _ (by omega)]
  · rw [up2_nk (by omega), up2_nk (by omega), up2_nk (by omega), f5 _ _ (by omega), w4 j hj, f3 _ _ (by omega), f2 _ _ (by omega) (by omega) (by omega) (by omega) (by omega) (by omega), f1 _ _ (by omega)]
  · rw [up2_nk (by omega), up2_nk (by omega), up2_nk (by omega), w5 j hj, f4 _ _ (by omega), f3 _ _ (by omega), f2 _ _ (by omega) (by omega) (by omega) (by omega) (by omega) (by omega), f1 _ _ (by omega)]
  · rw [up2_nk (by omega), up2_nk (by omega), up2_pt, fr _ _ (by omega)]
  · rw [up2_nk (by omega), up2_pt, fr _ _ (by omega)]
  · rw [up2_pt, fr _ _ (by omega)]
/-- the image kept by both, or none -/
def kIm (tc : Nat) (I J : WI) : Prop := (I 0 10 = 0 ∧ J 74 60 = -1) ∨ (I 0 10 = 1 ∧ ∃ nv nc, kR 11 nv nc tc I (KJ J))
theorem op_image (h : kR 1 nv nc tc I J) : g_268 J ∧ (v_153 I).1 = (v_268 J).1 ∧ kIm tc (v_153 I).2 (v_268 J).2 := by
  obtain ⟨g, e, p1, p2, p3, p4, p5, p6, p7, p8⟩ := v268_pt (J := J)
  have h0 := h
  obtain ⟨hA, hQ, hC, hB, hP, hV, hN, -⟩ := h
  have h4 := hC.1
  obtain ⟨l1, l2⟩ := v76_pt (I := I) (b := 11) (r := 1) (by omega)
  have ev : v_153 I = (I 1 8, up2 (v_76 I 11 1) 0 10 1) := by
    unfold v_153
    rw [bxd, l2 1 8 (by omega)]
  rw [ev]
  dsimp only
  refine ⟨g, (hV.2.1.trans hV.2.2.1.symm).trans e.symm, Or.inr ⟨up2_pt, nv, nc, ?_⟩⟩
  have k1 := lay_kR (b := 11) (r := 1) (by omega) h0
  refine kR_cgI (I := v_76 I 11 1) (kR_in k1 (fun c k y => ?_)) (fun c k y => up2_nk (by omega))
  obtain ⟨q1, q2, q3⟩ := KJ_74 (J := (v_268 J).2)
  rcases y with ⟨rfl, hk⟩ | ⟨rfl, hk⟩ | ⟨rfl, hk⟩ | ⟨hc, hk⟩ | ⟨rfl, hk⟩ | ⟨rfl, hk⟩ | ⟨hc, hk⟩
  · rcases hk with rfl | rfl | rfl
    · exact q3.trans p8
    · exact q2.trans p7
    · exact q1.trans p6
  · rw [KJ_c (by omega)]; exact p3 k hk
  · rw [KJ_c (by omega)]; exact p5 k hk
  · obtain ⟨a1, a2, a3, -⟩ := p2 k hk
    rcases hc with rfl | rfl | rfl
    · rw [KJ_c (by omega)]; exact a1
    · rw [KJ_c (by omega)]; exact a2
    · rw [KJ_c (by omega)]; exact a3
  · rw [KJ_c (by omega)]
    refine (p4 k (by omega)).trans ?_
    rcases hB k hk with ⟨z, -⟩ | ⟨z, -⟩ <;> rw [z] <;> decide
  · rw [KJ_c (by omega)]; exact p1 k hk
  · obtain ⟨-, -, -, a4, a5, a6⟩ := p2 k hk
    rcases hc with rfl | rfl | rfl
    · rw [KJ_c (by omega)]; exact a4
    · rw [KJ_c (by omega)]; exact a5
    · rw [KJ_c (by omega)]; exact a6
/-- the image of both -/
theorem op_back (h : kR 1 nv nc tc I J) (hk : kIm tc I J) : g_269 J ∧ (v_154 I).1 = (v_269 J).1 ∧ ∃ nv' nc', kR 1 nv' nc' tc (v_154 I).2 (v_269 J).2 := by
  rcases hk with ⟨h1, h2⟩ | ⟨h1, nv', nc', hk⟩
  · unfold g_269 v_154 v_269
    rw [h1, h2, if_neg d00, if_neg (show ¬ ¬ (-1 : Int32) = -1 by decide)]
    exact ⟨fun w => absurd rfl w, rfl, nv, nc, h⟩
  · have hk0 := hk
    obtain ⟨hA, hQ, hC, hB, hP, hV, hN, -⟩ := hk
    have h4 := hC.1
    have h12 := hV.1
    obtain ⟨q1, q2, q3⟩ := KJ_74 (J := J)
    have n60 : ¬ J 74 60 = -1 := by
      rw [← q1, hV.2.2.1]
      exact nIm1 (by omega)
    obtain ⟨g, e, p1, p2, p3, p4, p5, p6, p7, p8⟩ := v269_pt n60
    obtain ⟨l1, l2⟩ := v76_pt (I := I) (b := 1) (r := 11) (by omega)
    have e8 : v_76 I 1 11 1 8 = I 11 8 := l1 0 8 (Or.inl ⟨rfl, by omega⟩)
    have ev : v_154 I = (I 11 8, v_76 I 1 11) := by
      unfold v_154
      rw [h1, if_pos d10, bxd, e8]
    rw [ev]
    refine ⟨g, ?_, nv', nc', ?_⟩
    · rw [e, ← q1]
      exact hV.2.1.trans hV.2.2.1.symm
    · have k1 := lay_kR (b := 1) (r := 11) (by omega) hk0
      refine kR_in k1 (fun c k y => ?_)
      rcases y with ⟨rfl, hk⟩ | ⟨rfl, hk⟩ | ⟨rfl, hk⟩ | ⟨hc, hk⟩ | ⟨rfl, hk⟩ | ⟨rfl, hk⟩ | ⟨hc, hk⟩
      · rcases hk with rfl | rfl | rfl
        · exact p8.trans q3.symm
        · exact p7.trans q2.symm
        · exact p6.trans q1.symm
      · rw [KJ_c (by omega)]; exact p3 k hk
      · rw [KJ_c (by omega)]; exact p5 k hk
      · obtain ⟨a1, a2, a3, -⟩ := p2 k hk
        rcases hc with rfl | rfl | rfl
        · rw [KJ_c (by omega)]; exact a1
        · rw [KJ_c (by omega)]; exact a2
        · rw [KJ_c (by omega)]; exact a3
      · have b83 : J 106 k = 0 ∨ J 106 k = 1 := by
          have e83 : KJ J 83 k = J 106 k := KJ_c (by omega)
          rcases hB k hk with ⟨z, -⟩ | ⟨z, -⟩
          · exact Or.inl (e83.symm.trans z)
          · exact Or.inr (e83.symm.trans z)
        rw [KJ_c (by omega)]
        refine (p4 k (by omega)).trans ?_
        rcases b83 with z | z
        · rw [z]; exact z.symm ▸ nar00
        · rw [z]; exact z.symm ▸ nar1
      · rw [KJ_c (by omega)]; exact p1 k hk
      · obtain ⟨-, -, -, a4, a5, a6⟩ := p2 k hk
        rcases hc with rfl | rfl | rfl
        · rw [KJ_c (by omega)]; exact a4
        · rw [KJ_c (by omega)]; exact a5
        · rw [KJ_c (by omega)]; exact a6
end
