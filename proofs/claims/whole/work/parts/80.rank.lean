section
variable {S : Nat → List Int32 × List Int32} {nv nc tc r : Nat} {I J : WI} {L : WL}
theorem v242_e {J' : WI} {k x : Nat} (hk : k < 12) (hx : x < 12) : v_242 J' (nI k) (nI x) = v_129 (J' 96 k) (nI k) (J' 96 x) (nI x) := by
  unfold v_242 v_129
  rw [cl (by omega), cl (by omega)]
theorem rank_lp {A J' : WI} {m x : Nat} (h12 : nv ≤ 12) (hx : x < nv) (m12 : m < 4096) (hF : ∀ v, v < nv → (m.testBit v = true ↔ FT S r J v)) (hA : ∀ j, j < nv → (J' 97 j = 0 ∨ J' 97 j = 1) ∧ (J' 97 j = 1 ↔ FT S r J j) ∧ J' 96 j = v_22 A 1 (nI j) ∧ J' 98 j = 0 ∧ g_22 A 1 (nI j)) : ∀ k, k ≤ nv → gl_131_45 A (nI x) (nI m) (v_22 A 1 (nI x)) 0 k ∧ gl_244_19 J' (nI x) 0 k ∧ lp_131_45 A (nI x) (nI m) (v_22 A 1 (nI x)) 0 k = lp_244_19 J' (nI x) 0 k := by
  intro k
  induction k with
  | zero => exact fun _ => ⟨fun j hj => absurd hj (Nat.not_lt_zero _), fun j hj => absurd hj (Nat.not_lt_zero _), rfl⟩
  | succ k ih =>
    intro hk
    obtain ⟨g1, g2, e⟩ := ih (by omega)
    obtain ⟨a1, a2, a3, a4, a5⟩ := hA k (by omega)
    have ex := (hA x hx).2.2.1
    have ek : (nI k).toNatClampNeg = k := cl (by omega)
    refine ⟨fun j hj => ?_, fun j hj => ?_, ?_⟩
    · by_cases y : j = k
      · subst y; rw [bxd]; exact fun _ => a5
      · exact g1 j (by omega)
    · by_cases y : j = k
      · subst y
        rw [bxd]
        refine ⟨vin (by omega) (by omega), fun _ => ?_⟩
        unfold g_242
        exact ⟨vin (by omega) (by omega), vin (by omega) (by omega), fun _ => ⟨vin (by omega) (by omega), vin (by omega) (by omega)⟩⟩
      · exact g2 j (by omega)
    · rw [lp_131_45, lp_244_19, e, bxd, bxd, bxd, bxd, ek, v242_e (by omega) (by omega), a3, ex]
      by_cases z : FT S r J k
      · have z1 : J' 97 k = 1 := a2.mpr z
        have z2 : ¬ J' 97 k = 0 := by rw [z1]; decide
        have z3 : ¬ v_111 (nI m) (nI k) = 0 := by
          intro w
          have := (hF k (by omega)).mpr z
          rw [(v111_0 m12 (by omega)).mp w] at this
          exact absurd this (by decide)
        rw [if_neg z3, if_neg z2]
        by_cases y : v_129 (v_22 A 1 (nI k)) (nI k) (v_22 A 1 (nI x)) (nI x) = 0
        · rw [if_pos y, if_pos y, Int32.add_zero]
        · rw [if_neg y, if_neg y]
      · have z1 : J' 97 k = 0 := by
          rcases a1 with a | a
          · exact a
          · exact absurd (a2.mp a) z
        have z3 : v_111 (nI m) (nI k) = 0 := (v111_0 m12 (by omega)).mpr (by
          rcases hb : m.testBit k with _ | _
          · rfl
          · exact absurd ((hF k (by omega)).mp hb) z)
        rw [if_pos z3, if_pos z1, Int32.add_zero]
theorem op_rank (h : WJ S 1 nv nc tc r I J L) (h9 : I 0 9 = nI tc) (x1 : Int32) : g_131 I x1 ∧ g_244 J L x1 ∧ (v_131 I x1).1 = (v_244 J L x1).1 ∧ RX J (v_244 J L x1).2.1 ∧ kM S tc (v_244 J L x1).2.1 (v_244 J L x1).2.2 := by
  obtain ⟨g, m, A, e, m1, m2, m3, wA, e8⟩ := weigh1 h h9
  have kv : kV 1 nv nc I J := by obtain ⟨⟨-, -, -, -, -, kv, -⟩, -⟩ := h; exact kv
  have h12 := kv.1
  have e18 := kv.2.2.1
  have hM : kM S tc J L := h.2.2.2.1
  obtain ⟨q1, q2⟩ := e110 kv x1
  have c1 : (A 1 8).toNatClampNeg = nv := by rw [e8, cl (by omega)]
  have c2 : (J 74 18).toNatClampNeg = nv := by rw [e18, cl (by omega)]
  have m12 : m < 4096 := Nat.lt_of_lt_of_le m1 (Nat.pow_le_pow_right (by omega) (show nv ≤ 12 by omega))
  obtain ⟨rg, J', L', r1, r2, r3, r4⟩ := readAll wA m3 nv (Nat.le_refl _)
  have e38 : v_238 J L = (J', L') := by
    unfold v_238
    rw [c2, r1]; rfl
  have g38 : g_238 J L := by unfold g_238; rw [c2]; exact rg
  have c3 : (J' 74 18).toNatClampNeg = nv := by rw [r2 _ _ (by omega) (by omega) (by omega) (by omega), c2]
  unfold v_131 v_244 g_131 g_244
  rw [q1, q2, e, e38, bxd, bxd, bxd, bxd]
  rcases vnum (nv := nv) (by omega) x1 with ⟨w, x, hx, rfl⟩ | w
  · have n0 : ¬ v_107 (nI x) 0 (nI nv - 1) = 0 := by rw [w]; decide
    rw [if_pos n0, if_pos n0, c1, c3]
    obtain ⟨l1, l2, l3⟩ := rank_lp (J := J) (r := r) (S := S) h12 hx m12 m2 r4 nv (Nat.le_refl _)
    obtain ⟨a1, a2, a3, a4, a5⟩ := r4 x hx
    refine ⟨fun _ => ⟨g, fun _ => ⟨a5, l1⟩⟩, fun _ => ⟨g38, l2, vin (by omega) (by omega)⟩, ?_⟩
    dsimp only [bx]
    rw [c3, cl (show x < 2 ^ 31 by omega)]
    by_cases z : FT S r J x
    · have z1 : J' 97 x = 1 := a2.mpr z
      have z2 : ¬ J' 97 x = 0 := by rw [z1]; decide
      have z3 : ¬ v_111 (nI m) (nI x) = 0 := by
        intro w
        have := (m2 x hx).mpr z
        rw [(v111_0 m12 (by omega)).mp w] at this
        exact absurd this (by decide)
      rw [if_pos z3, if_neg z2]
      exact ⟨l3, r2, r3⟩
    · have z1 : J' 97 x = 0 := by
        rcases a1 with a | a
        · exact a
        · exact absurd (a2.mp a) z
      have z3 : v_111 (nI m) (nI x) = 0 := (v111_0 m12 (by omega)).mpr (by
        rcases hb : m.testBit x with _ | _
        · rfl
        · exact absurd ((m2 x hx).mp hb) z)
      rw [if_neg (fun w => w z3), if_pos z1]
      exact ⟨rfl, r2, r3⟩
  · rw [if_neg (fun z => z w), if_neg (fun z => z w)]
    exact ⟨fun z => absurd w z, fun z => absurd w z, rfl, fun _ _ _ _ _ _ => rfl, hM⟩
end
