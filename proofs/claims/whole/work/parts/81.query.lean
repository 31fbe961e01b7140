section
variable {S : Nat → List Int32 × List Int32} {b nv nc tc r : Nat} {I J : WI} {L : WL}
theorem st228 {J1 : WI} {L1 : WL} {J0 : WI} {L0 : WL} {k : Nat} {a a1 : Int32} {P2 : Int32 × WI × WL} (h : v_213 J1 L1 (nI k) = P2) : st_228_4 J0 L0 a1 k (a, J1, L1) = (a + (if P2.1 = 0 then 0 else 1), P2.2.1, P2.2.2) := by
  subst h
  unfold st_228_4
  dsimp only [bx]
/-- how many fit -/
theorem count_lp (h : WJ S b nv nc tc r I J L) {m : Nat} (hF : ∀ v, v < nv → (m.testBit v = true ↔ FT S r J v)) : ∀ k, k ≤ nv → gl_228_4 J L 0 k ∧ ∃ (J' : WI) (L' : WL), lp_228_4 J L 0 k = (nI (pc m k), J', L') ∧ RO J J' ∧ kM S tc J' L' := by
  intro k
  induction k with
  | zero => exact fun _ => ⟨⟨fun j hj => absurd hj (Nat.not_lt_zero _), rfl⟩, J, L, rfl, fun _ _ _ _ _ => rfl, h.2.2.2.1⟩
  | succ k ih =>
    intro hk
    obtain ⟨⟨g2, g2'⟩, J1, L1, t3, t4, t5⟩ := ih (by omega)
    obtain ⟨r1, r2, r3, r4, r5, r6⟩ := WJ_cg h t4 t5
    obtain ⟨f1, f2, f3, f4⟩ := refFit r1 r2 r3 r4 r5 r6 (show k < nv by omega)
    have ro1 : RO J1 (v_213 J1 L1 (nI k)).2.1 := ro213
    have e18 : J1 74 18 = J 74 18 := t4 _ _ (by omega) (by omega) (by omega)
    have estep : lp_228_4 J L 0 (k + 1) = st_228_4 J L 0 k (nI (pc m k), J1, L1) := by rw [← t3]; rfl
    obtain ⟨P2, hP⟩ : ∃ P2, v_213 J1 L1 (nI k) = P2 := ⟨_, rfl⟩
    rw [hP] at f2 f3 f4 ro1
    have epc : pc m (k + 1) = pc m k + if m.testBit k then 1 else 0 := rfl
    have fin : lp_228_4 J L 0 (k + 1) = (nI (pc m (k + 1)), P2.2.1, P2.2.2) := by
      rw [estep, st228 hP, epc]
      by_cases z : FT S r J k
      · have z1 := f3.mpr ((FT_cg t4).mpr z)
        have n0 : ¬ P2.1 = 0 := by rw [z1]; decide
        rw [if_neg n0, if_pos ((hF k (by omega)).mpr z), show (1 : Int32) = nI 1 from rfl, nI_add]
      · have z1 : P2.1 = 0 := by
          rcases f2 with a | a
          · exact a
          · exact absurd ((FT_cg t4).mp (f3.mp a)) z
        rw [if_pos z1, if_neg (fun w => z ((hF k (by omega)).mp w)), show (0 : Int32) = nI 0 from rfl, nI_add]
    refine ⟨⟨fun j hj => ?_, ?_⟩, P2.2.1, P2.2.2, fin, RO_tr t4 ro1, f4⟩
    · by_cases y : j = k
      · subst y
        rw [bxd, t3]
        exact ⟨e18, f1⟩
      · exact g2 j (by omega)
    · rw [bxd, fin]
      exact (ro1 _ _ (by omega) (by omega) (by omega)).trans e18
end
