section
variable {b nv nc tc : Nat} {I J : WI}
theorem g_spread (hC : kC b nc I J) (hV : kV b nv nc I J) : gl_77_4 I b 0 nv ∧ gl_233_66 J 0 nv := by
  have h4 := hC.1
  have h12 := hV.1
  constructor
  · intro k hk
    show ¬ v_61 I b (nI k) = 0 → vp_in (nI k) 12 ∧ (¬ I (b + 9) (nI k).toNatClampNeg = -1 → vp_in (nI k) 12 ∧ g_59 I b (nI k) (I (b + 9) (nI k).toNatClampNeg))
    intro hp
    rw [cl (show k < 2 ^ 31 by omega), (hV.2.2.2.1 k (by omega)).2.2]
    rcases (there_eq hV h4 hk).2 with ⟨t2, t3, c, hc, hcv⟩ | ⟨t2, t3⟩
    · refine ⟨vin (by omega) (by omega), fun _ => ⟨vin (by omega) (by omega), ?_⟩⟩
      rw [hcv]
      intro i hi
      rw [c3] at hi
      show vp_in (3 * nI k + nI i) 36 ∧ vp_in (3 * nI c + nI i) 12
      rw [n30, n30, nI_add, nI_add]
      exact ⟨vin (by omega) (by omega), vin (by omega) (by omega)⟩
    · exact absurd t2 hp
  · intro k hk
    show gl_233_78 J (nI k) (396 + 4) (lp_233_66 J 0 k) 0
    have i36 : ∀ d, d < 3 → ∀ z : Int32, z = nI d → vp_in (3 * nI k + z) 36 := fun d hd z e => by
      rw [e, n30, nI_add]
      exact vin (by omega) (by omega)
    have i12 : ¬ v_180 J (nI k) = 0 → ∀ d, d < 3 → ∀ z : Int32, z = nI d → vp_in (3 * J 86 (nI k).toNatClampNeg + z) 12 := fun hp d hd z e => by
      have th := there_eq hV h4 hk
      rcases th with ⟨t1, ⟨t2, t3, c, hc, hcv⟩ | ⟨t2, t3⟩⟩
      · rw [cl (show k < 2 ^ 31 by omega), hcv, e, n30, nI_add]
        exact vin (by omega) (by omega)
      · exact absurd (t1.symm.trans t2) hp
    have ik : vp_in (nI k) 12 := vin (by omega) (by omega)
    have gk := g180 (J := J) (v := k) (by omega)
    have st : ∀ f y z, gl_233_78 J (nI k) (f + 1) y z ↔ (¬ 3 ≤ z → g_180 J (nI k) ∧ (¬ v_180 J (nI k) = 0 → vp_in (3 * nI k + z) 36 ∧ vp_in (nI k) 12 ∧ vp_in (3 * J 86 (nI k).toNatClampNeg + z) 12 ∧ gl_233_78 J (nI k) f (y + (J 84 (3 * nI k + z).toNatClampNeg - J 80 (3 * J 86 (nI k).toNatClampNeg + z).toNatClampNeg) * (J 84 (3 * nI k + z).toNatClampNeg - J 80 (3 * J 86 (nI k).toNatClampNeg + z).toNatClampNeg)) (z + 1))) := fun _ _ _ => Iff.rfl
    rw [st]
    refine fun _ => ⟨gk, fun hp => ⟨i36 0 (by omega) _ rfl, ik, i12 hp 0 (by omega) _ rfl, ?_⟩⟩
    rw [st]
    refine fun _ => ⟨gk, fun hp => ⟨i36 1 (by omega) _ (by decide), ik, i12 hp 1 (by omega) _ (by decide), ?_⟩⟩
    rw [st]
    refine fun _ => ⟨gk, fun hp => ⟨i36 2 (by omega) _ (by decide), ik, i12 hp 2 (by omega) _ (by decide), ?_⟩⟩
    rw [st]
    exact fun g => absurd (by decide) g
/-- given back, the reference stands as it stood -/
theorem back_kR {P Q : WI} (h : kR 1 nv nc tc I J) (hP : ∀ q j, q < 21 → P q j = I q j) (hQ : ∀ q j, q ≠ 80 → q ≠ 81 → q ≠ 82 → q ≠ 83 → q ≠ 86 → Q q j = v_234 J q j) : kR 1 nv nc tc P (v_235 Q) := by
  obtain ⟨hA, hQ', hC, hB, hP', hV, hN, hr, r, hr1, hr2⟩ := h
  have h4 := hC.1
  have h12 := hV.1
  obtain ⟨k1, k2, k3, k4⟩ := v234_pt (J := J)
  obtain ⟨u1, u2, u3, u4⟩ := v235_pt (J := Q)
  have F : ∀ q j, q < 90 → q ≠ 79 → q ≠ 80 → q ≠ 81 → q ≠ 82 → q ≠ 83 → q ≠ 86 → v_235 Q q j = J q j := fun q j a0 a1 a2 a3 a4 a5 a6 => by
    rw [u1 q j a1 a2 a3 a4 a5 a6, hQ q j a2 a3 a4 a5 a6, k1 q j (Or.inl a0)]
  have R : ∀ j, j < 12 → v_235 Q 80 j = J 80 j ∧ v_235 Q 81 j = J 81 j ∧ v_235 Q 82 j = J 82 j ∧ v_235 Q 86 j = J 86 j := fun j hj => by
    obtain ⟨a1, a2, a3, a4⟩ := u2 j hj
    obtain ⟨c1, c2, c3, c4⟩ := k2 j hj
    rw [a1, a2, a3, a4, hQ 90 j (by omega) (by omega) (by omega) (by omega) (by omega), hQ 91 j (by omega) (by omega) (by omega) (by omega) (by omega), hQ 92 j (by omega) (by omega) (by omega) (by omega) (by omega), hQ 94 j (by omega) (by omega) (by omega) (by omega) (by omega)]
    exact ⟨c1, c2, c3, c4⟩
  have R79 : ∀ j, j < 3 → v_235 Q 79 j = J 79 j := fun j hj => by
    rw [u4 j hj, hQ 95 j (by omega) (by omega) (by omega) (by omega) (by omega), k4 j hj]
  have R83 : ∀ c, c < nc → v_235 Q 83 c = J 83 c := fun c hc => by
    rw [u3 c (by omega), hQ 93 c (by omega) (by omega) (by omega) (by omega) (by omega), k3 c (by omega)]
    rcases hB c hc with ⟨z, -⟩ | ⟨z, -⟩ <;> rw [z] <;> decide
  refine ⟨kA_cg hA (fun c' k' _ => hP c' k' (by omega)) (fun k' _ => F 78 k' (by omega) (by omega) (by omega) (by omega) (by omega) (by omega) (by omega)), kQ_cg hQ' (fun k' _ => hP (1 + 3) k' (by omega)) (fun k' hk => R79 k' hk), kC_cg hC (fun c' k' _ => hP c' k' (by omega)) (fun c' k' hk => ?_), ?_, kP_cg hP' (fun k' _ => hP (1 + 7) k' (by omega)) (fun k' _ => F 84 k' (by omega) (by omega) (by omega) (by omega) (by omega) (by omega) (by omega)), kV_cg hV (fun c' k' _ => hP c' k' (by omega)) (fun c' k' hk => ?_), ?_, ?_, r, hr1, ?_⟩
  · rcases hk with ⟨rfl, rfl⟩ | ⟨rfl, hk⟩
    · exact F 74 13 (by omega) (by omega) (by omega) (by omega) (by omega) (by omega) (by omega)
    · exact (R k' hk).1
  · intro c hc
    rw [R83 c hc]
    rcases hB c hc with ⟨z, bb⟩ | ⟨z, bb⟩
    · left
      refine ⟨z, fun i hi => ?_⟩
      rw [hP (1 + 5) _ (by omega), hP (1 + 6) _ (by omega)]
      exact bb i hi
    · right
      refine ⟨z, fun i hi => ?_⟩
      rw [hP (1 + 5) _ (by omega), hP (1 + 6) _ (by omega), (R (3 * c + i) (by omega)).2.1, (R (3 * c + i) (by omega)).2.2.1]
      exact bb i hi
  · rcases hk with ⟨rfl, rfl⟩ | ⟨rfl | rfl | rfl, hk⟩
    · exact F 74 18 (by omega) (by omega) (by omega) (by omega) (by omega) (by omega) (by omega)
    · exact F 85 k' (by omega) (by omega) (by omega) (by omega) (by omega) (by omega) (by omega)
    · exact (R k' hk).2.2.2
    · exact F 87 k' (by omega) (by omega) (by omega) (by omega) (by omega) (by omega) (by omega)
  · intro w hw c hc e
    rw [(R w (by omega)).2.2.2] at e
    have y := hN w hw c hc e
    rw [R83 c hc]
    refine ⟨y.1, fun i hi => ?_⟩
    rw [(R (3 * c + i) (by omega)).2.1, (R (3 * c + i) (by omega)).2.2.1, F 84 (3 * w + i) (by omega) (by omega) (by omega) (by omega) (by omega) (by omega) (by omega)]
    exact y.2 i hi
  · rw [hP 1 2 (by omega), F 74 4 (by omega) (by omega) (by omega) (by omega) (by omega) (by omega) (by omega)]; exact hr
  · rw [F 74 4 (by omega) (by omega) (by omega) (by omega) (by omega) (by omega) (by omega)]; exact hr2
end
