section
variable {S : Nat → List Int32 × List Int32} {nv nc tc r s n : Nat} {I J : WI} {L : WL} {F G : WF}
/-! ask -/
theorem f250 : FP.f2i (FP.fmul 1082130432 (FP.frem FP.fconst0 1132068864)) = 0 := by decide +kernel
/-- one coordinate asked -/
theorem ask_i (hp : kHp s n I J F G) (h2 : J 112 s = 0) {i : Nat} (hi : i < n) : g_51 F (58 + 4 * s) (nI i) ∧ vf_n32 (FP.frem (G 115 (40 * s + i)) 1132068864) ∧ vf_n32 (FP.fmul 1082130432 (FP.frem (G 115 (40 * s + i)) 1132068864)) ∧
    v_51 F (58 + 4 * s) (nI i) = (if J 116 (40 * s + i) = 0 then FP.f2i (FP.fmul 1082130432 (FP.frem (G 115 (40 * s + i)) 1132068864)) else 0) ∧ bt (-999) 999 (v_51 F (58 + 4 * s) (nI i)) := by
  have hn := hp.1
  have ei : (nI i).toNatClampNeg = i := cl (by omega)
  have k : ¬ (1000 : Int64) = 0 := by decide
  have vi : vp_in (nI i) 40 := vin (by omega) (by omega)
  obtain ⟨hq, hv⟩ : q4 (G 115 (40 * s + i)) ∧ ((J 116 (40 * s + i) = 0 ∧ F (58 + 4 * s + 1) i = G 115 (40 * s + i)) ∨ (J 116 (40 * s + i) = 1 ∧ F (58 + 4 * s + 1) i = FP.fconst0)) := by
    rcases hp.2.2.2.2 with ⟨-, q⟩ | ⟨q, -⟩ | ⟨q, -⟩
    · exact q i hi
    · rw [h2] at q; exact absurd q (by decide)
    · rw [h2] at q; exact absurd q (by decide)
  obtain ⟨a1, a2, a3, a4⟩ := q4_ask hq
  unfold g_51 v_51
  rw [ei]
  rcases hv with ⟨v1, v2⟩ | ⟨v1, v2⟩
  · rw [v1, v2, if_pos rfl, ← a3]
    exact ⟨⟨vi, q4_n hq, k⟩, a1, a2, rfl, a4⟩
  · obtain ⟨-, -, z3, -⟩ := q4_ask q4_0
    rw [v1, v2, if_neg d10, ← z3, f250]
    exact ⟨⟨vi, q4_n q4_0, k⟩, a1, a2, rfl, by decide, by decide⟩
theorem op_ask (h : WJ S 1 nv nc tc r I J L) (h9 : I 0 9 = nI tc) (hh : kHs I J F G) (x1 x2 : Int32) : g_164 I F x1 x2 ∧ g_278 J G L x1 x2 ∧ (v_164 I F x1 x2).1 = (v_278 J G L x1 x2).1 ∧ WJ S 1 nv nc tc r (v_164 I F x1 x2).2 (v_278 J G L x1 x2).2.1 (v_278 J G L x1 x2).2.2 := by
  have t3 : (3 : Int32).toInt = 3 := by decide
  have c3' : (3 : Int32).toNatClampNeg = 3 := rfl
  rcases sh4 x1 with ⟨e, e', s, hs, rfl⟩ | ⟨e, e'⟩
  rotate_left
  · unfold g_164 g_278 v_164 v_278 g_158
    rw [e', v158_n e, e, if_neg d00, if_neg (show ¬ (-2 : Int32) = 0 by decide)]
    exact ⟨⟨fun q => absurd rfl q, fun q => absurd q (by decide)⟩, fun q => absurd rfl q, rfl, h⟩
  have es : (nI s).toNatClampNeg = s := cl (by omega)
  have s4 : vp_in (nI s) 4 := vin hs (by omega)
  unfold g_164 g_278 v_164 v_278 g_158
  rw [e', if_pos d10, es, c3']
  rcases kH_p (hh s hs) with ⟨h1, h2, h3⟩ | ⟨h1, n, hp⟩
  · rw [v158_m hs e h2, h1, if_neg (show ¬ (-11 : Int32) = 0 by decide), if_pos (rfl : (0 : Int32) = 0), if_neg d00]
    exact ⟨⟨fun _ => s4, fun q => absurd q (by decide)⟩, fun _ => ⟨s4, fun _ => ⟨s4, fun q => absurd rfl q⟩, fun q => absurd rfl q⟩, rfl, h⟩
  have hne := kHp_ne hp
  have hp2 := hp
  obtain ⟨hn, k2, k3, k4, -⟩ := hp2
  rw [v158_p hs e hne, h1, if_neg d10, k4, k3]
  by_cases z : J 112 s = 0
  rotate_left
  · have z' : ¬ ((0 : Int32) = 3 ∨ (0 : Int32) = J 112 s) := fun q => q.elim (fun q => absurd q (by decide)) (fun q => z q.symm)
    rw [if_neg z', if_neg z, if_neg (show ¬ (-13 : Int32) = 0 by decide)]
    exact ⟨⟨fun _ => s4, fun q => absurd q (by decide)⟩, fun _ => ⟨s4, fun q => absurd q d10, fun _ => ⟨s4, fun q => absurd q z⟩⟩, rfl, h⟩
  have z' : (0 : Int32) = 3 ∨ (0 : Int32) = J 112 s := Or.inr z.symm
  rw [if_pos z', if_pos z, if_pos d10]
  have hr := (n3r (I := I) hn x2).2
  rcases run_n (I := I) (b := 58 + 4 * s) k2 hn x2 3 with ⟨u, u1, u2, u3⟩ | ⟨u, u1⟩
  · rw [t3] at u3
    obtain ⟨w1, w2⟩ := hr.mpr ⟨u1, u3⟩
    obtain ⟨i, hi, rfl⟩ : ∃ i : Nat, i + 3 ≤ n ∧ x2 = nI i := ⟨x2.toInt.toNat, by omega, ti_eq (by omega)⟩
    rw [u, if_neg d10, if_pos (rfl : (0 : Int32) = 0), if_neg w1, if_pos w2]
    obtain ⟨a0, b0, c0, d0, t0⟩ := ask_i hp z (show i < n by omega)
    obtain ⟨a1, b1, c1, d1, t1⟩ := ask_i hp z (show i + 1 < n by omega)
    obtain ⟨a2, b2, c2, d2, t2⟩ := ask_i hp z (show i + 2 < n by omega)
    have w1' := WJ_q h t0 t1 t2
    have e0 : 40 * nI s + nI i = nI (40 * s + i) := at40 i
    have p0 : (40 * nI s + nI i) + nI 0 = nI (40 * s + i) := by rw [e0, nI_add]; rfl
    have p1 : (40 * nI s + nI i) + nI 1 = nI (40 * s + (i + 1)) := by rw [e0, nI_add]; rfl
    have p2 : (40 * nI s + nI i) + nI 2 = nI (40 * s + (i + 2)) := by rw [e0, nI_add]; rfl
    have l1 : lp_278_64 J G (nI s) (nI i) 1 = up2 J 79 0 (v_51 F (58 + 4 * s) (nI i)) := by
      rw [lp_278_64, lp_278_64]
      dsimp only [bx]
      rw [p0, cl (by omega), cl (by omega), d0]
    have l2 : lp_278_64 J G (nI s) (nI i) 2 = up2 (up2 J 79 0 (v_51 F (58 + 4 * s) (nI i))) 79 1 (v_51 F (58 + 4 * s) (nI (i + 1))) := by
      rw [lp_278_64, l1]
      dsimp only [bx]
      rw [p1, cl (by omega), cl (by omega), d1, up2_nk (c' := 116) (by omega)]
    have l3 : lp_278_64 J G (nI s) (nI i) 3 = up2 (up2 (up2 J 79 0 (v_51 F (58 + 4 * s) (nI i))) 79 1 (v_51 F (58 + 4 * s) (nI (i + 1)))) 79 2 (v_51 F (58 + 4 * s) (nI (i + 2))) := by
      rw [lp_278_64, l2]
      dsimp only [bx]
      rw [p2, cl (by omega), cl (by omega), d2, up2_nk (c' := 116) (by omega), up2_nk (c' := 116) (by omega)]
    have gl : gl_278_64 J G (nI s) (nI i) 3 := by
      intro j hj
      have fin : ∀ (j' : Nat), j' < 3 → (40 * nI s + nI i) + nI j' = nI (40 * s + (i + j')) → vf_n32 (FP.frem (G 115 (40 * s + (i + j'))) 1132068864) → vf_n32 (FP.fmul 1082130432 (FP.frem (G 115 (40 * s + (i + j'))) 1132068864)) →
          bx (lp_278_64 J G (nI s) (nI i) j') (fun p1 => ((vp_in (((40 * (nI s)) + (nI i)) + (nI j')) 160) ∧ ((vf_n32 (FP.frem (G 115 (((40 * (nI s)) + (nI i)) + (nI j')).toNatClampNeg) 1132068864)) ∧ ((vp_in (((40 * (nI s)) + (nI i)) + (nI j')) 160) ∧ ((((p1 116 (((40 * (nI s)) + (nI i)) + (nI j')).toNatClampNeg) = 0) → (vf_n32 (FP.fmul 1082130432 (FP.frem (G 115 (((40 * (nI s)) + (nI i)) + (nI j')).toNatClampNeg) 1132068864)))) ∧ (bx ((if (p1 116 (((40 * (nI s)) + (nI i)) + (nI j')).toNatClampNeg) = 0 then (FP.f2i (FP.fmul 1082130432 (FP.frem (G 115 (((40 * (nI s)) + (nI i)) + (nI j')).toNatClampNeg) 1132068864))) else 0) : Int32) (fun p2 => (vp_in (nI j') 3)))))))) := by
        intro j' hj' pe b c
        rw [pe, cl (by omega)]
        have v1 : vp_in (nI (40 * s + (i + j'))) 160 := vin (by omega) (by omega)
        exact ⟨v1, b, v1, fun _ => c, vin (by omega) (by omega)⟩
      match j, hj with
      | 0, _ => exact fin 0 (by omega) p0 b0 c0
      | 1, _ => exact fin 1 (by omega) p1 b1 c1
      | 2, _ => exact fin 2 (by omega) p2 b2 c2
    dsimp only [bx]
    rw [nI_1, nI_2, l3]
    have h91 : v_70 I 1 (v_51 F (58 + 4 * s) (nI i)) (v_51 F (58 + 4 * s) (nI (i + 1))) (v_51 F (58 + 4 * s) (nI (i + 2))) 0 9 = nI tc := by
      unfold v_70
      exact (up2_nk (by omega)).trans ((up2_nk (by omega)).trans ((up2_nk (by omega)).trans h9))
    generalize v_70 I 1 (v_51 F (58 + 4 * s) (nI i)) (v_51 F (58 + 4 * s) (nI (i + 1))) (v_51 F (58 + 4 * s) (nI (i + 2))) = I1 at w1' h91 ⊢
    generalize up2 (up2 (up2 J 79 0 (v_51 F (58 + 4 * s) (nI i))) 79 1 (v_51 F (58 + 4 * s) (nI (i + 1)))) 79 2 (v_51 F (58 + 4 * s) (nI (i + 2))) = J1 at w1' ⊢
    obtain ⟨g, m, A, eA, m1, m2, m3, wA, e8⟩ := weigh1 w1' h91
    have kv : kV 1 nv nc I1 J1 := by obtain ⟨⟨-, -, -, -, -, kv, -⟩, -⟩ := w1'; exact kv
    have c2' : (J1 74 18).toNatClampNeg = nv := by rw [kv.2.2.1, cl (by have := kv.1; omega)]
    obtain ⟨cg, J', L', c3, c4, c5⟩ := count_lp wA m2 nv (Nat.le_refl _)
    have ev : v_228 J1 L = (nI (pc m nv), J', L') := by
      unfold v_228
      rw [c2', c3]; rfl
    have eg : g_228 J1 L := by unfold g_228; rw [c2']; exact cg
    rw [eA, ev]
    exact ⟨⟨fun _ => s4, fun _ => ⟨s4, a0, a1, a2, g⟩⟩, fun _ => ⟨s4, fun q => absurd q d10, fun _ => ⟨s4, fun _ => ⟨s4, fun _ _ => ⟨s4, fun _ => ⟨gl, eg⟩⟩⟩⟩⟩, pop m1 kv.1, WJ_cg wA c4 c5⟩
  · rw [u, if_pos rfl, if_neg (show ¬ (-12 : Int32) = 0 by decide)]
    have nw : ¬ (¬ x2 < 0 ∧ x2 ≤ nI n - 3) := fun q => u1 (by
      obtain ⟨w1, w2⟩ := hr.mp q
      rw [t3]
      exact ⟨w1, by omega, w2⟩)
    refine ⟨⟨fun _ => s4, fun q => absurd q (by decide)⟩, fun _ => ⟨s4, fun q => absurd q d10, fun _ => ⟨s4, fun _ => ⟨s4, fun _ w1 => ⟨s4, fun w2 => absurd ⟨w1, w2⟩ nw⟩⟩⟩⟩, ?_, ?_⟩
    · by_cases w1 : x2 < 0
      · rw [if_pos w1]
      · rw [if_neg w1, if_neg (fun w2 => nw ⟨w1, w2⟩)]
    · by_cases w1 : x2 < 0
      · rw [if_pos w1]; exact h
      · rw [if_neg w1, if_neg (fun w2 => nw ⟨w1, w2⟩)]; exact h
end
