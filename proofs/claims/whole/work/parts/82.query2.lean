section
variable {S : Nat → List Int32 × List Int32} {nv nc tc r : Nat} {I J : WI} {L : WL}
theorem WJ_q (h : WJ S 1 nv nc tc r I J L) {x1 x2 x3 : Int32} (b1 : bt (-999) 999 x1) (b2 : bt (-999) 999 x2) (b3 : bt (-999) 999 x3) : WJ S 1 nv nc tc r (v_70 I 1 x1 x2 x3) (up2 (up2 (up2 J 79 0 x1) 79 1 x2) 79 2 x3) L := by
  obtain ⟨h1, h2, h3, h4, h5, h6⟩ := h
  have fI : ∀ c k, c ≠ 4 → v_70 I 1 x1 x2 x3 c k = I c k := fun c k hc => by
    unfold v_70
    exact (up2_nk (by omega)).trans ((up2_nk (by omega)).trans (up2_nk (by omega)))
  have fJ : ∀ c k, c ≠ 79 → up2 (up2 (up2 J 79 0 x1) 79 1 x2) 79 2 x3 c k = J c k := fun c k hc => (up2_nk (by omega)).trans ((up2_nk (by omega)).trans (up2_nk (by omega)))
  refine ⟨?_, fun q hq => TxtP_cg (h2 q hq) (fun c k hh => fI c k (by omega)) (fun c k hh => fJ c k (by omega)), h3, kM_cg h4 (fun k => fJ _ _ (by omega)), h5, (fJ _ _ (by omega)).trans h6⟩
  obtain ⟨k1, k2, k3, k4, k5, k6, k7, k8, k9⟩ := h1
  refine ⟨kA_cg k1 (fun c k hh => fI c k (by omega)) (fun k hh => fJ _ k (by omega)), ?_, kC_cg k3 (fun c k hh => fI c k (by omega)) (fun c k hh => fJ c k (by omega)), kB_cg k3.1 k4 (fun c k hh => fI c k (by omega)) (fun c k hh => fJ c k (by omega)), kP_cg k5 (fun k hh => fI _ k (by omega)) (fun k hh => fJ _ k (by omega)), kV_cg k6 (fun c k hh => fI c k (by omega)) (fun c k hh => fJ c k (by omega)), kN_cg k6.1 k3.1 k7 (fun c k hh => fJ c k (by omega)), (fI _ _ (by omega)).trans (k8.trans (fJ _ _ (by omega)).symm), ?_⟩
  · intro i hi
    unfold v_70
    match i, hi with
    | 0, _ =>
      have e1 : up2 (up2 (up2 I (1 + 3) 0 x1) (1 + 3) 1 x2) (1 + 3) 2 x3 (1 + 3) 0 = x1 := (up2_nk (by omega)).trans ((up2_nk (by omega)).trans up2_pt)
      have e2 : up2 (up2 (up2 J 79 0 x1) 79 1 x2) 79 2 x3 79 0 = x1 := (up2_nk (by omega)).trans ((up2_nk (by omega)).trans up2_pt)
      rw [e1, e2]; exact ⟨rfl, b1⟩
    | 1, _ =>
      have e1 : up2 (up2 (up2 I (1 + 3) 0 x1) (1 + 3) 1 x2) (1 + 3) 2 x3 (1 + 3) 1 = x2 := (up2_nk (by omega)).trans up2_pt
      have e2 : up2 (up2 (up2 J 79 0 x1) 79 1 x2) 79 2 x3 79 1 = x2 := (up2_nk (by omega)).trans up2_pt
      rw [e1, e2]; exact ⟨rfl, b2⟩
    | 2, _ =>
      have e1 : up2 (up2 (up2 I (1 + 3) 0 x1) (1 + 3) 1 x2) (1 + 3) 2 x3 (1 + 3) 2 = x3 := up2_pt
      have e2 : up2 (up2 (up2 J 79 0 x1) 79 1 x2) 79 2 x3 79 2 = x3 := up2_pt
      rw [e1, e2]; exact ⟨rfl, b3⟩
  · obtain ⟨q, q1, q2⟩ := k9
    exact ⟨q, q1, (fJ _ _ (by omega)).trans q2⟩
theorem op_query (h : WJ S 1 nv nc tc r I J L) (h9 : I 0 9 = nI tc) (x1 x2 x3 : Int32) : g_119 I x1 x2 x3 ∧ g_227 J L x1 x2 x3 ∧ (v_119 I x1 x2 x3).1 = (v_227 J L x1 x2 x3).1 ∧ WJ S 1 nv nc tc r (v_119 I x1 x2 x3).2 (v_227 J L x1 x2 x3).2.1 (v_227 J L x1 x2 x3).2.2 := by
  unfold v_119 v_227 g_119 g_227
  rw [v173_106]
  by_cases z : v_106 x1 x2 x3 = 0
  · rw [if_neg (fun w => w z), if_neg (fun w => w z)]
    exact ⟨fun w => absurd z w, fun w => absurd z w, rfl, h⟩
  · obtain ⟨b1, b2, b3⟩ := v106_1 z
    have w1 := WJ_q h b1 b2 b3
    have h91 : v_70 I 1 x1 x2 x3 0 9 = nI tc := by
      unfold v_70
      exact (up2_nk (by omega)).trans ((up2_nk (by omega)).trans ((up2_nk (by omega)).trans h9))
    generalize v_70 I 1 x1 x2 x3 = I1 at w1 h91
    generalize up2 (up2 (up2 J 79 0 x1) 79 1 x2) 79 2 x3 = J1 at w1
    obtain ⟨g, m, A, e, m1, m2, m3, wA, e8⟩ := weigh1 w1 h91
    have kv : kV 1 nv nc I1 J1 := by obtain ⟨⟨-, -, -, -, -, kv, -⟩, -⟩ := w1; exact kv
    have c2 : (J1 74 18).toNatClampNeg = nv := by rw [kv.2.2.1, cl (by have := kv.1; omega)]
    obtain ⟨cg, J', L', c3, c4, c5⟩ := count_lp wA m2 nv (Nat.le_refl _)
    have ev : v_228 J1 L = (nI (pc m nv), J', L') := by
      unfold v_228
      rw [c2, c3]; rfl
    have eg : g_228 J1 L := by unfold g_228; rw [c2]; exact cg
    rw [if_pos z, if_pos z]
    dsimp only [bx]
    rw [e, ev]
    exact ⟨fun _ => g, fun _ => eg, pop m1 kv.1, WJ_cg wA c4 c5⟩
end
