section
variable {b nv nc tc : Nat} {I J : WI}
/-! a cell more -/
theorem l54 {c : Nat} (hc : c < 4) : ∀ k, k ≤ 3 → ∀ q j, lp_54_2 I b (nI c) k q j = if q = b + 5 ∧ 3 * c ≤ j ∧ j < 3 * c + k then 1000 else if q = b + 6 ∧ 3 * c ≤ j ∧ j < 3 * c + k then -1000 else I q j := by
  intro k
  induction k with
  | zero => intro _ q j; rw [if_neg (by omega), if_neg (by omega)]; rfl
  | succ k ih =>
    intro hk q j
    have ih := ih (by omega)
    simp only [lp_54_2, bx, n3, cl (show 3 * c + k < 2 ^ 31 by omega)]
    generalize lp_54_2 I b (nI c) k = P at ih
    by_cases h6 : q = b + 6 ∧ j = 3 * c + k
    · obtain ⟨rfl, rfl⟩ := h6
      rw [if_neg (by omega), if_pos (by omega)]
      simp [up2]
    · rw [up2_nk h6]
      by_cases h5 : q = b + 5 ∧ j = 3 * c + k
      · obtain ⟨rfl, rfl⟩ := h5
        rw [if_pos (by omega)]
        simp [up2]
      · rw [up2_nk h5, ih]
        simp only [show (q = b + 5 ∧ 3 * c ≤ j ∧ j < 3 * c + (k + 1)) ↔ (q = b + 5 ∧ 3 * c ≤ j ∧ j < 3 * c + k) from by omega, show (q = b + 6 ∧ 3 * c ≤ j ∧ j < 3 * c + (k + 1)) ↔ (q = b + 6 ∧ 3 * c ≤ j ∧ j < 3 * c + k) from by omega]
theorem v54_pt {c : Nat} (hc : c < 4) (q j : Nat) : v_54 I b (nI c) q j = if q = b + 5 ∧ 3 * c ≤ j ∧ j < 3 * c + 3 then 1000 else if q = b + 6 ∧ 3 * c ≤ j ∧ j < 3 * c + 3 then -1000 else I q j := by
  unfold v_54
  simp only [bx, c3]
  exact l54 hc 3 (Nat.le_refl _) q j
theorem g54 {c : Nat} (hc : c < 4) : g_54 I b (nI c) := by
  intro k hk
  rw [c3] at hk
  show vp_in (3 * nI c + nI k) 12
  rw [n3]
  exact vin (by omega) (by omega)
def addI (b nc : Nat) (I : WI) (x y z : Int32) : WI := up2 (v_54 (pl3 I (b + 4) nc x y z) b (nI nc)) b 4 (nI (nc + 1))
def addJ (nc : Nat) (J : WI) (x y z : Int32) : WI := up2 (up2 (pl3 J 80 nc x y z) 83 nc 0) 74 13 (nI (nc + 1))
theorem addI_pt {x y z : Int32} (hc : nc < 4) (q j : Nat) : addI b nc I x y z q j = if q = b ∧ j = 4 then nI (nc + 1) else if q = b + 5 ∧ 3 * nc ≤ j ∧ j < 3 * nc + 3 then 1000 else if q = b + 6 ∧ 3 * nc ≤ j ∧ j < 3 * nc + 3 then -1000 else if q = b + 4 then (if j = 3 * nc + 2 then z else if j = 3 * nc + 1 then y else if j = 3 * nc then x else I (b + 4) j) else I q j := by
  unfold addI
  by_cases h : q = b ∧ j = 4
  · obtain ⟨rfl, rfl⟩ := h
    rw [if_pos ⟨rfl, rfl⟩]
    simp [up2]
  · rw [up2_nk h, if_neg h, v54_pt hc]
    congr 1
    congr 1
    by_cases h4 : q = b + 4
    · subst h4
      rw [if_pos rfl, pl3_at]
    · rw [if_neg h4, pl3_ne h4]
theorem addJ_pt {x y z : Int32} (q j : Nat) : addJ nc J x y z q j = if q = 74 ∧ j = 13 then nI (nc + 1) else if q = 83 ∧ j = nc then 0 else if q = 80 then (if j = 3 * nc + 2 then z else if j = 3 * nc + 1 then y else if j = 3 * nc then x else J 80 j) else J q j := by
  unfold addJ
  by_cases h : q = 74 ∧ j = 13
  · obtain ⟨rfl, rfl⟩ := h
    rw [if_pos ⟨rfl, rfl⟩]
    simp [up2]
  · rw [up2_nk h, if_neg h]
    by_cases h2 : q = 83 ∧ j = nc
    · obtain ⟨rfl, rfl⟩ := h2
      rw [if_pos ⟨rfl, rfl⟩]
      simp [up2]
    · rw [up2_nk h2, if_neg h2]
      by_cases h4 : q = 80
      · subst h4
        rw [if_pos rfl, pl3_at]
      · rw [if_neg h4, pl3_ne h4]
theorem add_rel {x y z : Int32} (h : kR b nv nc tc I J) (hc : nc < 4) (hx : bt (-999) 999 x ∧ bt (-999) 999 y ∧ bt (-999) 999 z) : kR b nv (nc + 1) tc (addI b nc I x y z) (addJ nc J x y z) := by
  obtain ⟨hA, hQ, hC, hB, hP, hV, hN, hr, r, hr1, hr2⟩ := h
  have eI : ∀ q j, q ≠ b + 4 → q ≠ b + 5 → q ≠ b + 6 → ¬ (q = b ∧ j = 4) → addI b nc I x y z q j = I q j := fun q j h1 h2 h3 h4 => by
    rw [addI_pt hc, if_neg h4, if_neg (by omega), if_neg (by omega), if_neg h1]
  have eJ : ∀ q j, q ≠ 80 → ¬ (q = 83 ∧ j = nc) → ¬ (q = 74 ∧ j = 13) → addJ nc J x y z q j = J q j := fun q j h1 h2 h3 => by
    rw [addJ_pt, if_neg h3, if_neg h2, if_neg h1]
  refine ⟨kA_cg hA (fun c k h => eI _ _ (by omega) (by omega) (by omega) (by omega)) (fun k h => eJ _ _ (by omega) (by omega) (by omega)), kQ_cg hQ (fun k h => eI _ _ (by omega) (by omega) (by omega) (by omega)) (fun k h => eJ _ _ (by omega) (by omega) (by omega)), ?_, ?_, kP_cg hP (fun k h => eI _ _ (by omega) (by omega) (by omega) (by omega)) (fun k h => eJ _ _ (by omega) (by omega) (by omega)), ?_, ?_, ?_, r, hr1, ?_⟩
  · refine ⟨by omega, by rw [addI_pt hc, if_pos ⟨rfl, rfl⟩], by rw [addJ_pt, if_pos ⟨rfl, rfl⟩], fun i hi => ?_⟩
    have e1 : addI b nc I x y z (b + 4) i = (if i = 3 * nc + 2 then z else if i = 3 * nc + 1 then y else if i = 3 * nc then x else I (b + 4) i) := by
      rw [addI_pt hc, if_neg (by omega), if_neg (by omega), if_neg (by omega), if_pos rfl]
    have e2 : addJ nc J x y z 80 i = (if i = 3 * nc + 2 then z else if i = 3 * nc + 1 then y else if i = 3 * nc then x else J 80 i) := by
      rw [addJ_pt, if_neg (by omega), if_neg (by omega), if_pos rfl]
    rw [e1, e2]
    have h4 := hC.2.2.2 i hi
    split
    · exact ⟨rfl, hx.2.2⟩
    · split
      · exact ⟨rfl, hx.2.1⟩
      · split
        · exact ⟨rfl, hx.1⟩
        · exact h4
  · intro c hcn
    by_cases z' : c = nc
    · subst z'
      left
      refine ⟨by rw [addJ_pt, if_neg (by omega), if_pos ⟨rfl, rfl⟩], fun i hi => ?_⟩
      rw [addI_pt hc, addI_pt hc, if_neg (by omega), if_pos (by omega), if_neg (by omega), if_neg (by omega), if_pos (by omega)]
      exact ⟨rfl, rfl⟩
    · have hb := hB c (by omega)
      have e5 : ∀ i, i < 3 → addI b nc I x y z (b + 5) (3 * c + i) = I (b + 5) (3 * c + i) := fun i hi => by
        rw [addI_pt hc, if_neg (by omega), if_neg (by omega), if_neg (by omega), if_neg (by omega)]
      have e6 : ∀ i, i < 3 → addI b nc I x y z (b + 6) (3 * c + i) = I (b + 6) (3 * c + i) := fun i hi => by
        rw [addI_pt hc, if_neg (by omega), if_neg (by omega), if_neg (by omega), if_neg (by omega)]
      rw [eJ 83 c (by omega) (by omega) (by omega)]
      rcases hb with ⟨h0, hb⟩ | ⟨h1, hb⟩
      · left
        refine ⟨h0, fun i hi => ?_⟩
        rw [e5 i hi, e6 i hi]
        exact hb i hi
      · right
        refine ⟨h1, fun i hi => ?_⟩
        rw [e5 i hi, e6 i hi, eJ 81 _ (by omega) (by omega) (by omega), eJ 82 _ (by omega) (by omega) (by omega)]
        exact hb i hi
  · have hV1 := kV_cg hV (I' := addI b nc I x y z) (J' := addJ nc J x y z) (fun c k h => eI _ _ (by omega) (by omega) (by omega) (by omega)) (fun c k h => eJ _ _ (by omega) (by omega) (by omega))
    obtain ⟨g1, g2, g3, g4, g5, g6⟩ := hV1
    refine ⟨g1, g2, g3, g4, fun v hv => ?_, g6⟩
    rcases g5 v hv with g | ⟨c, g, g'⟩
    · exact Or.inl g
    · exact Or.inr ⟨c, by omega, g'⟩
  · intro v hv c hcn hvc
    rw [eJ 86 v (by omega) (by omega) (by omega)] at hvc
    have hlt : c < nc := by
      rcases hV.2.2.2.2.1 v hv with ⟨g, -⟩ | ⟨c', g, g'⟩
      · rw [g] at hvc
        exact absurd hvc.symm (nIm1 (by omega))
      · rw [g'] at hvc
        have := (nI_eq (by omega) (by omega)).mp hvc
        omega
    have hn := hN v hv c hlt hvc
    rw [eJ 83 c (by omega) (by omega) (by omega)]
    refine ⟨hn.1, fun i hi => ?_⟩
    rw [eJ 81 _ (by omega) (by omega) (by omega), eJ 82 _ (by omega) (by omega) (by omega), eJ 84 _ (by omega) (by omega) (by omega)]
    exact hn.2 i hi
  · rw [eI b 2 (by omega) (by omega) (by omega) (by omega), eJ 74 4 (by omega) (by omega) (by omega)]
    exact hr
  · rw [eJ 74 4 (by omega) (by omega) (by omega)]
    exact hr2
theorem op_cell (h : kR 1 nv nc tc I J) (x y z : Int32) : g_105 I x y z ∧ g_172 J x y z ∧ (v_105 I x y z).1 = (v_172 J x y z).1 ∧ ∃ nc', kR 1 nv nc' tc (v_105 I x y z).2 (v_172 J x y z).2 := by
  have hC := h.2.2.1
  have h4 := hC.1
  unfold v_105 v_172 g_105 g_172
  rw [v173_106, hC.2.1, hC.2.2.1]
  by_cases hx : v_106 x y z = 0
  · rw [if_neg (by simp [hx]), if_neg (by simp [hx])]
    exact ⟨fun h => absurd hx h, fun h => absurd hx h, rfl, nc, h⟩
  · rw [if_pos hx, if_pos hx]
    have hxx := v106_1 hx
    have e4 : (4 : Int32) = nI 4 := rfl
    by_cases hc : nc = 4
    · subst hc
      rw [if_neg (by decide), if_neg (by decide)]
      exact ⟨fun _ h => absurd h (by decide), fun _ h => absurd rfl h, rfl, 4, h⟩
    · have hlt : nc < 4 := by omega
      have hl : nI nc < 4 := by rw [e4]; exact nI_lt hlt (by omega)
      have hne : ¬ nI nc = 4 := by rw [e4, nI_eq (by omega) (by omega)]; exact hc
      rw [if_pos hl, if_pos hne]
      have v1 : vp_in (3 * nI nc) 12 := by rw [n30]; exact vin (by omega) (by omega)
      have v2 : vp_in (3 * nI nc + 1) 12 := by rw [n31]; exact vin (by omega) (by omega)
      have v3 : vp_in (3 * nI nc + 2) 12 := by rw [n32]; exact vin (by omega) (by omega)
      have e53 : v_53 I 1 x y z = (nI nc, addI 1 nc I x y z) := by
        unfold v_53 addI pl3
        simp only [bx, hC.2.1]
        rw [if_pos hl]
        simp only [n30, nI_1, nI_2, cl (show 3 * nc < 2 ^ 31 by omega), cl (show 3 * nc + 1 < 2 ^ 31 by omega), cl (show 3 * nc + 2 < 2 ^ 31 by omega)]
        rw [v54_pt hlt, if_neg (by omega), if_neg (by omega), up2_nk (by omega), up2_nk (by omega), up2_nk (by omega), hC.2.1, nI_1]
      refine ⟨fun _ _ => ?_, fun _ _ => ⟨v1, v2, v3, vin hlt (by omega)⟩, ?_, nc + 1, ?_⟩
      · unfold g_53
        rw [hC.2.1]
        exact fun _ => ⟨v1, v2, v3, g54 hlt⟩
      · simp only [bx, e53]
        rw [nI_1, show nI (nc + 1) - 1 = nI nc from nI_pred nc]
      · simp only [bx, e53]
        have := add_rel h hlt hxx
        unfold addJ pl3 at this
        simp only [n30, nI_1, nI_2, cl (show 3 * nc < 2 ^ 31 by omega), cl (show 3 * nc + 1 < 2 ^ 31 by omega), cl (show 3 * nc + 2 < 2 ^ 31 by omega), cl (show nc < 2 ^ 31 by omega), nI_1]
        exact this
end
