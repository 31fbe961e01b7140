section
variable {l : LX} {x3 : Int32} {t : Nat} {I J : WI} {L : WL} {F G : WF}
theorem cs_21 (h : T2 I I F F L t) (q1 : vp_in (x3 + 1) l.2.1) (q2 : vp_in (x3 + 2) l.2.1) : gw_21 l I F L t x3 ∧ T2 (u_21 l I F L t x3).1 (u_21 l I F L t x3).1 (u_21 l I F L t x3).2.1 (u_21 l I F L t x3).2.1 (u_21 l I F L t x3).2.2.1 (u_21 l I F L t x3).2.2.2 := by
  obtain ⟨g1, g2, e, h2⟩ := tt_21 (T2_cg (J' := (v_137 I (l.2.2 (x3 + 1).toNatClampNeg) (l.2.2 (x3 + 2).toNatClampNeg)).2) (G' := F) h (fun _ _ _ => rfl) (fun c k y => frI_v_137 (by omega)) (fun _ _ _ => rfl) (fun _ _ _ => rfl)) (l.2.2 (x3 + 1).toNatClampNeg) (l.2.2 (x3 + 2).toNatClampNeg)
  have h3 := T2_cg (I' := (v_250 (v_137 I (l.2.2 (x3 + 1).toNatClampNeg) (l.2.2 (x3 + 2).toNatClampNeg)).2 (l.2.2 (x3 + 1).toNatClampNeg) (l.2.2 (x3 + 2).toNatClampNeg)).2) (F' := F) h2 (fun c k y => frI_v_250 (by omega)) (fun _ _ _ => rfl) (fun _ _ _ => rfl) (fun _ _ _ => rfl)
  refine ⟨?_, ?_⟩
  · unfold gw_21
    dsimp only [bx]
    exact ⟨q1, q2, g1, q1, q2, g2, fun w => absurd (e) w⟩
  · unfold u_21
    dsimp only [bx]
    rw [if_pos e]
    exact h3
theorem cs_22 (h : T2 I I F F L t) (q1 : vp_in (x3 + 1) l.2.1) : gw_22 l I F L t x3 ∧ T2 (u_22 l I F L t x3).1 (u_22 l I F L t x3).1 (u_22 l I F L t x3).2.1 (u_22 l I F L t x3).2.1 (u_22 l I F L t x3).2.2.1 (u_22 l I F L t x3).2.2.2 := by
  have h0 := h
  obtain ⟨S, nv, nc, tc, r, hw, h9, h3, hq, hh, hk, ht⟩ := h
  obtain ⟨g1, g2, e⟩ := op_two hw.1 (l.2.2 (x3 + 1).toNatClampNeg)
  refine ⟨?_, ?_⟩
  · unfold gw_22
    exact ⟨q1, g1, q1, g2, fun w => absurd e w⟩
  · unfold u_22
    rw [if_pos e]
    exact h0
theorem cs_23 (h : T2 I I F F L t) (q1 : vp_in (x3 + 1) l.2.1) : gw_23 l I F L t x3 ∧ T2 (u_23 l I F L t x3).1 (u_23 l I F L t x3).1 (u_23 l I F L t x3).2.1 (u_23 l I F L t x3).2.1 (u_23 l I F L t x3).2.2.1 (u_23 l I F L t x3).2.2.2 := by
  obtain ⟨g1, g2, e, h2⟩ := tt_23 (T2_cg (J' := (v_138 I (l.2.2 (x3 + 1).toNatClampNeg)).2) (G' := F) h (fun _ _ _ => rfl) (fun c k y => frI_v_138 (by omega) (by omega) (by omega) (by omega) (by omega) (by omega) (by omega) (by omega) (by omega) (by omega)) (fun _ _ _ => rfl) (fun _ _ _ => rfl)) (l.2.2 (x3 + 1).toNatClampNeg)
  have h3 := T2_cg (I' := (v_233 (v_138 I (l.2.2 (x3 + 1).toNatClampNeg)).2 (l.2.2 (x3 + 1).toNatClampNeg)).2) (F' := F) h2 (fun c k y => frI_v_233 (by omega) (by omega) (by omega) (by omega) (by omega) (by omega) (by omega) (by omega) (by omega) (by omega) (by omega) (by omega)) (fun _ _ _ => rfl) (fun _ _ _ => rfl) (fun _ _ _ => rfl)
  refine ⟨?_, ?_⟩
  · unfold gw_23
    dsimp only [bx]
    exact ⟨q1, g1, q1, g2, fun w => absurd (e) w⟩
  · unfold u_23
    dsimp only [bx]
    rw [if_pos e]
    exact h3
theorem cs_24 (h : T2 I I F F L t) (q1 : vp_in (x3 + 1) l.2.1) (q2 : vp_in (x3 + 2) l.2.1) : gw_24 l I F L t x3 ∧ T2 (u_24 l I F L t x3).1 (u_24 l I F L t x3).1 (u_24 l I F L t x3).2.1 (u_24 l I F L t x3).2.1 (u_24 l I F L t x3).2.2.1 (u_24 l I F L t x3).2.2.2 := by
  obtain ⟨g1, g2, e, h2⟩ := tt_24 (T2_cg (J' := (v_139 I (l.2.2 (x3 + 1).toNatClampNeg) (l.2.2 (x3 + 2).toNatClampNeg)).2) (G' := F) h (fun _ _ _ => rfl) (fun c k y => frI_v_139 (by omega) (by omega) (by omega) (by omega) (by omega) (by omega) (by omega) (by omega) (by omega) (by omega) (by omega) (by omega) (by omega)) (fun _ _ _ => rfl) (fun _ _ _ => rfl)) (l.2.2 (x3 + 1).toNatClampNeg) (l.2.2 (x3 + 2).toNatClampNeg)
  have h3 := T2_cg (I' := (v_254 (v_139 I (l.2.2 (x3 + 1).toNatClampNeg) (l.2.2 (x3 + 2).toNatClampNeg)).2 L (l.2.2 (x3 + 1).toNatClampNeg) (l.2.2 (x3 + 2).toNatClampNeg)).2.1) (F' := F) h2 (fun c k y => frI_v_254 (by omega) (by omega) (by omega) (by omega) (by omega) (by omega) (by omega)) (fun _ _ _ => rfl) (fun _ _ _ => rfl) (fun _ _ _ => rfl)
  refine ⟨?_, ?_⟩
  · unfold gw_24
    dsimp only [bx]
    exact ⟨q1, q2, g1, q1, q2, g2, fun w => absurd (e) w⟩
  · unfold u_24
    dsimp only [bx]
    rw [if_pos e]
    exact h3
theorem cs_25 (h : T2 I I F F L t) (q1 : vp_in (x3 + 1) l.2.1) : gw_25 l I F L t x3 ∧ T2 (u_25 l I F L t x3).1 (u_25 l I F L t x3).1 (u_25 l I F L t x3).2.1 (u_25 l I F L t x3).2.1 (u_25 l I F L t x3).2.2.1 (u_25 l I F L t x3).2.2.2 := by
  obtain ⟨g1, g2, e, h2⟩ := tt_25 (T2_cg (J' := (v_140 I F (l.2.2 (x3 + 1).toNatClampNeg)).2.1) (G' := (v_140 I F (l.2.2 (x3 + 1).toNatClampNeg)).2.2) h (fun _ _ _ => rfl) (fun c k y => frI_v_140 (by omega) (by omega) (by omega) (by omega) (by omega) (by omega) (by omega) (by omega) (by omega) (by omega) (by omega) (by omega) (by omega) (by omega) (by omega) (by omega) (by omega)) (fun _ _ _ => rfl) (fun c k y => frF_v_140 (by omega) (by omega) (by omega) (by omega) (by omega) (by omega) (by omega) (by omega) (by omega) (by omega) (by omega) (by omega) (by omega) (by omega) (by omega) (by omega) (by omega))) (l.2.2 (x3 + 1).toNatClampNeg)
  have h3 := T2_cg (I' := (v_256 (v_140 I F (l.2.2 (x3 + 1).toNatClampNeg)).2.1 L (l.2.2 (x3 + 1).toNatClampNeg)).2.1) (F' := (v_140 I F (l.2.2 (x3 + 1).toNatClampNeg)).2.2) h2 (fun c k y => frI_v_256 (by omega) (by omega) (by omega) (by omega) (by omega) (by omega) (by omega) (by omega) (by omega) (by omega) (by omega) (by omega) (by omega) (by omega) (by omega) (by omega) (by omega) (by omega) (by omega)) (fun _ _ _ => rfl) (fun _ _ _ => rfl) (fun _ _ _ => rfl)
  refine ⟨?_, ?_⟩
  · unfold gw_25
    dsimp only [bx]
    exact ⟨q1, g1, q1, g2, fun w => absurd ((lg0 _ _).mpr e) w⟩
  · unfold u_25
    dsimp only [bx]
    rw [if_pos ((lg0 _ _).mpr e)]
    exact h3
theorem cs_26 (h : T2 I I F F L t) (q1 : vp_in (x3 + 1) l.2.1) (q2 : vp_in (x3 + 2) l.2.1) (q3 : vp_in (x3 + 3) l.2.1) (q4 : vp_in (x3 + 4) l.2.1) : gw_26 l I F L t x3 ∧ T2 (u_26 l I F L t x3).1 (u_26 l I F L t x3).1 (u_26 l I F L t x3).2.1 (u_26 l I F L t x3).2.1 (u_26 l I F L t x3).2.2.1 (u_26 l I F L t x3).2.2.2 := by
  obtain ⟨g1, g2, e, h2⟩ := tt_26 (T2_cg (J' := (v_142 I F (l.2.2 (x3 + 1).toNatClampNeg) (l.2.2 (x3 + 2).toNatClampNeg) (l.2.2 (x3 + 3).toNatClampNeg) (l.2.2 (x3 + 4).toNatClampNeg)).2.1) (G' := (v_142 I F (l.2.2 (x3 + 1).toNatClampNeg) (l.2.2 (x3 + 2).toNatClampNeg) (l.2.2 (x3 + 3).toNatClampNeg) (l.2.2 (x3 + 4).toNatClampNeg)).2.2) h (fun _ _ _ => rfl) (fun c k y => frI_v_142 (by omega) (by omega) (by omega) (by omega) (by omega) (by omega) (by omega) (by omega) (by omega) (by omega) (by omega) (by omega) (by omega) (by omega) (by omega) (by omega) (by omega)) (fun _ _ _ => rfl) (fun c k y => frF_v_142 (by omega) (by omega) (by omega) (by omega) (by omega) (by omega) (by omega) (by omega) (by omega) (by omega) (by omega) (by omega) (by omega) (by omega) (by omega) (by omega) (by omega))) (l.2.2 (x3 + 1).toNatClampNeg) (l.2.2 (x3 + 2).toNatClampNeg) (l.2.2 (x3 + 3).toNatClampNeg) (l.2.2 (x3 + 4).toNatClampNeg)
  have h3 := T2_cg (I' := (v_260 (v_142 I F (l.2.2 (x3 + 1).toNatClampNeg) (l.2.2 (x3 + 2).toNatClampNeg) (l.2.2 (x3 + 3).toNatClampNeg) (l.2.2 (x3 + 4).toNatClampNeg)).2.1 L (l.2.2 (x3 + 1).toNatClampNeg) (l.2.2 (x3 + 2).toNatClampNeg) (l.2.2 (x3 + 3).toNatClampNeg) (l.2.2 (x3 + 4).toNatClampNeg)).2.1) (F' := (v_142 I F (l.2.2 (x3 + 1).toNatClampNeg) (l.2.2 (x3 + 2).toNatClampNeg) (l.2.2 (x3 + 3).toNatClampNeg) (l.2.2 (x3 + 4).toNatClampNeg)).2.2) h2 (fun c k y => frI_v_260 (by omega) (by omega) (by omega) (by omega) (by omega) (by omega) (by omega) (by omega) (by omega) (by omega) (by omega) (by omega) (by omega) (by omega) (by omega) (by omega) (by omega) (by omega) (by omega)) (fun _ _ _ => rfl) (fun _ _ _ => rfl) (fun _ _ _ => rfl)
  refine ⟨?_, ?_⟩
  · unfold gw_26
    dsimp only [bx]
    exact ⟨q1, q2, q3, q4, g1, q1, q2, q3, q4, g2, fun w => absurd ((lg0 _ _).mpr e) w⟩
  · unfold u_26
    dsimp only [bx]
    rw [if_pos ((lg0 _ _).mpr e)]
    exact h3
theorem cs_27 (h : T2 I I F F L t) (q1 : vp_in (x3 + 1) l.2.1) (q2 : vp_in (x3 + 2) l.2.1) : gw_27 l I F L t x3 ∧ T2 (u_27 l I F L t x3).1 (u_27 l I F L t x3).1 (u_27 l I F L t x3).2.1 (u_27 l I F L t x3).2.1 (u_27 l I F L t x3).2.2.1 (u_27 l I F L t x3).2.2.2 := by
  obtain ⟨g1, g2, e⟩ := op_drawn (l.2.2 (x3 + 1).toNatClampNeg) (l.2.2 (x3 + 2).toNatClampNeg)
  refine ⟨?_, ?_⟩
  · unfold gw_27
    exact ⟨q1, q2, g1, q1, q2, g2, fun w => absurd e w⟩
  · unfold u_27
    rw [if_pos e]
    exact h
theorem cs_28 (h : T2 I I F F L t) (q1 : vp_in (x3 + 1) l.2.1) (q2 : vp_in (x3 + 2) l.2.1) : gw_28 l I F L t x3 ∧ T2 (u_28 l I F L t x3).1 (u_28 l I F L t x3).1 (u_28 l I F L t x3).2.1 (u_28 l I F L t x3).2.1 (u_28 l I F L t x3).2.2.1 (u_28 l I F L t x3).2.2.2 := by
  obtain ⟨g1, g2, e, h2⟩ := tt_28 (T2_cg (J' := (v_145 I F (l.2.2 (x3 + 1).toNatClampNeg) (l.2.2 (x3 + 2).toNatClampNeg)).2) (G' := F) h (fun _ _ _ => rfl) (fun c k y => frI_v_145 (by omega) (by omega) (by omega) (by omega) (by omega) (by omega) (by omega) (by omega) (by omega) (by omega) (by omega) (by omega) (by omega)) (fun _ _ _ => rfl) (fun _ _ _ => rfl)) (l.2.2 (x3 + 1).toNatClampNeg) (l.2.2 (x3 + 2).toNatClampNeg)
  have h3 := T2_cg (I' := (v_261 (v_145 I F (l.2.2 (x3 + 1).toNatClampNeg) (l.2.2 (x3 + 2).toNatClampNeg)).2 F L (l.2.2 (x3 + 1).toNatClampNeg) (l.2.2 (x3 + 2).toNatClampNeg)).2.1) (F' := F) h2 (fun c k y => frI_v_261 (by omega) (by omega) (by omega) (by omega) (by omega) (by omega) (by omega) (by omega) (by omega) (by omega) (by omega) (by omega) (by omega) (by omega) (by omega) (by omega) (by omega) (by omega) (by omega) (by omega)) (fun _ _ _ => rfl) (fun _ _ _ => rfl) (fun _ _ _ => rfl)
  refine ⟨?_, ?_⟩
  · unfold gw_28
    dsimp only [bx]
    exact ⟨q1, q2, g1, q1, q2, g2, fun w => absurd (e) w⟩
  · unfold u_28
    dsimp only [bx]
    rw [if_pos e]
    exact h3
theorem cs_29 (h : T2 I I F F L t) (q1 : vp_in (x3 + 1) l.2.1) (q2 : vp_in (x3 + 2) l.2.1) : gw_29 l I F L t x3 ∧ T2 (u_29 l I F L t x3).1 (u_29 l I F L t x3).1 (u_29 l I F L t x3).2.1 (u_29 l I F L t x3).2.1 (u_29 l I F L t x3).2.2.1 (u_29 l I F L t x3).2.2.2 := by
  obtain ⟨g1, g2, e, h2⟩ := tt_29 (T2_cg (J' := (v_152 I F (l.2.2 (x3 + 1).toNatClampNeg) (l.2.2 (x3 + 2).toNatClampNeg)).2.1) (G' := (v_152 I F (l.2.2 (x3 + 1).toNatClampNeg) (l.2.2 (x3 + 2).toNatClampNeg)).2.2) h (fun _ _ _ => rfl) (fun c k y => (hi_152 y).1) (fun _ _ _ => rfl) (fun c k y => (hi_152 y).2)) (l.2.2 (x3 + 1).toNatClampNeg) (l.2.2 (x3 + 2).toNatClampNeg)
  have h3 := T2_cg (I' := (v_266 (v_152 I F (l.2.2 (x3 + 1).toNatClampNeg) (l.2.2 (x3 + 2).toNatClampNeg)).2.1 (v_152 I F (l.2.2 (x3 + 1).toNatClampNeg) (l.2.2 (x3 + 2).toNatClampNeg)).2.2 L (l.2.2 (x3 + 1).toNatClampNeg) (l.2.2 (x3 + 2).toNatClampNeg)).2.1) (F' := (v_266 (v_152 I F (l.2.2 (x3 + 1).toNatClampNeg) (l.2.2 (x3 + 2).toNatClampNeg)).2.1 (v_152 I F (l.2.2 (x3 + 1).toNatClampNeg) (l.2.2 (x3 + 2).toNatClampNeg)).2.2 L (l.2.2 (x3 + 1).toNatClampNeg) (l.2.2 (x3 + 2).toNatClampNeg)).2.2.1) h2 (fun c k y => frI_v_266 (by omega) (by omega) (by omega) (by omega) (by omega) (by omega) (by omega) (by omega) (by omega) (by omega) (by omega) (by omega) (by omega) (by omega) (by omega) (by omega) (by omega) (by omega) (by omega) (by omega) (by omega) (by omega) (by omega) (by omega)) (fun _ _ _ => rfl) (fun c k y => frF_v_266 (by omega) (by omega) (by omega) (by omega) (by omega) (by omega) (by omega) (by omega) (by omega) (by omega) (by omega) (by omega) (by omega) (by omega) (by omega) (by omega) (by omega) (by omega) (by omega) (by omega) (by omega) (by omega) (by omega) (by omega)) (fun _ _ _ => rfl)
  refine ⟨?_, ?_⟩
  · unfold gw_29
    dsimp only [bx]
    exact ⟨q1, q2, g1, q1, q2, g2, fun w => absurd (e) w⟩
  · unfold u_29
    dsimp only [bx]
    rw [if_pos e]
    exact h3
theorem cs_30 (h : T2 I I F F L t) : gw_30 l I F L t x3 ∧ T2 (u_30 l I F L t x3).1 (u_30 l I F L t x3).1 (u_30 l I F L t x3).2.1 (u_30 l I F L t x3).2.1 (u_30 l I F L t x3).2.2.1 (u_30 l I F L t x3).2.2.2 := by
  obtain ⟨g1, e, h2⟩ := tt_30 (T2_cg (J' := (v_153 I).2) (G' := F) h (fun _ _ _ => rfl) (fun c k y => frI_v_153 (by omega) (by omega) (by omega) (by omega) (by omega) (by omega) (by omega) (by omega) (by omega) (by omega) (by omega)) (fun _ _ _ => rfl) (fun _ _ _ => rfl)) 
  have h3 := T2_cg (I' := (v_268 (v_153 I).2).2) (F' := F) h2 (fun c k y => frI_v_268 (by omega) (by omega) (by omega) (by omega) (by omega) (by omega) (by omega) (by omega) (by omega) (by omega) (by omega)) (fun _ _ _ => rfl) (fun _ _ _ => rfl) (fun _ _ _ => rfl)
  refine ⟨?_, ?_⟩
  · unfold gw_30
    dsimp only [bx]
    exact ⟨g1, fun w => absurd (e) w⟩
  · unfold u_30
    dsimp only [bx]
    rw [if_pos e]
    exact h3
theorem cs_31 (h : T2 I I F F L t) : gw_31 l I F L t x3 ∧ T2 (u_31 l I F L t x3).1 (u_31 l I F L t x3).1 (u_31 l I F L t x3).2.1 (u_31 l I F L t x3).2.1 (u_31 l I F L t x3).2.2.1 (u_31 l I F L t x3).2.2.2 := by
  obtain ⟨g1, e, h2⟩ := tt_31 (T2_cg (J' := (v_154 I).2) (G' := F) h (fun _ _ _ => rfl) (fun c k y => frI_v_154 (by omega) (by omega) (by omega) (by omega) (by omega) (by omega) (by omega) (by omega) (by omega) (by omega)) (fun _ _ _ => rfl) (fun _ _ _ => rfl)) 
  have h3 := T2_cg (I' := (v_269 (v_154 I).2).2) (F' := F) h2 (fun c k y => frI_v_269 (by omega) (by omega) (by omega) (by omega) (by omega) (by omega) (by omega) (by omega) (by omega) (by omega) (by omega)) (fun _ _ _ => rfl) (fun _ _ _ => rfl) (fun _ _ _ => rfl)
  refine ⟨?_, ?_⟩
  · unfold gw_31
    dsimp only [bx]
    exact ⟨g1, fun w => absurd (e) w⟩
  · unfold u_31
    dsimp only [bx]
    rw [if_pos e]
    exact h3
theorem cs_32 (h : T2 I I F F L t) (q1 : vp_in (x3 + 1) l.2.1) : gw_32 l I F L t x3 ∧ T2 (u_32 l I F L t x3).1 (u_32 l I F L t x3).1 (u_32 l I F L t x3).2.1 (u_32 l I F L t x3).2.1 (u_32 l I F L t x3).2.2.1 (u_32 l I F L t x3).2.2.2 := by
  obtain ⟨g1, g2, e, h2⟩ := tt_32 (T2_cg (J' := (v_155 I (l.2.2 (x3 + 1).toNatClampNeg)).2) (G' := F) h (fun _ _ _ => rfl) (fun c k y => frI_v_155 (by omega) (by omega) (by omega)) (fun _ _ _ => rfl) (fun _ _ _ => rfl)) (l.2.2 (x3 + 1).toNatClampNeg)
  have h3 := T2_cg (I' := (v_270 (v_155 I (l.2.2 (x3 + 1).toNatClampNeg)).2 L (l.2.2 (x3 + 1).toNatClampNeg)).2.1) (F' := F) h2 (fun c k y => frI_v_270 (by omega) (by omega) (by omega)) (fun _ _ _ => rfl) (fun _ _ _ => rfl) (fun _ _ _ => rfl)
  refine ⟨?_, ?_⟩
  · unfold gw_32
    dsimp only [bx]
    exact ⟨q1, g1, q1, g2, fun w => absurd (e) w⟩
  · unfold u_32
    dsimp only [bx]
    rw [if_pos e]
    exact h3
theorem cs_33 (h : T2 I I F F L t) (q1 : vp_in (x3 + 1) l.2.1) (q2 : vp_in (x3 + 2) l.2.1) (q3 : vp_in (x3 + 3) l.2.1) : gw_33 l I F L t x3 ∧ T2 (u_33 l I F L t x3).1 (u_33 l I F L t x3).1 (u_33 l I F L t x3).2.1 (u_33 l I F L t x3).2.1 (u_33 l I F L t x3).2.2.1 (u_33 l I F L t x3).2.2.2 := by
  obtain ⟨g1, g2, e, h2⟩ := tt_33 (T2_cg (J' := (v_156 I F (l.2.2 (x3 + 1).toNatClampNeg) (l.2.2 (x3 + 2).toNatClampNeg) (l.2.2 (x3 + 3).toNatClampNeg)).2.1) (G' := (v_156 I F (l.2.2 (x3 + 1).toNatClampNeg) (l.2.2 (x3 + 2).toNatClampNeg) (l.2.2 (x3 + 3).toNatClampNeg)).2.2) h (fun _ _ _ => rfl) (fun c k y => (hi_156 y).1) (fun _ _ _ => rfl) (fun c k y => (hi_156 y).2)) (l.2.2 (x3 + 1).toNatClampNeg) (l.2.2 (x3 + 2).toNatClampNeg) (l.2.2 (x3 + 3).toNatClampNeg)
  have h3 := T2_cg (I' := (v_267 (v_156 I F (l.2.2 (x3 + 1).toNatClampNeg) (l.2.2 (x3 + 2).toNatClampNeg) (l.2.2 (x3 + 3).toNatClampNeg)).2.1 (v_156 I F (l.2.2 (x3 + 1).toNatClampNeg) (l.2.2 (x3 + 2).toNatClampNeg) (l.2.2 (x3 + 3).toNatClampNeg)).2.2 (l.2.2 (x3 + 1).toNatClampNeg) (l.2.2 (x3 + 2).toNatClampNeg) (l.2.2 (x3 + 3).toNatClampNeg)).2.1) (F' := (v_267 (v_156 I F (l.2.2 (x3 + 1).toNatClampNeg) (l.2.2 (x3 + 2).toNatClampNeg) (l.2.2 (x3 + 3).toNatClampNeg)).2.1 (v_156 I F (l.2.2 (x3 + 1).toNatClampNeg) (l.2.2 (x3 + 2).toNatClampNeg) (l.2.2 (x3 + 3).toNatClampNeg)).2.2 (l.2.2 (x3 + 1).toNatClampNeg) (l.2.2 (x3 + 2).toNatClampNeg) (l.2.2 (x3 + 3).toNatClampNeg)).2.2) h2 (fun c k y => frI_v_267 (by omega) (by omega) (by omega) (by omega) (by omega) (by omega)) (fun _ _ _ => rfl) (fun c k y => frF_v_267 (by omega) (by omega) (by omega) (by omega) (by omega) (by omega)) (fun _ _ _ => rfl)
  refine ⟨?_, ?_⟩
  · unfold gw_33
    dsimp only [bx]
    exact ⟨q1, q2, q3, g1, q1, q2, q3, g2, fun w => absurd (e) w⟩
  · unfold u_33
    dsimp only [bx]
    rw [if_pos e]
    exact h3
theorem cs_34 (h : T2 I I F F L t) (q1 : vp_in (x3 + 1) l.2.1) (q2 : vp_in (x3 + 2) l.2.1) (q3 : vp_in (x3 + 3) l.2.1) : gw_34 l I F L t x3 ∧ T2 (u_34 l I F L t x3).1 (u_34 l I F L t x3).1 (u_34 l I F L t x3).2.1 (u_34 l I F L t x3).2.1 (u_34 l I F L t x3).2.2.1 (u_34 l I F L t x3).2.2.2 := by
  obtain ⟨g1, g2, e, h2⟩ := tt_34 (T2_cg (J' := (v_157 I F (l.2.2 (x3 + 1).toNatClampNeg) (l.2.2 (x3 + 2).toNatClampNeg) (l.2.2 (x3 + 3).toNatClampNeg)).2.1) (G' := (v_157 I F (l.2.2 (x3 + 1).toNatClampNeg) (l.2.2 (x3 + 2).toNatClampNeg) (l.2.2 (x3 + 3).toNatClampNeg)).2.2) h (fun _ _ _ => rfl) (fun c k y => (hi_157 y).1) (fun _ _ _ => rfl) (fun c k y => (hi_157 y).2)) (l.2.2 (x3 + 1).toNatClampNeg) (l.2.2 (x3 + 2).toNatClampNeg) (l.2.2 (x3 + 3).toNatClampNeg)
  have h3 := T2_cg (I' := (v_271 (v_157 I F (l.2.2 (x3 + 1).toNatClampNeg) (l.2.2 (x3 + 2).toNatClampNeg) (l.2.2 (x3 + 3).toNatClampNeg)).2.1 (v_157 I F (l.2.2 (x3 + 1).toNatClampNeg) (l.2.2 (x3 + 2).toNatClampNeg) (l.2.2 (x3 + 3).toNatClampNeg)).2.2 (l.2.2 (x3 + 1).toNatClampNeg) (l.2.2 (x3 + 2).toNatClampNeg) (l.2.2 (x3 + 3).toNatClampNeg)).2.1) (F' := (v_271 (v_157 I F (l.2.2 (x3 + 1).toNatClampNeg) (l.2.2 (x3 + 2).toNatClampNeg) (l.2.2 (x3 + 3).toNatClampNeg)).2.1 (v_157 I F (l.2.2 (x3 + 1).toNatClampNeg) (l.2.2 (x3 + 2).toNatClampNeg) (l.2.2 (x3 + 3).toNatClampNeg)).2.2 (l.2.2 (x3 + 1).toNatClampNeg) (l.2.2 (x3 + 2).toNatClampNeg) (l.2.2 (x3 + 3).toNatClampNeg)).2.2) h2 (fun c k y => frI_v_271 (by omega) (by omega) (by omega)) (fun _ _ _ => rfl) (fun c k y => frF_v_271 (by omega) (by omega) (by omega)) (fun _ _ _ => rfl)
  refine ⟨?_, ?_⟩
  · unfold gw_34
    dsimp only [bx]
    exact ⟨q1, q2, q3, g1, q1, q2, q3, g2, fun w => absurd (e) w⟩
  · unfold u_34
    dsimp only [bx]
    rw [if_pos e]
    exact h3
theorem cs_35 (h : T2 I I F F L t) (q1 : vp_in (x3 + 1) l.2.1) (q2 : vp_in (x3 + 2) l.2.1) : gw_35 l I F L t x3 ∧ T2 (u_35 l I F L t x3).1 (u_35 l I F L t x3).1 (u_35 l I F L t x3).2.1 (u_35 l I F L t x3).2.1 (u_35 l I F L t x3).2.2.1 (u_35 l I F L t x3).2.2.2 := by
  obtain ⟨g1, g2, e, h2⟩ := tt_35 (T2_cg (J' := I) (G' := (v_159 I F (l.2.2 (x3 + 1).toNatClampNeg) (l.2.2 (x3 + 2).toNatClampNeg)).2) h (fun _ _ _ => rfl) (fun _ _ _ => rfl) (fun _ _ _ => rfl) (fun c k y => hi_159 y)) (l.2.2 (x3 + 1).toNatClampNeg) (l.2.2 (x3 + 2).toNatClampNeg)
  have h3 := T2_cg (I' := (v_273 I (l.2.2 (x3 + 1).toNatClampNeg) (l.2.2 (x3 + 2).toNatClampNeg)).2) (F' := (v_159 I F (l.2.2 (x3 + 1).toNatClampNeg) (l.2.2 (x3 + 2).toNatClampNeg)).2) h2 (fun c k y => frI_v_273 (by omega)) (fun _ _ _ => rfl) (fun _ _ _ => rfl) (fun _ _ _ => rfl)
  refine ⟨?_, ?_⟩
  · unfold gw_35
    dsimp only [bx]
    exact ⟨q1, q2, g1, q1, q2, g2, fun w => absurd (e) w⟩
  · unfold u_35
    dsimp only [bx]
    rw [if_pos e]
    exact h3
theorem cs_36 (h : T2 I I F F L t) (q1 : vp_in (x3 + 1) l.2.1) (q2 : vp_in (x3 + 2) l.2.1) : gw_36 l I F L t x3 ∧ T2 (u_36 l I F L t x3).1 (u_36 l I F L t x3).1 (u_36 l I F L t x3).2.1 (u_36 l I F L t x3).2.1 (u_36 l I F L t x3).2.2.1 (u_36 l I F L t x3).2.2.2 := by
  have h0 := h
  obtain ⟨S, nv, nc, tc, r, hw, h9, h3, hq, hh, hk, ht⟩ := h
  obtain ⟨g1, g2, e⟩ := op_item hh (l.2.2 (x3 + 1).toNatClampNeg) (l.2.2 (x3 + 2).toNatClampNeg)
  refine ⟨?_, ?_⟩
  · unfold gw_36
    exact ⟨q1, q2, g1, q1, q2, g2, fun w => absurd e w⟩
  · unfold u_36
    rw [if_pos e]
    exact h0
theorem cs_37 (h : T2 I I F F L t) (q1 : vp_in (x3 + 1) l.2.1) (q2 : vp_in (x3 + 2) l.2.1) (q3 : vp_in (x3 + 3) l.2.1) (q4 : vp_in (x3 + 4) l.2.1) (q5 : vp_in (x3 + 5) l.2.1) : gw_37 l I F L t x3 ∧ T2 (u_37 l I F L t x3).1 (u_37 l I F L t x3).1 (u_37 l I F L t x3).2.1 (u_37 l I F L t x3).2.1 (u_37 l I F L t x3).2.2.1 (u_37 l I F L t x3).2.2.2 := by
  obtain ⟨g1, g2, e, h2⟩ := tt_37 (T2_cg (J' := (v_161 I F (l.2.2 (x3 + 1).toNatClampNeg) (l.2.2 (x3 + 2).toNatClampNeg) (l.2.2 (x3 + 3).toNatClampNeg) (l.2.2 (x3 + 4).toNatClampNeg) (l.2.2 (x3 + 5).toNatClampNeg)).2.1) (G' := (v_161 I F (l.2.2 (x3 + 1).toNatClampNeg) (l.2.2 (x3 + 2).toNatClampNeg) (l.2.2 (x3 + 3).toNatClampNeg) (l.2.2 (x3 + 4).toNatClampNeg) (l.2.2 (x3 + 5).toNatClampNeg)).2.2) h (fun _ _ _ => rfl) (fun c k y => (hi_161 y).1) (fun _ _ _ => rfl) (fun c k y => (hi_161 y).2)) (l.2.2 (x3 + 1).toNatClampNeg) (l.2.2 (x3 + 2).toNatClampNeg) (l.2.2 (x3 + 3).toNatClampNeg) (l.2.2 (x3 + 4).toNatClampNeg) (l.2.2 (x3 + 5).toNatClampNeg)
  have h3 := T2_cg (I' := (v_275 (v_161 I F (l.2.2 (x3 + 1).toNatClampNeg) (l.2.2 (x3 + 2).toNatClampNeg) (l.2.2 (x3 + 3).toNatClampNeg) (l.2.2 (x3 + 4).toNatClampNeg) (l.2.2 (x3 + 5).toNatClampNeg)).2.1 (v_161 I F (l.2.2 (x3 + 1).toNatClampNeg) (l.2.2 (x3 + 2).toNatClampNeg) (l.2.2 (x3 + 3).toNatClampNeg) (l.2.2 (x3 + 4).toNatClampNeg) (l.2.2 (x3 + 5).toNatClampNeg)).2.2 (l.2.2 (x3 + 1).toNatClampNeg) (l.2.2 (x3 + 2).toNatClampNeg) (l.2.2 (x3 + 3).toNatClampNeg) (l.2.2 (x3 + 4).toNatClampNeg) (l.2.2 (x3 + 5).toNatClampNeg)).2.1) (F' := (v_275 (v_161 I F (l.2.2 (x3 + 1).toNatClampNeg) (l.2.2 (x3 + 2).toNatClampNeg) (l.2.2 (x3 + 3).toNatClampNeg) (l.2.2 (x3 + 4).toNatClampNeg) (l.2.2 (x3 + 5).toNatClampNeg)).2.1 (v_161 I F (l.2.2 (x3 + 1).toNatClampNeg) (l.2.2 (x3 + 2).toNatClampNeg) (l.2.2 (x3 + 3).toNatClampNeg) (l.2.2 (x3 + 4).toNatClampNeg) (l.2.2 (x3 + 5).toNatClampNeg)).2.2 (l.2.2 (x3 + 1).toNatClampNeg) (l.2.2 (x3 + 2).toNatClampNeg) (l.2.2 (x3 + 3).toNatClampNeg) (l.2.2 (x3 + 4).toNatClampNeg) (l.2.2 (x3 + 5).toNatClampNeg)).2.2) h2 (fun c k y => frI_v_275 (by omega) (by omega) (by omega)) (fun _ _ _ => rfl) (fun c k y => frF_v_275 (by omega) (by omega) (by omega)) (fun _ _ _ => rfl)
  refine ⟨?_, ?_⟩
  · unfold gw_37
    dsimp only [bx]
    exact ⟨q1, q2, q3, q4, q5, g1, q1, q2, q3, q4, q5, g2, fun w => absurd (e) w⟩
  · unfold u_37
    dsimp only [bx]
    rw [if_pos e]
    exact h3
theorem cs_38 (h : T2 I I F F L t) (q1 : vp_in (x3 + 1) l.2.1) (q2 : vp_in (x3 + 2) l.2.1) (q3 : vp_in (x3 + 3) l.2.1) : gw_38 l I F L t x3 ∧ T2 (u_38 l I F L t x3).1 (u_38 l I F L t x3).1 (u_38 l I F L t x3).2.1 (u_38 l I F L t x3).2.1 (u_38 l I F L t x3).2.2.1 (u_38 l I F L t x3).2.2.2 := by
  have h0 := h
  obtain ⟨S, nv, nc, tc, r, hw, h9, h3, hq, hh, hk, ht⟩ := h
  obtain ⟨g1, g2, e⟩ := op_rest hh (l.2.2 (x3 + 1).toNatClampNeg) (l.2.2 (x3 + 2).toNatClampNeg) (l.2.2 (x3 + 3).toNatClampNeg)
  refine ⟨?_, ?_⟩
  · unfold gw_38
    exact ⟨q1, q2, q3, g1, q1, q2, q3, g2, fun w => absurd e w⟩
  · unfold u_38
    rw [if_pos e]
    exact h0
theorem cs_39 (h : T2 I I F F L t) (q1 : vp_in (x3 + 1) l.2.1) (q2 : vp_in (x3 + 2) l.2.1) (q3 : vp_in (x3 + 3) l.2.1) (q4 : vp_in (x3 + 4) l.2.1) : gw_39 l I F L t x3 ∧ T2 (u_39 l I F L t x3).1 (u_39 l I F L t x3).1 (u_39 l I F L t x3).2.1 (u_39 l I F L t x3).2.1 (u_39 l I F L t x3).2.2.1 (u_39 l I F L t x3).2.2.2 := by
  obtain ⟨g1, g2, e, h2⟩ := tt_39 (T2_cg (J' := (v_163 I F (l.2.2 (x3 + 1).toNatClampNeg) (l.2.2 (x3 + 2).toNatClampNeg) (l.2.2 (x3 + 3).toNatClampNeg) (l.2.2 (x3 + 4).toNatClampNeg)).2) (G' := F) h (fun _ _ _ => rfl) (fun c k y => frI_v_163 (by omega) (by omega) (by omega) (by omega) (by omega) (by omega)) (fun _ _ _ => rfl) (fun _ _ _ => rfl)) (l.2.2 (x3 + 1).toNatClampNeg) (l.2.2 (x3 + 2).toNatClampNeg) (l.2.2 (x3 + 3).toNatClampNeg) (l.2.2 (x3 + 4).toNatClampNeg)
  have h3 := T2_cg (I' := (v_277 (v_163 I F (l.2.2 (x3 + 1).toNatClampNeg) (l.2.2 (x3 + 2).toNatClampNeg) (l.2.2 (x3 + 3).toNatClampNeg) (l.2.2 (x3 + 4).toNatClampNeg)).2 F (l.2.2 (x3 + 1).toNatClampNeg) (l.2.2 (x3 + 2).toNatClampNeg) (l.2.2 (x3 + 3).toNatClampNeg) (l.2.2 (x3 + 4).toNatClampNeg)).2) (F' := F) h2 (fun c k y => frI_v_277 (by omega) (by omega) (by omega) (by omega) (by omega) (by omega) (by omega) (by omega)) (fun _ _ _ => rfl) (fun _ _ _ => rfl) (fun _ _ _ => rfl)
  refine ⟨?_, ?_⟩
  · unfold gw_39
    dsimp only [bx]
    exact ⟨q1, q2, q3, q4, g1, q1, q2, q3, q4, g2, fun w => absurd (e) w⟩
  · unfold u_39
    dsimp only [bx]
    rw [if_pos e]
    exact h3
theorem cs_40 (h : T2 I I F F L t) (q1 : vp_in (x3 + 1) l.2.1) (q2 : vp_in (x3 + 2) l.2.1) : gw_40 l I F L t x3 ∧ T2 (u_40 l I F L t x3).1 (u_40 l I F L t x3).1 (u_40 l I F L t x3).2.1 (u_40 l I F L t x3).2.1 (u_40 l I F L t x3).2.2.1 (u_40 l I F L t x3).2.2.2 := by
  obtain ⟨g1, g2, e, h2⟩ := tt_40 (T2_cg (J' := (v_164 I F (l.2.2 (x3 + 1).toNatClampNeg) (l.2.2 (x3 + 2).toNatClampNeg)).2) (G' := F) h (fun _ _ _ => rfl) (fun c k y => frI_v_164 (by omega) (by omega) (by omega) (by omega)) (fun _ _ _ => rfl) (fun _ _ _ => rfl)) (l.2.2 (x3 + 1).toNatClampNeg) (l.2.2 (x3 + 2).toNatClampNeg)
  have h3 := T2_cg (I' := (v_278 (v_164 I F (l.2.2 (x3 + 1).toNatClampNeg) (l.2.2 (x3 + 2).toNatClampNeg)).2 F L (l.2.2 (x3 + 1).toNatClampNeg) (l.2.2 (x3 + 2).toNatClampNeg)).2.1) (F' := F) h2 (fun c k y => frI_v_278 (by omega) (by omega) (by omega) (by omega)) (fun _ _ _ => rfl) (fun _ _ _ => rfl) (fun _ _ _ => rfl)
  refine ⟨?_, ?_⟩
  · unfold gw_40
    dsimp only [bx]
    exact ⟨q1, q2, g1, q1, q2, g2, fun w => absurd (e) w⟩
  · unfold u_40
    dsimp only [bx]
    rw [if_pos e]
    exact h3
theorem cs_41 (h : T2 I I F F L t) (q1 : vp_in (x3 + 1) l.2.1) (q2 : vp_in (x3 + 2) l.2.1) (q3 : vp_in (x3 + 3) l.2.1) : gw_41 l I F L t x3 ∧ T2 (u_41 l I F L t x3).1 (u_41 l I F L t x3).1 (u_41 l I F L t x3).2.1 (u_41 l I F L t x3).2.1 (u_41 l I F L t x3).2.2.1 (u_41 l I F L t x3).2.2.2 := by
  obtain ⟨g1, g2, e, h2⟩ := tt_41 (T2_cg (J' := (v_165 I F (l.2.2 (x3 + 1).toNatClampNeg) (l.2.2 (x3 + 2).toNatClampNeg) (l.2.2 (x3 + 3).toNatClampNeg)).2.1) (G' := (v_165 I F (l.2.2 (x3 + 1).toNatClampNeg) (l.2.2 (x3 + 2).toNatClampNeg) (l.2.2 (x3 + 3).toNatClampNeg)).2.2) h (fun _ _ _ => rfl) (fun c k y => (hi_165 y).1) (fun _ _ _ => rfl) (fun c k y => (hi_165 y).2)) (l.2.2 (x3 + 1).toNatClampNeg) (l.2.2 (x3 + 2).toNatClampNeg) (l.2.2 (x3 + 3).toNatClampNeg)
  have h3 := T2_cg (I' := (v_279 (v_165 I F (l.2.2 (x3 + 1).toNatClampNeg) (l.2.2 (x3 + 2).toNatClampNeg) (l.2.2 (x3 + 3).toNatClampNeg)).2.1 (l.2.2 (x3 + 1).toNatClampNeg) (l.2.2 (x3 + 2).toNatClampNeg) (l.2.2 (x3 + 3).toNatClampNeg)).2) (F' := (v_165 I F (l.2.2 (x3 + 1).toNatClampNeg) (l.2.2 (x3 + 2).toNatClampNeg) (l.2.2 (x3 + 3).toNatClampNeg)).2.2) h2 (fun c k y => frI_v_279 (by omega)) (fun _ _ _ => rfl) (fun _ _ _ => rfl) (fun _ _ _ => rfl)
  refine ⟨?_, ?_⟩
  · unfold gw_41
    dsimp only [bx]
    exact ⟨q1, q2, q3, g1, q1, q2, q3, g2, fun w => absurd (e) w⟩
  · unfold u_41
    dsimp only [bx]
    rw [if_pos e]
    exact h3
theorem cs_42 (h : T2 I I F F L t) (q1 : vp_in (x3 + 1) l.2.1) : gw_42 l I F L t x3 ∧ T2 (u_42 l I F L t x3).1 (u_42 l I F L t x3).1 (u_42 l I F L t x3).2.1 (u_42 l I F L t x3).2.1 (u_42 l I F L t x3).2.2.1 (u_42 l I F L t x3).2.2.2 := by
  have h0 := h
  obtain ⟨S, nv, nc, tc, r, hw, h9, h3, hq, hh, hk, ht⟩ := h
  obtain ⟨g1, g2, e⟩ := op_taken hw.1 (l.2.2 (x3 + 1).toNatClampNeg)
  refine ⟨?_, ?_⟩
  · unfold gw_42
    exact ⟨q1, g1, q1, g2, fun w => absurd e w⟩
  · unfold u_42
    rw [if_pos e]
    exact h0
end
