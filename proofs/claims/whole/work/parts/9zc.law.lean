section
variable {l : LX} {x3 : Int32} {t c k : Nat} {I J : WI} {L : WL} {F G : WF}
/-! each case of the law -/
theorem hi_156 {x1 x2 x3 : Int32} (h : 74 ≤ c) : (v_156 I F x1 x2 x3).2.1 c k = I c k ∧ (v_156 I F x1 x2 x3).2.2 c k = F c k := by
  rcases sh4 x1 with ⟨e, -, s, hs, rfl⟩ | ⟨e, -⟩
  · have es : (nI s).toNatClampNeg = s := cl (by omega)
    exact ⟨frI_v_156 (by omega) (by omega) (by omega) (by omega), frF_v_156 (by omega) (by omega) (by omega) (by omega)⟩
  · unfold v_156
    rw [if_pos e]
    exact ⟨rfl, rfl⟩
theorem hi_152 {x1 x2 : Int32} (h : 74 ≤ c) : (v_152 I F x1 x2).2.1 c k = I c k ∧ (v_152 I F x1 x2).2.2 c k = F c k := by
  rcases sh4 x1 with ⟨e, -, s, hs, rfl⟩ | ⟨e, -⟩
  · have es : (nI s).toNatClampNeg = s := cl (by omega)
    exact ⟨frI_v_152 (by omega) (by omega) (by omega) (by omega) (by omega) (by omega) (by omega) (by omega) (by omega) (by omega) (by omega) (by omega) (by omega) (by omega) (by omega) (by omega) (by omega), frF_v_152 (by omega) (by omega) (by omega) (by omega) (by omega) (by omega) (by omega) (by omega) (by omega) (by omega) (by omega) (by omega) (by omega) (by omega) (by omega) (by omega) (by omega)⟩
  · unfold v_152
    rw [if_pos e]
    exact ⟨rfl, rfl⟩
theorem hi_165 {x1 x2 x3 : Int32} (h : 74 ≤ c) : (v_165 I F x1 x2 x3).2.1 c k = I c k ∧ (v_165 I F x1 x2 x3).2.2 c k = F c k := by
  rcases sh4 x2 with ⟨e, -, s, hs, rfl⟩ | ⟨e, -⟩
  · have es : (nI s).toNatClampNeg = s := cl (by omega)
    exact ⟨frI_v_165 (by omega) (by omega) (by omega), frF_v_165 (by omega) (by omega) (by omega)⟩
  · unfold v_165
    rw [if_pos e]
    exact ⟨rfl, rfl⟩
theorem hi_161 {x1 x2 x3 x4 x5 : Int32} (h : 74 ≤ c) : (v_161 I F x1 x2 x3 x4 x5).2.1 c k = I c k ∧ (v_161 I F x1 x2 x3 x4 x5).2.2 c k = F c k := by
  rcases sh4 x3 with ⟨e, -, s, hs, rfl⟩ | ⟨e, -⟩
  · have es : (nI s).toNatClampNeg = s := cl (by omega)
    exact ⟨frI_v_161 (by omega) (by omega) (by omega), frF_v_161 (by omega) (by omega) (by omega)⟩
  · unfold v_161
    by_cases z : v_146 x1 = 0
    · rw [if_pos z]
      exact ⟨rfl, rfl⟩
    · rw [if_neg z, if_neg (nn e)]
      exact ⟨rfl, rfl⟩
theorem hi_157 {x1 x2 x3 : Int32} (h : 74 ≤ c) : (v_157 I F x1 x2 x3).2.1 c k = I c k ∧ (v_157 I F x1 x2 x3).2.2 c k = F c k := by
  rcases sh4 x1 with ⟨e, -, s, hs, rfl⟩ | ⟨e, -⟩
  · have es : (nI s).toNatClampNeg = s := cl (by omega)
    exact ⟨frI_v_157 (by omega) (by omega) (by omega), frF_v_157 (by omega) (by omega) (by omega)⟩
  · unfold v_157
    rw [v158_n e, if_neg (show ¬ (-2 : Int32) = 0 by decide)]
    exact ⟨rfl, rfl⟩
theorem hi_159 {x1 x2 : Int32} (h : 74 ≤ c) : (v_159 I F x1 x2).2 c k = F c k := by
  rcases sh4 x1 with ⟨e, -, s, hs, rfl⟩ | ⟨e, -⟩
  · have es : (nI s).toNatClampNeg = s := cl (by omega)
    exact frF_v_159 (by omega)
  · unfold v_159
    rw [v158_n e, if_neg (show ¬ (-2 : Int32) = 0 by decide)]
theorem cs_0 (h : T2 I I F F L t) (q1 : vp_in (x3 + 1) l.2.1) (q2 : vp_in (x3 + 2) l.2.1) (q3 : vp_in (x3 + 3) l.2.1) : gw_0 l I F L t x3 ∧ T2 (u_0 l I F L t x3).1 (u_0 l I F L t x3).1 (u_0 l I F L t x3).2.1 (u_0 l I F L t x3).2.1 (u_0 l I F L t x3).2.2.1 (u_0 l I F L t x3).2.2.2 := by
  obtain ⟨g1, g2, e, h2⟩ := tt_0 (T2_cg (J' := (v_105 I (l.2.2 (x3 + 1).toNatClampNeg) (l.2.2 (x3 + 2).toNatClampNeg) (l.2.2 (x3 + 3).toNatClampNeg)).2) (G' := F) h (fun _ _ _ => rfl) (fun c k y => frI_v_105 (by omega) (by omega) (by omega) (by omega)) (fun _ _ _ => rfl) (fun _ _ _ => rfl)) (l.2.2 (x3 + 1).toNatClampNeg) (l.2.2 (x3 + 2).toNatClampNeg) (l.2.2 (x3 + 3).toNatClampNeg)
  have h3 := T2_cg (I' := (v_172 (v_105 I (l.2.2 (x3 + 1).toNatClampNeg) (l.2.2 (x3 + 2).toNatClampNeg) (l.2.2 (x3 + 3).toNatClampNeg)).2 (l.2.2 (x3 + 1).toNatClampNeg) (l.2.2 (x3 + 2).toNatClampNeg) (l.2.2 (x3 + 3).toNatClampNeg)).2) (F' := F) h2 (fun c k y => frI_v_172 (by omega) (by omega) (by omega)) (fun _ _ _ => rfl) (fun _ _ _ => rfl) (fun _ _ _ => rfl)
  refine ⟨?_, ?_⟩
  · unfold gw_0
    dsimp only [bx]
    exact ⟨q1, q2, q3, g1, q1, q2, q3, g2, fun w => absurd (e) w⟩
  · unfold u_0
    dsimp only [bx]
    rw [if_pos e]
    exact h3
theorem cs_1 (h : T2 I I F F L t) (q1 : vp_in (x3 + 1) l.2.1) (q2 : vp_in (x3 + 2) l.2.1) (q3 : vp_in (x3 + 3) l.2.1) (q4 : vp_in (x3 + 4) l.2.1) : gw_1 l I F L t x3 ∧ T2 (u_1 l I F L t x3).1 (u_1 l I F L t x3).1 (u_1 l I F L t x3).2.1 (u_1 l I F L t x3).2.1 (u_1 l I F L t x3).2.2.1 (u_1 l I F L t x3).2.2.2 := by
  obtain ⟨g1, g2, e, h2⟩ := tt_1 (T2_cg (J' := (v_108 I (l.2.2 (x3 + 1).toNatClampNeg) (l.2.2 (x3 + 2).toNatClampNeg) (l.2.2 (x3 + 3).toNatClampNeg) (l.2.2 (x3 + 4).toNatClampNeg)).2) (G' := F) h (fun _ _ _ => rfl) (fun c k y => frI_v_108 (by omega) (by omega) (by omega) (by omega) (by omega) (by omega)) (fun _ _ _ => rfl) (fun _ _ _ => rfl)) (l.2.2 (x3 + 1).toNatClampNeg) (l.2.2 (x3 + 2).toNatClampNeg) (l.2.2 (x3 + 3).toNatClampNeg) (l.2.2 (x3 + 4).toNatClampNeg)
  have h3 := T2_cg (I' := (v_174 (v_108 I (l.2.2 (x3 + 1).toNatClampNeg) (l.2.2 (x3 + 2).toNatClampNeg) (l.2.2 (x3 + 3).toNatClampNeg) (l.2.2 (x3 + 4).toNatClampNeg)).2 (l.2.2 (x3 + 1).toNatClampNeg) (l.2.2 (x3 + 2).toNatClampNeg) (l.2.2 (x3 + 3).toNatClampNeg) (l.2.2 (x3 + 4).toNatClampNeg)).2) (F' := F) h2 (fun c k y => frI_v_174 (by omega) (by omega) (by omega) (by omega) (by omega) (by omega) (by omega) (by omega)) (fun _ _ _ => rfl) (fun _ _ _ => rfl) (fun _ _ _ => rfl)
  refine ⟨?_, ?_⟩
  · unfold gw_1
    dsimp only [bx]
    exact ⟨q1, q2, q3, q4, g1, q1, q2, q3, q4, g2, fun w => absurd (e) w⟩
  · unfold u_1
    dsimp only [bx]
    rw [if_pos e]
    exact h3
theorem cs_2 (h : T2 I I F F L t) (q1 : vp_in (x3 + 1) l.2.1) (q2 : vp_in (x3 + 2) l.2.1) (q3 : vp_in (x3 + 3) l.2.1) (q4 : vp_in (x3 + 4) l.2.1) : gw_2 l I F L t x3 ∧ T2 (u_2 l I F L t x3).1 (u_2 l I F L t x3).1 (u_2 l I F L t x3).2.1 (u_2 l I F L t x3).2.1 (u_2 l I F L t x3).2.2.1 (u_2 l I F L t x3).2.2.2 := by
  obtain ⟨g1, g2, e, h2⟩ := tt_2 (T2_cg (J' := (v_109 I (l.2.2 (x3 + 1).toNatClampNeg) (l.2.2 (x3 + 2).toNatClampNeg) (l.2.2 (x3 + 3).toNatClampNeg) (l.2.2 (x3 + 4).toNatClampNeg)).2) (G' := F) h (fun _ _ _ => rfl) (fun c k y => frI_v_109 (by omega) (by omega) (by omega) (by omega)) (fun _ _ _ => rfl) (fun _ _ _ => rfl)) (l.2.2 (x3 + 1).toNatClampNeg) (l.2.2 (x3 + 2).toNatClampNeg) (l.2.2 (x3 + 3).toNatClampNeg) (l.2.2 (x3 + 4).toNatClampNeg)
  have h3 := T2_cg (I' := (v_178 (v_109 I (l.2.2 (x3 + 1).toNatClampNeg) (l.2.2 (x3 + 2).toNatClampNeg) (l.2.2 (x3 + 3).toNatClampNeg) (l.2.2 (x3 + 4).toNatClampNeg)).2 (l.2.2 (x3 + 1).toNatClampNeg) (l.2.2 (x3 + 2).toNatClampNeg) (l.2.2 (x3 + 3).toNatClampNeg) (l.2.2 (x3 + 4).toNatClampNeg)).2) (F' := F) h2 (fun c k y => frI_v_178 (by omega) (by omega) (by omega) (by omega) (by omega)) (fun _ _ _ => rfl) (fun _ _ _ => rfl) (fun _ _ _ => rfl)
  refine ⟨?_, ?_⟩
  · unfold gw_2
    dsimp only [bx]
    exact ⟨q1, q2, q3, q4, g1, q1, q2, q3, q4, g2, fun w => absurd (e) w⟩
  · unfold u_2
    dsimp only [bx]
    rw [if_pos e]
    exact h3
theorem cs_3 (h : T2 I I F F L t) (q1 : vp_in (x3 + 1) l.2.1) (q2 : vp_in (x3 + 2) l.2.1) : gw_3 l I F L t x3 ∧ T2 (u_3 l I F L t x3).1 (u_3 l I F L t x3).1 (u_3 l I F L t x3).2.1 (u_3 l I F L t x3).2.1 (u_3 l I F L t x3).2.2.1 (u_3 l I F L t x3).2.2.2 := by
  obtain ⟨g1, g2, e, h2⟩ := tt_3 (T2_cg (J' := (v_112 I (l.2.2 (x3 + 1).toNatClampNeg) (l.2.2 (x3 + 2).toNatClampNeg)).2) (G' := F) h (fun _ _ _ => rfl) (fun c k y => frI_v_112 (by omega)) (fun _ _ _ => rfl) (fun _ _ _ => rfl)) (l.2.2 (x3 + 1).toNatClampNeg) (l.2.2 (x3 + 2).toNatClampNeg)
  have h3 := T2_cg (I' := (v_181 (v_112 I (l.2.2 (x3 + 1).toNatClampNeg) (l.2.2 (x3 + 2).toNatClampNeg)).2 (l.2.2 (x3 + 1).toNatClampNeg) (l.2.2 (x3 + 2).toNatClampNeg)).2) (F' := F) h2 (fun c k y => frI_v_181 (by omega)) (fun _ _ _ => rfl) (fun _ _ _ => rfl) (fun _ _ _ => rfl)
  refine ⟨?_, ?_⟩
  · unfold gw_3
    dsimp only [bx]
    exact ⟨q1, q2, g1, q1, q2, g2, fun w => absurd (e) w⟩
  · unfold u_3
    dsimp only [bx]
    rw [if_pos e]
    exact h3
theorem cs_4 (h : T2 I I F F L t) (q1 : vp_in (x3 + 1) l.2.1) (q2 : vp_in (x3 + 2) l.2.1) : gw_4 l I F L t x3 ∧ T2 (u_4 l I F L t x3).1 (u_4 l I F L t x3).1 (u_4 l I F L t x3).2.1 (u_4 l I F L t x3).2.1 (u_4 l I F L t x3).2.2.1 (u_4 l I F L t x3).2.2.2 := by
  obtain ⟨g1, g2, e, h2⟩ := tt_4 (T2_cg (J' := (v_113 I (l.2.2 (x3 + 1).toNatClampNeg) (l.2.2 (x3 + 2).toNatClampNeg)).2) (G' := F) h (fun _ _ _ => rfl) (fun c k y => frI_v_113 (by omega) (by omega) (by omega)) (fun _ _ _ => rfl) (fun _ _ _ => rfl)) (l.2.2 (x3 + 1).toNatClampNeg) (l.2.2 (x3 + 2).toNatClampNeg)
  have h3 := T2_cg (I' := (v_210 (v_113 I (l.2.2 (x3 + 1).toNatClampNeg) (l.2.2 (x3 + 2).toNatClampNeg)).2 L (l.2.2 (x3 + 1).toNatClampNeg) (l.2.2 (x3 + 2).toNatClampNeg)).2.1) (F' := F) h2 (fun c k y => frI_v_210 (by omega) (by omega) (by omega)) (fun _ _ _ => rfl) (fun _ _ _ => rfl) (fun _ _ _ => rfl)
  refine ⟨?_, ?_⟩
  · unfold gw_4
    dsimp only [bx]
    exact ⟨q1, q2, g1, q1, q2, g2, fun w => absurd (e) w⟩
  · unfold u_4
    dsimp only [bx]
    rw [if_pos e]
    exact h3
theorem cs_5 (h : T2 I I F F L t) (q1 : vp_in (x3 + 1) l.2.1) (q2 : vp_in (x3 + 2) l.2.1) : gw_5 l I F L t x3 ∧ T2 (u_5 l I F L t x3).1 (u_5 l I F L t x3).1 (u_5 l I F L t x3).2.1 (u_5 l I F L t x3).2.1 (u_5 l I F L t x3).2.2.1 (u_5 l I F L t x3).2.2.2 := by
  have h0 := h
  obtain ⟨S, nv, nc, tc, r, hw, h9, h3, hq, hh, hk, ht⟩ := h
  obtain ⟨g1, g2, e⟩ := op_holds hw.1 (l.2.2 (x3 + 1).toNatClampNeg) (l.2.2 (x3 + 2).toNatClampNeg)
  refine ⟨?_, ?_⟩
  · unfold gw_5
    exact ⟨q1, q2, g1, q1, q2, g2, fun w => absurd e w⟩
  · unfold u_5
    rw [if_pos e]
    exact h0
theorem cs_6 (h : T2 I I F F L t) (q1 : vp_in (x3 + 1) l.2.1) (q2 : vp_in (x3 + 2) l.2.1) : gw_6 l I F L t x3 ∧ T2 (u_6 l I F L t x3).1 (u_6 l I F L t x3).1 (u_6 l I F L t x3).2.1 (u_6 l I F L t x3).2.1 (u_6 l I F L t x3).2.2.1 (u_6 l I F L t x3).2.2.2 := by
  obtain ⟨g1, g2, e, h2⟩ := tt_6 (T2_cg (J' := (v_117 I (l.2.2 (x3 + 1).toNatClampNeg) (l.2.2 (x3 + 2).toNatClampNeg)).2) (G' := F) h (fun _ _ _ => rfl) (fun c k y => frI_v_117 (by omega) (by omega) (by omega)) (fun _ _ _ => rfl) (fun _ _ _ => rfl)) (l.2.2 (x3 + 1).toNatClampNeg) (l.2.2 (x3 + 2).toNatClampNeg)
  have h3 := T2_cg (I' := (v_169 (v_117 I (l.2.2 (x3 + 1).toNatClampNeg) (l.2.2 (x3 + 2).toNatClampNeg)).2 (l.2.2 (x3 + 1).toNatClampNeg) (l.2.2 (x3 + 2).toNatClampNeg)).2) (F' := F) h2 (fun c k y => frI_v_169 (by omega)) (fun _ _ _ => rfl) (fun _ _ _ => rfl) (fun _ _ _ => rfl)
  refine ⟨?_, ?_⟩
  · unfold gw_6
    dsimp only [bx]
    exact ⟨q1, q2, g1, q1, q2, g2, fun w => absurd (e) w⟩
  · unfold u_6
    dsimp only [bx]
    rw [if_pos e]
    exact h3
theorem cs_7 (h : T2 I I F F L t) (q1 : vp_in (x3 + 1) l.2.1) (q2 : vp_in (x3 + 2) l.2.1) (q3 : vp_in (x3 + 3) l.2.1) : gw_7 l I F L t x3 ∧ T2 (u_7 l I F L t x3).1 (u_7 l I F L t x3).1 (u_7 l I F L t x3).2.1 (u_7 l I F L t x3).2.1 (u_7 l I F L t x3).2.2.1 (u_7 l I F L t x3).2.2.2 := by
  obtain ⟨g1, g2, e, h2⟩ := tt_7 (T2_cg (J' := (v_119 I (l.2.2 (x3 + 1).toNatClampNeg) (l.2.2 (x3 + 2).toNatClampNeg) (l.2.2 (x3 + 3).toNatClampNeg)).2) (G' := F) h (fun _ _ _ => rfl) (fun c k y => frI_v_119 (by omega) (by omega) (by omega) (by omega)) (fun _ _ _ => rfl) (fun _ _ _ => rfl)) (l.2.2 (x3 + 1).toNatClampNeg) (l.2.2 (x3 + 2).toNatClampNeg) (l.2.2 (x3 + 3).toNatClampNeg)
  have h3 := T2_cg (I' := (v_227 (v_119 I (l.2.2 (x3 + 1).toNatClampNeg) (l.2.2 (x3 + 2).toNatClampNeg) (l.2.2 (x3 + 3).toNatClampNeg)).2 L (l.2.2 (x3 + 1).toNatClampNeg) (l.2.2 (x3 + 2).toNatClampNeg) (l.2.2 (x3 + 3).toNatClampNeg)).2.1) (F' := F) h2 (fun c k y => frI_v_227 (by omega) (by omega) (by omega) (by omega)) (fun _ _ _ => rfl) (fun _ _ _ => rfl) (fun _ _ _ => rfl)
  refine ⟨?_, ?_⟩
  · unfold gw_7
    dsimp only [bx]
    exact ⟨q1, q2, q3, g1, q1, q2, q3, g2, fun w => absurd (e) w⟩
  · unfold u_7
    dsimp only [bx]
    rw [if_pos e]
    exact h3
theorem cs_8 (h : T2 I I F F L t) (q1 : vp_in (x3 + 1) l.2.1) (q2 : vp_in (x3 + 2) l.2.1) : gw_8 l I F L t x3 ∧ T2 (u_8 l I F L t x3).1 (u_8 l I F L t x3).1 (u_8 l I F L t x3).2.1 (u_8 l I F L t x3).2.1 (u_8 l I F L t x3).2.2.1 (u_8 l I F L t x3).2.2.2 := by
  have h0 := h
  obtain ⟨S, nv, nc, tc, r, hw, h9, h3, hq, hh, hk, ht⟩ := h
  obtain ⟨g1, g2, e⟩ := op_apart hw.1 (l.2.2 (x3 + 1).toNatClampNeg) (l.2.2 (x3 + 2).toNatClampNeg)
  refine ⟨?_, ?_⟩
  · unfold gw_8
    exact ⟨q1, q2, g1, q1, q2, g2, fun w => absurd e w⟩
  · unfold u_8
    rw [if_pos e]
    exact h0
theorem cs_9 (h : T2 I I F F L t) (q1 : vp_in (x3 + 1) l.2.1) : gw_9 l I F L t x3 ∧ T2 (u_9 l I F L t x3).1 (u_9 l I F L t x3).1 (u_9 l I F L t x3).2.1 (u_9 l I F L t x3).2.1 (u_9 l I F L t x3).2.2.1 (u_9 l I F L t x3).2.2.2 := by
  obtain ⟨g1, g2, e⟩ := op_high (l.2.2 (x3 + 1).toNatClampNeg)
  refine ⟨?_, ?_⟩
  · unfold gw_9
    exact ⟨q1, g1, q1, g2, fun w => absurd e w⟩
  · unfold u_9
    rw [if_pos e]
    exact h
theorem cs_10 (h : T2 I I F F L t) (q1 : vp_in (x3 + 1) l.2.1) : gw_10 l I F L t x3 ∧ T2 (u_10 l I F L t x3).1 (u_10 l I F L t x3).1 (u_10 l I F L t x3).2.1 (u_10 l I F L t x3).2.1 (u_10 l I F L t x3).2.2.1 (u_10 l I F L t x3).2.2.2 := by
  obtain ⟨g1, g2, e, h2⟩ := tt_10 (T2_cg (J' := (v_123 I (l.2.2 (x3 + 1).toNatClampNeg)).2) (G' := F) h (fun _ _ _ => rfl) (fun c k y => frI_v_123 (by omega) (by omega) (by omega)) (fun _ _ _ => rfl) (fun _ _ _ => rfl)) (l.2.2 (x3 + 1).toNatClampNeg)
  have h3 := T2_cg (I' := (v_229 (v_123 I (l.2.2 (x3 + 1).toNatClampNeg)).2 (l.2.2 (x3 + 1).toNatClampNeg)).2) (F' := F) h2 (fun c k y => frI_v_229 (by omega) (by omega) (by omega) (by omega)) (fun _ _ _ => rfl) (fun _ _ _ => rfl) (fun _ _ _ => rfl)
  refine ⟨?_, ?_⟩
  · unfold gw_10
    dsimp only [bx]
    exact ⟨q1, g1, q1, g2, fun w => absurd (e) w⟩
  · unfold u_10
    dsimp only [bx]
    rw [if_pos e]
    exact h3
theorem cs_11 (h : T2 I I F F L t) : gw_11 l I F L t x3 ∧ T2 (u_11 l I F L t x3).1 (u_11 l I F L t x3).1 (u_11 l I F L t x3).2.1 (u_11 l I F L t x3).2.1 (u_11 l I F L t x3).2.2.1 (u_11 l I F L t x3).2.2.2 := by
  obtain ⟨g1, g2, e, h2⟩ := tt_11 (T2_cg (J' := (v_124 I).2) (G' := F) h (fun _ _ _ => rfl) (fun c k y => frI_v_124 (by omega) (by omega) (by omega) (by omega)) (fun _ _ _ => rfl) (fun _ _ _ => rfl)) 
  have h3 := T2_cg (I' := (v_231 (v_124 I).2).2) (F' := F) h2 (fun c k y => frI_v_231 (by omega) (by omega) (by omega) (by omega) (by omega)) (fun _ _ _ => rfl) (fun _ _ _ => rfl) (fun _ _ _ => rfl)
  refine ⟨?_, ?_⟩
  · unfold gw_11
    dsimp only [bx]
    exact ⟨g1, g2, fun w => absurd (e) w⟩
  · unfold u_11
    dsimp only [bx]
    rw [if_pos e]
    exact h3
theorem cs_12 (h : T2 I I F F L t) (q1 : vp_in (x3 + 1) l.2.1) : gw_12 l I F L t x3 ∧ T2 (u_12 l I F L t x3).1 (u_12 l I F L t x3).1 (u_12 l I F L t x3).2.1 (u_12 l I F L t x3).2.1 (u_12 l I F L t x3).2.2.1 (u_12 l I F L t x3).2.2.2 := by
  obtain ⟨g1, g2, e, h2⟩ := tt_12 (T2_cg (J' := (v_125 I (l.2.2 (x3 + 1).toNatClampNeg)).2) (G' := F) h (fun _ _ _ => rfl) (fun c k y => frI_v_125 (by omega) (by omega)) (fun _ _ _ => rfl) (fun _ _ _ => rfl)) (l.2.2 (x3 + 1).toNatClampNeg)
  have h3 := T2_cg (I' := (v_191 (v_125 I (l.2.2 (x3 + 1).toNatClampNeg)).2 (l.2.2 (x3 + 1).toNatClampNeg)).2) (F' := F) h2 (fun c k y => frI_v_191 (by omega) (by omega)) (fun _ _ _ => rfl) (fun _ _ _ => rfl) (fun _ _ _ => rfl)
  refine ⟨?_, ?_⟩
  · unfold gw_12
    dsimp only [bx]
    exact ⟨q1, g1, q1, g2, fun w => absurd (e) w⟩
  · unfold u_12
    dsimp only [bx]
    rw [if_pos e]
    exact h3
theorem cs_13 (h : T2 I I F F L t) : gw_13 l I F L t x3 ∧ T2 (u_13 l I F L t x3).1 (u_13 l I F L t x3).1 (u_13 l I F L t x3).2.1 (u_13 l I F L t x3).2.1 (u_13 l I F L t x3).2.2.1 (u_13 l I F L t x3).2.2.2 := by
  obtain ⟨g1, g2, e, h2⟩ := tt_13 (T2_cg (J' := (v_126 I t).2.1) (G' := F) h (fun _ _ _ => rfl) (fun c k y => by obtain ⟨S, nv, nc, tc, r, hw, h9, h3, hq, hh, hk, ht⟩ := h; exact f126 h9 hw.2.2.1 (by omega) (by omega) (by omega)) (fun _ _ _ => rfl) (fun _ _ _ => rfl)) 
  have h3 := T2_cg (I' := (v_192 (v_126 I t).2.1 L).2.1) (F' := F) h2 (fun c k y => frI_v_192 (by omega) (by omega) (by omega)) (fun _ _ _ => rfl) (fun _ _ _ => rfl) (fun _ _ _ => rfl)
  refine ⟨?_, ?_⟩
  · unfold gw_13
    dsimp only [bx]
    exact ⟨g1, g2, fun w => absurd (e) w⟩
  · unfold u_13
    dsimp only [bx]
    rw [if_pos e]
    exact h3
theorem cs_14 (h : T2 I I F F L t) (q1 : vp_in (x3 + 1) l.2.1) : gw_14 l I F L t x3 ∧ T2 (u_14 l I F L t x3).1 (u_14 l I F L t x3).1 (u_14 l I F L t x3).2.1 (u_14 l I F L t x3).2.1 (u_14 l I F L t x3).2.2.1 (u_14 l I F L t x3).2.2.2 := by
  obtain ⟨e, h2⟩ := tt_14 (T2_cg (J' := (v_127 I (l.2.2 (x3 + 1).toNatClampNeg)).2) (G' := F) h (fun _ _ _ => rfl) (fun c k y => frI_v_127 (by omega)) (fun _ _ _ => rfl) (fun _ _ _ => rfl)) (l.2.2 (x3 + 1).toNatClampNeg)
  have h3 := T2_cg (I' := (v_209 (v_127 I (l.2.2 (x3 + 1).toNatClampNeg)).2 (l.2.2 (x3 + 1).toNatClampNeg)).2) (F' := F) h2 (fun c k y => frI_v_209 (by omega)) (fun _ _ _ => rfl) (fun _ _ _ => rfl) (fun _ _ _ => rfl)
  refine ⟨?_, ?_⟩
  · unfold gw_14
    dsimp only [bx]
    exact ⟨q1, q1, fun w => absurd (e) w⟩
  · unfold u_14
    dsimp only [bx]
    rw [if_pos e]
    exact h3
theorem cs_15 (h : T2 I I F F L t) (q1 : vp_in (x3 + 1) l.2.1) (q2 : vp_in (x3 + 2) l.2.1) : gw_15 l I F L t x3 ∧ T2 (u_15 l I F L t x3).1 (u_15 l I F L t x3).1 (u_15 l I F L t x3).2.1 (u_15 l I F L t x3).2.1 (u_15 l I F L t x3).2.2.1 (u_15 l I F L t x3).2.2.2 := by
  obtain ⟨g1, g2, e, h2⟩ := tt_15 (T2_cg (J' := (v_128 I F (l.2.2 (x3 + 1).toNatClampNeg) (l.2.2 (x3 + 2).toNatClampNeg)).2.1) (G' := (v_128 I F (l.2.2 (x3 + 1).toNatClampNeg) (l.2.2 (x3 + 2).toNatClampNeg)).2.2) h (fun _ _ _ => rfl) (fun c k y => frI_v_128 (by omega) (by omega) (by omega) (by omega) (by omega) (by omega) (by omega)) (fun _ _ _ => rfl) (fun c k y => frF_v_128 (by omega) (by omega) (by omega) (by omega) (by omega) (by omega) (by omega))) (l.2.2 (x3 + 1).toNatClampNeg) (l.2.2 (x3 + 2).toNatClampNeg)
  have h3 := T2_cg (I' := (v_236 (v_128 I F (l.2.2 (x3 + 1).toNatClampNeg) (l.2.2 (x3 + 2).toNatClampNeg)).2.1 L (l.2.2 (x3 + 1).toNatClampNeg) (l.2.2 (x3 + 2).toNatClampNeg)).2.1) (F' := (v_128 I F (l.2.2 (x3 + 1).toNatClampNeg) (l.2.2 (x3 + 2).toNatClampNeg)).2.2) h2 (fun c k y => frI_v_236 (by omega) (by omega) (by omega) (by omega) (by omega) (by omega) (by omega)) (fun _ _ _ => rfl) (fun _ _ _ => rfl) (fun _ _ _ => rfl)
  refine ⟨?_, ?_⟩
  · unfold gw_15
    dsimp only [bx]
    exact ⟨q1, q2, g1, q1, q2, g2, fun w => absurd (e) w⟩
  · unfold u_15
    dsimp only [bx]
    rw [if_pos e]
    exact h3
theorem cs_16 (h : T2 I I F F L t) (q1 : vp_in (x3 + 1) l.2.1) (q2 : vp_in (x3 + 2) l.2.1) : gw_16 l I F L t x3 ∧ T2 (u_16 l I F L t x3).1 (u_16 l I F L t x3).1 (u_16 l I F L t x3).2.1 (u_16 l I F L t x3).2.1 (u_16 l I F L t x3).2.2.1 (u_16 l I F L t x3).2.2.2 := by
  obtain ⟨g1, g2, e, h2⟩ := tt_16 (T2_cg (J' := (v_130 I (l.2.2 (x3 + 1).toNatClampNeg) (l.2.2 (x3 + 2).toNatClampNeg)).2) (G' := F) h (fun _ _ _ => rfl) (fun c k y => frI_v_130 (by omega) (by omega) (by omega)) (fun _ _ _ => rfl) (fun _ _ _ => rfl)) (l.2.2 (x3 + 1).toNatClampNeg) (l.2.2 (x3 + 2).toNatClampNeg)
  have h3 := T2_cg (I' := (v_243 (v_130 I (l.2.2 (x3 + 1).toNatClampNeg) (l.2.2 (x3 + 2).toNatClampNeg)).2 L (l.2.2 (x3 + 1).toNatClampNeg) (l.2.2 (x3 + 2).toNatClampNeg)).2.1) (F' := F) h2 (fun c k y => frI_v_243 (by omega) (by omega) (by omega)) (fun _ _ _ => rfl) (fun _ _ _ => rfl) (fun _ _ _ => rfl)
  refine ⟨?_, ?_⟩
  · unfold gw_16
    dsimp only [bx]
    exact ⟨q1, q2, g1, q1, q2, g2, fun w => absurd (e) w⟩
  · unfold u_16
    dsimp only [bx]
    rw [if_pos e]
    exact h3
theorem cs_17 (h : T2 I I F F L t) (q1 : vp_in (x3 + 1) l.2.1) : gw_17 l I F L t x3 ∧ T2 (u_17 l I F L t x3).1 (u_17 l I F L t x3).1 (u_17 l I F L t x3).2.1 (u_17 l I F L t x3).2.1 (u_17 l I F L t x3).2.2.1 (u_17 l I F L t x3).2.2.2 := by
  obtain ⟨g1, g2, e, h2⟩ := tt_17 (T2_cg (J' := (v_131 I (l.2.2 (x3 + 1).toNatClampNeg)).2) (G' := F) h (fun _ _ _ => rfl) (fun c k y => frI_v_131 (by omega) (by omega) (by omega)) (fun _ _ _ => rfl) (fun _ _ _ => rfl)) (l.2.2 (x3 + 1).toNatClampNeg)
  have h3 := T2_cg (I' := (v_244 (v_131 I (l.2.2 (x3 + 1).toNatClampNeg)).2 L (l.2.2 (x3 + 1).toNatClampNeg)).2.1) (F' := F) h2 (fun c k y => frI_v_244 (by omega) (by omega) (by omega) (by omega) (by omega) (by omega)) (fun _ _ _ => rfl) (fun _ _ _ => rfl) (fun _ _ _ => rfl)
  refine ⟨?_, ?_⟩
  · unfold gw_17
    dsimp only [bx]
    exact ⟨q1, g1, q1, g2, fun w => absurd (e) w⟩
  · unfold u_17
    dsimp only [bx]
    rw [if_pos e]
    exact h3
theorem cs_18 (h : T2 I I F F L t) (q1 : vp_in (x3 + 1) l.2.1) (q2 : vp_in (x3 + 2) l.2.1) : gw_18 l I F L t x3 ∧ T2 (u_18 l I F L t x3).1 (u_18 l I F L t x3).1 (u_18 l I F L t x3).2.1 (u_18 l I F L t x3).2.1 (u_18 l I F L t x3).2.2.1 (u_18 l I F L t x3).2.2.2 := by
  have h0 := h
  obtain ⟨S, nv, nc, tc, r, hw, h9, h3, hq, hh, hk, ht⟩ := h
  obtain ⟨g1, g2, e⟩ := op_friend hw.1 (l.2.2 (x3 + 1).toNatClampNeg) (l.2.2 (x3 + 2).toNatClampNeg)
  refine ⟨?_, ?_⟩
  · unfold gw_18
    exact ⟨q1, q2, g1, q1, q2, g2, fun w => absurd e w⟩
  · unfold u_18
    rw [if_pos e]
    exact h0
theorem cs_19 (h : T2 I I F F L t) (q1 : vp_in (x3 + 1) l.2.1) : gw_19 l I F L t x3 ∧ T2 (u_19 l I F L t x3).1 (u_19 l I F L t x3).1 (u_19 l I F L t x3).2.1 (u_19 l I F L t x3).2.1 (u_19 l I F L t x3).2.2.1 (u_19 l I F L t x3).2.2.2 := by
  have h0 := h
  obtain ⟨S, nv, nc, tc, r, hw, h9, h3, hq, hh, hk, ht⟩ := h
  obtain ⟨g1, g2, e⟩ := op_pair hw.1 (l.2.2 (x3 + 1).toNatClampNeg)
  refine ⟨?_, ?_⟩
  · unfold gw_19
    exact ⟨q1, g1, q1, g2, fun w => absurd e w⟩
  · unfold u_19
    rw [if_pos e]
    exact h0
theorem cs_20 (h : T2 I I F F L t) (q1 : vp_in (x3 + 1) l.2.1) : gw_20 l I F L t x3 ∧ T2 (u_20 l I F L t x3).1 (u_20 l I F L t x3).1 (u_20 l I F L t x3).2.1 (u_20 l I F L t x3).2.1 (u_20 l I F L t x3).2.2.1 (u_20 l I F L t x3).2.2.2 := by
  have h0 := h
  obtain ⟨S, nv, nc, tc, r, hw, h9, h3, hq, hh, hk, ht⟩ := h
  obtain ⟨g1, g2, e⟩ := op_spread hw.1 (l.2.2 (x3 + 1).toNatClampNeg)
  refine ⟨?_, ?_⟩
  · unfold gw_20
    exact ⟨q1, g1, q1, g2, fun w => absurd e w⟩
  · unfold u_20
    rw [if_pos e]
    exact h0
end
