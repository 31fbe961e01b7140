section
variable {t : Nat} {I J : WI} {L : WL} {F G : WF}
/-! each call from all of it to all of it -/
theorem f126 {tc c k : Nat} (h9 : I 0 9 = nI tc) (h6 : tc ≤ 6) (a : ¬ (c = 0 ∧ k = 9)) (b : c ≠ 31) (d : ¬ (45 ≤ c ∧ c ≤ 56)) : (v_126 I t).2.1 c k = I c k := by
  have t6 : (6 : Int32).toInt = 6 := by decide
  by_cases y : tc = 6
  · have c1 : ¬ nI tc < 6 := by rw [Int32.lt_iff_toInt_lt, nI_toInt (by omega), t6]; omega
    unfold v_126
    rw [h9, if_neg c1]
  · have ec : (I 0 9).toNatClampNeg = tc := by rw [h9]; exact cl (by omega)
    exact frI_v_126 (by omega) (by omega) (by omega) (by omega)
theorem tt_0 (h : T2 I J F G L t) (x1 x2 x3 : Int32) : g_105 I x1 x2 x3 ∧ g_172 J x1 x2 x3 ∧ (v_105 I x1 x2 x3).1 = (v_172 J x1 x2 x3).1 ∧ T2 (v_105 I x1 x2 x3).2 (v_172 J x1 x2 x3).2 F G L t := by
  have h0 := h
  obtain ⟨S, nv, nc, tc, r, hw, h9, h3, hq, hh, hk, ht⟩ := h
  have h6 : tc ≤ 6 := hw.2.2.1
  obtain ⟨g1, g2, e, -⟩ := op_cell hw.1 x1 x2 x3
  exact ⟨g1, g2, e, T2_kR h0 (fun nv nc tc h6 w h9 h3 hk => by obtain ⟨-, -, -, nc2, q⟩ := op_cell w x1 x2 x3; exact ⟨nv, nc2, q⟩) (fun c k y => frI_v_105 (by omega) (by omega) (by omega) (by omega)) (fun c k a b => frI_v_105 (by omega) (by omega) (by omega) (by omega)) (fun c k y => frI_v_172 (by omega) (by omega) (by omega)) (fun c k a b => frI_v_172 (by omega) (by omega) (by omega)) (fun k => frI_v_172 (by omega) (by omega) (by omega))⟩
theorem tt_1 (h : T2 I J F G L t) (x1 x2 x3 x4 : Int32) : g_108 I x1 x2 x3 x4 ∧ g_174 J x1 x2 x3 x4 ∧ (v_108 I x1 x2 x3 x4).1 = (v_174 J x1 x2 x3 x4).1 ∧ T2 (v_108 I x1 x2 x3 x4).2 (v_174 J x1 x2 x3 x4).2 F G L t := by
  have h0 := h
  obtain ⟨S, nv, nc, tc, r, hw, h9, h3, hq, hh, hk, ht⟩ := h
  have h6 : tc ≤ 6 := hw.2.2.1
  obtain ⟨g1, g2, e, -⟩ := op_vector hw.1 x1 x2 x3 x4
  exact ⟨g1, g2, e, T2_kR h0 (fun nv nc tc h6 w h9 h3 hk => by obtain ⟨-, -, -, nv2, q⟩ := op_vector w x1 x2 x3 x4; exact ⟨nv2, nc, q⟩) (fun c k y => frI_v_108 (by omega) (by omega) (by omega) (by omega) (by omega) (by omega)) (fun c k a b => frI_v_108 (by omega) (by omega) (by omega) (by omega) (by omega) (by omega)) (fun c k y => frI_v_174 (by omega) (by omega) (by omega) (by omega) (by omega) (by omega) (by omega) (by omega)) (fun c k a b => frI_v_174 (by omega) (by omega) (by omega) (by omega) (by omega) (by omega) (by omega) (by omega)) (fun k => frI_v_174 (by omega) (by omega) (by omega) (by omega) (by omega) (by omega) (by omega) (by omega))⟩
theorem tt_2 (h : T2 I J F G L t) (x1 x2 x3 x4 : Int32) : g_109 I x1 x2 x3 x4 ∧ g_178 J x1 x2 x3 x4 ∧ (v_109 I x1 x2 x3 x4).1 = (v_178 J x1 x2 x3 x4).1 ∧ T2 (v_109 I x1 x2 x3 x4).2 (v_178 J x1 x2 x3 x4).2 F G L t := by
  have h0 := h
  obtain ⟨S, nv, nc, tc, r, hw, h9, h3, hq, hh, hk, ht⟩ := h
  have h6 : tc ≤ 6 := hw.2.2.1
  obtain ⟨g1, g2, e, -⟩ := op_move hw.1 x1 x2 x3 x4
  exact ⟨g1, g2, e, T2_kR h0 (fun nv nc tc h6 w h9 h3 hk => by obtain ⟨-, -, -, q⟩ := op_move w x1 x2 x3 x4; exact ⟨nv, nc, q⟩) (fun c k y => frI_v_109 (by omega) (by omega) (by omega) (by omega)) (fun c k a b => frI_v_109 (by omega) (by omega) (by omega) (by omega)) (fun c k y => frI_v_178 (by omega) (by omega) (by omega) (by omega) (by omega)) (fun c k a b => frI_v_178 (by omega) (by omega) (by omega) (by omega) (by omega)) (fun k => frI_v_178 (by omega) (by omega) (by omega) (by omega) (by omega))⟩
theorem tt_3 (h : T2 I J F G L t) (x1 x2 : Int32) : g_112 I x1 x2 ∧ g_181 J x1 x2 ∧ (v_112 I x1 x2).1 = (v_181 J x1 x2).1 ∧ T2 (v_112 I x1 x2).2 (v_181 J x1 x2).2 F G L t := by
  have h0 := h
  obtain ⟨S, nv, nc, tc, r, hw, h9, h3, hq, hh, hk, ht⟩ := h
  have h6 : tc ≤ 6 := hw.2.2.1
  obtain ⟨g1, g2, e, -⟩ := op_drop hw.1 x1 x2
  exact ⟨g1, g2, e, T2_kR h0 (fun nv nc tc h6 w h9 h3 hk => by obtain ⟨-, -, -, q⟩ := op_drop w x1 x2; exact ⟨nv, nc, q⟩) (fun c k y => frI_v_112 (by omega)) (fun c k a b => frI_v_112 (by omega)) (fun c k y => frI_v_181 (by omega)) (fun c k a b => frI_v_181 (by omega)) (fun k => frI_v_181 (by omega))⟩
theorem tt_4 (h : T2 I J F G L t) (x1 x2 : Int32) : g_113 I x1 x2 ∧ g_210 J L x1 x2 ∧ (v_113 I x1 x2).1 = (v_210 J L x1 x2).1 ∧ T2 (v_113 I x1 x2).2 (v_210 J L x1 x2).2.1 F G (v_210 J L x1 x2).2.2 t := by
  obtain ⟨S, nv, nc, tc, r, hw, h9, h3, hq, hh, hk, ht⟩ := h
  have h6 : tc ≤ 6 := hw.2.2.1
  obtain ⟨g1, g2, e, R, M⟩ := op_told hw h9 x1 x2
  exact ⟨g1, g2, e, T2_rd hw h9 h3 hq hh hk ht (fun c k y => frI_v_113 (by omega) (by omega) (by omega)) (fun _ _ _ _ => rfl) (RB_o R) M⟩
theorem tt_6 (h : T2 I J F G L t) (x1 x2 : Int32) : g_117 x1 x2 ∧ g_169 x1 x2 ∧ (v_117 I x1 x2).1 = (v_169 J x1 x2).1 ∧ T2 (v_117 I x1 x2).2 (v_169 J x1 x2).2 F G L t := by
  have h0 := h
  obtain ⟨S, nv, nc, tc, r, hw, h9, h3, hq, hh, hk, ht⟩ := h
  have h6 : tc ≤ 6 := hw.2.2.1
  obtain ⟨g1, g2, e, -⟩ := op_set hw.1 x1 x2
  exact ⟨g1, g2, e, T2_kR h0 (fun nv nc tc h6 w h9 h3 hk => by obtain ⟨-, -, -, q⟩ := op_set w x1 x2; exact ⟨nv, nc, q⟩) (fun c k y => frI_v_117 (by omega) (by omega) (by omega)) (fun c k a b => frI_v_117 (by omega) (by omega) (by omega)) (fun c k y => frI_v_169 (by omega)) (fun c k a b => frI_v_169 (by omega)) (fun k => frI_v_169 (by omega))⟩
theorem tt_7 (h : T2 I J F G L t) (x1 x2 x3 : Int32) : g_119 I x1 x2 x3 ∧ g_227 J L x1 x2 x3 ∧ (v_119 I x1 x2 x3).1 = (v_227 J L x1 x2 x3).1 ∧ T2 (v_119 I x1 x2 x3).2 (v_227 J L x1 x2 x3).2.1 F G (v_227 J L x1 x2 x3).2.2 t := by
  obtain ⟨S, nv, nc, tc, r, hw, h9, h3, hq, hh, hk, ht⟩ := h
  have h6 : tc ≤ 6 := hw.2.2.1
  obtain ⟨g1, g2, e, w⟩ := op_query hw h9 x1 x2 x3
  exact ⟨g1, g2, e, T2_w w h9 h3 hq hk ht (kHs_cg hh (fun c k a b => frI_v_119 (by omega) (by omega) (by omega) (by omega)) (fun _ _ _ _ => rfl) (fun c k y => frI_v_227 (by omega) (by omega) (by omega) (by omega)) (fun _ => rfl)) (fun c k y => frI_v_119 (by omega) (by omega) (by omega) (by omega)) (fun c k y => frI_v_227 (by omega) (by omega) (by omega) (by omega))⟩
theorem tt_10 (h : T2 I J F G L t) (x1 : Int32) : g_123 I x1 ∧ g_229 J x1 ∧ (v_123 I x1).1 = (v_229 J x1).1 ∧ T2 (v_123 I x1).2 (v_229 J x1).2 F G L t := by
  have h0 := h
  obtain ⟨S, nv, nc, tc, r, hw, h9, h3, hq, hh, hk, ht⟩ := h
  have h6 : tc ≤ 6 := hw.2.2.1
  obtain ⟨g1, g2, e, -⟩ := op_tidy hw.1 x1
  exact ⟨g1, g2, e, T2_kR h0 (fun nv nc tc h6 w h9 h3 hk => by obtain ⟨-, -, -, q⟩ := op_tidy w x1; exact ⟨nv, nc, q⟩) (fun c k y => frI_v_123 (by omega) (by omega) (by omega)) (fun c k a b => frI_v_123 (by omega) (by omega) (by omega)) (fun c k y => frI_v_229 (by omega) (by omega) (by omega) (by omega)) (fun c k a b => frI_v_229 (by omega) (by omega) (by omega) (by omega)) (fun k => frI_v_229 (by omega) (by omega) (by omega) (by omega))⟩
theorem tt_11 (h : T2 I J F G L t) : g_124 I ∧ g_231 J ∧ (v_124 I).1 = (v_231 J).1 ∧ T2 (v_124 I).2 (v_231 J).2 F G L t := by
  have h0 := h
  obtain ⟨S, nv, nc, tc, r, hw, h9, h3, hq, hh, hk, ht⟩ := h
  have h6 : tc ≤ 6 := hw.2.2.1
  obtain ⟨g1, g2, e, -⟩ := op_centre hw.1 
  exact ⟨g1, g2, e, T2_kR h0 (fun nv nc tc h6 w h9 h3 hk => by obtain ⟨-, -, -, q⟩ := op_centre w ; exact ⟨nv, nc, q⟩) (fun c k y => frI_v_124 (by omega) (by omega) (by omega) (by omega)) (fun c k a b => frI_v_124 (by omega) (by omega) (by omega) (by omega)) (fun c k y => frI_v_231 (by omega) (by omega) (by omega) (by omega) (by omega)) (fun c k a b => frI_v_231 (by omega) (by omega) (by omega) (by omega) (by omega)) (fun k => frI_v_231 (by omega) (by omega) (by omega) (by omega) (by omega))⟩
theorem tt_12 (h : T2 I J F G L t) (x1 : Int32) : g_125 I x1 ∧ g_191 J x1 ∧ (v_125 I x1).1 = (v_191 J x1).1 ∧ T2 (v_125 I x1).2 (v_191 J x1).2 F G L t := by
  obtain ⟨S, nv, nc, tc, r, hw, h9, h3, hq, hh, hk, ht⟩ := h
  have h6 : tc ≤ 6 := hw.2.2.1
  obtain ⟨g1, g2, e, q⟩ := op_feed hq x1
  have M := hw.2.2.2.1
  exact ⟨g1, g2, e, S, nv, nc, tc, r, WJ_in hw (fun c k y => frI_v_125 (by omega) (by omega)) (fun c k y => by have := KC_74 y; exact frI_v_191 (by omega) (by omega)) (fun c k y => frI_v_191 (by omega) (by omega)) (kM_cg M (fun k => frI_v_191 (by omega) (by omega))), (frI_v_125 (by omega) (by omega) : (v_125 I x1).2 0 9 = I 0 9).trans h9, (frI_v_191 (by omega) (by omega) : (v_191 J x1).2 74 3 = J 74 3).trans h3, q, kHs_cg hh (fun c k a b => frI_v_125 (by omega) (by omega)) (fun _ _ _ _ => rfl) (fun c k y => frI_v_191 (by omega) (by omega)) (fun _ => rfl), kIm_cg hk (fun c k y => frI_v_125 (by omega) (by omega)) (fun c k y => frI_v_191 (by omega) (by omega)), ht⟩
theorem tt_13 (h : T2 I J F G L t) : g_126 I ∧ g_192 J L ∧ (v_126 I t).1 = (v_192 J L).1 ∧ T2 (v_126 I t).2.1 (v_192 J L).2.1 F G (v_192 J L).2.2 (v_126 I t).2.2 := by
  obtain ⟨S, nv, nc, tc, r, hw, h9, h3, hq, hh, hk, ht⟩ := h
  have h6 : tc ≤ 6 := hw.2.2.1
  obtain ⟨g1, g2, e, ⟨S', tc', le, w, h9', h3', q⟩, t'⟩ := op_text hw h9 h3 hq t
  refine ⟨g1, g2, e, S', nv, nc, tc', r, w, h9', h3', q, kHs_cg hh (fun c k a b => f126 h9 h6 (by omega) (by omega) (by omega)) (fun _ _ _ _ => rfl) (fun c k y => frI_v_192 (by omega) (by omega) (by omega)) (fun _ => rfl), kIm_tc (kIm_cg hk (fun c k y => f126 h9 h6 (by omega) (by omega) (by omega)) (fun c k y => frI_v_192 (by omega) (by omega) (by omega))) le, ?_⟩
  rcases t' with z | z
  · rw [z]; exact ht
  · exact z
theorem tt_14 (h : T2 I J F G L t) (x1 : Int32) : (v_127 I x1).1 = (v_209 J x1).1 ∧ T2 (v_127 I x1).2 (v_209 J x1).2 F G L t := by
  have h0 := h
  obtain ⟨S, nv, nc, tc, r, hw, h9, h3, hq, hh, hk, ht⟩ := h
  have h6 : tc ≤ 6 := hw.2.2.1
  obtain ⟨e, -⟩ := op_force hw.1 h9 h3 h6 x1
  exact ⟨e, T2_kR h0 (fun nv nc tc h6 w h9 h3 hk => by obtain ⟨-, q⟩ := op_force w h9 h3 h6 x1; exact ⟨nv, nc, q⟩) (fun c k y => frI_v_127 (by omega)) (fun c k a b => frI_v_127 (by omega)) (fun c k y => frI_v_209 (by omega)) (fun c k a b => frI_v_209 (by omega)) (fun k => frI_v_209 (by omega))⟩
theorem tt_15 (h : T2 I J F G L t) (x1 x2 : Int32) : g_128 I F x1 x2 ∧ g_236 J L x1 x2 ∧ (v_128 I F x1 x2).1 = (v_236 J L x1 x2).1 ∧ T2 (v_128 I F x1 x2).2.1 (v_236 J L x1 x2).2.1 (v_128 I F x1 x2).2.2 G (v_236 J L x1 x2).2.2 t := by
  obtain ⟨S, nv, nc, tc, r, hw, h9, h3, hq, hh, hk, ht⟩ := h
  have h6 : tc ≤ 6 := hw.2.2.1
  obtain ⟨g1, g2, e, R, M⟩ := op_near hw h9 x1 x2
  exact ⟨g1, g2, e, T2_rd hw h9 h3 hq hh hk ht (fun c k y => frI_v_128 (by omega) (by omega) (by omega) (by omega) (by omega) (by omega) (by omega)) (fun c k a b => frF_v_128 (by omega) (by omega) (by omega) (by omega) (by omega) (by omega) (by omega)) (RB_y R) M⟩
theorem tt_16 (h : T2 I J F G L t) (x1 x2 : Int32) : g_130 I x1 x2 ∧ g_243 J L x1 x2 ∧ (v_130 I x1 x2).1 = (v_243 J L x1 x2).1 ∧ T2 (v_130 I x1 x2).2 (v_243 J L x1 x2).2.1 F G (v_243 J L x1 x2).2.2 t := by
  obtain ⟨S, nv, nc, tc, r, hw, h9, h3, hq, hh, hk, ht⟩ := h
  have h6 : tc ≤ 6 := hw.2.2.1
  obtain ⟨g1, g2, e, R, M⟩ := op_within hw h9 x1 x2
  exact ⟨g1, g2, e, T2_rd hw h9 h3 hq hh hk ht (fun c k y => frI_v_130 (by omega) (by omega) (by omega)) (fun _ _ _ _ => rfl) (RB_o R) M⟩
theorem tt_17 (h : T2 I J F G L t) (x1 : Int32) : g_131 I x1 ∧ g_244 J L x1 ∧ (v_131 I x1).1 = (v_244 J L x1).1 ∧ T2 (v_131 I x1).2 (v_244 J L x1).2.1 F G (v_244 J L x1).2.2 t := by
  obtain ⟨S, nv, nc, tc, r, hw, h9, h3, hq, hh, hk, ht⟩ := h
  have h6 : tc ≤ 6 := hw.2.2.1
  obtain ⟨g1, g2, e, R, M⟩ := op_rank hw h9 x1
  exact ⟨g1, g2, e, T2_rd hw h9 h3 hq hh hk ht (fun c k y => frI_v_131 (by omega) (by omega) (by omega)) (fun _ _ _ _ => rfl) (RB_x R) M⟩
theorem tt_21 (h : T2 I J F G L t) (x1 x2 : Int32) : g_137 I x1 x2 ∧ g_250 J x1 x2 ∧ (v_137 I x1 x2).1 = (v_250 J x1 x2).1 ∧ T2 (v_137 I x1 x2).2 (v_250 J x1 x2).2 F G L t := by
  have h0 := h
  obtain ⟨S, nv, nc, tc, r, hw, h9, h3, hq, hh, hk, ht⟩ := h
  have h6 : tc ≤ 6 := hw.2.2.1
  obtain ⟨g1, g2, e, -⟩ := op_cover hw.1 x1 x2
  exact ⟨g1, g2, e, T2_kR h0 (fun nv nc tc h6 w h9 h3 hk => by obtain ⟨-, -, -, q⟩ := op_cover w x1 x2; exact ⟨nv, nc, q⟩) (fun c k y => frI_v_137 (by omega)) (fun c k a b => frI_v_137 (by omega)) (fun c k y => frI_v_250 (by omega)) (fun c k a b => frI_v_250 (by omega)) (fun k => frI_v_250 (by omega))⟩
end
