section
variable {t : Nat} {I J : WI} {L : WL} {F G : WF}
theorem tt_23 (h : T2 I J F G L t) (x1 : Int32) : g_138 I x1 ∧ g_233 J x1 ∧ (v_138 I x1).1 = (v_233 J x1).1 ∧ T2 (v_138 I x1).2 (v_233 J x1).2 F G L t := by
  have h0 := h
  obtain ⟨S, nv, nc, tc, r, hw, h9, h3, hq, hh, hk, ht⟩ := h
  have h6 : tc ≤ 6 := hw.2.2.1
  obtain ⟨g1, g2, e, -⟩ := op_rounds hw.1 x1
  exact ⟨g1, g2, e, T2_kR h0 (fun nv nc tc h6 w h9 h3 hk => by obtain ⟨-, -, -, q⟩ := op_rounds w x1; exact ⟨nv, nc, q⟩) (fun c k y => frI_v_138 (by omega) (by omega) (by omega) (by omega) (by omega) (by omega) (by omega) (by omega) (by omega) (by omega)) (fun c k a b => frI_v_138 (by omega) (by omega) (by omega) (by omega) (by omega) (by omega) (by omega) (by omega) (by omega) (by omega)) (fun c k y => frI_v_233 (by omega) (by omega) (by omega) (by omega) (by omega) (by omega) (by omega) (by omega) (by omega) (by omega) (by omega) (by omega)) (fun c k a b => frI_v_233 (by omega) (by omega) (by omega) (by omega) (by omega) (by omega) (by omega) (by omega) (by omega) (by omega) (by omega) (by omega)) (fun k => frI_v_233 (by omega) (by omega) (by omega) (by omega) (by omega) (by omega) (by omega) (by omega) (by omega) (by omega) (by omega) (by omega))⟩
theorem tt_24 (h : T2 I J F G L t) (x1 x2 : Int32) : g_139 I x1 x2 ∧ g_254 J L x1 x2 ∧ (v_139 I x1 x2).1 = (v_254 J L x1 x2).1 ∧ T2 (v_139 I x1 x2).2 (v_254 J L x1 x2).2.1 F G (v_254 J L x1 x2).2.2 t := by
  obtain ⟨S, nv, nc, tc, r, hw, h9, h3, hq, hh, hk, ht⟩ := h
  have h6 : tc ≤ 6 := hw.2.2.1
  obtain ⟨g1, g2, e, R, M⟩ := op_goes hw h9 x1 x2
  exact ⟨g1, g2, e, T2_rd hw h9 h3 hq hh hk ht (fun c k y => frI_v_139 (by omega) (by omega) (by omega) (by omega) (by omega) (by omega) (by omega) (by omega) (by omega) (by omega) (by omega) (by omega) (by omega)) (fun _ _ _ _ => rfl) (RB_x R) M⟩
theorem tt_25 (h : T2 I J F G L t) (x1 : Int32) : g_140 I F x1 ∧ g_256 J L x1 ∧ (v_140 I F x1).1 = (v_256 J L x1).1 ∧ T2 (v_140 I F x1).2.1 (v_256 J L x1).2.1 (v_140 I F x1).2.2 G (v_256 J L x1).2.2 t := by
  obtain ⟨S, nv, nc, tc, r, hw, h9, h3, hq, hh, hk, ht⟩ := h
  have h6 : tc ≤ 6 := hw.2.2.1
  obtain ⟨g1, g2, e, w0⟩ := op_costs hw h9 x1
  have M := w0.2.2.2.1
  have w := WJ_in (I' := (v_140 I F x1).2.1) w0 (fun c k y => frI_v_140 (by omega) (by omega) (by omega) (by omega) (by omega) (by omega) (by omega) (by omega) (by omega) (by omega) (by omega) (by omega) (by omega) (by omega) (by omega) (by omega) (by omega)) (fun _ _ _ => rfl) (fun _ _ _ => rfl) M
  exact ⟨g1, g2, e, T2_w w h9 h3 hq hk ht (kHs_cg hh (fun c k a b => frI_v_140 (by omega) (by omega) (by omega) (by omega) (by omega) (by omega) (by omega) (by omega) (by omega) (by omega) (by omega) (by omega) (by omega) (by omega) (by omega) (by omega) (by omega)) (fun c k a b => frF_v_140 (by omega) (by omega) (by omega) (by omega) (by omega) (by omega) (by omega) (by omega) (by omega) (by omega) (by omega) (by omega) (by omega) (by omega) (by omega) (by omega) (by omega)) (fun c k y => frI_v_256 (by omega) (by omega) (by omega) (by omega) (by omega) (by omega) (by omega) (by omega) (by omega) (by omega) (by omega) (by omega) (by omega) (by omega) (by omega) (by omega) (by omega) (by omega) (by omega)) (fun _ => rfl)) (fun c k y => frI_v_140 (by omega) (by omega) (by omega) (by omega) (by omega) (by omega) (by omega) (by omega) (by omega) (by omega) (by omega) (by omega) (by omega) (by omega) (by omega) (by omega) (by omega)) (fun c k y => frI_v_256 (by omega) (by omega) (by omega) (by omega) (by omega) (by omega) (by omega) (by omega) (by omega) (by omega) (by omega) (by omega) (by omega) (by omega) (by omega) (by omega) (by omega) (by omega) (by omega))⟩
theorem tt_26 (h : T2 I J F G L t) (x1 x2 x3 x4 : Int32) : g_142 I F x1 x2 x3 x4 ∧ g_260 J L x1 x2 x3 x4 ∧ (v_142 I F x1 x2 x3 x4).1 = (v_260 J L x1 x2 x3 x4).1 ∧ T2 (v_142 I F x1 x2 x3 x4).2.1 (v_260 J L x1 x2 x3 x4).2.1 (v_142 I F x1 x2 x3 x4).2.2 G (v_260 J L x1 x2 x3 x4).2.2 t := by
  obtain ⟨S, nv, nc, tc, r, hw, h9, h3, hq, hh, hk, ht⟩ := h
  have h6 : tc ≤ 6 := hw.2.2.1
  obtain ⟨g1, g2, e, w0⟩ := op_lot hw h9 x1 x2 x3 x4
  have M := w0.2.2.2.1
  have w := WJ_in (I' := (v_142 I F x1 x2 x3 x4).2.1) w0 (fun c k y => frI_v_142 (by omega) (by omega) (by omega) (by omega) (by omega) (by omega) (by omega) (by omega) (by omega) (by omega) (by omega) (by omega) (by omega) (by omega) (by omega) (by omega) (by omega)) (fun _ _ _ => rfl) (fun _ _ _ => rfl) M
  exact ⟨g1, g2, e, T2_w w h9 h3 hq hk ht (kHs_cg hh (fun c k a b => frI_v_142 (by omega) (by omega) (by omega) (by omega) (by omega) (by omega) (by omega) (by omega) (by omega) (by omega) (by omega) (by omega) (by omega) (by omega) (by omega) (by omega) (by omega)) (fun c k a b => frF_v_142 (by omega) (by omega) (by omega) (by omega) (by omega) (by omega) (by omega) (by omega) (by omega) (by omega) (by omega) (by omega) (by omega) (by omega) (by omega) (by omega) (by omega)) (fun c k y => frI_v_260 (by omega) (by omega) (by omega) (by omega) (by omega) (by omega) (by omega) (by omega) (by omega) (by omega) (by omega) (by omega) (by omega) (by omega) (by omega) (by omega) (by omega) (by omega) (by omega)) (fun _ => rfl)) (fun c k y => frI_v_142 (by omega) (by omega) (by omega) (by omega) (by omega) (by omega) (by omega) (by omega) (by omega) (by omega) (by omega) (by omega) (by omega) (by omega) (by omega) (by omega) (by omega)) (fun c k y => frI_v_260 (by omega) (by omega) (by omega) (by omega) (by omega) (by omega) (by omega) (by omega) (by omega) (by omega) (by omega) (by omega) (by omega) (by omega) (by omega) (by omega) (by omega) (by omega) (by omega))⟩
theorem tt_28 (h : T2 I J F G L t) (x1 x2 : Int32) : g_145 I F x1 x2 ∧ g_261 J G L x1 x2 ∧ (v_145 I F x1 x2).1 = (v_261 J G L x1 x2).1 ∧ T2 (v_145 I F x1 x2).2 (v_261 J G L x1 x2).2.1 F G (v_261 J G L x1 x2).2.2 t := by
  obtain ⟨S, nv, nc, tc, r, hw, h9, h3, hq, hh, hk, ht⟩ := h
  have h6 : tc ≤ 6 := hw.2.2.1
  obtain ⟨g1, g2, e, R, M⟩ := op_tells hw h9 h3 hh x1 x2
  exact ⟨g1, g2, e, T2_rd hw h9 h3 hq hh hk ht (fun c k y => frI_v_145 (by omega) (by omega) (by omega) (by omega) (by omega) (by omega) (by omega) (by omega) (by omega) (by omega) (by omega) (by omega) (by omega)) (fun _ _ _ _ => rfl) (R) M⟩
theorem tt_29 (h : T2 I J F G L t) (x1 x2 : Int32) : g_152 I F x1 x2 ∧ g_266 J G L x1 x2 ∧ (v_152 I F x1 x2).1 = (v_266 J G L x1 x2).1 ∧ T2 (v_152 I F x1 x2).2.1 (v_266 J G L x1 x2).2.1 (v_152 I F x1 x2).2.2 (v_266 J G L x1 x2).2.2.1 (v_266 J G L x1 x2).2.2.2 t := by
  obtain ⟨S, nv, nc, tc, r, hw, h9, h3, hq, hh, hk, ht⟩ := h
  have h6 : tc ≤ 6 := hw.2.2.1
  obtain ⟨g1, g2, e, w, hn⟩ := op_film hw h9 hh x1 x2
  exact ⟨g1, g2, e, T2_w w h9 h3 hq hk ht hn (fun c k y => frI_v_152 (by omega) (by omega) (by omega) (by omega) (by omega) (by omega) (by omega) (by omega) (by omega) (by omega) (by omega) (by omega) (by omega) (by omega) (by omega) (by omega) (by omega)) (fun c k y => frI_v_266 (by omega) (by omega) (by omega) (by omega) (by omega) (by omega) (by omega) (by omega) (by omega) (by omega) (by omega) (by omega) (by omega) (by omega) (by omega) (by omega) (by omega) (by omega) (by omega) (by omega) (by omega) (by omega) (by omega) (by omega))⟩
theorem tt_30 (h : T2 I J F G L t) : g_268 J ∧ (v_153 I).1 = (v_268 J).1 ∧ T2 (v_153 I).2 (v_268 J).2 F G L t := by
  obtain ⟨S, nv, nc, tc, r, hw, h9, h3, hq, hh, hk, ht⟩ := h
  have h6 : tc ≤ 6 := hw.2.2.1
  obtain ⟨g1, e, q⟩ := op_image hw.1
  obtain ⟨k1, k2, k3, k4, k5, k6⟩ := hw
  exact ⟨g1, e, S, nv, nc, tc, r, ⟨kR_cgI (kR_cgJ k1 (fun c k y => frI_v_268 (by omega) (by omega) (by omega) (by omega) (by omega) (by omega) (by omega) (by omega) (by omega) (by omega) (by omega))) (fun c k y => frI_v_153 (by omega) (by omega) (by omega) (by omega) (by omega) (by omega) (by omega) (by omega) (by omega) (by omega) (by omega)), fun q hq => TxtP_cg (k2 q hq) (fun c k y => frI_v_153 (by omega) (by omega) (by omega) (by omega) (by omega) (by omega) (by omega) (by omega) (by omega) (by omega) (by omega)) (fun c k y => frI_v_268 (by omega) (by omega) (by omega) (by omega) (by omega) (by omega) (by omega) (by omega) (by omega) (by omega) (by omega)), k3, kM_cg k4 (fun k => frI_v_268 (by omega) (by omega) (by omega) (by omega) (by omega) (by omega) (by omega) (by omega) (by omega) (by omega) (by omega)), k5, (frI_v_268 (by omega) (by omega) (by omega) (by omega) (by omega) (by omega) (by omega) (by omega) (by omega) (by omega) (by omega) : (v_268 J).2 74 4 = J 74 4).trans k6⟩, (frI_v_153 (by omega) (by omega) (by omega) (by omega) (by omega) (by omega) (by omega) (by omega) (by omega) (by omega) (by omega) : (v_153 I).2 0 9 = I 0 9).trans h9, (frI_v_268 (by omega) (by omega) (by omega) (by omega) (by omega) (by omega) (by omega) (by omega) (by omega) (by omega) (by omega) : (v_268 J).2 74 3 = J 74 3).trans h3, qT_cg hq (frI_v_153 (by omega) (by omega) (by omega) (by omega) (by omega) (by omega) (by omega) (by omega) (by omega) (by omega) (by omega)) (fun i => frI_v_153 (by omega) (by omega) (by omega) (by omega) (by omega) (by omega) (by omega) (by omega) (by omega) (by omega) (by omega)) (frI_v_268 (by omega) (by omega) (by omega) (by omega) (by omega) (by omega) (by omega) (by omega) (by omega) (by omega) (by omega)) (fun i => frI_v_268 (by omega) (by omega) (by omega) (by omega) (by omega) (by omega) (by omega) (by omega) (by omega) (by omega) (by omega)), kHs_cg hh (fun c k a b => frI_v_153 (by omega) (by omega) (by omega) (by omega) (by omega) (by omega) (by omega) (by omega) (by omega) (by omega) (by omega)) (fun _ _ _ _ => rfl) (fun c k y => frI_v_268 (by omega) (by omega) (by omega) (by omega) (by omega) (by omega) (by omega) (by omega) (by omega) (by omega) (by omega)) (fun _ => rfl), q, ht⟩
theorem tt_31 (h : T2 I J F G L t) : g_269 J ∧ (v_154 I).1 = (v_269 J).1 ∧ T2 (v_154 I).2 (v_269 J).2 F G L t := by
  have h0 := h
  obtain ⟨S, nv, nc, tc, r, hw, h9, h3, hq, hh, hk, ht⟩ := h
  have h6 : tc ≤ 6 := hw.2.2.1
  obtain ⟨g1, e, -⟩ := op_back hw.1 hk 
  exact ⟨g1, e, T2_kR h0 (fun nv nc tc h6 w h9 h3 hk => by obtain ⟨-, -, nv2, nc2, q⟩ := op_back w hk ; exact ⟨nv2, nc2, q⟩) (fun c k y => frI_v_154 (by omega) (by omega) (by omega) (by omega) (by omega) (by omega) (by omega) (by omega) (by omega) (by omega)) (fun c k a b => frI_v_154 (by omega) (by omega) (by omega) (by omega) (by omega) (by omega) (by omega) (by omega) (by omega) (by omega)) (fun c k y => frI_v_269 (by omega) (by omega) (by omega) (by omega) (by omega) (by omega) (by omega) (by omega) (by omega) (by omega) (by omega)) (fun c k a b => frI_v_269 (by omega) (by omega) (by omega) (by omega) (by omega) (by omega) (by omega) (by omega) (by omega) (by omega) (by omega)) (fun k => frI_v_269 (by omega) (by omega) (by omega) (by omega) (by omega) (by omega) (by omega) (by omega) (by omega) (by omega) (by omega))⟩
theorem tt_32 (h : T2 I J F G L t) (x1 : Int32) : g_155 I x1 ∧ g_270 J L x1 ∧ (v_155 I x1).1 = (v_270 J L x1).1 ∧ T2 (v_155 I x1).2 (v_270 J L x1).2.1 F G (v_270 J L x1).2.2 t := by
  obtain ⟨S, nv, nc, tc, r, hw, h9, h3, hq, hh, hk, ht⟩ := h
  have h6 : tc ≤ 6 := hw.2.2.1
  obtain ⟨g1, g2, e, R, M⟩ := op_count hw h9 h3 hq x1
  exact ⟨g1, g2, e, T2_rd hw h9 h3 hq hh hk ht (fun c k y => frI_v_155 (by omega) (by omega) (by omega)) (fun _ _ _ _ => rfl) (RB_o R) M⟩
theorem tt_33 (h : T2 I J F G L t) (x1 x2 x3 : Int32) : g_156 I F x1 x2 x3 ∧ g_267 J G x1 x2 x3 ∧ (v_156 I F x1 x2 x3).1 = (v_267 J G x1 x2 x3).1 ∧ T2 (v_156 I F x1 x2 x3).2.1 (v_267 J G x1 x2 x3).2.1 (v_156 I F x1 x2 x3).2.2 (v_267 J G x1 x2 x3).2.2 L t := by
  have h0 := h
  obtain ⟨S, nv, nc, tc, r, hw, h9, h3, hq, hh, hk, ht⟩ := h
  have h6 : tc ≤ 6 := hw.2.2.1
  obtain ⟨g1, g2, e, -⟩ := op_sheet hh x1 x2 x3
  exact ⟨g1, g2, e, T2_sh h0 (fun w => (op_sheet w x1 x2 x3).2.2.2) (fun c k y => frI_v_156 (by omega) (by omega) (by omega) (by omega)) (fun c k y => frI_v_267 (by omega) (by omega) (by omega) (by omega) (by omega) (by omega))⟩
theorem tt_34 (h : T2 I J F G L t) (x1 x2 x3 : Int32) : g_157 I x1 x2 x3 ∧ g_271 J x1 x2 x3 ∧ (v_157 I F x1 x2 x3).1 = (v_271 J G x1 x2 x3).1 ∧ T2 (v_157 I F x1 x2 x3).2.1 (v_271 J G x1 x2 x3).2.1 (v_157 I F x1 x2 x3).2.2 (v_271 J G x1 x2 x3).2.2 L t := by
  have h0 := h
  obtain ⟨S, nv, nc, tc, r, hw, h9, h3, hq, hh, hk, ht⟩ := h
  have h6 : tc ≤ 6 := hw.2.2.1
  obtain ⟨g1, g2, e, -⟩ := op_put hh x1 x2 x3
  exact ⟨g1, g2, e, T2_sh h0 (fun w => (op_put w x1 x2 x3).2.2.2) (fun c k y => frI_v_157 (by omega) (by omega) (by omega)) (fun c k y => frI_v_271 (by omega) (by omega) (by omega))⟩
theorem tt_35 (h : T2 I J F G L t) (x1 x2 : Int32) : g_159 I x1 x2 ∧ g_273 J x1 x2 ∧ (v_159 I F x1 x2).1 = (v_273 J x1 x2).1 ∧ T2 I (v_273 J x1 x2).2 (v_159 I F x1 x2).2 G L t := by
  have h0 := h
  obtain ⟨S, nv, nc, tc, r, hw, h9, h3, hq, hh, hk, ht⟩ := h
  have h6 : tc ≤ 6 := hw.2.2.1
  obtain ⟨g1, g2, e, -⟩ := op_blank hh x1 x2
  exact ⟨g1, g2, e, T2_sh h0 (fun w => (op_blank w x1 x2).2.2.2) (fun _ _ _ => rfl) (fun c k y => frI_v_273 (by omega))⟩
theorem tt_37 (h : T2 I J F G L t) (x1 x2 x3 x4 x5 : Int32) : g_161 I x1 x2 x3 x4 x5 ∧ g_275 J G x1 x2 x3 x4 x5 ∧ (v_161 I F x1 x2 x3 x4 x5).1 = (v_275 J G x1 x2 x3 x4 x5).1 ∧ T2 (v_161 I F x1 x2 x3 x4 x5).2.1 (v_275 J G x1 x2 x3 x4 x5).2.1 (v_161 I F x1 x2 x3 x4 x5).2.2 (v_275 J G x1 x2 x3 x4 x5).2.2 L t := by
  have h0 := h
  obtain ⟨S, nv, nc, tc, r, hw, h9, h3, hq, hh, hk, ht⟩ := h
  have h6 : tc ≤ 6 := hw.2.2.1
  obtain ⟨g1, g2, e, -⟩ := op_copy hh x1 x2 x3 x4 x5
  exact ⟨g1, g2, e, T2_sh h0 (fun w => (op_copy w x1 x2 x3 x4 x5).2.2.2) (fun c k y => frI_v_161 (by omega) (by omega) (by omega)) (fun c k y => frI_v_275 (by omega) (by omega) (by omega))⟩
theorem tt_39 (h : T2 I J F G L t) (x1 x2 x3 x4 : Int32) : g_163 I F x1 x2 x3 x4 ∧ g_277 J G x1 x2 x3 x4 ∧ (v_163 I F x1 x2 x3 x4).1 = (v_277 J G x1 x2 x3 x4).1 ∧ T2 (v_163 I F x1 x2 x3 x4).2 (v_277 J G x1 x2 x3 x4).2 F G L t := by
  obtain ⟨S, nv, nc, tc, r, hw, h9, h3, hq, hh, hk, ht⟩ := h
  have h6 : tc ≤ 6 := hw.2.2.1
  obtain ⟨g1, g2, e, nv2, w⟩ := op_shelve hw hh x1 x2 x3 x4
  exact ⟨g1, g2, e, T2_w w h9 h3 hq hk ht (kHs_cg hh (fun c k a b => frI_v_163 (by omega) (by omega) (by omega) (by omega) (by omega) (by omega)) (fun _ _ _ _ => rfl) (fun c k y => frI_v_277 (by omega) (by omega) (by omega) (by omega) (by omega) (by omega) (by omega) (by omega)) (fun _ => rfl)) (fun c k y => frI_v_163 (by omega) (by omega) (by omega) (by omega) (by omega) (by omega)) (fun c k y => frI_v_277 (by omega) (by omega) (by omega) (by omega) (by omega) (by omega) (by omega) (by omega))⟩
theorem tt_40 (h : T2 I J F G L t) (x1 x2 : Int32) : g_164 I F x1 x2 ∧ g_278 J G L x1 x2 ∧ (v_164 I F x1 x2).1 = (v_278 J G L x1 x2).1 ∧ T2 (v_164 I F x1 x2).2 (v_278 J G L x1 x2).2.1 F G (v_278 J G L x1 x2).2.2 t := by
  obtain ⟨S, nv, nc, tc, r, hw, h9, h3, hq, hh, hk, ht⟩ := h
  have h6 : tc ≤ 6 := hw.2.2.1
  obtain ⟨g1, g2, e, w⟩ := op_ask hw h9 hh x1 x2
  exact ⟨g1, g2, e, T2_w w h9 h3 hq hk ht (kHs_cg hh (fun c k a b => frI_v_164 (by omega) (by omega) (by omega) (by omega)) (fun _ _ _ _ => rfl) (fun c k y => frI_v_278 (by omega) (by omega) (by omega) (by omega)) (fun _ => rfl)) (fun c k y => frI_v_164 (by omega) (by omega) (by omega) (by omega)) (fun c k y => frI_v_278 (by omega) (by omega) (by omega) (by omega))⟩
theorem tt_41 (h : T2 I J F G L t) (x1 x2 x3 : Int32) : g_165 I F x1 x2 x3 ∧ g_279 J x1 x2 x3 ∧ (v_165 I F x1 x2 x3).1 = (v_279 J x1 x2 x3).1 ∧ T2 (v_165 I F x1 x2 x3).2.1 (v_279 J x1 x2 x3).2 (v_165 I F x1 x2 x3).2.2 G L t := by
  have h0 := h
  obtain ⟨S, nv, nc, tc, r, hw, h9, h3, hq, hh, hk, ht⟩ := h
  have h6 : tc ≤ 6 := hw.2.2.1
  obtain ⟨g1, g2, e, -⟩ := op_code hw.1 hh x1 x2 x3
  exact ⟨g1, g2, e, T2_sh h0 (fun w => (op_code hw.1 w x1 x2 x3).2.2.2) (fun c k y => frI_v_165 (by omega) (by omega) (by omega)) (fun c k y => frI_v_279 (by omega))⟩
end
