section
/-- case 0 of the law -/
noncomputable def u_0 (l : LX) (I : WI) (F : WF) (L : WL) (t : Nat) (x3 : Int32) : WI × WF × WL × Nat := (bx ((v_105 I (l.2.2 (x3 + 1).toNatClampNeg) (l.2.2 (x3 + 2).toNatClampNeg) (l.2.2 (x3 + 3).toNatClampNeg)) : Int32 × WI) (fun p1 => (bx ((v_172 p1.2 (l.2.2 (x3 + 1).toNatClampNeg) (l.2.2 (x3 + 2).toNatClampNeg) (l.2.2 (x3 + 3).toNatClampNeg)) : Int32 × WI) (fun p2 => (if p1.1 = p2.1 then (p2.2, F, L, t) else (p2.2, F, L, t))))))
noncomputable def gw_0 (l : LX) (I : WI) (F : WF) (L : WL) (t : Nat) (x3 : Int32) : Prop := ((vp_in (x3 + 1) l.2.1) ∧ ((vp_in (x3 + 2) l.2.1) ∧ ((vp_in (x3 + 3) l.2.1) ∧ ((g_105 I (l.2.2 (x3 + 1).toNatClampNeg) (l.2.2 (x3 + 2).toNatClampNeg) (l.2.2 (x3 + 3).toNatClampNeg)) ∧ (bx ((v_105 I (l.2.2 (x3 + 1).toNatClampNeg) (l.2.2 (x3 + 2).toNatClampNeg) (l.2.2 (x3 + 3).toNatClampNeg)) : Int32 × WI) (fun p1 => ((vp_in (x3 + 1) l.2.1) ∧ ((vp_in (x3 + 2) l.2.1) ∧ ((vp_in (x3 + 3) l.2.1) ∧ ((g_172 p1.2 (l.2.2 (x3 + 1).toNatClampNeg) (l.2.2 (x3 + 2).toNatClampNeg) (l.2.2 (x3 + 3).toNatClampNeg)) ∧ (bx ((v_172 p1.2 (l.2.2 (x3 + 1).toNatClampNeg) (l.2.2 (x3 + 2).toNatClampNeg) (l.2.2 (x3 + 3).toNatClampNeg)) : Int32 × WI) (fun p2 => (¬ (p1.1 = p2.1) → False)))))))))))))
theorem lc_0 {l : LX} {d mc ms cc ss : Nat} {P : RP} {I : WI} {F : WF} {L : WL} {t : Nat} {x3 : Int32} (hcm : cc + 0 ≤ mc ∧ ss + 0 ≤ ms) (hg : gw_0 l I F L t x3) (hx : ∀ r : WI × WF × WL × Nat, r = u_0 l I F L t x3 → Wp l 287 (d + 200) mc ms P cc ss 1611 [(0, .ref 1000050), (1, .ref 0), (2, .ref 74), (3, .int x3)] [] SH (r.1, r.2.1, r.2.2.1, RT r.2.2.2)) : Wp l 287 (d + 200) mc ms P cc ss 220 [(0, .ref 1000050), (1, .ref 0), (2, .ref 74), (3, .int x3)] [] SH (I, F, L, RT t) := by
  obtain ⟨T1, hT1⟩ : ∃ r : WI × WF × WL × Nat, r = u_0 l I F L t x3 := ⟨_, rfl⟩
  have hx := fun r (hr : r = T1) => hx r (hr.trans hT1)
  have he := (hT1.trans (u_0.eq_1 ..)).symm
  have hg := Eq.mp (gw_0.eq_1 ..) hg
  obtain ⟨k1, hg⟩ := hg
  refine bk_287_220 k1 ?_
  obtain ⟨k2, hg⟩ := hg
  refine bk_287_226 k2 ?_
  obtain ⟨k3, hg⟩ := hg
  refine bk_287_231 k3 ?_
  obtain ⟨k4, hg⟩ := hg
  refine bk_287_236 (cq_I_I (cc_105 (d := d + 197)  k4)) ?_ hcm
  rintro _ _ _ _ _ ⟨p1, hr, rfl, rfl, rfl, rfl, rfl⟩
  have he := bx_eq hr he
  have hg := bx_un hr hg
  obtain ⟨k5, hg⟩ := hg
  refine bk_287_239 k5 ?_
  obtain ⟨k6, hg⟩ := hg
  refine bk_287_245 k6 ?_
  obtain ⟨k7, hg⟩ := hg
  refine bk_287_250 k7 ?_
  obtain ⟨k8, hg⟩ := hg
  refine bk_287_255 (cq_I_I (cc_172 (d := d + 197)  k8)) ?_ hcm
  rintro _ _ _ _ _ ⟨p2, hr, rfl, rfl, rfl, rfl, rfl⟩
  have he := bx_eq hr he
  have hg := bx_un hr hg
  refine bk_287_258 (fun h9 => ?_) (fun h9 => ?_)
  · have he := ite_p h9 he
    exact hx (p2.2, F, L, t) he
  · have he := ite_n h9 he
    have hg := hg h9
    exact hg.elim
/-- case 1 of the law -/
noncomputable def u_1 (l : LX) (I : WI) (F : WF) (L : WL) (t : Nat) (x3 : Int32) : WI × WF × WL × Nat := (bx ((v_108 I (l.2.2 (x3 + 1).toNatClampNeg) (l.2.2 (x3 + 2).toNatClampNeg) (l.2.2 (x3 + 3).toNatClampNeg) (l.2.2 (x3 + 4).toNatClampNeg)) : Int32 × WI) (fun p1 => (bx ((v_174 p1.2 (l.2.2 (x3 + 1).toNatClampNeg) (l.2.2 (x3 + 2).toNatClampNeg) (l.2.2 (x3 + 3).toNatClampNeg) (l.2.2 (x3 + 4).toNatClampNeg)) : Int32 × WI) (fun p2 => (if p1.1 = p2.1 then (p2.2, F, L, t) else (p2.2, F, L, t))))))
noncomputable def gw_1 (l : LX) (I : WI) (F : WF) (L : WL) (t : Nat) (x3 : Int32) : Prop := ((vp_in (x3 + 1) l.2.1) ∧ ((vp_in (x3 + 2) l.2.1) ∧ ((vp_in (x3 + 3) l.2.1) ∧ ((vp_in (x3 + 4) l.2.1) ∧ ((g_108 I (l.2.2 (x3 + 1).toNatClampNeg) (l.2.2 (x3 + 2).toNatClampNeg) (l.2.2 (x3 + 3).toNatClampNeg) (l.2.2 (x3 + 4).toNatClampNeg)) ∧ (bx ((v_108 I (l.2.2 (x3 + 1).toNatClampNeg) (l.2.2 (x3 + 2).toNatClampNeg) (l.2.2 (x3 + 3).toNatClampNeg) (l.2.2 (x3 + 4).toNatClampNeg)) : Int32 × WI) (fun p1 => ((vp_in (x3 + 1) l.2.1) ∧ ((vp_in (x3 + 2) l.2.1) ∧ ((vp_in (x3 + 3) l.2.1) ∧ ((vp_in (x3 + 4) l.2.1) ∧ ((g_174 p1.2 (l.2.2 (x3 + 1).toNatClampNeg) (l.2.2 (x3 + 2).toNatClampNeg) (l.2.2 (x3 + 3).toNatClampNeg) (l.2.2 (x3 + 4).toNatClampNeg)) ∧ (bx ((v_174 p1.2 (l.2.2 (x3 + 1).toNatClampNeg) (l.2.2 (x3 + 2).toNatClampNeg) (l.2.2 (x3 + 3).toNatClampNeg) (l.2.2 (x3 + 4).toNatClampNeg)) : Int32 × WI) (fun p2 => (¬ (p1.1 = p2.1) → False)))))))))))))))
theorem lc_1 {l : LX} {d mc ms cc ss : Nat} {P : RP} {I : WI} {F : WF} {L : WL} {t : Nat} {x3 : Int32} (hcm : cc + 0 ≤ mc ∧ ss + 0 ≤ ms) (hg : gw_1 l I F L t x3) (hx : ∀ r : WI × WF × WL × Nat, r = u_1 l I F L t x3 → Wp l 287 (d + 200) mc ms P cc ss 1611 [(0, .ref 1000050), (1, .ref 0), (2, .ref 74), (3, .int x3)] [] SH (r.1, r.2.1, r.2.2.1, RT r.2.2.2)) : Wp l 287 (d + 200) mc ms P cc ss 263 [(0, .ref 1000050), (1, .ref 0), (2, .ref 74), (3, .int x3)] [] SH (I, F, L, RT t) := by
  obtain ⟨T1, hT1⟩ : ∃ r : WI × WF × WL × Nat, r = u_1 l I F L t x3 := ⟨_, rfl⟩
  have hx := fun r (hr : r = T1) => hx r (hr.trans hT1)
  have he := (hT1.trans (u_1.eq_1 ..)).symm
  have hg := Eq.mp (gw_1.eq_1 ..) hg
  obtain ⟨k1, hg⟩ := hg
  refine bk_287_263 k1 ?_
  obtain ⟨k2, hg⟩ := hg
  refine bk_287_269 k2 ?_
  obtain ⟨k3, hg⟩ := hg
  refine bk_287_274 k3 ?_
  obtain ⟨k4, hg⟩ := hg
  refine bk_287_279 k4 ?_
  obtain ⟨k5, hg⟩ := hg
  refine bk_287_284 (cq_I_I (cc_108 (d := d + 195)  k5)) ?_ hcm
  rintro _ _ _ _ _ ⟨p1, hr, rfl, rfl, rfl, rfl, rfl⟩
  have he := bx_eq hr he
  have hg := bx_un hr hg
  obtain ⟨k6, hg⟩ := hg
  refine bk_287_287 k6 ?_
  obtain ⟨k7, hg⟩ := hg
  refine bk_287_293 k7 ?_
  obtain ⟨k8, hg⟩ := hg
  refine bk_287_298 k8 ?_
  obtain ⟨k9, hg⟩ := hg
  refine bk_287_303 k9 ?_
  obtain ⟨k10, hg⟩ := hg
  refine bk_287_308 (cq_I_I (cc_174 (d := d + 197)  k10)) ?_ hcm
  rintro _ _ _ _ _ ⟨p2, hr, rfl, rfl, rfl, rfl, rfl⟩
  have he := bx_eq hr he
  have hg := bx_un hr hg
  refine bk_287_311 (fun h11 => ?_) (fun h11 => ?_)
  · have he := ite_p h11 he
    exact hx (p2.2, F, L, t) he
  · have he := ite_n h11 he
    have hg := hg h11
    exact hg.elim
/-- case 2 of the law -/
noncomputable def u_2 (l : LX) (I : WI) (F : WF) (L : WL) (t : Nat) (x3 : Int32) : WI × WF × WL × Nat := (bx ((v_109 I (l.2.2 (x3 + 1).toNatClampNeg) (l.2.2 (x3 + 2).toNatClampNeg) (l.2.2 (x3 + 3).toNatClampNeg) (l.2.2 (x3 + 4).toNatClampNeg)) : Int32 × WI) (fun p1 => (bx ((v_178 p1.2 (l.2.2 (x3 + 1).toNatClampNeg) (l.2.2 (x3 + 2).toNatClampNeg) (l.2.2 (x3 + 3).toNatClampNeg) (l.2.2 (x3 + 4).toNatClampNeg)) : Int32 × WI) (fun p2 => (if p1.1 = p2.1 then (p2.2, F, L, t) else (p2.2, F, L, t))))))
noncomputable def gw_2 (l : LX) (I : WI) (F : WF) (L : WL) (t : Nat) (x3 : Int32) : Prop := ((vp_in (x3 + 1) l.2.1) ∧ ((vp_in (x3 + 2) l.2.1) ∧ ((vp_in (x3 + 3) l.2.1) ∧ ((vp_in (x3 + 4) l.2.1) ∧ ((g_109 I (l.2.2 (x3 + 1).toNatClampNeg) (l.2.2 (x3 + 2).toNatClampNeg) (l.2.2 (x3 + 3).toNatClampNeg) (l.2.2 (x3 + 4).toNatClampNeg)) ∧ (bx ((v_109 I (l.2.2 (x3 + 1).toNatClampNeg) (l.2.2 (x3 + 2).toNatClampNeg) (l.2.2 (x3 + 3).toNatClampNeg) (l.2.2 (x3 + 4).toNatClampNeg)) : Int32 × WI) (fun p1 => ((vp_in (x3 + 1) l.2.1) ∧ ((vp_in (x3 + 2) l.2.1) ∧ ((vp_in (x3 + 3) l.2.1) ∧ ((vp_in (x3 + 4) l.2.1) ∧ ((g_178 p1.2 (l.2.2 (x3 + 1).toNatClampNeg) (l.2.2 (x3 + 2).toNatClampNeg) (l.2.2 (x3 + 3).toNatClampNeg) (l.2.2 (x3 + 4).toNatClampNeg)) ∧ (bx ((v_178 p1.2 (l.2.2 (x3 + 1).toNatClampNeg) (l.2.2 (x3 + 2).toNatClampNeg) (l.2.2 (x3 + 3).toNatClampNeg) (l.2.2 (x3 + 4).toNatClampNeg)) : Int32 × WI) (fun p2 => (¬ (p1.1 = p2.1) → False)))))))))))))))
theorem lc_2 {l : LX} {d mc ms cc ss : Nat} {P : RP} {I : WI} {F : WF} {L : WL} {t : Nat} {x3 : Int32} (hcm : cc + 0 ≤ mc ∧ ss + 0 ≤ ms) (hg : gw_2 l I F L t x3) (hx : ∀ r : WI × WF × WL × Nat, r = u_2 l I F L t x3 → Wp l 287 (d + 200) mc ms P cc ss 1611 [(0, .ref 1000050), (1, .ref 0), (2, .ref 74), (3, .int x3)] [] SH (r.1, r.2.1, r.2.2.1, RT r.2.2.2)) : Wp l 287 (d + 200) mc ms P cc ss 316 [(0, .ref 1000050), (1, .ref 0), (2, .ref 74), (3, .int x3)] [] SH (I, F, L, RT t) := by
  obtain ⟨T1, hT1⟩ : ∃ r : WI × WF × WL × Nat, r = u_2 l I F L t x3 := ⟨_, rfl⟩
  have hx := fun r (hr : r = T1) => hx r (hr.trans hT1)
  have he := (hT1.trans (u_2.eq_1 ..)).symm
  have hg := Eq.mp (gw_2.eq_1 ..) hg
  obtain ⟨k1, hg⟩ := hg
  refine bk_287_316 k1 ?_
  obtain ⟨k2, hg⟩ := hg
  refine bk_287_322 k2 ?_
  obtain ⟨k3, hg⟩ := hg
  refine bk_287_327 k3 ?_
  obtain ⟨k4, hg⟩ := hg
  refine bk_287_332 k4 ?_
  obtain ⟨k5, hg⟩ := hg
  refine bk_287_337 (cq_I_I (cc_109 (d := d + 196)  k5)) ?_ hcm
  rintro _ _ _ _ _ ⟨p1, hr, rfl, rfl, rfl, rfl, rfl⟩
  have he := bx_eq hr he
  have hg := bx_un hr hg
  obtain ⟨k6, hg⟩ := hg
  refine bk_287_340 k6 ?_
  obtain ⟨k7, hg⟩ := hg
  refine bk_287_346 k7 ?_
  obtain ⟨k8, hg⟩ := hg
  refine bk_287_351 k8 ?_
  obtain ⟨k9, hg⟩ := hg
  refine bk_287_356 k9 ?_
  obtain ⟨k10, hg⟩ := hg
  refine bk_287_361 (cq_I_I (cc_178 (d := d + 197)  k10)) ?_ hcm
  rintro _ _ _ _ _ ⟨p2, hr, rfl, rfl, rfl, rfl, rfl⟩
  have he := bx_eq hr he
  have hg := bx_un hr hg
  refine bk_287_364 (fun h11 => ?_) (fun h11 => ?_)
  · have he := ite_p h11 he
    exact hx (p2.2, F, L, t) he
  · have he := ite_n h11 he
    have hg := hg h11
    exact hg.elim
/-- case 3 of the law -/
noncomputable def u_3 (l : LX) (I : WI) (F : WF) (L : WL) (t : Nat) (x3 : Int32) : WI × WF × WL × Nat := (bx ((v_112 I (l.2.2 (x3 + 1).toNatClampNeg) (l.2.2 (x3 + 2).toNatClampNeg)) : Int32 × WI) (fun p1 => (bx ((v_181 p1.2 (l.2.2 (x3 + 1).toNatClampNeg) (l.2.2 (x3 + 2).toNatClampNeg)) : Int32 × WI) (fun p2 => (if p1.1 = p2.1 then (p2.2, F, L, t) else (p2.2, F, L, t))))))
noncomputable def gw_3 (l : LX) (I : WI) (F : WF) (L : WL) (t : Nat) (x3 : Int32) : Prop := ((vp_in (x3 + 1) l.2.1) ∧ ((vp_in (x3 + 2) l.2.1) ∧ ((g_112 I (l.2.2 (x3 + 1).toNatClampNeg) (l.2.2 (x3 + 2).toNatClampNeg)) ∧ (bx ((v_112 I (l.2.2 (x3 + 1).toNatClampNeg) (l.2.2 (x3 + 2).toNatClampNeg)) : Int32 × WI) (fun p1 => ((vp_in (x3 + 1) l.2.1) ∧ ((vp_in (x3 + 2) l.2.1) ∧ ((g_181 p1.2 (l.2.2 (x3 + 1).toNatClampNeg) (l.2.2 (x3 + 2).toNatClampNeg)) ∧ (bx ((v_181 p1.2 (l.2.2 (x3 + 1).toNatClampNeg) (l.2.2 (x3 + 2).toNatClampNeg)) : Int32 × WI) (fun p2 => (¬ (p1.1 = p2.1) → False)))))))))))
theorem lc_3 {l : LX} {d mc ms cc ss : Nat} {P : RP} {I : WI} {F : WF} {L : WL} {t : Nat} {x3 : Int32} (hcm : cc + 0 ≤ mc ∧ ss + 0 ≤ ms) (hg : gw_3 l I F L t x3) (hx : ∀ r : WI × WF × WL × Nat, r = u_3 l I F L t x3 → Wp l 287 (d + 200) mc ms P cc ss 1611 [(0, .ref 1000050), (1, .ref 0), (2, .ref 74), (3, .int x3)] [] SH (r.1, r.2.1, r.2.2.1, RT r.2.2.2)) : Wp l 287 (d + 200) mc ms P cc ss 369 [(0, .ref 1000050), (1, .ref 0), (2, .ref 74), (3, .int x3)] [] SH (I, F, L, RT t) := by
  obtain ⟨T1, hT1⟩ : ∃ r : WI × WF × WL × Nat, r = u_3 l I F L t x3 := ⟨_, rfl⟩
  have hx := fun r (hr : r = T1) => hx r (hr.trans hT1)
  have he := (hT1.trans (u_3.eq_1 ..)).symm
  have hg := Eq.mp (gw_3.eq_1 ..) hg
  obtain ⟨k1, hg⟩ := hg
  refine bk_287_369 k1 ?_
  obtain ⟨k2, hg⟩ := hg
  refine bk_287_375 k2 ?_
  obtain ⟨k3, hg⟩ := hg
  refine bk_287_380 (cq_I_I (cc_112 (d := d + 197)  k3)) ?_ hcm
  rintro _ _ _ _ _ ⟨p1, hr, rfl, rfl, rfl, rfl, rfl⟩
  have he := bx_eq hr he
  have hg := bx_un hr hg
  obtain ⟨k4, hg⟩ := hg
  refine bk_287_383 k4 ?_
  obtain ⟨k5, hg⟩ := hg
  refine bk_287_389 k5 ?_
  obtain ⟨k6, hg⟩ := hg
  refine bk_287_394 (cq_I_I (cc_181 (d := d + 197)  k6)) ?_ hcm
  rintro _ _ _ _ _ ⟨p2, hr, rfl, rfl, rfl, rfl, rfl⟩
  have he := bx_eq hr he
  have hg := bx_un hr hg
  refine bk_287_397 (fun h7 => ?_) (fun h7 => ?_)
  · have he := ite_p h7 he
    exact hx (p2.2, F, L, t) he
  · have he := ite_n h7 he
    have hg := hg h7
    exact hg.elim
/-- case 4 of the law -/
noncomputable def u_4 (l : LX) (I : WI) (F : WF) (L : WL) (t : Nat) (x3 : Int32) : WI × WF × WL × Nat := (bx ((v_113 I (l.2.2 (x3 + 1).toNatClampNeg) (l.2.2 (x3 + 2).toNatClampNeg)) : Int32 × WI) (fun p1 => (bx ((v_210 p1.2 L (l.2.2 (x3 + 1).toNatClampNeg) (l.2.2 (x3 + 2).toNatClampNeg)) : Int32 × WI × WL) (fun p2 => (if p1.1 = p2.1 then (p2.2.1, F, p2.2.2, t) else (p2.2.1, F, p2.2.2, t))))))
noncomputable def gw_4 (l : LX) (I : WI) (F : WF) (L : WL) (t : Nat) (x3 : Int32) : Prop := ((vp_in (x3 + 1) l.2.1) ∧ ((vp_in (x3 + 2) l.2.1) ∧ ((g_113 I (l.2.2 (x3 + 1).toNatClampNeg) (l.2.2 (x3 + 2).toNatClampNeg)) ∧ (bx ((v_113 I (l.2.2 (x3 + 1).toNatClampNeg) (l.2.2 (x3 + 2).toNatClampNeg)) : Int32 × WI) (fun p1 => ((vp_in (x3 + 1) l.2.1) ∧ ((vp_in (x3 + 2) l.2.1) ∧ ((g_210 p1.2 L (l.2.2 (x3 + 1).toNatClampNeg) (l.2.2 (x3 + 2).toNatClampNeg)) ∧ (bx ((v_210 p1.2 L (l.2.2 (x3 + 1).toNatClampNeg) (l.2.2 (x3 + 2).toNatClampNeg)) : Int32 × WI × WL) (fun p2 => (¬ (p1.1 = p2.1) → False)))))))))))
theorem lc_4 {l : LX} {d mc ms cc ss : Nat} {P : RP} {I : WI} {F : WF} {L : WL} {t : Nat} {x3 : Int32} (hcm : cc + 0 ≤ mc ∧ ss + 0 ≤ ms) (hg : gw_4 l I F L t x3) (hx : ∀ r : WI × WF × WL × Nat, r = u_4 l I F L t x3 → Wp l 287 (d + 200) mc ms P cc ss 1611 [(0, .ref 1000050), (1, .ref 0), (2, .ref 74), (3, .int x3)] [] SH (r.1, r.2.1, r.2.2.1, RT r.2.2.2)) : Wp l 287 (d + 200) mc ms P cc ss 402 [(0, .ref 1000050), (1, .ref 0), (2, .ref 74), (3, .int x3)] [] SH (I, F, L, RT t) := by
  obtain ⟨T1, hT1⟩ : ∃ r : WI × WF × WL × Nat, r = u_4 l I F L t x3 := ⟨_, rfl⟩
  have hx := fun r (hr : r = T1) => hx r (hr.trans hT1)
  have he := (hT1.trans (u_4.eq_1 ..)).symm
  have hg := Eq.mp (gw_4.eq_1 ..) hg
  obtain ⟨k1, hg⟩ := hg
  refine bk_287_402 k1 ?_
  obtain ⟨k2, hg⟩ := hg
  refine bk_287_408 k2 ?_
  obtain ⟨k3, hg⟩ := hg
  refine bk_287_413 (cq_I_I (cc_113 (d := d + 193)  k3)) ?_ hcm
  rintro _ _ _ _ _ ⟨p1, hr, rfl, rfl, rfl, rfl, rfl⟩
  have he := bx_eq hr he
  have hg := bx_un hr hg
  obtain ⟨k4, hg⟩ := hg
  refine bk_287_416 k4 ?_
  obtain ⟨k5, hg⟩ := hg
  refine bk_287_422 k5 ?_
  obtain ⟨k6, hg⟩ := hg
  refine bk_287_427 (cq_I_IL (cc_210 (d := d + 199) (by omega)  k6)) ?_ hcm
  rintro _ _ _ _ _ ⟨p2, hr, rfl, rfl, rfl, rfl, rfl⟩
  have he := bx_eq hr he
  have hg := bx_un hr hg
  refine bk_287_430 (fun h7 => ?_) (fun h7 => ?_)
  · have he := ite_p h7 he
    exact hx (p2.2.1, F, p2.2.2, t) he
  · have he := ite_n h7 he
    have hg := hg h7
    exact hg.elim
/-- case 5 of the law -/
noncomputable def u_5 (l : LX) (I : WI) (F : WF) (L : WL) (t : Nat) (x3 : Int32) : WI × WF × WL × Nat := (if (v_116 I (l.2.2 (x3 + 1).toNatClampNeg) (l.2.2 (x3 + 2).toNatClampNeg)) = (v_223 I (l.2.2 (x3 + 1).toNatClampNeg) (l.2.2 (x3 + 2).toNatClampNeg)) then (I, F, L, t) else (I, F, L, t))
noncomputable def gw_5 (l : LX) (I : WI) (F : WF) (L : WL) (t : Nat) (x3 : Int32) : Prop := ((vp_in (x3 + 1) l.2.1) ∧ ((vp_in (x3 + 2) l.2.1) ∧ ((g_116 I (l.2.2 (x3 + 1).toNatClampNeg) (l.2.2 (x3 + 2).toNatClampNeg)) ∧ ((vp_in (x3 + 1) l.2.1) ∧ ((vp_in (x3 + 2) l.2.1) ∧ ((g_223 I (l.2.2 (x3 + 1).toNatClampNeg) (l.2.2 (x3 + 2).toNatClampNeg)) ∧ (¬ ((v_116 I (l.2.2 (x3 + 1).toNatClampNeg) (l.2.2 (x3 + 2).toNatClampNeg)) = (v_223 I (l.2.2 (x3 + 1).toNatClampNeg) (l.2.2 (x3 + 2).toNatClampNeg))) → False)))))))
theorem lc_5 {l : LX} {d mc ms cc ss : Nat} {P : RP} {I : WI} {F : WF} {L : WL} {t : Nat} {x3 : Int32} (hcm : cc + 0 ≤ mc ∧ ss + 0 ≤ ms) (hg : gw_5 l I F L t x3) (hx : ∀ r : WI × WF × WL × Nat, r = u_5 l I F L t x3 → Wp l 287 (d + 200) mc ms P cc ss 1611 [(0, .ref 1000050), (1, .ref 0), (2, .ref 74), (3, .int x3)] [] SH (r.1, r.2.1, r.2.2.1, RT r.2.2.2)) : Wp l 287 (d + 200) mc ms P cc ss 435 [(0, .ref 1000050), (1, .ref 0), (2, .ref 74), (3, .int x3)] [] SH (I, F, L, RT t) := by
  obtain ⟨T1, hT1⟩ : ∃ r : WI × WF × WL × Nat, r = u_5 l I F L t x3 := ⟨_, rfl⟩
  have hx := fun r (hr : r = T1) => hx r (hr.trans hT1)
  have he := (hT1.trans (u_5.eq_1 ..)).symm
  have hg := Eq.mp (gw_5.eq_1 ..) hg
  obtain ⟨k1, hg⟩ := hg
  refine bk_287_435 k1 ?_
  obtain ⟨k2, hg⟩ := hg
  refine bk_287_441 k2 ?_
  obtain ⟨k3, hg⟩ := hg
  refine bk_287_446 (cc_116 (d := d + 196)  k3) ?_ hcm
  obtain ⟨k4, hg⟩ := hg
  refine bk_287_449 k4 ?_
  obtain ⟨k5, hg⟩ := hg
  refine bk_287_455 k5 ?_
  obtain ⟨k6, hg⟩ := hg
  refine bk_287_460 (cc_223 (d := d + 195)  k6) ?_ hcm
  refine bk_287_463 (fun h7 => ?_) (fun h7 => ?_)
  · have he := ite_p h7 he
    exact hx (I, F, L, t) he
  · have he := ite_n h7 he
    have hg := hg h7
    exact hg.elim
/-- case 6 of the law -/
noncomputable def u_6 (l : LX) (I : WI) (F : WF) (L : WL) (t : Nat) (x3 : Int32) : WI × WF × WL × Nat := (bx ((v_117 I (l.2.2 (x3 + 1).toNatClampNeg) (l.2.2 (x3 + 2).toNatClampNeg)) : Int32 × WI) (fun p1 => (bx ((v_169 p1.2 (l.2.2 (x3 + 1).toNatClampNeg) (l.2.2 (x3 + 2).toNatClampNeg)) : Int32 × WI) (fun p2 => (if p1.1 = p2.1 then (p2.2, F, L, t) else (p2.2, F, L, t))))))
noncomputable def gw_6 (l : LX) (I : WI) (F : WF) (L : WL) (t : Nat) (x3 : Int32) : Prop := ((vp_in (x3 + 1) l.2.1) ∧ ((vp_in (x3 + 2) l.2.1) ∧ ((g_117 (l.2.2 (x3 + 1).toNatClampNeg) (l.2.2 (x3 + 2).toNatClampNeg)) ∧ (bx ((v_117 I (l.2.2 (x3 + 1).toNatClampNeg) (l.2.2 (x3 + 2).toNatClampNeg)) : Int32 × WI) (fun p1 => ((vp_in (x3 + 1) l.2.1) ∧ ((vp_in (x3 + 2) l.2.1) ∧ ((g_169 (l.2.2 (x3 + 1).toNatClampNeg) (l.2.2 (x3 + 2).toNatClampNeg)) ∧ (bx ((v_169 p1.2 (l.2.2 (x3 + 1).toNatClampNeg) (l.2.2 (x3 + 2).toNatClampNeg)) : Int32 × WI) (fun p2 => (¬ (p1.1 = p2.1) → False)))))))))))
theorem lc_6 {l : LX} {d mc ms cc ss : Nat} {P : RP} {I : WI} {F : WF} {L : WL} {t : Nat} {x3 : Int32} (hcm : cc + 0 ≤ mc ∧ ss + 0 ≤ ms) (hg : gw_6 l I F L t x3) (hx : ∀ r : WI × WF × WL × Nat, r = u_6 l I F L t x3 → Wp l 287 (d + 200) mc ms P cc ss 1611 [(0, .ref 1000050), (1, .ref 0), (2, .ref 74), (3, .int x3)] [] SH (r.1, r.2.1, r.2.2.1, RT r.2.2.2)) : Wp l 287 (d + 200) mc ms P cc ss 468 [(0, .ref 1000050), (1, .ref 0), (2, .ref 74), (3, .int x3)] [] SH (I, F, L, RT t) := by
  obtain ⟨T1, hT1⟩ : ∃ r : WI × WF × WL × Nat, r = u_6 l I F L t x3 := ⟨_, rfl⟩
  have hx := fun r (hr : r = T1) => hx r (hr.trans hT1)
  have he := (hT1.trans (u_6.eq_1 ..)).symm
  have hg := Eq.mp (gw_6.eq_1 ..) hg
  obtain ⟨k1, hg⟩ := hg
  refine bk_287_468 k1 ?_
  obtain ⟨k2, hg⟩ := hg
  refine bk_287_474 k2 ?_
  obtain ⟨k3, hg⟩ := hg
  refine bk_287_479 (cq_I_I (cc_117 (d := d + 197)  k3)) ?_ hcm
  rintro _ _ _ _ _ ⟨p1, hr, rfl, rfl, rfl, rfl, rfl⟩
  have he := bx_eq hr he
  have hg := bx_un hr hg
  obtain ⟨k4, hg⟩ := hg
  refine bk_287_482 k4 ?_
  obtain ⟨k5, hg⟩ := hg
  refine bk_287_488 k5 ?_
  obtain ⟨k6, hg⟩ := hg
  refine bk_287_493 (cq_I_I (cc_169 (d := d + 198)  k6)) ?_ hcm
  rintro _ _ _ _ _ ⟨p2, hr, rfl, rfl, rfl, rfl, rfl⟩
  have he := bx_eq hr he
  have hg := bx_un hr hg
  refine bk_287_496 (fun h7 => ?_) (fun h7 => ?_)
  · have he := ite_p h7 he
    exact hx (p2.2, F, L, t) he
  · have he := ite_n h7 he
    have hg := hg h7
    exact hg.elim
/-- case 7 of the law -/
noncomputable def u_7 (l : LX) (I : WI) (F : WF) (L : WL) (t : Nat) (x3 : Int32) : WI × WF × WL × Nat := (bx ((v_119 I (l.2.2 (x3 + 1).toNatClampNeg) (l.2.2 (x3 + 2).toNatClampNeg) (l.2.2 (x3 + 3).toNatClampNeg)) : Int32 × WI) (fun p1 => (bx ((v_227 p1.2 L (l.2.2 (x3 + 1).toNatClampNeg) (l.2.2 (x3 + 2).toNatClampNeg) (l.2.2 (x3 + 3).toNatClampNeg)) : Int32 × WI × WL) (fun p2 => (if p1.1 = p2.1 then (p2.2.1, F, p2.2.2, t) else (p2.2.1, F, p2.2.2, t))))))
noncomputable def gw_7 (l : LX) (I : WI) (F : WF) (L : WL) (t : Nat) (x3 : Int32) : Prop := ((vp_in (x3 + 1) l.2.1) ∧ ((vp_in (x3 + 2) l.2.1) ∧ ((vp_in (x3 + 3) l.2.1) ∧ ((g_119 I (l.2.2 (x3 + 1).toNatClampNeg) (l.2.2 (x3 + 2).toNatClampNeg) (l.2.2 (x3 + 3).toNatClampNeg)) ∧ (bx ((v_119 I (l.2.2 (x3 + 1).toNatClampNeg) (l.2.2 (x3 + 2).toNatClampNeg) (l.2.2 (x3 + 3).toNatClampNeg)) : Int32 × WI) (fun p1 => ((vp_in (x3 + 1) l.2.1) ∧ ((vp_in (x3 + 2) l.2.1) ∧ ((vp_in (x3 + 3) l.2.1) ∧ ((g_227 p1.2 L (l.2.2 (x3 + 1).toNatClampNeg) (l.2.2 (x3 + 2).toNatClampNeg) (l.2.2 (x3 + 3).toNatClampNeg)) ∧ (bx ((v_227 p1.2 L (l.2.2 (x3 + 1).toNatClampNeg) (l.2.2 (x3 + 2).toNatClampNeg) (l.2.2 (x3 + 3).toNatClampNeg)) : Int32 × WI × WL) (fun p2 => (¬ (p1.1 = p2.1) → False)))))))))))))
theorem lc_7 {l : LX} {d mc ms cc ss : Nat} {P : RP} {I : WI} {F : WF} {L : WL} {t : Nat} {x3 : Int32} (hcm : cc + 0 ≤ mc ∧ ss + 0 ≤ ms) (hg : gw_7 l I F L t x3) (hx : ∀ r : WI × WF × WL × Nat, r = u_7 l I F L t x3 → Wp l 287 (d + 200) mc ms P cc ss 1611 [(0, .ref 1000050), (1, .ref 0), (2, .ref 74), (3, .int x3)] [] SH (r.1, r.2.1, r.2.2.1, RT r.2.2.2)) : Wp l 287 (d + 200) mc ms P cc ss 501 [(0, .ref 1000050), (1, .ref 0), (2, .ref 74), (3, .int x3)] [] SH (I, F, L, RT t) := by
  obtain ⟨T1, hT1⟩ : ∃ r : WI × WF × WL × Nat, r = u_7 l I F L t x3 := ⟨_, rfl⟩
  have hx := fun r (hr : r = T1) => hx r (hr.trans hT1)
  have he := (hT1.trans (u_7.eq_1 ..)).symm
  have hg := Eq.mp (gw_7.eq_1 ..) hg
  obtain ⟨k1, hg⟩ := hg
  refine bk_287_501 k1 ?_
  obtain ⟨k2, hg⟩ := hg
  refine bk_287_507 k2 ?_
  obtain ⟨k3, hg⟩ := hg
  refine bk_287_512 k3 ?_
  obtain ⟨k4, hg⟩ := hg
  refine bk_287_517 (cq_I_I (cc_119 (d := d + 193)  k4)) ?_ hcm
  rintro _ _ _ _ _ ⟨p1, hr, rfl, rfl, rfl, rfl, rfl⟩
  have he := bx_eq hr he
  have hg := bx_un hr hg
  obtain ⟨k5, hg⟩ := hg
  refine bk_287_520 k5 ?_
  obtain ⟨k6, hg⟩ := hg
  refine bk_287_526 k6 ?_
  obtain ⟨k7, hg⟩ := hg
  refine bk_287_531 k7 ?_
  obtain ⟨k8, hg⟩ := hg
  refine bk_287_536 (cq_I_IL (cc_227 (d := d + 199) (by omega)  k8)) ?_ hcm
  rintro _ _ _ _ _ ⟨p2, hr, rfl, rfl, rfl, rfl, rfl⟩
  have he := bx_eq hr he
  have hg := bx_un hr hg
  refine bk_287_539 (fun h9 => ?_) (fun h9 => ?_)
  · have he := ite_p h9 he
    exact hx (p2.2.1, F, p2.2.2, t) he
  · have he := ite_n h9 he
    have hg := hg h9
    exact hg.elim
/-- case 8 of the law -/
noncomputable def u_8 (l : LX) (I : WI) (F : WF) (L : WL) (t : Nat) (x3 : Int32) : WI × WF × WL × Nat := (if (v_121 I (l.2.2 (x3 + 1).toNatClampNeg) (l.2.2 (x3 + 2).toNatClampNeg)) = (v_182 I (l.2.2 (x3 + 1).toNatClampNeg) (l.2.2 (x3 + 2).toNatClampNeg)) then (I, F, L, t) else (I, F, L, t))
noncomputable def gw_8 (l : LX) (I : WI) (F : WF) (L : WL) (t : Nat) (x3 : Int32) : Prop := ((vp_in (x3 + 1) l.2.1) ∧ ((vp_in (x3 + 2) l.2.1) ∧ ((g_121 I (l.2.2 (x3 + 1).toNatClampNeg) (l.2.2 (x3 + 2).toNatClampNeg)) ∧ ((vp_in (x3 + 1) l.2.1) ∧ ((vp_in (x3 + 2) l.2.1) ∧ ((g_182 I (l.2.2 (x3 + 1).toNatClampNeg) (l.2.2 (x3 + 2).toNatClampNeg)) ∧ (¬ ((v_121 I (l.2.2 (x3 + 1).toNatClampNeg) (l.2.2 (x3 + 2).toNatClampNeg)) = (v_182 I (l.2.2 (x3 + 1).toNatClampNeg) (l.2.2 (x3 + 2).toNatClampNeg))) → False)))))))
theorem lc_8 {l : LX} {d mc ms cc ss : Nat} {P : RP} {I : WI} {F : WF} {L : WL} {t : Nat} {x3 : Int32} (hcm : cc + 0 ≤ mc ∧ ss + 0 ≤ ms) (hg : gw_8 l I F L t x3) (hx : ∀ r : WI × WF × WL × Nat, r = u_8 l I F L t x3 → Wp l 287 (d + 200) mc ms P cc ss 1611 [(0, .ref 1000050), (1, .ref 0), (2, .ref 74), (3, .int x3)] [] SH (r.1, r.2.1, r.2.2.1, RT r.2.2.2)) : Wp l 287 (d + 200) mc ms P cc ss 544 [(0, .ref 1000050), (1, .ref 0), (2, .ref 74), (3, .int x3)] [] SH (I, F, L, RT t) := by
  obtain ⟨T1, hT1⟩ : ∃ r : WI × WF × WL × Nat, r = u_8 l I F L t x3 := ⟨_, rfl⟩
  have hx := fun r (hr : r = T1) => hx r (hr.trans hT1)
  have he := (hT1.trans (u_8.eq_1 ..)).symm
  have hg := Eq.mp (gw_8.eq_1 ..) hg
  obtain ⟨k1, hg⟩ := hg
  refine bk_287_544 k1 ?_
  obtain ⟨k2, hg⟩ := hg
  refine bk_287_550 k2 ?_
  obtain ⟨k3, hg⟩ := hg
  refine bk_287_555 (cc_121 (d := d + 196)  k3) ?_ hcm
  obtain ⟨k4, hg⟩ := hg
  refine bk_287_558 k4 ?_
  obtain ⟨k5, hg⟩ := hg
  refine bk_287_564 k5 ?_
  obtain ⟨k6, hg⟩ := hg
  refine bk_287_569 (cc_182 (d := d + 195)  k6) ?_ hcm
  refine bk_287_572 (fun h7 => ?_) (fun h7 => ?_)
  · have he := ite_p h7 he
    exact hx (I, F, L, t) he
  · have he := ite_n h7 he
    have hg := hg h7
    exact hg.elim
/-- case 9 of the law -/
noncomputable def u_9 (l : LX) (I : WI) (F : WF) (L : WL) (t : Nat) (x3 : Int32) : WI × WF × WL × Nat := (if (v_122 (l.2.2 (x3 + 1).toNatClampNeg)) = (v_189 (l.2.2 (x3 + 1).toNatClampNeg)) then (I, F, L, t) else (I, F, L, t))
noncomputable def gw_9 (l : LX) (I : WI) (F : WF) (L : WL) (t : Nat) (x3 : Int32) : Prop := ((vp_in (x3 + 1) l.2.1) ∧ ((g_122 (l.2.2 (x3 + 1).toNatClampNeg)) ∧ ((vp_in (x3 + 1) l.2.1) ∧ ((g_189 (l.2.2 (x3 + 1).toNatClampNeg)) ∧ (¬ ((v_122 (l.2.2 (x3 + 1).toNatClampNeg)) = (v_189 (l.2.2 (x3 + 1).toNatClampNeg))) → False)))))
theorem lc_9 {l : LX} {d mc ms cc ss : Nat} {P : RP} {I : WI} {F : WF} {L : WL} {t : Nat} {x3 : Int32} (hcm : cc + 0 ≤ mc ∧ ss + 0 ≤ ms) (hg : gw_9 l I F L t x3) (hx : ∀ r : WI × WF × WL × Nat, r = u_9 l I F L t x3 → Wp l 287 (d + 200) mc ms P cc ss 1611 [(0, .ref 1000050), (1, .ref 0), (2, .ref 74), (3, .int x3)] [] SH (r.1, r.2.1, r.2.2.1, RT r.2.2.2)) : Wp l 287 (d + 200) mc ms P cc ss 577 [(0, .ref 1000050), (1, .ref 0), (2, .ref 74), (3, .int x3)] [] SH (I, F, L, RT t) := by
  obtain ⟨T1, hT1⟩ : ∃ r : WI × WF × WL × Nat, r = u_9 l I F L t x3 := ⟨_, rfl⟩
  have hx := fun r (hr : r = T1) => hx r (hr.trans hT1)
  have he := (hT1.trans (u_9.eq_1 ..)).symm
  have hg := Eq.mp (gw_9.eq_1 ..) hg
  obtain ⟨k1, hg⟩ := hg
  refine bk_287_577 k1 ?_
  obtain ⟨k2, hg⟩ := hg
  refine bk_287_583 (cc_122 (d := d + 198)  k2) ?_ hcm
  obtain ⟨k3, hg⟩ := hg
  refine bk_287_586 k3 ?_
  obtain ⟨k4, hg⟩ := hg
  refine bk_287_592 (cc_189 (d := d + 198)  k4) ?_ hcm
  refine bk_287_595 (fun h5 => ?_) (fun h5 => ?_)
  · have he := ite_p h5 he
    exact hx (I, F, L, t) he
  · have he := ite_n h5 he
    have hg := hg h5
    exact hg.elim
/-- case 10 of the law -/
noncomputable def u_10 (l : LX) (I : WI) (F : WF) (L : WL) (t : Nat) (x3 : Int32) : WI × WF × WL × Nat := (bx ((v_123 I (l.2.2 (x3 + 1).toNatClampNeg)) : Int32 × WI) (fun p1 => (bx ((v_229 p1.2 (l.2.2 (x3 + 1).toNatClampNeg)) : Int32 × WI) (fun p2 => (if p1.1 = p2.1 then (p2.2, F, L, t) else (p2.2, F, L, t))))))
noncomputable def gw_10 (l : LX) (I : WI) (F : WF) (L : WL) (t : Nat) (x3 : Int32) : Prop := ((vp_in (x3 + 1) l.2.1) ∧ ((g_123 I (l.2.2 (x3 + 1).toNatClampNeg)) ∧ (bx ((v_123 I (l.2.2 (x3 + 1).toNatClampNeg)) : Int32 × WI) (fun p1 => ((vp_in (x3 + 1) l.2.1) ∧ ((g_229 p1.2 (l.2.2 (x3 + 1).toNatClampNeg)) ∧ (bx ((v_229 p1.2 (l.2.2 (x3 + 1).toNatClampNeg)) : Int32 × WI) (fun p2 => (¬ (p1.1 = p2.1) → False)))))))))
theorem lc_10 {l : LX} {d mc ms cc ss : Nat} {P : RP} {I : WI} {F : WF} {L : WL} {t : Nat} {x3 : Int32} (hcm : cc + 0 ≤ mc ∧ ss + 0 ≤ ms) (hg : gw_10 l I F L t x3) (hx : ∀ r : WI × WF × WL × Nat, r = u_10 l I F L t x3 → Wp l 287 (d + 200) mc ms P cc ss 1611 [(0, .ref 1000050), (1, .ref 0), (2, .ref 74), (3, .int x3)] [] SH (r.1, r.2.1, r.2.2.1, RT r.2.2.2)) : Wp l 287 (d + 200) mc ms P cc ss 600 [(0, .ref 1000050), (1, .ref 0), (2, .ref 74), (3, .int x3)] [] SH (I, F, L, RT t) := by
  obtain ⟨T1, hT1⟩ : ∃ r : WI × WF × WL × Nat, r = u_10 l I F L t x3 := ⟨_, rfl⟩
  have hx := fun r (hr : r = T1) => hx r (hr.trans hT1)
  have he := (hT1.trans (u_10.eq_1 ..)).symm
  have hg := Eq.mp (gw_10.eq_1 ..) hg
  obtain ⟨k1, hg⟩ := hg
  refine bk_287_600 k1 ?_
  obtain ⟨k2, hg⟩ := hg
  refine bk_287_606 (cq_I_I (cc_123 (d := d + 195)  k2)) ?_ hcm
  rintro _ _ _ _ _ ⟨p1, hr, rfl, rfl, rfl, rfl, rfl⟩
  have he := bx_eq hr he
  have hg := bx_un hr hg
  obtain ⟨k3, hg⟩ := hg
  refine bk_287_609 k3 ?_
  obtain ⟨k4, hg⟩ := hg
  refine bk_287_615 (cq_I_I (cc_229 (d := d + 197)  k4)) ?_ hcm
  rintro _ _ _ _ _ ⟨p2, hr, rfl, rfl, rfl, rfl, rfl⟩
  have he := bx_eq hr he
  have hg := bx_un hr hg
  refine bk_287_618 (fun h5 => ?_) (fun h5 => ?_)
  · have he := ite_p h5 he
    exact hx (p2.2, F, L, t) he
  · have he := ite_n h5 he
    have hg := hg h5
    exact hg.elim
/-- case 11 of the law -/
noncomputable def u_11 (l : LX) (I : WI) (F : WF) (L : WL) (t : Nat) (x3 : Int32) : WI × WF × WL × Nat := (bx ((v_124 I) : Int32 × WI) (fun p1 => (bx ((v_231 p1.2) : Int32 × WI) (fun p2 => (if p1.1 = p2.1 then (p2.2, F, L, t) else (p2.2, F, L, t))))))
noncomputable def gw_11 (l : LX) (I : WI) (F : WF) (L : WL) (t : Nat) (x3 : Int32) : Prop := ((g_124 I) ∧ (bx ((v_124 I) : Int32 × WI) (fun p1 => ((g_231 p1.2) ∧ (bx ((v_231 p1.2) : Int32 × WI) (fun p2 => (¬ (p1.1 = p2.1) → False)))))))
theorem lc_11 {l : LX} {d mc ms cc ss : Nat} {P : RP} {I : WI} {F : WF} {L : WL} {t : Nat} {x3 : Int32} (hcm : cc + 0 ≤ mc ∧ ss + 0 ≤ ms) (hg : gw_11 l I F L t x3) (hx : ∀ r : WI × WF × WL × Nat, r = u_11 l I F L t x3 → Wp l 287 (d + 200) mc ms P cc ss 1611 [(0, .ref 1000050), (1, .ref 0), (2, .ref 74), (3, .int x3)] [] SH (r.1, r.2.1, r.2.2.1, RT r.2.2.2)) : Wp l 287 (d + 200) mc ms P cc ss 623 [(0, .ref 1000050), (1, .ref 0), (2, .ref 74), (3, .int x3)] [] SH (I, F, L, RT t) := by
  obtain ⟨T1, hT1⟩ : ∃ r : WI × WF × WL × Nat, r = u_11 l I F L t x3 := ⟨_, rfl⟩
  have hx := fun r (hr : r = T1) => hx r (hr.trans hT1)
  have he := (hT1.trans (u_11.eq_1 ..)).symm
  have hg := Eq.mp (gw_11.eq_1 ..) hg
  obtain ⟨k1, hg⟩ := hg
  refine bk_287_623 (cq_I_I (cc_124 (d := d + 195)  k1)) ?_ hcm
  rintro _ _ _ _ _ ⟨p1, hr, rfl, rfl, rfl, rfl, rfl⟩
  have he := bx_eq hr he
  have hg := bx_un hr hg
  obtain ⟨k2, hg⟩ := hg
  refine bk_287_627 (cq_I_I (cc_231 (d := d + 197)  k2)) ?_ hcm
  rintro _ _ _ _ _ ⟨p2, hr, rfl, rfl, rfl, rfl, rfl⟩
  have he := bx_eq hr he
  have hg := bx_un hr hg
  refine bk_287_631 (fun h3 => ?_) (fun h3 => ?_)
  · have he := ite_p h3 he
    exact hx (p2.2, F, L, t) he
  · have he := ite_n h3 he
    have hg := hg h3
    exact hg.elim
/-- case 12 of the law -/
noncomputable def u_12 (l : LX) (I : WI) (F : WF) (L : WL) (t : Nat) (x3 : Int32) : WI × WF × WL × Nat := (bx ((v_125 I (l.2.2 (x3 + 1).toNatClampNeg)) : Int32 × WI) (fun p1 => (bx ((v_191 p1.2 (l.2.2 (x3 + 1).toNatClampNeg)) : Int32 × WI) (fun p2 => (if p1.1 = p2.1 then (p2.2, F, L, t) else (p2.2, F, L, t))))))
noncomputable def gw_12 (l : LX) (I : WI) (F : WF) (L : WL) (t : Nat) (x3 : Int32) : Prop := ((vp_in (x3 + 1) l.2.1) ∧ ((g_125 I (l.2.2 (x3 + 1).toNatClampNeg)) ∧ (bx ((v_125 I (l.2.2 (x3 + 1).toNatClampNeg)) : Int32 × WI) (fun p1 => ((vp_in (x3 + 1) l.2.1) ∧ ((g_191 p1.2 (l.2.2 (x3 + 1).toNatClampNeg)) ∧ (bx ((v_191 p1.2 (l.2.2 (x3 + 1).toNatClampNeg)) : Int32 × WI) (fun p2 => (¬ (p1.1 = p2.1) → False)))))))))
theorem lc_12 {l : LX} {d mc ms cc ss : Nat} {P : RP} {I : WI} {F : WF} {L : WL} {t : Nat} {x3 : Int32} (hcm : cc + 0 ≤ mc ∧ ss + 0 ≤ ms) (hg : gw_12 l I F L t x3) (hx : ∀ r : WI × WF × WL × Nat, r = u_12 l I F L t x3 → Wp l 287 (d + 200) mc ms P cc ss 1611 [(0, .ref 1000050), (1, .ref 0), (2, .ref 74), (3, .int x3)] [] SH (r.1, r.2.1, r.2.2.1, RT r.2.2.2)) : Wp l 287 (d + 200) mc ms P cc ss 636 [(0, .ref 1000050), (1, .ref 0), (2, .ref 74), (3, .int x3)] [] SH (I, F, L, RT t) := by
  obtain ⟨T1, hT1⟩ : ∃ r : WI × WF × WL × Nat, r = u_12 l I F L t x3 := ⟨_, rfl⟩
  have hx := fun r (hr : r = T1) => hx r (hr.trans hT1)
  have he := (hT1.trans (u_12.eq_1 ..)).symm
  have hg := Eq.mp (gw_12.eq_1 ..) hg
  obtain ⟨k1, hg⟩ := hg
  refine bk_287_636 k1 ?_
  obtain ⟨k2, hg⟩ := hg
  refine bk_287_642 (cq_I_I (cc_125 (d := d + 198)  k2)) ?_ hcm
  rintro _ _ _ _ _ ⟨p1, hr, rfl, rfl, rfl, rfl, rfl⟩
  have he := bx_eq hr he
  have hg := bx_un hr hg
  obtain ⟨k3, hg⟩ := hg
  refine bk_287_645 k3 ?_
  obtain ⟨k4, hg⟩ := hg
  refine bk_287_651 (cq_I_I (cc_191 (d := d + 198)  k4)) ?_ hcm
  rintro _ _ _ _ _ ⟨p2, hr, rfl, rfl, rfl, rfl, rfl⟩
  have he := bx_eq hr he
  have hg := bx_un hr hg
  refine bk_287_654 (fun h5 => ?_) (fun h5 => ?_)
  · have he := ite_p h5 he
    exact hx (p2.2, F, L, t) he
  · have he := ite_n h5 he
    have hg := hg h5
    exact hg.elim
/-- case 13 of the law -/
noncomputable def u_13 (l : LX) (I : WI) (F : WF) (L : WL) (t : Nat) (x3 : Int32) : WI × WF × WL × Nat := (bx ((v_126 I t) : Int32 × WI × Nat) (fun p1 => (bx ((v_192 p1.2.1 L) : Int32 × WI × WL) (fun p2 => (if p1.1 = p2.1 then (p2.2.1, F, p2.2.2, p1.2.2) else (p2.2.1, F, p2.2.2, p1.2.2))))))
noncomputable def gw_13 (l : LX) (I : WI) (F : WF) (L : WL) (t : Nat) (x3 : Int32) : Prop := ((g_126 I) ∧ (bx ((v_126 I t) : Int32 × WI × Nat) (fun p1 => ((g_192 p1.2.1 L) ∧ (bx ((v_192 p1.2.1 L) : Int32 × WI × WL) (fun p2 => (¬ (p1.1 = p2.1) → False)))))))
theorem lc_13 {l : LX} {d mc ms cc ss : Nat} {P : RP} {I : WI} {F : WF} {L : WL} {t : Nat} {x3 : Int32} (hcm : cc + 0 ≤ mc ∧ ss + 0 ≤ ms) (hg : gw_13 l I F L t x3) (hx : ∀ r : WI × WF × WL × Nat, r = u_13 l I F L t x3 → Wp l 287 (d + 200) mc ms P cc ss 1611 [(0, .ref 1000050), (1, .ref 0), (2, .ref 74), (3, .int x3)] [] SH (r.1, r.2.1, r.2.2.1, RT r.2.2.2)) : Wp l 287 (d + 200) mc ms P cc ss 659 [(0, .ref 1000050), (1, .ref 0), (2, .ref 74), (3, .int x3)] [] SH (I, F, L, RT t) := by
  obtain ⟨T1, hT1⟩ : ∃ r : WI × WF × WL × Nat, r = u_13 l I F L t x3 := ⟨_, rfl⟩
  have hx := fun r (hr : r = T1) => hx r (hr.trans hT1)
  have he := (hT1.trans (u_13.eq_1 ..)).symm
  have hg := Eq.mp (gw_13.eq_1 ..) hg
  obtain ⟨k1, hg⟩ := hg
  refine bk_287_659 (cq_I_It (cc_126 (d := d + 199) (by omega)  k1)) ?_ hcm
  rintro _ _ _ _ _ ⟨p1, hr, rfl, rfl, rfl, rfl, rfl⟩
  have he := bx_eq hr he
  have hg := bx_un hr hg
  obtain ⟨k2, hg⟩ := hg
  refine bk_287_663 (cq_I_IL (cc_192 (d := d + 199) (by omega)  k2)) ?_ hcm
  rintro _ _ _ _ _ ⟨p2, hr, rfl, rfl, rfl, rfl, rfl⟩
  have he := bx_eq hr he
  have hg := bx_un hr hg
  refine bk_287_667 (fun h3 => ?_) (fun h3 => ?_)
  · have he := ite_p h3 he
    exact hx (p2.2.1, F, p2.2.2, p1.2.2) he
  · have he := ite_n h3 he
    have hg := hg h3
    exact hg.elim
/-- case 14 of the law -/
noncomputable def u_14 (l : LX) (I : WI) (F : WF) (L : WL) (t : Nat) (x3 : Int32) : WI × WF × WL × Nat := (bx ((v_127 I (l.2.2 (x3 + 1).toNatClampNeg)) : Int32 × WI) (fun p1 => (bx ((v_209 p1.2 (l.2.2 (x3 + 1).toNatClampNeg)) : Int32 × WI) (fun p2 => (if p1.1 = p2.1 then (p2.2, F, L, t) else (p2.2, F, L, t))))))
noncomputable def gw_14 (l : LX) (I : WI) (F : WF) (L : WL) (t : Nat) (x3 : Int32) : Prop := ((vp_in (x3 + 1) l.2.1) ∧ (bx ((v_127 I (l.2.2 (x3 + 1).toNatClampNeg)) : Int32 × WI) (fun p1 => ((vp_in (x3 + 1) l.2.1) ∧ (bx ((v_209 p1.2 (l.2.2 (x3 + 1).toNatClampNeg)) : Int32 × WI) (fun p2 => (¬ (p1.1 = p2.1) → False)))))))
theorem lc_14 {l : LX} {d mc ms cc ss : Nat} {P : RP} {I : WI} {F : WF} {L : WL} {t : Nat} {x3 : Int32} (hcm : cc + 0 ≤ mc ∧ ss + 0 ≤ ms) (hg : gw_14 l I F L t x3) (hx : ∀ r : WI × WF × WL × Nat, r = u_14 l I F L t x3 → Wp l 287 (d + 200) mc ms P cc ss 1611 [(0, .ref 1000050), (1, .ref 0), (2, .ref 74), (3, .int x3)] [] SH (r.1, r.2.1, r.2.2.1, RT r.2.2.2)) : Wp l 287 (d + 200) mc ms P cc ss 672 [(0, .ref 1000050), (1, .ref 0), (2, .ref 74), (3, .int x3)] [] SH (I, F, L, RT t) := by
  obtain ⟨T1, hT1⟩ : ∃ r : WI × WF × WL × Nat, r = u_14 l I F L t x3 := ⟨_, rfl⟩
  have hx := fun r (hr : r = T1) => hx r (hr.trans hT1)
  have he := (hT1.trans (u_14.eq_1 ..)).symm
  have hg := Eq.mp (gw_14.eq_1 ..) hg
  obtain ⟨k1, hg⟩ := hg
  refine bk_287_672 k1 ?_
  refine bk_287_678 (cq_I_I (cc_127 (d := d + 198) )) ?_ hcm
  rintro _ _ _ _ _ ⟨p1, hr, rfl, rfl, rfl, rfl, rfl⟩
  have he := bx_eq hr he
  have hg := bx_un hr hg
  obtain ⟨k3, hg⟩ := hg
  refine bk_287_681 k3 ?_
  refine bk_287_687 (cq_I_I (cc_209 (d := d + 198) )) ?_ hcm
  rintro _ _ _ _ _ ⟨p2, hr, rfl, rfl, rfl, rfl, rfl⟩
  have he := bx_eq hr he
  have hg := bx_un hr hg
  refine bk_287_690 (fun h5 => ?_) (fun h5 => ?_)
  · have he := ite_p h5 he
    exact hx (p2.2, F, L, t) he
  · have he := ite_n h5 he
    have hg := hg h5
    exact hg.elim
/-- case 15 of the law -/
noncomputable def u_15 (l : LX) (I : WI) (F : WF) (L : WL) (t : Nat) (x3 : Int32) : WI × WF × WL × Nat := (bx ((v_128 I F (l.2.2 (x3 + 1).toNatClampNeg) (l.2.2 (x3 + 2).toNatClampNeg)) : Int32 × WI × WF) (fun p1 => (bx ((v_236 p1.2.1 L (l.2.2 (x3 + 1).toNatClampNeg) (l.2.2 (x3 + 2).toNatClampNeg)) : Int32 × WI × WL) (fun p2 => (if p1.1 = p2.1 then (p2.2.1, p1.2.2, p2.2.2, t) else (p2.2.1, p1.2.2, p2.2.2, t))))))
noncomputable def gw_15 (l : LX) (I : WI) (F : WF) (L : WL) (t : Nat) (x3 : Int32) : Prop := ((vp_in (x3 + 1) l.2.1) ∧ ((vp_in (x3 + 2) l.2.1) ∧ ((g_128 I F (l.2.2 (x3 + 1).toNatClampNeg) (l.2.2 (x3 + 2).toNatClampNeg)) ∧ (bx ((v_128 I F (l.2.2 (x3 + 1).toNatClampNeg) (l.2.2 (x3 + 2).toNatClampNeg)) : Int32 × WI × WF) (fun p1 => ((vp_in (x3 + 1) l.2.1) ∧ ((vp_in (x3 + 2) l.2.1) ∧ ((g_236 p1.2.1 L (l.2.2 (x3 + 1).toNatClampNeg) (l.2.2 (x3 + 2).toNatClampNeg)) ∧ (bx ((v_236 p1.2.1 L (l.2.2 (x3 + 1).toNatClampNeg) (l.2.2 (x3 + 2).toNatClampNeg)) : Int32 × WI × WL) (fun p2 => (¬ (p1.1 = p2.1) → False)))))))))))
theorem lc_15 {l : LX} {d mc ms cc ss : Nat} {P : RP} {I : WI} {F : WF} {L : WL} {t : Nat} {x3 : Int32} (hcm : cc + 0 ≤ mc ∧ ss + 0 ≤ ms) (hg : gw_15 l I F L t x3) (hx : ∀ r : WI × WF × WL × Nat, r = u_15 l I F L t x3 → Wp l 287 (d + 200) mc ms P cc ss 1611 [(0, .ref 1000050), (1, .ref 0), (2, .ref 74), (3, .int x3)] [] SH (r.1, r.2.1, r.2.2.1, RT r.2.2.2)) : Wp l 287 (d + 200) mc ms P cc ss 695 [(0, .ref 1000050), (1, .ref 0), (2, .ref 74), (3, .int x3)] [] SH (I, F, L, RT t) := by
  obtain ⟨T1, hT1⟩ : ∃ r : WI × WF × WL × Nat, r = u_15 l I F L t x3 := ⟨_, rfl⟩
  have hx := fun r (hr : r = T1) => hx r (hr.trans hT1)
  have he := (hT1.trans (u_15.eq_1 ..)).symm
  have hg := Eq.mp (gw_15.eq_1 ..) hg
  obtain ⟨k1, hg⟩ := hg
  refine bk_287_695 k1 ?_
  obtain ⟨k2, hg⟩ := hg
  refine bk_287_701 k2 ?_
  obtain ⟨k3, hg⟩ := hg
  refine bk_287_706 (cq_I_IF (cc_128 (d := d + 193)  k3)) ?_ hcm
  rintro _ _ _ _ _ ⟨p1, hr, rfl, rfl, rfl, rfl, rfl⟩
  have he := bx_eq hr he
  have hg := bx_un hr hg
  obtain ⟨k4, hg⟩ := hg
  refine bk_287_709 k4 ?_
  obtain ⟨k5, hg⟩ := hg
  refine bk_287_715 k5 ?_
  obtain ⟨k6, hg⟩ := hg
  refine bk_287_720 (cq_I_IL (cc_236 (d := d + 199) (by omega)  k6)) ?_ hcm
  rintro _ _ _ _ _ ⟨p2, hr, rfl, rfl, rfl, rfl, rfl⟩
  have he := bx_eq hr he
  have hg := bx_un hr hg
  refine bk_287_723 (fun h7 => ?_) (fun h7 => ?_)
  · have he := ite_p h7 he
    exact hx (p2.2.1, p1.2.2, p2.2.2, t) he
  · have he := ite_n h7 he
    have hg := hg h7
    exact hg.elim
/-- case 16 of the law -/
noncomputable def u_16 (l : LX) (I : WI) (F : WF) (L : WL) (t : Nat) (x3 : Int32) : WI × WF × WL × Nat := (bx ((v_130 I (l.2.2 (x3 + 1).toNatClampNeg) (l.2.2 (x3 + 2).toNatClampNeg)) : Int32 × WI) (fun p1 => (bx ((v_243 p1.2 L (l.2.2 (x3 + 1).toNatClampNeg) (l.2.2 (x3 + 2).toNatClampNeg)) : Int32 × WI × WL) (fun p2 => (if p1.1 = p2.1 then (p2.2.1, F, p2.2.2, t) else (p2.2.1, F, p2.2.2, t))))))
noncomputable def gw_16 (l : LX) (I : WI) (F : WF) (L : WL) (t : Nat) (x3 : Int32) : Prop := ((vp_in (x3 + 1) l.2.1) ∧ ((vp_in (x3 + 2) l.2.1) ∧ ((g_130 I (l.2.2 (x3 + 1).toNatClampNeg) (l.2.2 (x3 + 2).toNatClampNeg)) ∧ (bx ((v_130 I (l.2.2 (x3 + 1).toNatClampNeg) (l.2.2 (x3 + 2).toNatClampNeg)) : Int32 × WI) (fun p1 => ((vp_in (x3 + 1) l.2.1) ∧ ((vp_in (x3 + 2) l.2.1) ∧ ((g_243 p1.2 L (l.2.2 (x3 + 1).toNatClampNeg) (l.2.2 (x3 + 2).toNatClampNeg)) ∧ (bx ((v_243 p1.2 L (l.2.2 (x3 + 1).toNatClampNeg) (l.2.2 (x3 + 2).toNatClampNeg)) : Int32 × WI × WL) (fun p2 => (¬ (p1.1 = p2.1) → False)))))))))))
theorem lc_16 {l : LX} {d mc ms cc ss : Nat} {P : RP} {I : WI} {F : WF} {L : WL} {t : Nat} {x3 : Int32} (hcm : cc + 0 ≤ mc ∧ ss + 0 ≤ ms) (hg : gw_16 l I F L t x3) (hx : ∀ r : WI × WF × WL × Nat, r = u_16 l I F L t x3 → Wp l 287 (d + 200) mc ms P cc ss 1611 [(0, .ref 1000050), (1, .ref 0), (2, .ref 74), (3, .int x3)] [] SH (r.1, r.2.1, r.2.2.1, RT r.2.2.2)) : Wp l 287 (d + 200) mc ms P cc ss 728 [(0, .ref 1000050), (1, .ref 0), (2, .ref 74), (3, .int x3)] [] SH (I, F, L, RT t) := by
  obtain ⟨T1, hT1⟩ : ∃ r : WI × WF × WL × Nat, r = u_16 l I F L t x3 := ⟨_, rfl⟩
  have hx := fun r (hr : r = T1) => hx r (hr.trans hT1)
  have he := (hT1.trans (u_16.eq_1 ..)).symm
  have hg := Eq.mp (gw_16.eq_1 ..) hg
  obtain ⟨k1, hg⟩ := hg
  refine bk_287_728 k1 ?_
  obtain ⟨k2, hg⟩ := hg
  refine bk_287_734 k2 ?_
  obtain ⟨k3, hg⟩ := hg
  refine bk_287_739 (cq_I_I (cc_130 (d := d + 193)  k3)) ?_ hcm
  rintro _ _ _ _ _ ⟨p1, hr, rfl, rfl, rfl, rfl, rfl⟩
  have he := bx_eq hr he
  have hg := bx_un hr hg
  obtain ⟨k4, hg⟩ := hg
  refine bk_287_742 k4 ?_
  obtain ⟨k5, hg⟩ := hg
  refine bk_287_748 k5 ?_
  obtain ⟨k6, hg⟩ := hg
  refine bk_287_753 (cq_I_IL (cc_243 (d := d + 199) (by omega)  k6)) ?_ hcm
  rintro _ _ _ _ _ ⟨p2, hr, rfl, rfl, rfl, rfl, rfl⟩
  have he := bx_eq hr he
  have hg := bx_un hr hg
  refine bk_287_756 (fun h7 => ?_) (fun h7 => ?_)
  · have he := ite_p h7 he
    exact hx (p2.2.1, F, p2.2.2, t) he
  · have he := ite_n h7 he
    have hg := hg h7
    exact hg.elim
/-- case 17 of the law -/
noncomputable def u_17 (l : LX) (I : WI) (F : WF) (L : WL) (t : Nat) (x3 : Int32) : WI × WF × WL × Nat := (bx ((v_131 I (l.2.2 (x3 + 1).toNatClampNeg)) : Int32 × WI) (fun p1 => (bx ((v_244 p1.2 L (l.2.2 (x3 + 1).toNatClampNeg)) : Int32 × WI × WL) (fun p2 => (if p1.1 = p2.1 then (p2.2.1, F, p2.2.2, t) else (p2.2.1, F, p2.2.2, t))))))
noncomputable def gw_17 (l : LX) (I : WI) (F : WF) (L : WL) (t : Nat) (x3 : Int32) : Prop := ((vp_in (x3 + 1) l.2.1) ∧ ((g_131 I (l.2.2 (x3 + 1).toNatClampNeg)) ∧ (bx ((v_131 I (l.2.2 (x3 + 1).toNatClampNeg)) : Int32 × WI) (fun p1 => ((vp_in (x3 + 1) l.2.1) ∧ ((g_244 p1.2 L (l.2.2 (x3 + 1).toNatClampNeg)) ∧ (bx ((v_244 p1.2 L (l.2.2 (x3 + 1).toNatClampNeg)) : Int32 × WI × WL) (fun p2 => (¬ (p1.1 = p2.1) → False)))))))))
theorem lc_17 {l : LX} {d mc ms cc ss : Nat} {P : RP} {I : WI} {F : WF} {L : WL} {t : Nat} {x3 : Int32} (hcm : cc + 0 ≤ mc ∧ ss + 0 ≤ ms) (hg : gw_17 l I F L t x3) (hx : ∀ r : WI × WF × WL × Nat, r = u_17 l I F L t x3 → Wp l 287 (d + 200) mc ms P cc ss 1611 [(0, .ref 1000050), (1, .ref 0), (2, .ref 74), (3, .int x3)] [] SH (r.1, r.2.1, r.2.2.1, RT r.2.2.2)) : Wp l 287 (d + 200) mc ms P cc ss 761 [(0, .ref 1000050), (1, .ref 0), (2, .ref 74), (3, .int x3)] [] SH (I, F, L, RT t) := by
  obtain ⟨T1, hT1⟩ : ∃ r : WI × WF × WL × Nat, r = u_17 l I F L t x3 := ⟨_, rfl⟩
  have hx := fun r (hr : r = T1) => hx r (hr.trans hT1)
  have he := (hT1.trans (u_17.eq_1 ..)).symm
  have hg := Eq.mp (gw_17.eq_1 ..) hg
  obtain ⟨k1, hg⟩ := hg
  refine bk_287_761 k1 ?_
  obtain ⟨k2, hg⟩ := hg
  refine bk_287_767 (cq_I_I (cc_131 (d := d + 193)  k2)) ?_ hcm
  rintro _ _ _ _ _ ⟨p1, hr, rfl, rfl, rfl, rfl, rfl⟩
  have he := bx_eq hr he
  have hg := bx_un hr hg
  obtain ⟨k3, hg⟩ := hg
  refine bk_287_770 k3 ?_
  obtain ⟨k4, hg⟩ := hg
  refine bk_287_776 (cq_I_IL (cc_244 (d := d + 199) (by omega)  k4)) ?_ hcm
  rintro _ _ _ _ _ ⟨p2, hr, rfl, rfl, rfl, rfl, rfl⟩
  have he := bx_eq hr he
  have hg := bx_un hr hg
  refine bk_287_779 (fun h5 => ?_) (fun h5 => ?_)
  · have he := ite_p h5 he
    exact hx (p2.2.1, F, p2.2.2, t) he
  · have he := ite_n h5 he
    have hg := hg h5
    exact hg.elim
/-- case 18 of the law -/
noncomputable def u_18 (l : LX) (I : WI) (F : WF) (L : WL) (t : Nat) (x3 : Int32) : WI × WF × WL × Nat := (if (v_132 I (l.2.2 (x3 + 1).toNatClampNeg) (l.2.2 (x3 + 2).toNatClampNeg)) = (v_245 I (l.2.2 (x3 + 1).toNatClampNeg) (l.2.2 (x3 + 2).toNatClampNeg)) then (I, F, L, t) else (I, F, L, t))
noncomputable def gw_18 (l : LX) (I : WI) (F : WF) (L : WL) (t : Nat) (x3 : Int32) : Prop := ((vp_in (x3 + 1) l.2.1) ∧ ((vp_in (x3 + 2) l.2.1) ∧ ((g_132 I (l.2.2 (x3 + 1).toNatClampNeg) (l.2.2 (x3 + 2).toNatClampNeg)) ∧ ((vp_in (x3 + 1) l.2.1) ∧ ((vp_in (x3 + 2) l.2.1) ∧ ((g_245 I (l.2.2 (x3 + 1).toNatClampNeg) (l.2.2 (x3 + 2).toNatClampNeg)) ∧ (¬ ((v_132 I (l.2.2 (x3 + 1).toNatClampNeg) (l.2.2 (x3 + 2).toNatClampNeg)) = (v_245 I (l.2.2 (x3 + 1).toNatClampNeg) (l.2.2 (x3 + 2).toNatClampNeg))) → False)))))))
theorem lc_18 {l : LX} {d mc ms cc ss : Nat} {P : RP} {I : WI} {F : WF} {L : WL} {t : Nat} {x3 : Int32} (hcm : cc + 0 ≤ mc ∧ ss + 0 ≤ ms) (hg : gw_18 l I F L t x3) (hx : ∀ r : WI × WF × WL × Nat, r = u_18 l I F L t x3 → Wp l 287 (d + 200) mc ms P cc ss 1611 [(0, .ref 1000050), (1, .ref 0), (2, .ref 74), (3, .int x3)] [] SH (r.1, r.2.1, r.2.2.1, RT r.2.2.2)) : Wp l 287 (d + 200) mc ms P cc ss 784 [(0, .ref 1000050), (1, .ref 0), (2, .ref 74), (3, .int x3)] [] SH (I, F, L, RT t) := by
  obtain ⟨T1, hT1⟩ : ∃ r : WI × WF × WL × Nat, r = u_18 l I F L t x3 := ⟨_, rfl⟩
  have hx := fun r (hr : r = T1) => hx r (hr.trans hT1)
  have he := (hT1.trans (u_18.eq_1 ..)).symm
  have hg := Eq.mp (gw_18.eq_1 ..) hg
  obtain ⟨k1, hg⟩ := hg
  refine bk_287_784 k1 ?_
  obtain ⟨k2, hg⟩ := hg
  refine bk_287_790 k2 ?_
  obtain ⟨k3, hg⟩ := hg
  refine bk_287_795 (cc_132 (d := d + 194)  k3) ?_ hcm
  obtain ⟨k4, hg⟩ := hg
  refine bk_287_798 k4 ?_
  obtain ⟨k5, hg⟩ := hg
  refine bk_287_804 k5 ?_
  obtain ⟨k6, hg⟩ := hg
  refine bk_287_809 (cc_245 (d := d + 194)  k6) ?_ hcm
  refine bk_287_812 (fun h7 => ?_) (fun h7 => ?_)
  · have he := ite_p h7 he
    exact hx (I, F, L, t) he
  · have he := ite_n h7 he
    have hg := hg h7
    exact hg.elim
/-- case 19 of the law -/
noncomputable def u_19 (l : LX) (I : WI) (F : WF) (L : WL) (t : Nat) (x3 : Int32) : WI × WF × WL × Nat := (if (v_133 I (l.2.2 (x3 + 1).toNatClampNeg)) = (v_247 I (l.2.2 (x3 + 1).toNatClampNeg)) then (I, F, L, t) else (I, F, L, t))
noncomputable def gw_19 (l : LX) (I : WI) (F : WF) (L : WL) (t : Nat) (x3 : Int32) : Prop := ((vp_in (x3 + 1) l.2.1) ∧ ((g_133 I (l.2.2 (x3 + 1).toNatClampNeg)) ∧ ((vp_in (x3 + 1) l.2.1) ∧ ((g_247 I (l.2.2 (x3 + 1).toNatClampNeg)) ∧ (¬ ((v_133 I (l.2.2 (x3 + 1).toNatClampNeg)) = (v_247 I (l.2.2 (x3 + 1).toNatClampNeg))) → False)))))
theorem lc_19 {l : LX} {d mc ms cc ss : Nat} {P : RP} {I : WI} {F : WF} {L : WL} {t : Nat} {x3 : Int32} (hcm : cc + 0 ≤ mc ∧ ss + 0 ≤ ms) (hg : gw_19 l I F L t x3) (hx : ∀ r : WI × WF × WL × Nat, r = u_19 l I F L t x3 → Wp l 287 (d + 200) mc ms P cc ss 1611 [(0, .ref 1000050), (1, .ref 0), (2, .ref 74), (3, .int x3)] [] SH (r.1, r.2.1, r.2.2.1, RT r.2.2.2)) : Wp l 287 (d + 200) mc ms P cc ss 817 [(0, .ref 1000050), (1, .ref 0), (2, .ref 74), (3, .int x3)] [] SH (I, F, L, RT t) := by
  obtain ⟨T1, hT1⟩ : ∃ r : WI × WF × WL × Nat, r = u_19 l I F L t x3 := ⟨_, rfl⟩
  have hx := fun r (hr : r = T1) => hx r (hr.trans hT1)
  have he := (hT1.trans (u_19.eq_1 ..)).symm
  have hg := Eq.mp (gw_19.eq_1 ..) hg
  obtain ⟨k1, hg⟩ := hg
  refine bk_287_817 k1 ?_
  obtain ⟨k2, hg⟩ := hg
  refine bk_287_823 (cc_133 (d := d + 193)  k2) ?_ hcm
  obtain ⟨k3, hg⟩ := hg
  refine bk_287_826 k3 ?_
  obtain ⟨k4, hg⟩ := hg
  refine bk_287_832 (cc_247 (d := d + 195)  k4) ?_ hcm
  refine bk_287_835 (fun h5 => ?_) (fun h5 => ?_)
  · have he := ite_p h5 he
    exact hx (I, F, L, t) he
  · have he := ite_n h5 he
    have hg := hg h5
    exact hg.elim
/-- case 20 of the law -/
noncomputable def u_20 (l : LX) (I : WI) (F : WF) (L : WL) (t : Nat) (x3 : Int32) : WI × WF × WL × Nat := (if (v_136 I (l.2.2 (x3 + 1).toNatClampNeg)) = (v_248 I (l.2.2 (x3 + 1).toNatClampNeg)) then (I, F, L, t) else (I, F, L, t))
noncomputable def gw_20 (l : LX) (I : WI) (F : WF) (L : WL) (t : Nat) (x3 : Int32) : Prop := ((vp_in (x3 + 1) l.2.1) ∧ ((g_136 I (l.2.2 (x3 + 1).toNatClampNeg)) ∧ ((vp_in (x3 + 1) l.2.1) ∧ ((g_248 I (l.2.2 (x3 + 1).toNatClampNeg)) ∧ (¬ ((v_136 I (l.2.2 (x3 + 1).toNatClampNeg)) = (v_248 I (l.2.2 (x3 + 1).toNatClampNeg))) → False)))))
theorem lc_20 {l : LX} {d mc ms cc ss : Nat} {P : RP} {I : WI} {F : WF} {L : WL} {t : Nat} {x3 : Int32} (hcm : cc + 0 ≤ mc ∧ ss + 0 ≤ ms) (hg : gw_20 l I F L t x3) (hx : ∀ r : WI × WF × WL × Nat, r = u_20 l I F L t x3 → Wp l 287 (d + 200) mc ms P cc ss 1611 [(0, .ref 1000050), (1, .ref 0), (2, .ref 74), (3, .int x3)] [] SH (r.1, r.2.1, r.2.2.1, RT r.2.2.2)) : Wp l 287 (d + 200) mc ms P cc ss 840 [(0, .ref 1000050), (1, .ref 0), (2, .ref 74), (3, .int x3)] [] SH (I, F, L, RT t) := by
  obtain ⟨T1, hT1⟩ : ∃ r : WI × WF × WL × Nat, r = u_20 l I F L t x3 := ⟨_, rfl⟩
  have hx := fun r (hr : r = T1) => hx r (hr.trans hT1)
  have he := (hT1.trans (u_20.eq_1 ..)).symm
  have hg := Eq.mp (gw_20.eq_1 ..) hg
  obtain ⟨k1, hg⟩ := hg
  refine bk_287_840 k1 ?_
  obtain ⟨k2, hg⟩ := hg
  refine bk_287_846 (cc_136 (d := d + 193)  k2) ?_ hcm
  obtain ⟨k3, hg⟩ := hg
  refine bk_287_849 k3 ?_
  obtain ⟨k4, hg⟩ := hg
  refine bk_287_855 (cc_248 (d := d + 194)  k4) ?_ hcm
  refine bk_287_858 (fun h5 => ?_) (fun h5 => ?_)
  · have he := ite_p h5 he
    exact hx (I, F, L, t) he
  · have he := ite_n h5 he
    have hg := hg h5
    exact hg.elim
/-- case 21 of the law -/
noncomputable def u_21 (l : LX) (I : WI) (F : WF) (L : WL) (t : Nat) (x3 : Int32) : WI × WF × WL × Nat := (bx ((v_137 I (l.2.2 (x3 + 1).toNatClampNeg) (l.2.2 (x3 + 2).toNatClampNeg)) : Int32 × WI) (fun p1 => (bx ((v_250 p1.2 (l.2.2 (x3 + 1).toNatClampNeg) (l.2.2 (x3 + 2).toNatClampNeg)) : Int32 × WI) (fun p2 => (if p1.1 = p2.1 then (p2.2, F, L, t) else (p2.2, F, L, t))))))
noncomputable def gw_21 (l : LX) (I : WI) (F : WF) (L : WL) (t : Nat) (x3 : Int32) : Prop := ((vp_in (x3 + 1) l.2.1) ∧ ((vp_in (x3 + 2) l.2.1) ∧ ((g_137 I (l.2.2 (x3 + 1).toNatClampNeg) (l.2.2 (x3 + 2).toNatClampNeg)) ∧ (bx ((v_137 I (l.2.2 (x3 + 1).toNatClampNeg) (l.2.2 (x3 + 2).toNatClampNeg)) : Int32 × WI) (fun p1 => ((vp_in (x3 + 1) l.2.1) ∧ ((vp_in (x3 + 2) l.2.1) ∧ ((g_250 p1.2 (l.2.2 (x3 + 1).toNatClampNeg) (l.2.2 (x3 + 2).toNatClampNeg)) ∧ (bx ((v_250 p1.2 (l.2.2 (x3 + 1).toNatClampNeg) (l.2.2 (x3 + 2).toNatClampNeg)) : Int32 × WI) (fun p2 => (¬ (p1.1 = p2.1) → False)))))))))))
theorem lc_21 {l : LX} {d mc ms cc ss : Nat} {P : RP} {I : WI} {F : WF} {L : WL} {t : Nat} {x3 : Int32} (hcm : cc + 0 ≤ mc ∧ ss + 0 ≤ ms) (hg : gw_21 l I F L t x3) (hx : ∀ r : WI × WF × WL × Nat, r = u_21 l I F L t x3 → Wp l 287 (d + 200) mc ms P cc ss 1611 [(0, .ref 1000050), (1, .ref 0), (2, .ref 74), (3, .int x3)] [] SH (r.1, r.2.1, r.2.2.1, RT r.2.2.2)) : Wp l 287 (d + 200) mc ms P cc ss 863 [(0, .ref 1000050), (1, .ref 0), (2, .ref 74), (3, .int x3)] [] SH (I, F, L, RT t) := by
  obtain ⟨T1, hT1⟩ : ∃ r : WI × WF × WL × Nat, r = u_21 l I F L t x3 := ⟨_, rfl⟩
  have hx := fun r (hr : r = T1) => hx r (hr.trans hT1)
  have he := (hT1.trans (u_21.eq_1 ..)).symm
  have hg := Eq.mp (gw_21.eq_1 ..) hg
  obtain ⟨k1, hg⟩ := hg
  refine bk_287_863 k1 ?_
  obtain ⟨k2, hg⟩ := hg
  refine bk_287_869 k2 ?_
  obtain ⟨k3, hg⟩ := hg
  refine bk_287_874 (cq_I_I (cc_137 (d := d + 194)  k3)) ?_ hcm
  rintro _ _ _ _ _ ⟨p1, hr, rfl, rfl, rfl, rfl, rfl⟩
  have he := bx_eq hr he
  have hg := bx_un hr hg
  obtain ⟨k4, hg⟩ := hg
  refine bk_287_877 k4 ?_
  obtain ⟨k5, hg⟩ := hg
  refine bk_287_883 k5 ?_
  obtain ⟨k6, hg⟩ := hg
  refine bk_287_888 (cq_I_I (cc_250 (d := d + 195)  k6)) ?_ hcm
  rintro _ _ _ _ _ ⟨p2, hr, rfl, rfl, rfl, rfl, rfl⟩
  have he := bx_eq hr he
  have hg := bx_un hr hg
  refine bk_287_891 (fun h7 => ?_) (fun h7 => ?_)
  · have he := ite_p h7 he
    exact hx (p2.2, F, L, t) he
  · have he := ite_n h7 he
    have hg := hg h7
    exact hg.elim
/-- case 22 of the law -/
noncomputable def u_22 (l : LX) (I : WI) (F : WF) (L : WL) (t : Nat) (x3 : Int32) : WI × WF × WL × Nat := (if (v_135 I (l.2.2 (x3 + 1).toNatClampNeg)) = (v_253 I (l.2.2 (x3 + 1).toNatClampNeg)) then (I, F, L, t) else (I, F, L, t))
noncomputable def gw_22 (l : LX) (I : WI) (F : WF) (L : WL) (t : Nat) (x3 : Int32) : Prop := ((vp_in (x3 + 1) l.2.1) ∧ ((g_135 I (l.2.2 (x3 + 1).toNatClampNeg)) ∧ ((vp_in (x3 + 1) l.2.1) ∧ ((g_253 I (l.2.2 (x3 + 1).toNatClampNeg)) ∧ (¬ ((v_135 I (l.2.2 (x3 + 1).toNatClampNeg)) = (v_253 I (l.2.2 (x3 + 1).toNatClampNeg))) → False)))))
theorem lc_22 {l : LX} {d mc ms cc ss : Nat} {P : RP} {I : WI} {F : WF} {L : WL} {t : Nat} {x3 : Int32} (hcm : cc + 0 ≤ mc ∧ ss + 0 ≤ ms) (hg : gw_22 l I F L t x3) (hx : ∀ r : WI × WF × WL × Nat, r = u_22 l I F L t x3 → Wp l 287 (d + 200) mc ms P cc ss 1611 [(0, .ref 1000050), (1, .ref 0), (2, .ref 74), (3, .int x3)] [] SH (r.1, r.2.1, r.2.2.1, RT r.2.2.2)) : Wp l 287 (d + 200) mc ms P cc ss 896 [(0, .ref 1000050), (1, .ref 0), (2, .ref 74), (3, .int x3)] [] SH (I, F, L, RT t) := by
  obtain ⟨T1, hT1⟩ : ∃ r : WI × WF × WL × Nat, r = u_22 l I F L t x3 := ⟨_, rfl⟩
  have hx := fun r (hr : r = T1) => hx r (hr.trans hT1)
  have he := (hT1.trans (u_22.eq_1 ..)).symm
  have hg := Eq.mp (gw_22.eq_1 ..) hg
  obtain ⟨k1, hg⟩ := hg
  refine bk_287_896 k1 ?_
  obtain ⟨k2, hg⟩ := hg
  refine bk_287_902 (cc_135 (d := d + 193)  k2) ?_ hcm
  obtain ⟨k3, hg⟩ := hg
  refine bk_287_905 k3 ?_
  obtain ⟨k4, hg⟩ := hg
  refine bk_287_911 (cc_253 (d := d + 194)  k4) ?_ hcm
  refine bk_287_914 (fun h5 => ?_) (fun h5 => ?_)
  · have he := ite_p h5 he
    exact hx (I, F, L, t) he
  · have he := ite_n h5 he
    have hg := hg h5
    exact hg.elim
/-- case 23 of the law -/
noncomputable def u_23 (l : LX) (I : WI) (F : WF) (L : WL) (t : Nat) (x3 : Int32) : WI × WF × WL × Nat := (bx ((v_138 I (l.2.2 (x3 + 1).toNatClampNeg)) : Int32 × WI) (fun p1 => (bx ((v_233 p1.2 (l.2.2 (x3 + 1).toNatClampNeg)) : Int32 × WI) (fun p2 => (if p1.1 = p2.1 then (p2.2, F, L, t) else (p2.2, F, L, t))))))
noncomputable def gw_23 (l : LX) (I : WI) (F : WF) (L : WL) (t : Nat) (x3 : Int32) : Prop := ((vp_in (x3 + 1) l.2.1) ∧ ((g_138 I (l.2.2 (x3 + 1).toNatClampNeg)) ∧ (bx ((v_138 I (l.2.2 (x3 + 1).toNatClampNeg)) : Int32 × WI) (fun p1 => ((vp_in (x3 + 1) l.2.1) ∧ ((g_233 p1.2 (l.2.2 (x3 + 1).toNatClampNeg)) ∧ (bx ((v_233 p1.2 (l.2.2 (x3 + 1).toNatClampNeg)) : Int32 × WI) (fun p2 => (¬ (p1.1 = p2.1) → False)))))))))
theorem lc_23 {l : LX} {d mc ms cc ss : Nat} {P : RP} {I : WI} {F : WF} {L : WL} {t : Nat} {x3 : Int32} (hcm : cc + 0 ≤ mc ∧ ss + 0 ≤ ms) (hg : gw_23 l I F L t x3) (hx : ∀ r : WI × WF × WL × Nat, r = u_23 l I F L t x3 → Wp l 287 (d + 200) mc ms P cc ss 1611 [(0, .ref 1000050), (1, .ref 0), (2, .ref 74), (3, .int x3)] [] SH (r.1, r.2.1, r.2.2.1, RT r.2.2.2)) : Wp l 287 (d + 200) mc ms P cc ss 919 [(0, .ref 1000050), (1, .ref 0), (2, .ref 74), (3, .int x3)] [] SH (I, F, L, RT t) := by
  obtain ⟨T1, hT1⟩ : ∃ r : WI × WF × WL × Nat, r = u_23 l I F L t x3 := ⟨_, rfl⟩
  have hx := fun r (hr : r = T1) => hx r (hr.trans hT1)
  have he := (hT1.trans (u_23.eq_1 ..)).symm
  have hg := Eq.mp (gw_23.eq_1 ..) hg
  obtain ⟨k1, hg⟩ := hg
  refine bk_287_919 k1 ?_
  obtain ⟨k2, hg⟩ := hg
  refine bk_287_925 (cq_I_I (cc_138 (d := d + 195)  k2)) ?_ hcm
  rintro _ _ _ _ _ ⟨p1, hr, rfl, rfl, rfl, rfl, rfl⟩
  have he := bx_eq hr he
  have hg := bx_un hr hg
  obtain ⟨k3, hg⟩ := hg
  refine bk_287_928 k3 ?_
  obtain ⟨k4, hg⟩ := hg
  refine bk_287_934 (cq_I_I (cc_233 (d := d + 197)  k4)) ?_ hcm
  rintro _ _ _ _ _ ⟨p2, hr, rfl, rfl, rfl, rfl, rfl⟩
  have he := bx_eq hr he
  have hg := bx_un hr hg
  refine bk_287_937 (fun h5 => ?_) (fun h5 => ?_)
  · have he := ite_p h5 he
    exact hx (p2.2, F, L, t) he
  · have he := ite_n h5 he
    have hg := hg h5
    exact hg.elim
/-- case 24 of the law -/
noncomputable def u_24 (l : LX) (I : WI) (F : WF) (L : WL) (t : Nat) (x3 : Int32) : WI × WF × WL × Nat := (bx ((v_139 I (l.2.2 (x3 + 1).toNatClampNeg) (l.2.2 (x3 + 2).toNatClampNeg)) : Int32 × WI) (fun p1 => (bx ((v_254 p1.2 L (l.2.2 (x3 + 1).toNatClampNeg) (l.2.2 (x3 + 2).toNatClampNeg)) : Int32 × WI × WL) (fun p2 => (if p1.1 = p2.1 then (p2.2.1, F, p2.2.2, t) else (p2.2.1, F, p2.2.2, t))))))
noncomputable def gw_24 (l : LX) (I : WI) (F : WF) (L : WL) (t : Nat) (x3 : Int32) : Prop := ((vp_in (x3 + 1) l.2.1) ∧ ((vp_in (x3 + 2) l.2.1) ∧ ((g_139 I (l.2.2 (x3 + 1).toNatClampNeg) (l.2.2 (x3 + 2).toNatClampNeg)) ∧ (bx ((v_139 I (l.2.2 (x3 + 1).toNatClampNeg) (l.2.2 (x3 + 2).toNatClampNeg)) : Int32 × WI) (fun p1 => ((vp_in (x3 + 1) l.2.1) ∧ ((vp_in (x3 + 2) l.2.1) ∧ ((g_254 p1.2 L (l.2.2 (x3 + 1).toNatClampNeg) (l.2.2 (x3 + 2).toNatClampNeg)) ∧ (bx ((v_254 p1.2 L (l.2.2 (x3 + 1).toNatClampNeg) (l.2.2 (x3 + 2).toNatClampNeg)) : Int32 × WI × WL) (fun p2 => (¬ (p1.1 = p2.1) → False)))))))))))
theorem lc_24 {l : LX} {d mc ms cc ss : Nat} {P : RP} {I : WI} {F : WF} {L : WL} {t : Nat} {x3 : Int32} (hcm : cc + 0 ≤ mc ∧ ss + 0 ≤ ms) (hg : gw_24 l I F L t x3) (hx : ∀ r : WI × WF × WL × Nat, r = u_24 l I F L t x3 → Wp l 287 (d + 200) mc ms P cc ss 1611 [(0, .ref 1000050), (1, .ref 0), (2, .ref 74), (3, .int x3)] [] SH (r.1, r.2.1, r.2.2.1, RT r.2.2.2)) : Wp l 287 (d + 200) mc ms P cc ss 942 [(0, .ref 1000050), (1, .ref 0), (2, .ref 74), (3, .int x3)] [] SH (I, F, L, RT t) := by
  obtain ⟨T1, hT1⟩ : ∃ r : WI × WF × WL × Nat, r = u_24 l I F L t x3 := ⟨_, rfl⟩
  have hx := fun r (hr : r = T1) => hx r (hr.trans hT1)
  have he := (hT1.trans (u_24.eq_1 ..)).symm
  have hg := Eq.mp (gw_24.eq_1 ..) hg
  obtain ⟨k1, hg⟩ := hg
  refine bk_287_942 k1 ?_
  obtain ⟨k2, hg⟩ := hg
  refine bk_287_948 k2 ?_
  obtain ⟨k3, hg⟩ := hg
  refine bk_287_953 (cq_I_I (cc_139 (d := d + 194)  k3)) ?_ hcm
  rintro _ _ _ _ _ ⟨p1, hr, rfl, rfl, rfl, rfl, rfl⟩
  have he := bx_eq hr he
  have hg := bx_un hr hg
  obtain ⟨k4, hg⟩ := hg
  refine bk_287_956 k4 ?_
  obtain ⟨k5, hg⟩ := hg
  refine bk_287_962 k5 ?_
  obtain ⟨k6, hg⟩ := hg
  refine bk_287_967 (cq_I_IL (cc_254 (d := d + 199) (by omega)  k6)) ?_ hcm
  rintro _ _ _ _ _ ⟨p2, hr, rfl, rfl, rfl, rfl, rfl⟩
  have he := bx_eq hr he
  have hg := bx_un hr hg
  refine bk_287_970 (fun h7 => ?_) (fun h7 => ?_)
  · have he := ite_p h7 he
    exact hx (p2.2.1, F, p2.2.2, t) he
  · have he := ite_n h7 he
    have hg := hg h7
    exact hg.elim
/-- case 25 of the law -/
noncomputable def u_25 (l : LX) (I : WI) (F : WF) (L : WL) (t : Nat) (x3 : Int32) : WI × WF × WL × Nat := (bx ((v_140 I F (l.2.2 (x3 + 1).toNatClampNeg)) : Int64 × WI × WF) (fun p1 => (bx ((v_256 p1.2.1 L (l.2.2 (x3 + 1).toNatClampNeg)) : Int64 × WI × WL) (fun p2 => (if (lg_cmp p1.1 p2.1) = 0 then (p2.2.1, p1.2.2, p2.2.2, t) else (p2.2.1, p1.2.2, p2.2.2, t))))))
noncomputable def gw_25 (l : LX) (I : WI) (F : WF) (L : WL) (t : Nat) (x3 : Int32) : Prop := ((vp_in (x3 + 1) l.2.1) ∧ ((g_140 I F (l.2.2 (x3 + 1).toNatClampNeg)) ∧ (bx ((v_140 I F (l.2.2 (x3 + 1).toNatClampNeg)) : Int64 × WI × WF) (fun p1 => ((vp_in (x3 + 1) l.2.1) ∧ ((g_256 p1.2.1 L (l.2.2 (x3 + 1).toNatClampNeg)) ∧ (bx ((v_256 p1.2.1 L (l.2.2 (x3 + 1).toNatClampNeg)) : Int64 × WI × WL) (fun p2 => (¬ ((lg_cmp p1.1 p2.1) = 0) → False)))))))))
theorem lc_25 {l : LX} {d mc ms cc ss : Nat} {P : RP} {I : WI} {F : WF} {L : WL} {t : Nat} {x3 : Int32} (hcm : cc + 0 ≤ mc ∧ ss + 0 ≤ ms) (hg : gw_25 l I F L t x3) (hx : ∀ r : WI × WF × WL × Nat, r = u_25 l I F L t x3 → Wp l 287 (d + 200) mc ms P cc ss 1611 [(0, .ref 1000050), (1, .ref 0), (2, .ref 74), (3, .int x3)] [] SH (r.1, r.2.1, r.2.2.1, RT r.2.2.2)) : Wp l 287 (d + 200) mc ms P cc ss 975 [(0, .ref 1000050), (1, .ref 0), (2, .ref 74), (3, .int x3)] [] SH (I, F, L, RT t) := by
  obtain ⟨T1, hT1⟩ : ∃ r : WI × WF × WL × Nat, r = u_25 l I F L t x3 := ⟨_, rfl⟩
  have hx := fun r (hr : r = T1) => hx r (hr.trans hT1)
  have he := (hT1.trans (u_25.eq_1 ..)).symm
  have hg := Eq.mp (gw_25.eq_1 ..) hg
  obtain ⟨k1, hg⟩ := hg
  refine bk_287_975 k1 ?_
  obtain ⟨k2, hg⟩ := hg
  refine bk_287_981 (cq_J_IF (cc_140 (d := d + 193)  k2)) ?_ hcm
  rintro _ _ _ _ _ ⟨p1, hr, rfl, rfl, rfl, rfl, rfl⟩
  have he := bx_eq hr he
  have hg := bx_un hr hg
  obtain ⟨k3, hg⟩ := hg
  refine bk_287_984 k3 ?_
  obtain ⟨k4, hg⟩ := hg
  refine bk_287_990 (cq_J_IL (cc_256 (d := d + 199) (by omega)  k4)) ?_ hcm
  rintro _ _ _ _ _ ⟨p2, hr, rfl, rfl, rfl, rfl, rfl⟩
  have he := bx_eq hr he
  have hg := bx_un hr hg
  refine bk_287_993 (fun h5 => ?_) (fun h5 => ?_)
  · have he := ite_p h5 he
    exact hx (p2.2.1, p1.2.2, p2.2.2, t) he
  · have he := ite_n h5 he
    have hg := hg h5
    exact hg.elim
/-- case 26 of the law -/
noncomputable def u_26 (l : LX) (I : WI) (F : WF) (L : WL) (t : Nat) (x3 : Int32) : WI × WF × WL × Nat := (bx ((v_142 I F (l.2.2 (x3 + 1).toNatClampNeg) (l.2.2 (x3 + 2).toNatClampNeg) (l.2.2 (x3 + 3).toNatClampNeg) (l.2.2 (x3 + 4).toNatClampNeg)) : Int64 × WI × WF) (fun p1 => (bx ((v_260 p1.2.1 L (l.2.2 (x3 + 1).toNatClampNeg) (l.2.2 (x3 + 2).toNatClampNeg) (l.2.2 (x3 + 3).toNatClampNeg) (l.2.2 (x3 + 4).toNatClampNeg)) : Int64 × WI × WL) (fun p2 => (if (lg_cmp p1.1 p2.1) = 0 then (p2.2.1, p1.2.2, p2.2.2, t) else (p2.2.1, p1.2.2, p2.2.2, t))))))
noncomputable def gw_26 (l : LX) (I : WI) (F : WF) (L : WL) (t : Nat) (x3 : Int32) : Prop := ((vp_in (x3 + 1) l.2.1) ∧ ((vp_in (x3 + 2) l.2.1) ∧ ((vp_in (x3 + 3) l.2.1) ∧ ((vp_in (x3 + 4) l.2.1) ∧ ((g_142 I F (l.2.2 (x3 + 1).toNatClampNeg) (l.2.2 (x3 + 2).toNatClampNeg) (l.2.2 (x3 + 3).toNatClampNeg) (l.2.2 (x3 + 4).toNatClampNeg)) ∧ (bx ((v_142 I F (l.2.2 (x3 + 1).toNatClampNeg) (l.2.2 (x3 + 2).toNatClampNeg) (l.2.2 (x3 + 3).toNatClampNeg) (l.2.2 (x3 + 4).toNatClampNeg)) : Int64 × WI × WF) (fun p1 => ((vp_in (x3 + 1) l.2.1) ∧ ((vp_in (x3 + 2) l.2.1) ∧ ((vp_in (x3 + 3) l.2.1) ∧ ((vp_in (x3 + 4) l.2.1) ∧ ((g_260 p1.2.1 L (l.2.2 (x3 + 1).toNatClampNeg) (l.2.2 (x3 + 2).toNatClampNeg) (l.2.2 (x3 + 3).toNatClampNeg) (l.2.2 (x3 + 4).toNatClampNeg)) ∧ (bx ((v_260 p1.2.1 L (l.2.2 (x3 + 1).toNatClampNeg) (l.2.2 (x3 + 2).toNatClampNeg) (l.2.2 (x3 + 3).toNatClampNeg) (l.2.2 (x3 + 4).toNatClampNeg)) : Int64 × WI × WL) (fun p2 => (¬ ((lg_cmp p1.1 p2.1) = 0) → False)))))))))))))))
theorem lc_26 {l : LX} {d mc ms cc ss : Nat} {P : RP} {I : WI} {F : WF} {L : WL} {t : Nat} {x3 : Int32} (hcm : cc + 0 ≤ mc ∧ ss + 0 ≤ ms) (hg : gw_26 l I F L t x3) (hx : ∀ r : WI × WF × WL × Nat, r = u_26 l I F L t x3 → Wp l 287 (d + 200) mc ms P cc ss 1611 [(0, .ref 1000050), (1, .ref 0), (2, .ref 74), (3, .int x3)] [] SH (r.1, r.2.1, r.2.2.1, RT r.2.2.2)) : Wp l 287 (d + 200) mc ms P cc ss 999 [(0, .ref 1000050), (1, .ref 0), (2, .ref 74), (3, .int x3)] [] SH (I, F, L, RT t) := by
  obtain ⟨T1, hT1⟩ : ∃ r : WI × WF × WL × Nat, r = u_26 l I F L t x3 := ⟨_, rfl⟩
  have hx := fun r (hr : r = T1) => hx r (hr.trans hT1)
  have he := (hT1.trans (u_26.eq_1 ..)).symm
  have hg := Eq.mp (gw_26.eq_1 ..) hg
  obtain ⟨k1, hg⟩ := hg
  refine bk_287_999 k1 ?_
  obtain ⟨k2, hg⟩ := hg
  refine bk_287_1005 k2 ?_
  obtain ⟨k3, hg⟩ := hg
  refine bk_287_1010 k3 ?_
  obtain ⟨k4, hg⟩ := hg
  refine bk_287_1015 k4 ?_
  obtain ⟨k5, hg⟩ := hg
  refine bk_287_1020 (cq_J_IF (cc_142 (d := d + 193)  k5)) ?_ hcm
  rintro _ _ _ _ _ ⟨p1, hr, rfl, rfl, rfl, rfl, rfl⟩
  have he := bx_eq hr he
  have hg := bx_un hr hg
  obtain ⟨k6, hg⟩ := hg
  refine bk_287_1023 k6 ?_
  obtain ⟨k7, hg⟩ := hg
  refine bk_287_1029 k7 ?_
  obtain ⟨k8, hg⟩ := hg
  refine bk_287_1034 k8 ?_
  obtain ⟨k9, hg⟩ := hg
  refine bk_287_1039 k9 ?_
  obtain ⟨k10, hg⟩ := hg
  refine bk_287_1044 (cq_J_IL (cc_260 (d := d + 199) (by omega)  k10)) ?_ hcm
  rintro _ _ _ _ _ ⟨p2, hr, rfl, rfl, rfl, rfl, rfl⟩
  have he := bx_eq hr he
  have hg := bx_un hr hg
  refine bk_287_1047 (fun h11 => ?_) (fun h11 => ?_)
  · have he := ite_p h11 he
    exact hx (p2.2.1, p1.2.2, p2.2.2, t) he
  · have he := ite_n h11 he
    have hg := hg h11
    exact hg.elim
/-- case 27 of the law -/
noncomputable def u_27 (l : LX) (I : WI) (F : WF) (L : WL) (t : Nat) (x3 : Int32) : WI × WF × WL × Nat := (if (v_144 (l.2.2 (x3 + 1).toNatClampNeg) (l.2.2 (x3 + 2).toNatClampNeg)) = (v_259 (l.2.2 (x3 + 1).toNatClampNeg) (l.2.2 (x3 + 2).toNatClampNeg)) then (I, F, L, t) else (I, F, L, t))
noncomputable def gw_27 (l : LX) (I : WI) (F : WF) (L : WL) (t : Nat) (x3 : Int32) : Prop := ((vp_in (x3 + 1) l.2.1) ∧ ((vp_in (x3 + 2) l.2.1) ∧ ((g_144 (l.2.2 (x3 + 1).toNatClampNeg) (l.2.2 (x3 + 2).toNatClampNeg)) ∧ ((vp_in (x3 + 1) l.2.1) ∧ ((vp_in (x3 + 2) l.2.1) ∧ ((g_259 (l.2.2 (x3 + 1).toNatClampNeg) (l.2.2 (x3 + 2).toNatClampNeg)) ∧ (¬ ((v_144 (l.2.2 (x3 + 1).toNatClampNeg) (l.2.2 (x3 + 2).toNatClampNeg)) = (v_259 (l.2.2 (x3 + 1).toNatClampNeg) (l.2.2 (x3 + 2).toNatClampNeg))) → False)))))))
theorem lc_27 {l : LX} {d mc ms cc ss : Nat} {P : RP} {I : WI} {F : WF} {L : WL} {t : Nat} {x3 : Int32} (hcm : cc + 0 ≤ mc ∧ ss + 0 ≤ ms) (hg : gw_27 l I F L t x3) (hx : ∀ r : WI × WF × WL × Nat, r = u_27 l I F L t x3 → Wp l 287 (d + 200) mc ms P cc ss 1611 [(0, .ref 1000050), (1, .ref 0), (2, .ref 74), (3, .int x3)] [] SH (r.1, r.2.1, r.2.2.1, RT r.2.2.2)) : Wp l 287 (d + 200) mc ms P cc ss 1053 [(0, .ref 1000050), (1, .ref 0), (2, .ref 74), (3, .int x3)] [] SH (I, F, L, RT t) := by
  obtain ⟨T1, hT1⟩ : ∃ r : WI × WF × WL × Nat, r = u_27 l I F L t x3 := ⟨_, rfl⟩
  have hx := fun r (hr : r = T1) => hx r (hr.trans hT1)
  have he := (hT1.trans (u_27.eq_1 ..)).symm
  have hg := Eq.mp (gw_27.eq_1 ..) hg
  obtain ⟨k1, hg⟩ := hg
  refine bk_287_1053 k1 ?_
  obtain ⟨k2, hg⟩ := hg
  refine bk_287_1059 k2 ?_
  obtain ⟨k3, hg⟩ := hg
  refine bk_287_1064 (cc_144 (d := d + 198)  k3) ?_ hcm
  obtain ⟨k4, hg⟩ := hg
  refine bk_287_1067 k4 ?_
  obtain ⟨k5, hg⟩ := hg
  refine bk_287_1073 k5 ?_
  obtain ⟨k6, hg⟩ := hg
  refine bk_287_1078 (cc_259 (d := d + 198)  k6) ?_ hcm
  refine bk_287_1081 (fun h7 => ?_) (fun h7 => ?_)
  · have he := ite_p h7 he
    exact hx (I, F, L, t) he
  · have he := ite_n h7 he
    have hg := hg h7
    exact hg.elim
/-- case 28 of the law -/
noncomputable def u_28 (l : LX) (I : WI) (F : WF) (L : WL) (t : Nat) (x3 : Int32) : WI × WF × WL × Nat := (bx ((v_145 I F (l.2.2 (x3 + 1).toNatClampNeg) (l.2.2 (x3 + 2).toNatClampNeg)) : Int32 × WI) (fun p1 => (bx ((v_261 p1.2 F L (l.2.2 (x3 + 1).toNatClampNeg) (l.2.2 (x3 + 2).toNatClampNeg)) : Int32 × WI × WL) (fun p2 => (if p1.1 = p2.1 then (p2.2.1, F, p2.2.2, t) else (p2.2.1, F, p2.2.2, t))))))
noncomputable def gw_28 (l : LX) (I : WI) (F : WF) (L : WL) (t : Nat) (x3 : Int32) : Prop := ((vp_in (x3 + 1) l.2.1) ∧ ((vp_in (x3 + 2) l.2.1) ∧ ((g_145 I F (l.2.2 (x3 + 1).toNatClampNeg) (l.2.2 (x3 + 2).toNatClampNeg)) ∧ (bx ((v_145 I F (l.2.2 (x3 + 1).toNatClampNeg) (l.2.2 (x3 + 2).toNatClampNeg)) : Int32 × WI) (fun p1 => ((vp_in (x3 + 1) l.2.1) ∧ ((vp_in (x3 + 2) l.2.1) ∧ ((g_261 p1.2 F L (l.2.2 (x3 + 1).toNatClampNeg) (l.2.2 (x3 + 2).toNatClampNeg)) ∧ (bx ((v_261 p1.2 F L (l.2.2 (x3 + 1).toNatClampNeg) (l.2.2 (x3 + 2).toNatClampNeg)) : Int32 × WI × WL) (fun p2 => (¬ (p1.1 = p2.1) → False)))))))))))
theorem lc_28 {l : LX} {d mc ms cc ss : Nat} {P : RP} {I : WI} {F : WF} {L : WL} {t : Nat} {x3 : Int32} (hcm : cc + 0 ≤ mc ∧ ss + 0 ≤ ms) (hg : gw_28 l I F L t x3) (hx : ∀ r : WI × WF × WL × Nat, r = u_28 l I F L t x3 → Wp l 287 (d + 200) mc ms P cc ss 1611 [(0, .ref 1000050), (1, .ref 0), (2, .ref 74), (3, .int x3)] [] SH (r.1, r.2.1, r.2.2.1, RT r.2.2.2)) : Wp l 287 (d + 200) mc ms P cc ss 1086 [(0, .ref 1000050), (1, .ref 0), (2, .ref 74), (3, .int x3)] [] SH (I, F, L, RT t) := by
  obtain ⟨T1, hT1⟩ : ∃ r : WI × WF × WL × Nat, r = u_28 l I F L t x3 := ⟨_, rfl⟩
  have hx := fun r (hr : r = T1) => hx r (hr.trans hT1)
  have he := (hT1.trans (u_28.eq_1 ..)).symm
  have hg := Eq.mp (gw_28.eq_1 ..) hg
  obtain ⟨k1, hg⟩ := hg
  refine bk_287_1086 k1 ?_
  obtain ⟨k2, hg⟩ := hg
  refine bk_287_1092 k2 ?_
  obtain ⟨k3, hg⟩ := hg
  refine bk_287_1097 (cq_I_I (cc_145 (d := d + 193)  k3)) ?_ hcm
  rintro _ _ _ _ _ ⟨p1, hr, rfl, rfl, rfl, rfl, rfl⟩
  have he := bx_eq hr he
  have hg := bx_un hr hg
  obtain ⟨k4, hg⟩ := hg
  refine bk_287_1100 k4 ?_
  obtain ⟨k5, hg⟩ := hg
  refine bk_287_1106 k5 ?_
  obtain ⟨k6, hg⟩ := hg
  refine bk_287_1111 (cq_I_IL (cc_261 (d := d + 199) (by omega)  k6)) ?_ hcm
  rintro _ _ _ _ _ ⟨p2, hr, rfl, rfl, rfl, rfl, rfl⟩
  have he := bx_eq hr he
  have hg := bx_un hr hg
  refine bk_287_1114 (fun h7 => ?_) (fun h7 => ?_)
  · have he := ite_p h7 he
    exact hx (p2.2.1, F, p2.2.2, t) he
  · have he := ite_n h7 he
    have hg := hg h7
    exact hg.elim
/-- case 29 of the law -/
noncomputable def u_29 (l : LX) (I : WI) (F : WF) (L : WL) (t : Nat) (x3 : Int32) : WI × WF × WL × Nat := (bx ((v_152 I F (l.2.2 (x3 + 1).toNatClampNeg) (l.2.2 (x3 + 2).toNatClampNeg)) : Int32 × WI × WF) (fun p1 => (bx ((v_266 p1.2.1 p1.2.2 L (l.2.2 (x3 + 1).toNatClampNeg) (l.2.2 (x3 + 2).toNatClampNeg)) : Int32 × WI × WF × WL) (fun p2 => (if p1.1 = p2.1 then (p2.2.1, p2.2.2.1, p2.2.2.2, t) else (p2.2.1, p2.2.2.1, p2.2.2.2, t))))))
noncomputable def gw_29 (l : LX) (I : WI) (F : WF) (L : WL) (t : Nat) (x3 : Int32) : Prop := ((vp_in (x3 + 1) l.2.1) ∧ ((vp_in (x3 + 2) l.2.1) ∧ ((g_152 I F (l.2.2 (x3 + 1).toNatClampNeg) (l.2.2 (x3 + 2).toNatClampNeg)) ∧ (bx ((v_152 I F (l.2.2 (x3 + 1).toNatClampNeg) (l.2.2 (x3 + 2).toNatClampNeg)) : Int32 × WI × WF) (fun p1 => ((vp_in (x3 + 1) l.2.1) ∧ ((vp_in (x3 + 2) l.2.1) ∧ ((g_266 p1.2.1 p1.2.2 L (l.2.2 (x3 + 1).toNatClampNeg) (l.2.2 (x3 + 2).toNatClampNeg)) ∧ (bx ((v_266 p1.2.1 p1.2.2 L (l.2.2 (x3 + 1).toNatClampNeg) (l.2.2 (x3 + 2).toNatClampNeg)) : Int32 × WI × WF × WL) (fun p2 => (¬ (p1.1 = p2.1) → False)))))))))))
theorem lc_29 {l : LX} {d mc ms cc ss : Nat} {P : RP} {I : WI} {F : WF} {L : WL} {t : Nat} {x3 : Int32} (hcm : cc + 0 ≤ mc ∧ ss + 0 ≤ ms) (hg : gw_29 l I F L t x3) (hx : ∀ r : WI × WF × WL × Nat, r = u_29 l I F L t x3 → Wp l 287 (d + 200) mc ms P cc ss 1611 [(0, .ref 1000050), (1, .ref 0), (2, .ref 74), (3, .int x3)] [] SH (r.1, r.2.1, r.2.2.1, RT r.2.2.2)) : Wp l 287 (d + 200) mc ms P cc ss 1119 [(0, .ref 1000050), (1, .ref 0), (2, .ref 74), (3, .int x3)] [] SH (I, F, L, RT t) := by
  obtain ⟨T1, hT1⟩ : ∃ r : WI × WF × WL × Nat, r = u_29 l I F L t x3 := ⟨_, rfl⟩
  have hx := fun r (hr : r = T1) => hx r (hr.trans hT1)
  have he := (hT1.trans (u_29.eq_1 ..)).symm
  have hg := Eq.mp (gw_29.eq_1 ..) hg
  obtain ⟨k1, hg⟩ := hg
  refine bk_287_1119 k1 ?_
  obtain ⟨k2, hg⟩ := hg
  refine bk_287_1125 k2 ?_
  obtain ⟨k3, hg⟩ := hg
  refine bk_287_1130 (cq_I_IF (cc_152 (d := d + 194)  k3)) ?_ hcm
  rintro _ _ _ _ _ ⟨p1, hr, rfl, rfl, rfl, rfl, rfl⟩
  have he := bx_eq hr he
  have hg := bx_un hr hg
  obtain ⟨k4, hg⟩ := hg
  refine bk_287_1133 k4 ?_
  obtain ⟨k5, hg⟩ := hg
  refine bk_287_1139 k5 ?_
  obtain ⟨k6, hg⟩ := hg
  refine bk_287_1144 (cq_I_IFL (cc_266 (d := d + 199) (by omega)  k6)) ?_ hcm
  rintro _ _ _ _ _ ⟨p2, hr, rfl, rfl, rfl, rfl, rfl⟩
  have he := bx_eq hr he
  have hg := bx_un hr hg
  refine bk_287_1147 (fun h7 => ?_) (fun h7 => ?_)
  · have he := ite_p h7 he
    exact hx (p2.2.1, p2.2.2.1, p2.2.2.2, t) he
  · have he := ite_n h7 he
    have hg := hg h7
    exact hg.elim
/-- case 30 of the law -/
noncomputable def u_30 (l : LX) (I : WI) (F : WF) (L : WL) (t : Nat) (x3 : Int32) : WI × WF × WL × Nat := (bx ((v_153 I) : Int32 × WI) (fun p1 => (bx ((v_268 p1.2) : Int32 × WI) (fun p2 => (if p1.1 = p2.1 then (p2.2, F, L, t) else (p2.2, F, L, t))))))
noncomputable def gw_30 (l : LX) (I : WI) (F : WF) (L : WL) (t : Nat) (x3 : Int32) : Prop := (bx ((v_153 I) : Int32 × WI) (fun p1 => ((g_268 p1.2) ∧ (bx ((v_268 p1.2) : Int32 × WI) (fun p2 => (¬ (p1.1 = p2.1) → False))))))
theorem lc_30 {l : LX} {d mc ms cc ss : Nat} {P : RP} {I : WI} {F : WF} {L : WL} {t : Nat} {x3 : Int32} (hcm : cc + 0 ≤ mc ∧ ss + 0 ≤ ms) (hg : gw_30 l I F L t x3) (hx : ∀ r : WI × WF × WL × Nat, r = u_30 l I F L t x3 → Wp l 287 (d + 200) mc ms P cc ss 1611 [(0, .ref 1000050), (1, .ref 0), (2, .ref 74), (3, .int x3)] [] SH (r.1, r.2.1, r.2.2.1, RT r.2.2.2)) : Wp l 287 (d + 200) mc ms P cc ss 1152 [(0, .ref 1000050), (1, .ref 0), (2, .ref 74), (3, .int x3)] [] SH (I, F, L, RT t) := by
  obtain ⟨T1, hT1⟩ : ∃ r : WI × WF × WL × Nat, r = u_30 l I F L t x3 := ⟨_, rfl⟩
  have hx := fun r (hr : r = T1) => hx r (hr.trans hT1)
  have he := (hT1.trans (u_30.eq_1 ..)).symm
  have hg := Eq.mp (gw_30.eq_1 ..) hg
  refine bk_287_1152 (cq_I_I (cc_153 (d := d + 196) )) ?_ hcm
  rintro _ _ _ _ _ ⟨p1, hr, rfl, rfl, rfl, rfl, rfl⟩
  have he := bx_eq hr he
  have hg := bx_un hr hg
  obtain ⟨k2, hg⟩ := hg
  refine bk_287_1156 (cq_I_I (cc_268 (d := d + 199)  k2)) ?_ hcm
  rintro _ _ _ _ _ ⟨p2, hr, rfl, rfl, rfl, rfl, rfl⟩
  have he := bx_eq hr he
  have hg := bx_un hr hg
  refine bk_287_1160 (fun h3 => ?_) (fun h3 => ?_)
  · have he := ite_p h3 he
    exact hx (p2.2, F, L, t) he
  · have he := ite_n h3 he
    have hg := hg h3
    exact hg.elim
/-- case 31 of the law -/
noncomputable def u_31 (l : LX) (I : WI) (F : WF) (L : WL) (t : Nat) (x3 : Int32) : WI × WF × WL × Nat := (bx ((v_154 I) : Int32 × WI) (fun p1 => (bx ((v_269 p1.2) : Int32 × WI) (fun p2 => (if p1.1 = p2.1 then (p2.2, F, L, t) else (p2.2, F, L, t))))))
noncomputable def gw_31 (l : LX) (I : WI) (F : WF) (L : WL) (t : Nat) (x3 : Int32) : Prop := (bx ((v_154 I) : Int32 × WI) (fun p1 => ((g_269 p1.2) ∧ (bx ((v_269 p1.2) : Int32 × WI) (fun p2 => (¬ (p1.1 = p2.1) → False))))))
theorem lc_31 {l : LX} {d mc ms cc ss : Nat} {P : RP} {I : WI} {F : WF} {L : WL} {t : Nat} {x3 : Int32} (hcm : cc + 0 ≤ mc ∧ ss + 0 ≤ ms) (hg : gw_31 l I F L t x3) (hx : ∀ r : WI × WF × WL × Nat, r = u_31 l I F L t x3 → Wp l 287 (d + 200) mc ms P cc ss 1611 [(0, .ref 1000050), (1, .ref 0), (2, .ref 74), (3, .int x3)] [] SH (r.1, r.2.1, r.2.2.1, RT r.2.2.2)) : Wp l 287 (d + 200) mc ms P cc ss 1165 [(0, .ref 1000050), (1, .ref 0), (2, .ref 74), (3, .int x3)] [] SH (I, F, L, RT t) := by
  obtain ⟨T1, hT1⟩ : ∃ r : WI × WF × WL × Nat, r = u_31 l I F L t x3 := ⟨_, rfl⟩
  have hx := fun r (hr : r = T1) => hx r (hr.trans hT1)
  have he := (hT1.trans (u_31.eq_1 ..)).symm
  have hg := Eq.mp (gw_31.eq_1 ..) hg
  refine bk_287_1165 (cq_I_I (cc_154 (d := d + 196) )) ?_ hcm
  rintro _ _ _ _ _ ⟨p1, hr, rfl, rfl, rfl, rfl, rfl⟩
  have he := bx_eq hr he
  have hg := bx_un hr hg
  obtain ⟨k2, hg⟩ := hg
  refine bk_287_1169 (cq_I_I (cc_269 (d := d + 199)  k2)) ?_ hcm
  rintro _ _ _ _ _ ⟨p2, hr, rfl, rfl, rfl, rfl, rfl⟩
  have he := bx_eq hr he
  have hg := bx_un hr hg
  refine bk_287_1173 (fun h3 => ?_) (fun h3 => ?_)
  · have he := ite_p h3 he
    exact hx (p2.2, F, L, t) he
  · have he := ite_n h3 he
    have hg := hg h3
    exact hg.elim
/-- case 32 of the law -/
noncomputable def u_32 (l : LX) (I : WI) (F : WF) (L : WL) (t : Nat) (x3 : Int32) : WI × WF × WL × Nat := (bx ((v_155 I (l.2.2 (x3 + 1).toNatClampNeg)) : Int32 × WI) (fun p1 => (bx ((v_270 p1.2 L (l.2.2 (x3 + 1).toNatClampNeg)) : Int32 × WI × WL) (fun p2 => (if p1.1 = p2.1 then (p2.2.1, F, p2.2.2, t) else (p2.2.1, F, p2.2.2, t))))))
noncomputable def gw_32 (l : LX) (I : WI) (F : WF) (L : WL) (t : Nat) (x3 : Int32) : Prop := ((vp_in (x3 + 1) l.2.1) ∧ ((g_155 I (l.2.2 (x3 + 1).toNatClampNeg)) ∧ (bx ((v_155 I (l.2.2 (x3 + 1).toNatClampNeg)) : Int32 × WI) (fun p1 => ((vp_in (x3 + 1) l.2.1) ∧ ((g_270 p1.2 L (l.2.2 (x3 + 1).toNatClampNeg)) ∧ (bx ((v_270 p1.2 L (l.2.2 (x3 + 1).toNatClampNeg)) : Int32 × WI × WL) (fun p2 => (¬ (p1.1 = p2.1) → False)))))))))
theorem lc_32 {l : LX} {d mc ms cc ss : Nat} {P : RP} {I : WI} {F : WF} {L : WL} {t : Nat} {x3 : Int32} (hcm : cc + 0 ≤ mc ∧ ss + 0 ≤ ms) (hg : gw_32 l I F L t x3) (hx : ∀ r : WI × WF × WL × Nat, r = u_32 l I F L t x3 → Wp l 287 (d + 200) mc ms P cc ss 1611 [(0, .ref 1000050), (1, .ref 0), (2, .ref 74), (3, .int x3)] [] SH (r.1, r.2.1, r.2.2.1, RT r.2.2.2)) : Wp l 287 (d + 200) mc ms P cc ss 1178 [(0, .ref 1000050), (1, .ref 0), (2, .ref 74), (3, .int x3)] [] SH (I, F, L, RT t) := by
  obtain ⟨T1, hT1⟩ : ∃ r : WI × WF × WL × Nat, r = u_32 l I F L t x3 := ⟨_, rfl⟩
  have hx := fun r (hr : r = T1) => hx r (hr.trans hT1)
  have he := (hT1.trans (u_32.eq_1 ..)).symm
  have hg := Eq.mp (gw_32.eq_1 ..) hg
  obtain ⟨k1, hg⟩ := hg
  refine bk_287_1178 k1 ?_
  obtain ⟨k2, hg⟩ := hg
  refine bk_287_1184 (cq_I_I (cc_155 (d := d + 193)  k2)) ?_ hcm
  rintro _ _ _ _ _ ⟨p1, hr, rfl, rfl, rfl, rfl, rfl⟩
  have he := bx_eq hr he
  have hg := bx_un hr hg
  obtain ⟨k3, hg⟩ := hg
  refine bk_287_1187 k3 ?_
  obtain ⟨k4, hg⟩ := hg
  refine bk_287_1193 (cq_I_IL (cc_270 (d := d + 199) (by omega)  k4)) ?_ hcm
  rintro _ _ _ _ _ ⟨p2, hr, rfl, rfl, rfl, rfl, rfl⟩
  have he := bx_eq hr he
  have hg := bx_un hr hg
  refine bk_287_1196 (fun h5 => ?_) (fun h5 => ?_)
  · have he := ite_p h5 he
    exact hx (p2.2.1, F, p2.2.2, t) he
  · have he := ite_n h5 he
    have hg := hg h5
    exact hg.elim
/-- case 33 of the law -/
noncomputable def u_33 (l : LX) (I : WI) (F : WF) (L : WL) (t : Nat) (x3 : Int32) : WI × WF × WL × Nat := (bx ((v_156 I F (l.2.2 (x3 + 1).toNatClampNeg) (l.2.2 (x3 + 2).toNatClampNeg) (l.2.2 (x3 + 3).toNatClampNeg)) : Int32 × WI × WF) (fun p1 => (bx ((v_267 p1.2.1 p1.2.2 (l.2.2 (x3 + 1).toNatClampNeg) (l.2.2 (x3 + 2).toNatClampNeg) (l.2.2 (x3 + 3).toNatClampNeg)) : Int32 × WI × WF) (fun p2 => (if p1.1 = p2.1 then (p2.2.1, p2.2.2, L, t) else (p2.2.1, p2.2.2, L, t))))))
noncomputable def gw_33 (l : LX) (I : WI) (F : WF) (L : WL) (t : Nat) (x3 : Int32) : Prop := ((vp_in (x3 + 1) l.2.1) ∧ ((vp_in (x3 + 2) l.2.1) ∧ ((vp_in (x3 + 3) l.2.1) ∧ ((g_156 I F (l.2.2 (x3 + 1).toNatClampNeg) (l.2.2 (x3 + 2).toNatClampNeg) (l.2.2 (x3 + 3).toNatClampNeg)) ∧ (bx ((v_156 I F (l.2.2 (x3 + 1).toNatClampNeg) (l.2.2 (x3 + 2).toNatClampNeg) (l.2.2 (x3 + 3).toNatClampNeg)) : Int32 × WI × WF) (fun p1 => ((vp_in (x3 + 1) l.2.1) ∧ ((vp_in (x3 + 2) l.2.1) ∧ ((vp_in (x3 + 3) l.2.1) ∧ ((g_267 p1.2.1 p1.2.2 (l.2.2 (x3 + 1).toNatClampNeg) (l.2.2 (x3 + 2).toNatClampNeg) (l.2.2 (x3 + 3).toNatClampNeg)) ∧ (bx ((v_267 p1.2.1 p1.2.2 (l.2.2 (x3 + 1).toNatClampNeg) (l.2.2 (x3 + 2).toNatClampNeg) (l.2.2 (x3 + 3).toNatClampNeg)) : Int32 × WI × WF) (fun p2 => (¬ (p1.1 = p2.1) → False)))))))))))))
theorem lc_33 {l : LX} {d mc ms cc ss : Nat} {P : RP} {I : WI} {F : WF} {L : WL} {t : Nat} {x3 : Int32} (hcm : cc + 0 ≤ mc ∧ ss + 0 ≤ ms) (hg : gw_33 l I F L t x3) (hx : ∀ r : WI × WF × WL × Nat, r = u_33 l I F L t x3 → Wp l 287 (d + 200) mc ms P cc ss 1611 [(0, .ref 1000050), (1, .ref 0), (2, .ref 74), (3, .int x3)] [] SH (r.1, r.2.1, r.2.2.1, RT r.2.2.2)) : Wp l 287 (d + 200) mc ms P cc ss 1201 [(0, .ref 1000050), (1, .ref 0), (2, .ref 74), (3, .int x3)] [] SH (I, F, L, RT t) := by
  obtain ⟨T1, hT1⟩ : ∃ r : WI × WF × WL × Nat, r = u_33 l I F L t x3 := ⟨_, rfl⟩
  have hx := fun r (hr : r = T1) => hx r (hr.trans hT1)
  have he := (hT1.trans (u_33.eq_1 ..)).symm
  have hg := Eq.mp (gw_33.eq_1 ..) hg
  obtain ⟨k1, hg⟩ := hg
  refine bk_287_1201 k1 ?_
  obtain ⟨k2, hg⟩ := hg
  refine bk_287_1207 k2 ?_
  obtain ⟨k3, hg⟩ := hg
  refine bk_287_1212 k3 ?_
  obtain ⟨k4, hg⟩ := hg
  refine bk_287_1217 (cq_I_IF (cc_156 (d := d + 197)  k4)) ?_ hcm
  rintro _ _ _ _ _ ⟨p1, hr, rfl, rfl, rfl, rfl, rfl⟩
  have he := bx_eq hr he
  have hg := bx_un hr hg
  obtain ⟨k5, hg⟩ := hg
  refine bk_287_1220 k5 ?_
  obtain ⟨k6, hg⟩ := hg
  refine bk_287_1226 k6 ?_
  obtain ⟨k7, hg⟩ := hg
  refine bk_287_1231 k7 ?_
  obtain ⟨k8, hg⟩ := hg
  refine bk_287_1236 (cq_I_IF (cc_267 (d := d + 197)  k8)) ?_ hcm
  rintro _ _ _ _ _ ⟨p2, hr, rfl, rfl, rfl, rfl, rfl⟩
  have he := bx_eq hr he
  have hg := bx_un hr hg
  refine bk_287_1239 (fun h9 => ?_) (fun h9 => ?_)
  · have he := ite_p h9 he
    exact hx (p2.2.1, p2.2.2, L, t) he
  · have he := ite_n h9 he
    have hg := hg h9
    exact hg.elim
/-- case 34 of the law -/
noncomputable def u_34 (l : LX) (I : WI) (F : WF) (L : WL) (t : Nat) (x3 : Int32) : WI × WF × WL × Nat := (bx ((v_157 I F (l.2.2 (x3 + 1).toNatClampNeg) (l.2.2 (x3 + 2).toNatClampNeg) (l.2.2 (x3 + 3).toNatClampNeg)) : Int32 × WI × WF) (fun p1 => (bx ((v_271 p1.2.1 p1.2.2 (l.2.2 (x3 + 1).toNatClampNeg) (l.2.2 (x3 + 2).toNatClampNeg) (l.2.2 (x3 + 3).toNatClampNeg)) : Int32 × WI × WF) (fun p2 => (if p1.1 = p2.1 then (p2.2.1, p2.2.2, L, t) else (p2.2.1, p2.2.2, L, t))))))
noncomputable def gw_34 (l : LX) (I : WI) (F : WF) (L : WL) (t : Nat) (x3 : Int32) : Prop := ((vp_in (x3 + 1) l.2.1) ∧ ((vp_in (x3 + 2) l.2.1) ∧ ((vp_in (x3 + 3) l.2.1) ∧ ((g_157 I (l.2.2 (x3 + 1).toNatClampNeg) (l.2.2 (x3 + 2).toNatClampNeg) (l.2.2 (x3 + 3).toNatClampNeg)) ∧ (bx ((v_157 I F (l.2.2 (x3 + 1).toNatClampNeg) (l.2.2 (x3 + 2).toNatClampNeg) (l.2.2 (x3 + 3).toNatClampNeg)) : Int32 × WI × WF) (fun p1 => ((vp_in (x3 + 1) l.2.1) ∧ ((vp_in (x3 + 2) l.2.1) ∧ ((vp_in (x3 + 3) l.2.1) ∧ ((g_271 p1.2.1 (l.2.2 (x3 + 1).toNatClampNeg) (l.2.2 (x3 + 2).toNatClampNeg) (l.2.2 (x3 + 3).toNatClampNeg)) ∧ (bx ((v_271 p1.2.1 p1.2.2 (l.2.2 (x3 + 1).toNatClampNeg) (l.2.2 (x3 + 2).toNatClampNeg) (l.2.2 (x3 + 3).toNatClampNeg)) : Int32 × WI × WF) (fun p2 => (¬ (p1.1 = p2.1) → False)))))))))))))
theorem lc_34 {l : LX} {d mc ms cc ss : Nat} {P : RP} {I : WI} {F : WF} {L : WL} {t : Nat} {x3 : Int32} (hcm : cc + 0 ≤ mc ∧ ss + 0 ≤ ms) (hg : gw_34 l I F L t x3) (hx : ∀ r : WI × WF × WL × Nat, r = u_34 l I F L t x3 → Wp l 287 (d + 200) mc ms P cc ss 1611 [(0, .ref 1000050), (1, .ref 0), (2, .ref 74), (3, .int x3)] [] SH (r.1, r.2.1, r.2.2.1, RT r.2.2.2)) : Wp l 287 (d + 200) mc ms P cc ss 1244 [(0, .ref 1000050), (1, .ref 0), (2, .ref 74), (3, .int x3)] [] SH (I, F, L, RT t) := by
  obtain ⟨T1, hT1⟩ : ∃ r : WI × WF × WL × Nat, r = u_34 l I F L t x3 := ⟨_, rfl⟩
  have hx := fun r (hr : r = T1) => hx r (hr.trans hT1)
  have he := (hT1.trans (u_34.eq_1 ..)).symm
  have hg := Eq.mp (gw_34.eq_1 ..) hg
  obtain ⟨k1, hg⟩ := hg
  refine bk_287_1244 k1 ?_
  obtain ⟨k2, hg⟩ := hg
  refine bk_287_1250 k2 ?_
  obtain ⟨k3, hg⟩ := hg
  refine bk_287_1255 k3 ?_
  obtain ⟨k4, hg⟩ := hg
  refine bk_287_1260 (cq_I_IF (cc_157 (d := d + 196)  k4)) ?_ hcm
  rintro _ _ _ _ _ ⟨p1, hr, rfl, rfl, rfl, rfl, rfl⟩
  have he := bx_eq hr he
  have hg := bx_un hr hg
  obtain ⟨k5, hg⟩ := hg
  refine bk_287_1263 k5 ?_
  obtain ⟨k6, hg⟩ := hg
  refine bk_287_1269 k6 ?_
  obtain ⟨k7, hg⟩ := hg
  refine bk_287_1274 k7 ?_
  obtain ⟨k8, hg⟩ := hg
  refine bk_287_1279 (cq_I_IF (cc_271 (d := d + 197)  k8)) ?_ hcm
  rintro _ _ _ _ _ ⟨p2, hr, rfl, rfl, rfl, rfl, rfl⟩
  have he := bx_eq hr he
  have hg := bx_un hr hg
  refine bk_287_1282 (fun h9 => ?_) (fun h9 => ?_)
  · have he := ite_p h9 he
    exact hx (p2.2.1, p2.2.2, L, t) he
  · have he := ite_n h9 he
    have hg := hg h9
    exact hg.elim
/-- case 35 of the law -/
noncomputable def u_35 (l : LX) (I : WI) (F : WF) (L : WL) (t : Nat) (x3 : Int32) : WI × WF × WL × Nat := (bx ((v_159 I F (l.2.2 (x3 + 1).toNatClampNeg) (l.2.2 (x3 + 2).toNatClampNeg)) : Int32 × WF) (fun p1 => (bx ((v_273 I (l.2.2 (x3 + 1).toNatClampNeg) (l.2.2 (x3 + 2).toNatClampNeg)) : Int32 × WI) (fun p2 => (if p1.1 = p2.1 then (p2.2, p1.2, L, t) else (p2.2, p1.2, L, t))))))
noncomputable def gw_35 (l : LX) (I : WI) (F : WF) (L : WL) (t : Nat) (x3 : Int32) : Prop := ((vp_in (x3 + 1) l.2.1) ∧ ((vp_in (x3 + 2) l.2.1) ∧ ((g_159 I (l.2.2 (x3 + 1).toNatClampNeg) (l.2.2 (x3 + 2).toNatClampNeg)) ∧ (bx ((v_159 I F (l.2.2 (x3 + 1).toNatClampNeg) (l.2.2 (x3 + 2).toNatClampNeg)) : Int32 × WF) (fun p1 => ((vp_in (x3 + 1) l.2.1) ∧ ((vp_in (x3 + 2) l.2.1) ∧ ((g_273 I (l.2.2 (x3 + 1).toNatClampNeg) (l.2.2 (x3 + 2).toNatClampNeg)) ∧ (bx ((v_273 I (l.2.2 (x3 + 1).toNatClampNeg) (l.2.2 (x3 + 2).toNatClampNeg)) : Int32 × WI) (fun p2 => (¬ (p1.1 = p2.1) → False)))))))))))
theorem lc_35 {l : LX} {d mc ms cc ss : Nat} {P : RP} {I : WI} {F : WF} {L : WL} {t : Nat} {x3 : Int32} (hcm : cc + 0 ≤ mc ∧ ss + 0 ≤ ms) (hg : gw_35 l I F L t x3) (hx : ∀ r : WI × WF × WL × Nat, r = u_35 l I F L t x3 → Wp l 287 (d + 200) mc ms P cc ss 1611 [(0, .ref 1000050), (1, .ref 0), (2, .ref 74), (3, .int x3)] [] SH (r.1, r.2.1, r.2.2.1, RT r.2.2.2)) : Wp l 287 (d + 200) mc ms P cc ss 1287 [(0, .ref 1000050), (1, .ref 0), (2, .ref 74), (3, .int x3)] [] SH (I, F, L, RT t) := by
  obtain ⟨T1, hT1⟩ : ∃ r : WI × WF × WL × Nat, r = u_35 l I F L t x3 := ⟨_, rfl⟩
  have hx := fun r (hr : r = T1) => hx r (hr.trans hT1)
  have he := (hT1.trans (u_35.eq_1 ..)).symm
  have hg := Eq.mp (gw_35.eq_1 ..) hg
  obtain ⟨k1, hg⟩ := hg
  refine bk_287_1287 k1 ?_
  obtain ⟨k2, hg⟩ := hg
  refine bk_287_1293 k2 ?_
  obtain ⟨k3, hg⟩ := hg
  refine bk_287_1298 (cq_I_F (cc_159 (d := d + 196)  k3)) ?_ hcm
  rintro _ _ _ _ _ ⟨p1, hr, rfl, rfl, rfl, rfl, rfl⟩
  have he := bx_eq hr he
  have hg := bx_un hr hg
  obtain ⟨k4, hg⟩ := hg
  refine bk_287_1301 k4 ?_
  obtain ⟨k5, hg⟩ := hg
  refine bk_287_1307 k5 ?_
  obtain ⟨k6, hg⟩ := hg
  refine bk_287_1312 (cq_I_I (cc_273 (d := d + 197)  k6)) ?_ hcm
  rintro _ _ _ _ _ ⟨p2, hr, rfl, rfl, rfl, rfl, rfl⟩
  have he := bx_eq hr he
  have hg := bx_un hr hg
  refine bk_287_1315 (fun h7 => ?_) (fun h7 => ?_)
  · have he := ite_p h7 he
    exact hx (p2.2, p1.2, L, t) he
  · have he := ite_n h7 he
    have hg := hg h7
    exact hg.elim
/-- case 36 of the law -/
noncomputable def u_36 (l : LX) (I : WI) (F : WF) (L : WL) (t : Nat) (x3 : Int32) : WI × WF × WL × Nat := (if (v_160 I F (l.2.2 (x3 + 1).toNatClampNeg) (l.2.2 (x3 + 2).toNatClampNeg)) = (v_274 I F (l.2.2 (x3 + 1).toNatClampNeg) (l.2.2 (x3 + 2).toNatClampNeg)) then (I, F, L, t) else (I, F, L, t))
noncomputable def gw_36 (l : LX) (I : WI) (F : WF) (L : WL) (t : Nat) (x3 : Int32) : Prop := ((vp_in (x3 + 1) l.2.1) ∧ ((vp_in (x3 + 2) l.2.1) ∧ ((g_160 I F (l.2.2 (x3 + 1).toNatClampNeg) (l.2.2 (x3 + 2).toNatClampNeg)) ∧ ((vp_in (x3 + 1) l.2.1) ∧ ((vp_in (x3 + 2) l.2.1) ∧ ((g_274 I F (l.2.2 (x3 + 1).toNatClampNeg) (l.2.2 (x3 + 2).toNatClampNeg)) ∧ (¬ ((v_160 I F (l.2.2 (x3 + 1).toNatClampNeg) (l.2.2 (x3 + 2).toNatClampNeg)) = (v_274 I F (l.2.2 (x3 + 1).toNatClampNeg) (l.2.2 (x3 + 2).toNatClampNeg))) → False)))))))
theorem lc_36 {l : LX} {d mc ms cc ss : Nat} {P : RP} {I : WI} {F : WF} {L : WL} {t : Nat} {x3 : Int32} (hcm : cc + 0 ≤ mc ∧ ss + 0 ≤ ms) (hg : gw_36 l I F L t x3) (hx : ∀ r : WI × WF × WL × Nat, r = u_36 l I F L t x3 → Wp l 287 (d + 200) mc ms P cc ss 1611 [(0, .ref 1000050), (1, .ref 0), (2, .ref 74), (3, .int x3)] [] SH (r.1, r.2.1, r.2.2.1, RT r.2.2.2)) : Wp l 287 (d + 200) mc ms P cc ss 1320 [(0, .ref 1000050), (1, .ref 0), (2, .ref 74), (3, .int x3)] [] SH (I, F, L, RT t) := by
  obtain ⟨T1, hT1⟩ : ∃ r : WI × WF × WL × Nat, r = u_36 l I F L t x3 := ⟨_, rfl⟩
  have hx := fun r (hr : r = T1) => hx r (hr.trans hT1)
  have he := (hT1.trans (u_36.eq_1 ..)).symm
  have hg := Eq.mp (gw_36.eq_1 ..) hg
  obtain ⟨k1, hg⟩ := hg
  refine bk_287_1320 k1 ?_
  obtain ⟨k2, hg⟩ := hg
  refine bk_287_1326 k2 ?_
  obtain ⟨k3, hg⟩ := hg
  refine bk_287_1331 (cc_160 (d := d + 196)  k3) ?_ hcm
  obtain ⟨k4, hg⟩ := hg
  refine bk_287_1334 k4 ?_
  obtain ⟨k5, hg⟩ := hg
  refine bk_287_1340 k5 ?_
  obtain ⟨k6, hg⟩ := hg
  refine bk_287_1345 (cc_274 (d := d + 197)  k6) ?_ hcm
  refine bk_287_1348 (fun h7 => ?_) (fun h7 => ?_)
  · have he := ite_p h7 he
    exact hx (I, F, L, t) he
  · have he := ite_n h7 he
    have hg := hg h7
    exact hg.elim
/-- case 37 of the law -/
noncomputable def u_37 (l : LX) (I : WI) (F : WF) (L : WL) (t : Nat) (x3 : Int32) : WI × WF × WL × Nat := (bx ((v_161 I F (l.2.2 (x3 + 1).toNatClampNeg) (l.2.2 (x3 + 2).toNatClampNeg) (l.2.2 (x3 + 3).toNatClampNeg) (l.2.2 (x3 + 4).toNatClampNeg) (l.2.2 (x3 + 5).toNatClampNeg)) : Int32 × WI × WF) (fun p1 => (bx ((v_275 p1.2.1 p1.2.2 (l.2.2 (x3 + 1).toNatClampNeg) (l.2.2 (x3 + 2).toNatClampNeg) (l.2.2 (x3 + 3).toNatClampNeg) (l.2.2 (x3 + 4).toNatClampNeg) (l.2.2 (x3 + 5).toNatClampNeg)) : Int32 × WI × WF) (fun p2 => (if p1.1 = p2.1 then (p2.2.1, p2.2.2, L, t) else (p2.2.1, p2.2.2, L, t))))))
noncomputable def gw_37 (l : LX) (I : WI) (F : WF) (L : WL) (t : Nat) (x3 : Int32) : Prop := ((vp_in (x3 + 1) l.2.1) ∧ ((vp_in (x3 + 2) l.2.1) ∧ ((vp_in (x3 + 3) l.2.1) ∧ ((vp_in (x3 + 4) l.2.1) ∧ ((vp_in (x3 + 5) l.2.1) ∧ ((g_161 I (l.2.2 (x3 + 1).toNatClampNeg) (l.2.2 (x3 + 2).toNatClampNeg) (l.2.2 (x3 + 3).toNatClampNeg) (l.2.2 (x3 + 4).toNatClampNeg) (l.2.2 (x3 + 5).toNatClampNeg)) ∧ (bx ((v_161 I F (l.2.2 (x3 + 1).toNatClampNeg) (l.2.2 (x3 + 2).toNatClampNeg) (l.2.2 (x3 + 3).toNatClampNeg) (l.2.2 (x3 + 4).toNatClampNeg) (l.2.2 (x3 + 5).toNatClampNeg)) : Int32 × WI × WF) (fun p1 => ((vp_in (x3 + 1) l.2.1) ∧ ((vp_in (x3 + 2) l.2.1) ∧ ((vp_in (x3 + 3) l.2.1) ∧ ((vp_in (x3 + 4) l.2.1) ∧ ((vp_in (x3 + 5) l.2.1) ∧ ((g_275 p1.2.1 p1.2.2 (l.2.2 (x3 + 1).toNatClampNeg) (l.2.2 (x3 + 2).toNatClampNeg) (l.2.2 (x3 + 3).toNatClampNeg) (l.2.2 (x3 + 4).toNatClampNeg) (l.2.2 (x3 + 5).toNatClampNeg)) ∧ (bx ((v_275 p1.2.1 p1.2.2 (l.2.2 (x3 + 1).toNatClampNeg) (l.2.2 (x3 + 2).toNatClampNeg) (l.2.2 (x3 + 3).toNatClampNeg) (l.2.2 (x3 + 4).toNatClampNeg) (l.2.2 (x3 + 5).toNatClampNeg)) : Int32 × WI × WF) (fun p2 => (¬ (p1.1 = p2.1) → False)))))))))))))))))
theorem lc_37 {l : LX} {d mc ms cc ss : Nat} {P : RP} {I : WI} {F : WF} {L : WL} {t : Nat} {x3 : Int32} (hcm : cc + 0 ≤ mc ∧ ss + 0 ≤ ms) (hg : gw_37 l I F L t x3) (hx : ∀ r : WI × WF × WL × Nat, r = u_37 l I F L t x3 → Wp l 287 (d + 200) mc ms P cc ss 1611 [(0, .ref 1000050), (1, .ref 0), (2, .ref 74), (3, .int x3)] [] SH (r.1, r.2.1, r.2.2.1, RT r.2.2.2)) : Wp l 287 (d + 200) mc ms P cc ss 1353 [(0, .ref 1000050), (1, .ref 0), (2, .ref 74), (3, .int x3)] [] SH (I, F, L, RT t) := by
  obtain ⟨T1, hT1⟩ : ∃ r : WI × WF × WL × Nat, r = u_37 l I F L t x3 := ⟨_, rfl⟩
  have hx := fun r (hr : r = T1) => hx r (hr.trans hT1)
  have he := (hT1.trans (u_37.eq_1 ..)).symm
  have hg := Eq.mp (gw_37.eq_1 ..) hg
  obtain ⟨k1, hg⟩ := hg
  refine bk_287_1353 k1 ?_
  obtain ⟨k2, hg⟩ := hg
  refine bk_287_1359 k2 ?_
  obtain ⟨k3, hg⟩ := hg
  refine bk_287_1364 k3 ?_
  obtain ⟨k4, hg⟩ := hg
  refine bk_287_1369 k4 ?_
  obtain ⟨k5, hg⟩ := hg
  refine bk_287_1374 k5 ?_
  obtain ⟨k6, hg⟩ := hg
  refine bk_287_1379 (cq_I_IF (cc_161 (d := d + 197)  k6)) ?_ hcm
  rintro _ _ _ _ _ ⟨p1, hr, rfl, rfl, rfl, rfl, rfl⟩
  have he := bx_eq hr he
  have hg := bx_un hr hg
  obtain ⟨k7, hg⟩ := hg
  refine bk_287_1382 k7 ?_
  obtain ⟨k8, hg⟩ := hg
  refine bk_287_1388 k8 ?_
  obtain ⟨k9, hg⟩ := hg
  refine bk_287_1393 k9 ?_
  obtain ⟨k10, hg⟩ := hg
  refine bk_287_1398 k10 ?_
  obtain ⟨k11, hg⟩ := hg
  refine bk_287_1403 k11 ?_
  obtain ⟨k12, hg⟩ := hg
  refine bk_287_1408 (cq_I_IF (cc_275 (d := d + 197)  k12)) ?_ hcm
  rintro _ _ _ _ _ ⟨p2, hr, rfl, rfl, rfl, rfl, rfl⟩
  have he := bx_eq hr he
  have hg := bx_un hr hg
  refine bk_287_1411 (fun h13 => ?_) (fun h13 => ?_)
  · have he := ite_p h13 he
    exact hx (p2.2.1, p2.2.2, L, t) he
  · have he := ite_n h13 he
    have hg := hg h13
    exact hg.elim
/-- case 38 of the law -/
noncomputable def u_38 (l : LX) (I : WI) (F : WF) (L : WL) (t : Nat) (x3 : Int32) : WI × WF × WL × Nat := (if (v_162 I F (l.2.2 (x3 + 1).toNatClampNeg) (l.2.2 (x3 + 2).toNatClampNeg) (l.2.2 (x3 + 3).toNatClampNeg)) = (v_276 I (l.2.2 (x3 + 1).toNatClampNeg) (l.2.2 (x3 + 2).toNatClampNeg) (l.2.2 (x3 + 3).toNatClampNeg)) then (I, F, L, t) else (I, F, L, t))
noncomputable def gw_38 (l : LX) (I : WI) (F : WF) (L : WL) (t : Nat) (x3 : Int32) : Prop := ((vp_in (x3 + 1) l.2.1) ∧ ((vp_in (x3 + 2) l.2.1) ∧ ((vp_in (x3 + 3) l.2.1) ∧ ((g_162 I F (l.2.2 (x3 + 1).toNatClampNeg) (l.2.2 (x3 + 2).toNatClampNeg) (l.2.2 (x3 + 3).toNatClampNeg)) ∧ ((vp_in (x3 + 1) l.2.1) ∧ ((vp_in (x3 + 2) l.2.1) ∧ ((vp_in (x3 + 3) l.2.1) ∧ ((g_276 I (l.2.2 (x3 + 1).toNatClampNeg) (l.2.2 (x3 + 2).toNatClampNeg) (l.2.2 (x3 + 3).toNatClampNeg)) ∧ (¬ ((v_162 I F (l.2.2 (x3 + 1).toNatClampNeg) (l.2.2 (x3 + 2).toNatClampNeg) (l.2.2 (x3 + 3).toNatClampNeg)) = (v_276 I (l.2.2 (x3 + 1).toNatClampNeg) (l.2.2 (x3 + 2).toNatClampNeg) (l.2.2 (x3 + 3).toNatClampNeg))) → False)))))))))
theorem lc_38 {l : LX} {d mc ms cc ss : Nat} {P : RP} {I : WI} {F : WF} {L : WL} {t : Nat} {x3 : Int32} (hcm : cc + 0 ≤ mc ∧ ss + 0 ≤ ms) (hg : gw_38 l I F L t x3) (hx : ∀ r : WI × WF × WL × Nat, r = u_38 l I F L t x3 → Wp l 287 (d + 200) mc ms P cc ss 1611 [(0, .ref 1000050), (1, .ref 0), (2, .ref 74), (3, .int x3)] [] SH (r.1, r.2.1, r.2.2.1, RT r.2.2.2)) : Wp l 287 (d + 200) mc ms P cc ss 1416 [(0, .ref 1000050), (1, .ref 0), (2, .ref 74), (3, .int x3)] [] SH (I, F, L, RT t) := by
  obtain ⟨T1, hT1⟩ : ∃ r : WI × WF × WL × Nat, r = u_38 l I F L t x3 := ⟨_, rfl⟩
  have hx := fun r (hr : r = T1) => hx r (hr.trans hT1)
  have he := (hT1.trans (u_38.eq_1 ..)).symm
  have hg := Eq.mp (gw_38.eq_1 ..) hg
  obtain ⟨k1, hg⟩ := hg
  refine bk_287_1416 k1 ?_
  obtain ⟨k2, hg⟩ := hg
  refine bk_287_1422 k2 ?_
  obtain ⟨k3, hg⟩ := hg
  refine bk_287_1427 k3 ?_
  obtain ⟨k4, hg⟩ := hg
  refine bk_287_1432 (cc_162 (d := d + 196)  k4) ?_ hcm
  obtain ⟨k5, hg⟩ := hg
  refine bk_287_1435 k5 ?_
  obtain ⟨k6, hg⟩ := hg
  refine bk_287_1441 k6 ?_
  obtain ⟨k7, hg⟩ := hg
  refine bk_287_1446 k7 ?_
  obtain ⟨k8, hg⟩ := hg
  refine bk_287_1451 (cc_276 (d := d + 197)  k8) ?_ hcm
  refine bk_287_1454 (fun h9 => ?_) (fun h9 => ?_)
  · have he := ite_p h9 he
    exact hx (I, F, L, t) he
  · have he := ite_n h9 he
    have hg := hg h9
    exact hg.elim
/-- case 39 of the law -/
noncomputable def u_39 (l : LX) (I : WI) (F : WF) (L : WL) (t : Nat) (x3 : Int32) : WI × WF × WL × Nat := (bx ((v_163 I F (l.2.2 (x3 + 1).toNatClampNeg) (l.2.2 (x3 + 2).toNatClampNeg) (l.2.2 (x3 + 3).toNatClampNeg) (l.2.2 (x3 + 4).toNatClampNeg)) : Int32 × WI) (fun p1 => (bx ((v_277 p1.2 F (l.2.2 (x3 + 1).toNatClampNeg) (l.2.2 (x3 + 2).toNatClampNeg) (l.2.2 (x3 + 3).toNatClampNeg) (l.2.2 (x3 + 4).toNatClampNeg)) : Int32 × WI) (fun p2 => (if p1.1 = p2.1 then (p2.2, F, L, t) else (p2.2, F, L, t))))))
noncomputable def gw_39 (l : LX) (I : WI) (F : WF) (L : WL) (t : Nat) (x3 : Int32) : Prop := ((vp_in (x3 + 1) l.2.1) ∧ ((vp_in (x3 + 2) l.2.1) ∧ ((vp_in (x3 + 3) l.2.1) ∧ ((vp_in (x3 + 4) l.2.1) ∧ ((g_163 I F (l.2.2 (x3 + 1).toNatClampNeg) (l.2.2 (x3 + 2).toNatClampNeg) (l.2.2 (x3 + 3).toNatClampNeg) (l.2.2 (x3 + 4).toNatClampNeg)) ∧ (bx ((v_163 I F (l.2.2 (x3 + 1).toNatClampNeg) (l.2.2 (x3 + 2).toNatClampNeg) (l.2.2 (x3 + 3).toNatClampNeg) (l.2.2 (x3 + 4).toNatClampNeg)) : Int32 × WI) (fun p1 => ((vp_in (x3 + 1) l.2.1) ∧ ((vp_in (x3 + 2) l.2.1) ∧ ((vp_in (x3 + 3) l.2.1) ∧ ((vp_in (x3 + 4) l.2.1) ∧ ((g_277 p1.2 F (l.2.2 (x3 + 1).toNatClampNeg) (l.2.2 (x3 + 2).toNatClampNeg) (l.2.2 (x3 + 3).toNatClampNeg) (l.2.2 (x3 + 4).toNatClampNeg)) ∧ (bx ((v_277 p1.2 F (l.2.2 (x3 + 1).toNatClampNeg) (l.2.2 (x3 + 2).toNatClampNeg) (l.2.2 (x3 + 3).toNatClampNeg) (l.2.2 (x3 + 4).toNatClampNeg)) : Int32 × WI) (fun p2 => (¬ (p1.1 = p2.1) → False)))))))))))))))
theorem lc_39 {l : LX} {d mc ms cc ss : Nat} {P : RP} {I : WI} {F : WF} {L : WL} {t : Nat} {x3 : Int32} (hcm : cc + 0 ≤ mc ∧ ss + 0 ≤ ms) (hg : gw_39 l I F L t x3) (hx : ∀ r : WI × WF × WL × Nat, r = u_39 l I F L t x3 → Wp l 287 (d + 200) mc ms P cc ss 1611 [(0, .ref 1000050), (1, .ref 0), (2, .ref 74), (3, .int x3)] [] SH (r.1, r.2.1, r.2.2.1, RT r.2.2.2)) : Wp l 287 (d + 200) mc ms P cc ss 1459 [(0, .ref 1000050), (1, .ref 0), (2, .ref 74), (3, .int x3)] [] SH (I, F, L, RT t) := by
  obtain ⟨T1, hT1⟩ : ∃ r : WI × WF × WL × Nat, r = u_39 l I F L t x3 := ⟨_, rfl⟩
  have hx := fun r (hr : r = T1) => hx r (hr.trans hT1)
  have he := (hT1.trans (u_39.eq_1 ..)).symm
  have hg := Eq.mp (gw_39.eq_1 ..) hg
  obtain ⟨k1, hg⟩ := hg
  refine bk_287_1459 k1 ?_
  obtain ⟨k2, hg⟩ := hg
  refine bk_287_1465 k2 ?_
  obtain ⟨k3, hg⟩ := hg
  refine bk_287_1470 k3 ?_
  obtain ⟨k4, hg⟩ := hg
  refine bk_287_1475 k4 ?_
  obtain ⟨k5, hg⟩ := hg
  refine bk_287_1480 (cq_I_I (cc_163 (d := d + 194)  k5)) ?_ hcm
  rintro _ _ _ _ _ ⟨p1, hr, rfl, rfl, rfl, rfl, rfl⟩
  have he := bx_eq hr he
  have hg := bx_un hr hg
  obtain ⟨k6, hg⟩ := hg
  refine bk_287_1483 k6 ?_
  obtain ⟨k7, hg⟩ := hg
  refine bk_287_1489 k7 ?_
  obtain ⟨k8, hg⟩ := hg
  refine bk_287_1494 k8 ?_
  obtain ⟨k9, hg⟩ := hg
  refine bk_287_1499 k9 ?_
  obtain ⟨k10, hg⟩ := hg
  refine bk_287_1504 (cq_I_I (cc_277 (d := d + 196)  k10)) ?_ hcm
  rintro _ _ _ _ _ ⟨p2, hr, rfl, rfl, rfl, rfl, rfl⟩
  have he := bx_eq hr he
  have hg := bx_un hr hg
  refine bk_287_1507 (fun h11 => ?_) (fun h11 => ?_)
  · have he := ite_p h11 he
    exact hx (p2.2, F, L, t) he
  · have he := ite_n h11 he
    have hg := hg h11
    exact hg.elim
/-- case 40 of the law -/
noncomputable def u_40 (l : LX) (I : WI) (F : WF) (L : WL) (t : Nat) (x3 : Int32) : WI × WF × WL × Nat := (bx ((v_164 I F (l.2.2 (x3 + 1).toNatClampNeg) (l.2.2 (x3 + 2).toNatClampNeg)) : Int32 × WI) (fun p1 => (bx ((v_278 p1.2 F L (l.2.2 (x3 + 1).toNatClampNeg) (l.2.2 (x3 + 2).toNatClampNeg)) : Int32 × WI × WL) (fun p2 => (if p1.1 = p2.1 then (p2.2.1, F, p2.2.2, t) else (p2.2.1, F, p2.2.2, t))))))
noncomputable def gw_40 (l : LX) (I : WI) (F : WF) (L : WL) (t : Nat) (x3 : Int32) : Prop := ((vp_in (x3 + 1) l.2.1) ∧ ((vp_in (x3 + 2) l.2.1) ∧ ((g_164 I F (l.2.2 (x3 + 1).toNatClampNeg) (l.2.2 (x3 + 2).toNatClampNeg)) ∧ (bx ((v_164 I F (l.2.2 (x3 + 1).toNatClampNeg) (l.2.2 (x3 + 2).toNatClampNeg)) : Int32 × WI) (fun p1 => ((vp_in (x3 + 1) l.2.1) ∧ ((vp_in (x3 + 2) l.2.1) ∧ ((g_278 p1.2 F L (l.2.2 (x3 + 1).toNatClampNeg) (l.2.2 (x3 + 2).toNatClampNeg)) ∧ (bx ((v_278 p1.2 F L (l.2.2 (x3 + 1).toNatClampNeg) (l.2.2 (x3 + 2).toNatClampNeg)) : Int32 × WI × WL) (fun p2 => (¬ (p1.1 = p2.1) → False)))))))))))
theorem lc_40 {l : LX} {d mc ms cc ss : Nat} {P : RP} {I : WI} {F : WF} {L : WL} {t : Nat} {x3 : Int32} (hcm : cc + 0 ≤ mc ∧ ss + 0 ≤ ms) (hg : gw_40 l I F L t x3) (hx : ∀ r : WI × WF × WL × Nat, r = u_40 l I F L t x3 → Wp l 287 (d + 200) mc ms P cc ss 1611 [(0, .ref 1000050), (1, .ref 0), (2, .ref 74), (3, .int x3)] [] SH (r.1, r.2.1, r.2.2.1, RT r.2.2.2)) : Wp l 287 (d + 200) mc ms P cc ss 1512 [(0, .ref 1000050), (1, .ref 0), (2, .ref 74), (3, .int x3)] [] SH (I, F, L, RT t) := by
  obtain ⟨T1, hT1⟩ : ∃ r : WI × WF × WL × Nat, r = u_40 l I F L t x3 := ⟨_, rfl⟩
  have hx := fun r (hr : r = T1) => hx r (hr.trans hT1)
  have he := (hT1.trans (u_40.eq_1 ..)).symm
  have hg := Eq.mp (gw_40.eq_1 ..) hg
  obtain ⟨k1, hg⟩ := hg
  refine bk_287_1512 k1 ?_
  obtain ⟨k2, hg⟩ := hg
  refine bk_287_1518 k2 ?_
  obtain ⟨k3, hg⟩ := hg
  refine bk_287_1523 (cq_I_I (cc_164 (d := d + 193)  k3)) ?_ hcm
  rintro _ _ _ _ _ ⟨p1, hr, rfl, rfl, rfl, rfl, rfl⟩
  have he := bx_eq hr he
  have hg := bx_un hr hg
  obtain ⟨k4, hg⟩ := hg
  refine bk_287_1526 k4 ?_
  obtain ⟨k5, hg⟩ := hg
  refine bk_287_1532 k5 ?_
  obtain ⟨k6, hg⟩ := hg
  refine bk_287_1537 (cq_I_IL (cc_278 (d := d + 199) (by omega)  k6)) ?_ hcm
  rintro _ _ _ _ _ ⟨p2, hr, rfl, rfl, rfl, rfl, rfl⟩
  have he := bx_eq hr he
  have hg := bx_un hr hg
  refine bk_287_1540 (fun h7 => ?_) (fun h7 => ?_)
  · have he := ite_p h7 he
    exact hx (p2.2.1, F, p2.2.2, t) he
  · have he := ite_n h7 he
    have hg := hg h7
    exact hg.elim
/-- case 41 of the law -/
noncomputable def u_41 (l : LX) (I : WI) (F : WF) (L : WL) (t : Nat) (x3 : Int32) : WI × WF × WL × Nat := (bx ((v_165 I F (l.2.2 (x3 + 1).toNatClampNeg) (l.2.2 (x3 + 2).toNatClampNeg) (l.2.2 (x3 + 3).toNatClampNeg)) : Int32 × WI × WF) (fun p1 => (bx ((v_279 p1.2.1 (l.2.2 (x3 + 1).toNatClampNeg) (l.2.2 (x3 + 2).toNatClampNeg) (l.2.2 (x3 + 3).toNatClampNeg)) : Int32 × WI) (fun p2 => (if p1.1 = p2.1 then (p2.2, p1.2.2, L, t) else (p2.2, p1.2.2, L, t))))))
noncomputable def gw_41 (l : LX) (I : WI) (F : WF) (L : WL) (t : Nat) (x3 : Int32) : Prop := ((vp_in (x3 + 1) l.2.1) ∧ ((vp_in (x3 + 2) l.2.1) ∧ ((vp_in (x3 + 3) l.2.1) ∧ ((g_165 I F (l.2.2 (x3 + 1).toNatClampNeg) (l.2.2 (x3 + 2).toNatClampNeg) (l.2.2 (x3 + 3).toNatClampNeg)) ∧ (bx ((v_165 I F (l.2.2 (x3 + 1).toNatClampNeg) (l.2.2 (x3 + 2).toNatClampNeg) (l.2.2 (x3 + 3).toNatClampNeg)) : Int32 × WI × WF) (fun p1 => ((vp_in (x3 + 1) l.2.1) ∧ ((vp_in (x3 + 2) l.2.1) ∧ ((vp_in (x3 + 3) l.2.1) ∧ ((g_279 p1.2.1 (l.2.2 (x3 + 1).toNatClampNeg) (l.2.2 (x3 + 2).toNatClampNeg) (l.2.2 (x3 + 3).toNatClampNeg)) ∧ (bx ((v_279 p1.2.1 (l.2.2 (x3 + 1).toNatClampNeg) (l.2.2 (x3 + 2).toNatClampNeg) (l.2.2 (x3 + 3).toNatClampNeg)) : Int32 × WI) (fun p2 => (¬ (p1.1 = p2.1) → False)))))))))))))
theorem lc_41 {l : LX} {d mc ms cc ss : Nat} {P : RP} {I : WI} {F : WF} {L : WL} {t : Nat} {x3 : Int32} (hcm : cc + 0 ≤ mc ∧ ss + 0 ≤ ms) (hg : gw_41 l I F L t x3) (hx : ∀ r : WI × WF × WL × Nat, r = u_41 l I F L t x3 → Wp l 287 (d + 200) mc ms P cc ss 1611 [(0, .ref 1000050), (1, .ref 0), (2, .ref 74), (3, .int x3)] [] SH (r.1, r.2.1, r.2.2.1, RT r.2.2.2)) : Wp l 287 (d + 200) mc ms P cc ss 1545 [(0, .ref 1000050), (1, .ref 0), (2, .ref 74), (3, .int x3)] [] SH (I, F, L, RT t) := by
  obtain ⟨T1, hT1⟩ : ∃ r : WI × WF × WL × Nat, r = u_41 l I F L t x3 := ⟨_, rfl⟩
  have hx := fun r (hr : r = T1) => hx r (hr.trans hT1)
  have he := (hT1.trans (u_41.eq_1 ..)).symm
  have hg := Eq.mp (gw_41.eq_1 ..) hg
  obtain ⟨k1, hg⟩ := hg
  refine bk_287_1545 k1 ?_
  obtain ⟨k2, hg⟩ := hg
  refine bk_287_1551 k2 ?_
  obtain ⟨k3, hg⟩ := hg
  refine bk_287_1556 k3 ?_
  obtain ⟨k4, hg⟩ := hg
  refine bk_287_1561 (cq_I_IF (cc_165 (d := d + 196)  k4)) ?_ hcm
  rintro _ _ _ _ _ ⟨p1, hr, rfl, rfl, rfl, rfl, rfl⟩
  have he := bx_eq hr he
  have hg := bx_un hr hg
  obtain ⟨k5, hg⟩ := hg
  refine bk_287_1564 k5 ?_
  obtain ⟨k6, hg⟩ := hg
  refine bk_287_1570 k6 ?_
  obtain ⟨k7, hg⟩ := hg
  refine bk_287_1575 k7 ?_
  obtain ⟨k8, hg⟩ := hg
  refine bk_287_1580 (cq_I_I (cc_279 (d := d + 197)  k8)) ?_ hcm
  rintro _ _ _ _ _ ⟨p2, hr, rfl, rfl, rfl, rfl, rfl⟩
  have he := bx_eq hr he
  have hg := bx_un hr hg
  refine bk_287_1583 (fun h9 => ?_) (fun h9 => ?_)
  · have he := ite_p h9 he
    exact hx (p2.2, p1.2.2, L, t) he
  · have he := ite_n h9 he
    have hg := hg h9
    exact hg.elim
/-- case 42 of the law -/
noncomputable def u_42 (l : LX) (I : WI) (F : WF) (L : WL) (t : Nat) (x3 : Int32) : WI × WF × WL × Nat := (if (v_166 I (l.2.2 (x3 + 1).toNatClampNeg)) = (v_280 I (l.2.2 (x3 + 1).toNatClampNeg)) then (I, F, L, t) else (I, F, L, t))
noncomputable def gw_42 (l : LX) (I : WI) (F : WF) (L : WL) (t : Nat) (x3 : Int32) : Prop := ((vp_in (x3 + 1) l.2.1) ∧ ((g_166 I (l.2.2 (x3 + 1).toNatClampNeg)) ∧ ((vp_in (x3 + 1) l.2.1) ∧ ((g_280 I (l.2.2 (x3 + 1).toNatClampNeg)) ∧ (¬ ((v_166 I (l.2.2 (x3 + 1).toNatClampNeg)) = (v_280 I (l.2.2 (x3 + 1).toNatClampNeg))) → False)))))
theorem lc_42 {l : LX} {d mc ms cc ss : Nat} {P : RP} {I : WI} {F : WF} {L : WL} {t : Nat} {x3 : Int32} (hcm : cc + 0 ≤ mc ∧ ss + 0 ≤ ms) (hg : gw_42 l I F L t x3) (hx : ∀ r : WI × WF × WL × Nat, r = u_42 l I F L t x3 → Wp l 287 (d + 200) mc ms P cc ss 1611 [(0, .ref 1000050), (1, .ref 0), (2, .ref 74), (3, .int x3)] [] SH (r.1, r.2.1, r.2.2.1, RT r.2.2.2)) : Wp l 287 (d + 200) mc ms P cc ss 1588 [(0, .ref 1000050), (1, .ref 0), (2, .ref 74), (3, .int x3)] [] SH (I, F, L, RT t) := by
  obtain ⟨T1, hT1⟩ : ∃ r : WI × WF × WL × Nat, r = u_42 l I F L t x3 := ⟨_, rfl⟩
  have hx := fun r (hr : r = T1) => hx r (hr.trans hT1)
  have he := (hT1.trans (u_42.eq_1 ..)).symm
  have hg := Eq.mp (gw_42.eq_1 ..) hg
  obtain ⟨k1, hg⟩ := hg
  refine bk_287_1588 k1 ?_
  obtain ⟨k2, hg⟩ := hg
  refine bk_287_1594 (cc_166 (d := d + 198)  k2) ?_ hcm
  obtain ⟨k3, hg⟩ := hg
  refine bk_287_1597 k3 ?_
  obtain ⟨k4, hg⟩ := hg
  refine bk_287_1603 (cc_280 (d := d + 198)  k4) ?_ hcm
  refine bk_287_1606 (fun h5 => ?_) (fun h5 => ?_)
  · have he := ite_p h5 he
    exact hx (I, F, L, t) he
  · have he := ite_n h5 he
    have hg := hg h5
    exact hg.elim
end
