section
def prl : Nat → RECTR
  | 0, _, I, L => (0, I, L)
  | n + 1, s, I, L => if s = 200 then v_200 (prl n) I L else if s = 202 then v_202 (prl n) I L else v_206 (prl n) I L
def okrl : Nat → OKRTR
  | 0, _, _, _ => False
  | n + 1, s, I, L => if s = 200 then g_200 (prl n) (okrl n) I L else if s = 202 then g_202 (prl n) (okrl n) I L else g_206 (prl n) (okrl n) I L
theorem prl_200 {n : Nat} {I : WI} {L : WL} : prl (n + 1) 200 I L = v_200 (prl n) I L := by simp [prl]
theorem okrl_200 {n : Nat} {I : WI} {L : WL} : okrl (n + 1) 200 I L ↔ g_200 (prl n) (okrl n) I L := by simp [okrl]
theorem prl_202 {n : Nat} {I : WI} {L : WL} : prl (n + 1) 202 I L = v_202 (prl n) I L := by simp [prl]
theorem okrl_202 {n : Nat} {I : WI} {L : WL} : okrl (n + 1) 202 I L ↔ g_202 (prl n) (okrl n) I L := by simp [okrl]
theorem prl_206 {n : Nat} {I : WI} {L : WL} : prl (n + 1) 206 I L = v_206 (prl n) I L := by simp [prl]
theorem okrl_206 {n : Nat} {I : WI} {L : WL} : okrl (n + 1) 206 I L ↔ g_206 (prl n) (okrl n) I L := by simp [okrl]
theorem hrec_R {l : LX} : ∀ n, HRECR l (20 * n) (prl n) (okrl n) := by
  intro n
  induction n with
  | zero => intro d _ s I F L t _ h; exact h.elim
  | succ n ih =>
    intro d hd s I F L t hs hk
    obtain ⟨e, rfl⟩ : ∃ e, d = e + 20 := ⟨d - 20, by omega⟩
    rcases hs with rfl | rfl | rfl
    · rw [prl_200]
      have hk := okrl_200.mp hk
      exact cc_200 (d := e + 11) ih (by omega) hk
    · rw [prl_202]
      have hk := okrl_202.mp hk
      exact cc_202 (d := e + 13) ih (by omega) hk
    · rw [prl_206]
      have hk := okrl_206.mp hk
      exact cc_206 (d := e + 16) ih (by omega) hk
/-- the same, closed to unfolding -/
noncomputable def prc (I : WI) (L : WL) : Int32 × WI × WL := Classical.choose (⟨prl 8 200 I L, rfl⟩ : ∃ r : Int32 × WI × WL, r = prl 8 200 I L)
theorem prc_eq (I : WI) (L : WL) : prc I L = prl 8 200 I L := Classical.choose_spec (⟨prl 8 200 I L, rfl⟩ : ∃ r : Int32 × WI × WL, r = prl 8 200 I L)
/-- the same, closed to unfolding -/
noncomputable def okrc (I : WI) (L : WL) : Prop := Classical.choose (⟨okrl 8 200 I L, rfl⟩ : ∃ r : Prop, r = okrl 8 200 I L)
theorem okrc_eq (I : WI) (L : WL) : okrc I L = okrl 8 200 I L := Classical.choose_spec (⟨okrl 8 200 I L, rfl⟩ : ∃ r : Prop, r = okrl 8 200 I L)
theorem cp_200 {l : LX} {d : Nat} {I : WI} {F : WF} {L : WL} {t : Nat} (hd : 170 ≤ d) (hg : okrc I L) : Con l 200 d 0 0 [.ref 74] SH (I, F, L, RT t) (po_I_IL F t (prc I L)) := by
  rw [prc_eq]
  rw [okrc_eq] at hg
  exact hrec_R 8 d (by omega) 200 I F L t (by simp) hg
/-- VectorShelfModel.part(Z)I -/
noncomputable def v_198 (I : WI) (L : WL) (x1 : Int32) : Int32 × WI × WL := (bx ((if ¬ x1 = 0 then I else (bx ((v_199 I) : WI) (fun p1 => p1))) : WI) (fun p2 => (bx ((if ¬ (p2 74 32) = 0 then (p2, L) else (bx ((v_194 p2 L) : WI × WL) (fun p3 => (p3.1, p3.2)))) : WI × WL) (fun p4 => (bx ((if (p4.1 74 32) = 0 then (bx ((prc p4.1 p4.2) : Int32 × WI × WL) (fun p5 => (p5.1, p5.2.1, p5.2.2))) else (0, p4.1, p4.2)) : Int32 × WI × WL) (fun p6 => (bx ((if ¬ (v_207 p6.2.1 p6.2.2 (59 : Int32)) = 0 then p6.2.1 else (bx ((v_199 p6.2.1) : WI) (fun p7 => p7))) : WI) (fun p8 => (if ¬ (p8 74 32) = 0 then (p6.1, p8, p6.2.2) else (bx ((v_194 p8 p6.2.2) : WI × WL) (fun p9 => (p6.1, p9.1, p9.2))))))))))))
noncomputable def g_198 (I : WI) (L : WL) (x1 : Int32) : Prop := (bx ((if ¬ x1 = 0 then I else (bx ((v_199 I) : WI) (fun p1 => p1))) : WI) (fun p2 => ((¬ (¬ (p2 74 32) = 0) → (g_194 p2 L)) ∧ (bx ((if ¬ (p2 74 32) = 0 then (p2, L) else (bx ((v_194 p2 L) : WI × WL) (fun p3 => (p3.1, p3.2)))) : WI × WL) (fun p4 => ((((p4.1 74 32) = 0) → (okrc p4.1 p4.2)) ∧ (bx ((if (p4.1 74 32) = 0 then (bx ((prc p4.1 p4.2) : Int32 × WI × WL) (fun p5 => (p5.1, p5.2.1, p5.2.2))) else (0, p4.1, p4.2)) : Int32 × WI × WL) (fun p6 => (bx ((if ¬ (v_207 p6.2.1 p6.2.2 (59 : Int32)) = 0 then p6.2.1 else (bx ((v_199 p6.2.1) : WI) (fun p7 => p7))) : WI) (fun p8 => (¬ (¬ (p8 74 32) = 0) → (g_194 p8 p6.2.2))))))))))))
theorem cc_198 {l : LX} {d : Nat} {I : WI} {F : WF} {L : WL} {t : Nat} {x1 : Int32} (hd : 171 ≤ d) (hg : g_198 I L x1) : Con l 198 d 0 0 [.ref 74, .int x1] SH (I, F, L, RT t) (po_I_IL F t (v_198 I L x1)) := by
  obtain ⟨d, rfl⟩ : ∃ e, d = e + 171 := ⟨d - 171, by omega⟩
  refine cn_198 ?_
  obtain ⟨T1, hT1⟩ : ∃ r : Int32 × WI × WL, r = (v_198 I L x1) := ⟨_, rfl⟩
  rw [← hT1]
  have he := (hT1.trans (v_198.eq_1 ..)).symm
  have hg := Eq.mp (g_198.eq_1 ..) hg
  obtain ⟨X1, hX1⟩ : ∃ r : WI, r = (if ¬ x1 = 0 then I else (bx ((v_199 I) : WI) (fun p1 => p1))) := ⟨_, rfl⟩
  have J1 : ∀ p2 : WI, p2 = X1 → Wp l 198 (d + 171) 0 0 (po_I_IL F t T1) 0 0 8 [(0, .ref 74)] [] SH (p2, F, L, RT t) := by
    intro p2 hr
    have hr := hr.trans hX1
    have he := bx_eq hr he
    have hg := bx_un hr hg
    obtain ⟨hgX, hg⟩ := hg
    obtain ⟨X2, hX2⟩ : ∃ r : WI × WL, r = (if ¬ (p2 74 32) = 0 then (p2, L) else (bx ((v_194 p2 L) : WI × WL) (fun p3 => (p3.1, p3.2)))) := ⟨_, rfl⟩
    have J2 : ∀ p4 : WI × WL, p4 = X2 → Wp l 198 (d + 171) 0 0 (po_I_IL F t T1) 0 0 19 [(0, .ref 74)] [] SH (p4.1, F, p4.2, RT t) := by
      intro p4 hr
      have hr := hr.trans hX2
      have he := bx_eq hr he
      have hg := bx_un hr hg
      obtain ⟨hgX, hg⟩ := hg
      obtain ⟨X3, hX3⟩ : ∃ r : Int32 × WI × WL, r = (if (p4.1 74 32) = 0 then (bx ((prc p4.1 p4.2) : Int32 × WI × WL) (fun p5 => (p5.1, p5.2.1, p5.2.2))) else (0, p4.1, p4.2)) := ⟨_, rfl⟩
      have J3 : ∀ p6 : Int32 × WI × WL, p6 = X3 → Wp l 198 (d + 171) 0 0 (po_I_IL F t T1) 0 0 34 [(0, .ref 74)] [.int p6.1] SH (p6.2.1, F, p6.2.2, RT t) := by
        intro p6 hr
        have hr := hr.trans hX3
        have he := bx_eq hr he
        have hg := bx_un hr hg
        refine bk_198_34 (cc_207 (d := d + 170) ) ?_
        obtain ⟨X4, hX4⟩ : ∃ r : WI, r = (if ¬ (v_207 p6.2.1 p6.2.2 (59 : Int32)) = 0 then p6.2.1 else (bx ((v_199 p6.2.1) : WI) (fun p7 => p7))) := ⟨_, rfl⟩
        have J4 : ∀ p8 : WI, p8 = X4 → Wp l 198 (d + 171) 0 0 (po_I_IL F t T1) 0 0 48 [(0, .ref 74), (2, .int p6.1)] [] SH (p8, F, p6.2.2, RT t) := by
          intro p8 hr
          have hr := hr.trans hX4
          have he := bx_eq hr he
          have hg := bx_un hr hg
          refine bk_198_48 (fun h10 => ?_) (fun h10 => ?_)
          · have he := ite_p h10 he
            exact bk_198_59 (rl_I_IL he)
          · have he := ite_n h10 he
            have hg := hg h10
            have k11 := hg
            refine bk_198_55 (cq_V_IL (cc_194 (d := d + 169)  k11)) ?_
            rintro _ _ _ _ ⟨p9, hr, rfl, rfl, rfl, rfl⟩
            have he := bx_eq hr he
            exact bk_198_59 (rl_I_IL he)
        have he := hX4.symm
        refine bk_198_41 (fun h8 => ?_) (fun h8 => ?_)
        · have he := ite_p h8 he
          exact J4 p6.2.1 he
        · have he := ite_n h8 he
          refine bk_198_44 (cq_V_I (cc_199 (d := d + 170) )) ?_
          rintro _ _ _ _ ⟨p7, hr, rfl, rfl, rfl, rfl⟩
          have he := bx_eq hr he
          exact J4 p7 he
      have he := hX3.symm
      have hg := hgX
      refine bk_198_19 (fun h5 => ?_) (fun h5 => ?_)
      · have he := ite_p h5 he
        have hg := hg h5
        have k6 := hg
        refine bk_198_30 (cq_I_IL (cp_200 (d := d + 170) (by omega)  k6)) ?_
        rintro _ _ _ _ _ ⟨p5, hr, rfl, rfl, rfl, rfl, rfl⟩
        have he := bx_eq hr he
        exact J3 (p5.1, p5.2.1, p5.2.2) he
      · have he := ite_n h5 he
        refine bk_198_26 ?_
        exact J3 (0, p4.1, p4.2) he
    have he := hX2.symm
    have hg := hgX
    refine bk_198_8 (fun h3 => ?_) (fun h3 => ?_)
    · have he := ite_p h3 he
      exact J2 (p2, L) he
    · have he := ite_n h3 he
      have hg := hg h3
      have k4 := hg
      refine bk_198_15 (cq_V_IL (cc_194 (d := d + 169)  k4)) ?_
      rintro _ _ _ _ ⟨p3, hr, rfl, rfl, rfl, rfl⟩
      have he := bx_eq hr he
      exact J2 (p3.1, p3.2) he
  have he := hX1.symm
  refine bk_198_0 (fun h1 => ?_) (fun h1 => ?_)
  · have he := ite_p h1 he
    exact J1 I he
  · have he := ite_n h1 he
    refine bk_198_4 (cq_V_I (cc_199 (d := d + 170) )) ?_
    rintro _ _ _ _ ⟨p1, hr, rfl, rfl, rfl, rfl⟩
    have he := bx_eq hr he
    exact J1 p1 he
/-- VectorShelfModel.read(II)I -/
noncomputable def v_193 (I : WI) (L : WL) (x1 : Int32) (x2 : Int32) : Int32 × WI × WL := (bx ((v_194 (up2 (up2 (up2 (up2 (up2 I 74 25 (160 * x1)) 74 26 (I 76 x1.toNatClampNeg)) 74 27 0) 74 31 0) 74 32 0) L) : WI × WL) (fun p1 => (bx ((v_198 p1.1 p1.2 (v_196 p1.1 (102 : Int32) (105 : Int32) (116 : Int32) (115 : Int32) (0 : Int32) (0 : Int32) (0 : Int32) (0 : Int32))) : Int32 × WI × WL) (fun p2 => (bx ((if (p2.2.1 74 32) = 0 then (bx ((v_198 p2.2.1 p2.2.2 (v_196 p2.2.1 (97 : Int32) (100 : Int32) (100 : Int32) (115 : Int32) (0 : Int32) (0 : Int32) (0 : Int32) (0 : Int32))) : Int32 × WI × WL) (fun p3 => (p3.1, p3.2.1, p3.2.2))) else (0, p2.2.1, p2.2.2)) : Int32 × WI × WL) (fun p4 => (bx ((if ¬ (p4.2.1 74 32) = 0 then p4.2.1 else (if (p4.2.1 74 28) = 0 then p4.2.1 else (bx ((v_199 p4.2.1) : WI) (fun p5 => p5)))) : WI) (fun p6 => (if ¬ x2 = 0 then (p4.1, p6, p4.2.2) else (p2.1, p6, p4.2.2))))))))))
noncomputable def g_193 (I : WI) (L : WL) (x1 : Int32) : Prop := ((vp_in x1 6) ∧ ((g_194 (up2 (up2 (up2 (up2 (up2 I 74 25 (160 * x1)) 74 26 (I 76 x1.toNatClampNeg)) 74 27 0) 74 31 0) 74 32 0) L) ∧ (bx ((v_194 (up2 (up2 (up2 (up2 (up2 I 74 25 (160 * x1)) 74 26 (I 76 x1.toNatClampNeg)) 74 27 0) 74 31 0) 74 32 0) L) : WI × WL) (fun p1 => ((g_196 p1.1 (102 : Int32) (105 : Int32) (116 : Int32) (115 : Int32) (0 : Int32) (0 : Int32) (0 : Int32)) ∧ ((g_198 p1.1 p1.2 (v_196 p1.1 (102 : Int32) (105 : Int32) (116 : Int32) (115 : Int32) (0 : Int32) (0 : Int32) (0 : Int32) (0 : Int32))) ∧ (bx ((v_198 p1.1 p1.2 (v_196 p1.1 (102 : Int32) (105 : Int32) (116 : Int32) (115 : Int32) (0 : Int32) (0 : Int32) (0 : Int32) (0 : Int32))) : Int32 × WI × WL) (fun p2 => (((p2.2.1 74 32) = 0) → ((g_196 p2.2.1 (97 : Int32) (100 : Int32) (100 : Int32) (115 : Int32) (0 : Int32) (0 : Int32) (0 : Int32)) ∧ (g_198 p2.2.1 p2.2.2 (v_196 p2.2.1 (97 : Int32) (100 : Int32) (100 : Int32) (115 : Int32) (0 : Int32) (0 : Int32) (0 : Int32) (0 : Int32)))))))))))))
theorem cc_193 {l : LX} {d : Nat} {I : WI} {F : WF} {L : WL} {t : Nat} {x1 : Int32} {x2 : Int32} (hd : 172 ≤ d) (hg : g_193 I L x1) : Con l 193 d 0 0 [.ref 74, .int x1, .int x2] SH (I, F, L, RT t) (po_I_IL F t (v_193 I L x1 x2)) := by
  obtain ⟨d, rfl⟩ : ∃ e, d = e + 172 := ⟨d - 172, by omega⟩
  refine cn_193 ?_
  obtain ⟨T1, hT1⟩ : ∃ r : Int32 × WI × WL, r = (v_193 I L x1 x2) := ⟨_, rfl⟩
  rw [← hT1]
  have he := (hT1.trans (v_193.eq_1 ..)).symm
  have hg := Eq.mp (g_193.eq_1 ..) hg
  obtain ⟨k1, k2, hg⟩ := hg
  refine bk_193_0 k1 (cq_V_IL (cc_194 (d := d + 170)  k2)) ?_
  rintro _ _ _ _ ⟨p1, hr, rfl, rfl, rfl, rfl⟩
  have he := bx_eq hr he
  have hg := bx_un hr hg
  obtain ⟨k3, hg⟩ := hg
  refine bk_193_38 (cc_196 (d := d + 169)  k3) ?_
  obtain ⟨k4, hg⟩ := hg
  refine bk_193_55 (cq_I_IL (cc_198 (d := d + 171) (by omega)  k4)) ?_
  rintro _ _ _ _ _ ⟨p2, hr, rfl, rfl, rfl, rfl, rfl⟩
  have he := bx_eq hr he
  have hg := bx_un hr hg
  have hgX := hg
  obtain ⟨X1, hX1⟩ : ∃ r : Int32 × WI × WL, r = (if (p2.2.1 74 32) = 0 then (bx ((v_198 p2.2.1 p2.2.2 (v_196 p2.2.1 (97 : Int32) (100 : Int32) (100 : Int32) (115 : Int32) (0 : Int32) (0 : Int32) (0 : Int32) (0 : Int32))) : Int32 × WI × WL) (fun p3 => (p3.1, p3.2.1, p3.2.2))) else (0, p2.2.1, p2.2.2)) := ⟨_, rfl⟩
  have J1 : ∀ p4 : Int32 × WI × WL, p4 = X1 → Wp l 193 (d + 172) 0 0 (po_I_IL F t T1) 0 0 90 [(0, .ref 74), (2, .int x2), (3, .int p2.1)] [.int p4.1] SH (p4.2.1, F, p4.2.2, RT t) := by
    intro p4 hr
    have hr := hr.trans hX1
    have he := bx_eq hr he
    obtain ⟨X2, hX2⟩ : ∃ r : WI, r = (if ¬ (p4.2.1 74 32) = 0 then p4.2.1 else (if (p4.2.1 74 28) = 0 then p4.2.1 else (bx ((v_199 p4.2.1) : WI) (fun p5 => p5)))) := ⟨_, rfl⟩
    have J2 : ∀ p6 : WI, p6 = X2 → Wp l 193 (d + 172) 0 0 (po_I_IL F t T1) 0 0 110 [(2, .int x2), (3, .int p2.1), (4, .int p4.1)] [] SH (p6, F, p4.2.2, RT t) := by
      intro p6 hr
      have hr := hr.trans hX2
      have he := bx_eq hr he
      refine bk_193_110 (fun h11 => ?_) (fun h11 => ?_)
      · have he := ite_p h11 he
        refine bk_193_118 ?_
        exact bk_193_120 (rl_I_IL he)
      · have he := ite_n h11 he
        refine bk_193_114 ?_
        exact bk_193_120 (rl_I_IL he)
    have he := hX2.symm
    refine bk_193_90 (fun h8 => ?_) (fun h8 => ?_)
    · have he := ite_p h8 he
      exact J2 p4.2.1 he
    · have he := ite_n h8 he
      refine bk_193_99 (fun h9 => ?_) (fun h9 => ?_)
      · have he := ite_p h9 he
        exact J2 p4.2.1 he
      · have he := ite_n h9 he
        refine bk_193_106 (cq_V_I (cc_199 (d := d + 171) )) ?_
        rintro _ _ _ _ ⟨p5, hr, rfl, rfl, rfl, rfl⟩
        have he := bx_eq hr he
        exact J2 p5 he
  have he := hX1.symm
  have hg := hgX
  refine bk_193_58 (fun h5 => ?_) (fun h5 => ?_)
  · have he := ite_p h5 he
    have hg := hg h5
    obtain ⟨k6, hg⟩ := hg
    refine bk_193_70 (cc_196 (d := d + 169)  k6) ?_
    have k7 := hg
    refine bk_193_87 (cq_I_IL (cc_198 (d := d + 171) (by omega)  k7)) ?_
    rintro _ _ _ _ _ ⟨p3, hr, rfl, rfl, rfl, rfl, rfl⟩
    have he := bx_eq hr he
    exact J1 (p3.1, p3.2.1, p3.2.2) he
  · have he := ite_n h5 he
    refine bk_193_66 ?_
    exact J1 (0, p2.2.1, p2.2.2) he
/-- VectorShelfModel.says(II)I -/
noncomputable def v_214 (I : WI) (L : WL) (x1 : Int32) (x2 : Int32) : Int32 × WI × WL := (bx ((if (lg_cmp (L 88 (Int64.toInt32 (((((((((((((((((((((((Int32.toInt64 (I 74 4)) * 2) + (Int32.toInt64 x1)) * 2048) + (Int32.toInt64 (I 84 (3 * x2).toNatClampNeg))) + 1000) * 2048) + (Int32.toInt64 (I 84 ((3 * x2) + 1).toNatClampNeg))) + 1000) * 2048) + (Int32.toInt64 (I 84 ((3 * x2) + 2).toNatClampNeg))) + 1000) * 256) + (Int32.toInt64 (I 85 x2.toNatClampNeg))) + 100) * 16) + (Int32.toInt64 x2)) * 8) + (Int32.toInt64 (I 86 x2.toNatClampNeg))) + 2) * 7046029254386353131).toUInt64 >>> ((Int32.toInt64 55).toUInt64 &&& Int64.toUInt64 63)).toInt64)).toNatClampNeg) ((((((((((((((((((((Int32.toInt64 (I 74 4)) * 2) + (Int32.toInt64 x1)) * 2048) + (Int32.toInt64 (I 84 (3 * x2).toNatClampNeg))) + 1000) * 2048) + (Int32.toInt64 (I 84 ((3 * x2) + 1).toNatClampNeg))) + 1000) * 2048) + (Int32.toInt64 (I 84 ((3 * x2) + 2).toNatClampNeg))) + 1000) * 256) + (Int32.toInt64 (I 85 x2.toNatClampNeg))) + 100) * 16) + (Int32.toInt64 x2)) * 8) + (Int32.toInt64 (I 86 x2.toNatClampNeg))) + 2)) = 0 then ((up2 (up2 (up2 (up2 (up2 (up2 I 74 19 (I 84 (3 * x2).toNatClampNeg)) 74 20 (I 84 ((3 * x2) + 1).toNatClampNeg)) 74 21 (I 84 ((3 * x2) + 2).toNatClampNeg)) 74 22 (I 85 x2.toNatClampNeg)) 74 23 x2) 74 24 (I 86 x2.toNatClampNeg)), L) else (bx ((v_193 (up2 (up2 (up2 (up2 (up2 (up2 I 74 19 (I 84 (3 * x2).toNatClampNeg)) 74 20 (I 84 ((3 * x2) + 1).toNatClampNeg)) 74 21 (I 84 ((3 * x2) + 2).toNatClampNeg)) 74 22 (I 85 x2.toNatClampNeg)) 74 23 x2) 74 24 (I 86 x2.toNatClampNeg)) L ((up2 (up2 (up2 (up2 (up2 (up2 I 74 19 (I 84 (3 * x2).toNatClampNeg)) 74 20 (I 84 ((3 * x2) + 1).toNatClampNeg)) 74 21 (I 84 ((3 * x2) + 2).toNatClampNeg)) 74 22 (I 85 x2.toNatClampNeg)) 74 23 x2) 74 24 (I 86 x2.toNatClampNeg)) 74 4) x1) : Int32 × WI × WL) (fun p1 => ((up2 p1.2.1 89 (Int64.toInt32 (((((((((((((((((((((((Int32.toInt64 (I 74 4)) * 2) + (Int32.toInt64 x1)) * 2048) + (Int32.toInt64 (I 84 (3 * x2).toNatClampNeg))) + 1000) * 2048) + (Int32.toInt64 (I 84 ((3 * x2) + 1).toNatClampNeg))) + 1000) * 2048) + (Int32.toInt64 (I 84 ((3 * x2) + 2).toNatClampNeg))) + 1000) * 256) + (Int32.toInt64 (I 85 x2.toNatClampNeg))) + 100) * 16) + (Int32.toInt64 x2)) * 8) + (Int32.toInt64 (I 86 x2.toNatClampNeg))) + 2) * 7046029254386353131).toUInt64 >>> ((Int32.toInt64 55).toUInt64 &&& Int64.toUInt64 63)).toInt64)).toNatClampNeg p1.1), (up2 p1.2.2 88 (Int64.toInt32 (((((((((((((((((((((((Int32.toInt64 (I 74 4)) * 2) + (Int32.toInt64 x1)) * 2048) + (Int32.toInt64 (I 84 (3 * x2).toNatClampNeg))) + 1000) * 2048) + (Int32.toInt64 (I 84 ((3 * x2) + 1).toNatClampNeg))) + 1000) * 2048) + (Int32.toInt64 (I 84 ((3 * x2) + 2).toNatClampNeg))) + 1000) * 256) + (Int32.toInt64 (I 85 x2.toNatClampNeg))) + 100) * 16) + (Int32.toInt64 x2)) * 8) + (Int32.toInt64 (I 86 x2.toNatClampNeg))) + 2) * 7046029254386353131).toUInt64 >>> ((Int32.toInt64 55).toUInt64 &&& Int64.toUInt64 63)).toInt64)).toNatClampNeg ((((((((((((((((((((Int32.toInt64 (I 74 4)) * 2) + (Int32.toInt64 x1)) * 2048) + (Int32.toInt64 (I 84 (3 * x2).toNatClampNeg))) + 1000) * 2048) + (Int32.toInt64 (I 84 ((3 * x2) + 1).toNatClampNeg))) + 1000) * 2048) + (Int32.toInt64 (I 84 ((3 * x2) + 2).toNatClampNeg))) + 1000) * 256) + (Int32.toInt64 (I 85 x2.toNatClampNeg))) + 100) * 16) + (Int32.toInt64 x2)) * 8) + (Int32.toInt64 (I 86 x2.toNatClampNeg))) + 2)))))) : WI × WL) (fun p2 => ((p2.1 89 (Int64.toInt32 (((((((((((((((((((((((Int32.toInt64 (I 74 4)) * 2) + (Int32.toInt64 x1)) * 2048) + (Int32.toInt64 (I 84 (3 * x2).toNatClampNeg))) + 1000) * 2048) + (Int32.toInt64 (I 84 ((3 * x2) + 1).toNatClampNeg))) + 1000) * 2048) + (Int32.toInt64 (I 84 ((3 * x2) + 2).toNatClampNeg))) + 1000) * 256) + (Int32.toInt64 (I 85 x2.toNatClampNeg))) + 100) * 16) + (Int32.toInt64 x2)) * 8) + (Int32.toInt64 (I 86 x2.toNatClampNeg))) + 2) * 7046029254386353131).toUInt64 >>> ((Int32.toInt64 55).toUInt64 &&& Int64.toUInt64 63)).toInt64)).toNatClampNeg), p2.1, p2.2)))
noncomputable def g_214 (I : WI) (L : WL) (x1 : Int32) (x2 : Int32) : Prop := ((vp_in (3 * x2) 36) ∧ ((vp_in ((3 * x2) + 1) 36) ∧ ((vp_in ((3 * x2) + 2) 36) ∧ ((vp_in x2 12) ∧ ((vp_in (Int64.toInt32 (((((((((((((((((((((((Int32.toInt64 (I 74 4)) * 2) + (Int32.toInt64 x1)) * 2048) + (Int32.toInt64 (I 84 (3 * x2).toNatClampNeg))) + 1000) * 2048) + (Int32.toInt64 (I 84 ((3 * x2) + 1).toNatClampNeg))) + 1000) * 2048) + (Int32.toInt64 (I 84 ((3 * x2) + 2).toNatClampNeg))) + 1000) * 256) + (Int32.toInt64 (I 85 x2.toNatClampNeg))) + 100) * 16) + (Int32.toInt64 x2)) * 8) + (Int32.toInt64 (I 86 x2.toNatClampNeg))) + 2) * 7046029254386353131).toUInt64 >>> ((Int32.toInt64 55).toUInt64 &&& Int64.toUInt64 63)).toInt64)) 512) ∧ ((¬ ((lg_cmp (L 88 (Int64.toInt32 (((((((((((((((((((((((Int32.toInt64 (I 74 4)) * 2) + (Int32.toInt64 x1)) * 2048) + (Int32.toInt64 (I 84 (3 * x2).toNatClampNeg))) + 1000) * 2048) + (Int32.toInt64 (I 84 ((3 * x2) + 1).toNatClampNeg))) + 1000) * 2048) + (Int32.toInt64 (I 84 ((3 * x2) + 2).toNatClampNeg))) + 1000) * 256) + (Int32.toInt64 (I 85 x2.toNatClampNeg))) + 100) * 16) + (Int32.toInt64 x2)) * 8) + (Int32.toInt64 (I 86 x2.toNatClampNeg))) + 2) * 7046029254386353131).toUInt64 >>> ((Int32.toInt64 55).toUInt64 &&& Int64.toUInt64 63)).toInt64)).toNatClampNeg) ((((((((((((((((((((Int32.toInt64 (I 74 4)) * 2) + (Int32.toInt64 x1)) * 2048) + (Int32.toInt64 (I 84 (3 * x2).toNatClampNeg))) + 1000) * 2048) + (Int32.toInt64 (I 84 ((3 * x2) + 1).toNatClampNeg))) + 1000) * 2048) + (Int32.toInt64 (I 84 ((3 * x2) + 2).toNatClampNeg))) + 1000) * 256) + (Int32.toInt64 (I 85 x2.toNatClampNeg))) + 100) * 16) + (Int32.toInt64 x2)) * 8) + (Int32.toInt64 (I 86 x2.toNatClampNeg))) + 2)) = 0) → ((g_193 (up2 (up2 (up2 (up2 (up2 (up2 I 74 19 (I 84 (3 * x2).toNatClampNeg)) 74 20 (I 84 ((3 * x2) + 1).toNatClampNeg)) 74 21 (I 84 ((3 * x2) + 2).toNatClampNeg)) 74 22 (I 85 x2.toNatClampNeg)) 74 23 x2) 74 24 (I 86 x2.toNatClampNeg)) L ((up2 (up2 (up2 (up2 (up2 (up2 I 74 19 (I 84 (3 * x2).toNatClampNeg)) 74 20 (I 84 ((3 * x2) + 1).toNatClampNeg)) 74 21 (I 84 ((3 * x2) + 2).toNatClampNeg)) 74 22 (I 85 x2.toNatClampNeg)) 74 23 x2) 74 24 (I 86 x2.toNatClampNeg)) 74 4)) ∧ (bx ((v_193 (up2 (up2 (up2 (up2 (up2 (up2 I 74 19 (I 84 (3 * x2).toNatClampNeg)) 74 20 (I 84 ((3 * x2) + 1).toNatClampNeg)) 74 21 (I 84 ((3 * x2) + 2).toNatClampNeg)) 74 22 (I 85 x2.toNatClampNeg)) 74 23 x2) 74 24 (I 86 x2.toNatClampNeg)) L ((up2 (up2 (up2 (up2 (up2 (up2 I 74 19 (I 84 (3 * x2).toNatClampNeg)) 74 20 (I 84 ((3 * x2) + 1).toNatClampNeg)) 74 21 (I 84 ((3 * x2) + 2).toNatClampNeg)) 74 22 (I 85 x2.toNatClampNeg)) 74 23 x2) 74 24 (I 86 x2.toNatClampNeg)) 74 4) x1) : Int32 × WI × WL) (fun p1 => ((vp_in (Int64.toInt32 (((((((((((((((((((((((Int32.toInt64 (I 74 4)) * 2) + (Int32.toInt64 x1)) * 2048) + (Int32.toInt64 (I 84 (3 * x2).toNatClampNeg))) + 1000) * 2048) + (Int32.toInt64 (I 84 ((3 * x2) + 1).toNatClampNeg))) + 1000) * 2048) + (Int32.toInt64 (I 84 ((3 * x2) + 2).toNatClampNeg))) + 1000) * 256) + (Int32.toInt64 (I 85 x2.toNatClampNeg))) + 100) * 16) + (Int32.toInt64 x2)) * 8) + (Int32.toInt64 (I 86 x2.toNatClampNeg))) + 2) * 7046029254386353131).toUInt64 >>> ((Int32.toInt64 55).toUInt64 &&& Int64.toUInt64 63)).toInt64)) 512) ∧ (vp_in (Int64.toInt32 (((((((((((((((((((((((Int32.toInt64 (I 74 4)) * 2) + (Int32.toInt64 x1)) * 2048) + (Int32.toInt64 (I 84 (3 * x2).toNatClampNeg))) + 1000) * 2048) + (Int32.toInt64 (I 84 ((3 * x2) + 1).toNatClampNeg))) + 1000) * 2048) + (Int32.toInt64 (I 84 ((3 * x2) + 2).toNatClampNeg))) + 1000) * 256) + (Int32.toInt64 (I 85 x2.toNatClampNeg))) + 100) * 16) + (Int32.toInt64 x2)) * 8) + (Int32.toInt64 (I 86 x2.toNatClampNeg))) + 2) * 7046029254386353131).toUInt64 >>> ((Int32.toInt64 55).toUInt64 &&& Int64.toUInt64 63)).toInt64)) 512)))))) ∧ (bx ((if (lg_cmp (L 88 (Int64.toInt32 (((((((((((((((((((((((Int32.toInt64 (I 74 4)) * 2) + (Int32.toInt64 x1)) * 2048) + (Int32.toInt64 (I 84 (3 * x2).toNatClampNeg))) + 1000) * 2048) + (Int32.toInt64 (I 84 ((3 * x2) + 1).toNatClampNeg))) + 1000) * 2048) + (Int32.toInt64 (I 84 ((3 * x2) + 2).toNatClampNeg))) + 1000) * 256) + (Int32.toInt64 (I 85 x2.toNatClampNeg))) + 100) * 16) + (Int32.toInt64 x2)) * 8) + (Int32.toInt64 (I 86 x2.toNatClampNeg))) + 2) * 7046029254386353131).toUInt64 >>> ((Int32.toInt64 55).toUInt64 &&& Int64.toUInt64 63)).toInt64)).toNatClampNeg) ((((((((((((((((((((Int32.toInt64 (I 74 4)) * 2) + (Int32.toInt64 x1)) * 2048) + (Int32.toInt64 (I 84 (3 * x2).toNatClampNeg))) + 1000) * 2048) + (Int32.toInt64 (I 84 ((3 * x2) + 1).toNatClampNeg))) + 1000) * 2048) + (Int32.toInt64 (I 84 ((3 * x2) + 2).toNatClampNeg))) + 1000) * 256) + (Int32.toInt64 (I 85 x2.toNatClampNeg))) + 100) * 16) + (Int32.toInt64 x2)) * 8) + (Int32.toInt64 (I 86 x2.toNatClampNeg))) + 2)) = 0 then ((up2 (up2 (up2 (up2 (up2 (up2 I 74 19 (I 84 (3 * x2).toNatClampNeg)) 74 20 (I 84 ((3 * x2) + 1).toNatClampNeg)) 74 21 (I 84 ((3 * x2) + 2).toNatClampNeg)) 74 22 (I 85 x2.toNatClampNeg)) 74 23 x2) 74 24 (I 86 x2.toNatClampNeg)), L) else (bx ((v_193 (up2 (up2 (up2 (up2 (up2 (up2 I 74 19 (I 84 (3 * x2).toNatClampNeg)) 74 20 (I 84 ((3 * x2) + 1).toNatClampNeg)) 74 21 (I 84 ((3 * x2) + 2).toNatClampNeg)) 74 22 (I 85 x2.toNatClampNeg)) 74 23 x2) 74 24 (I 86 x2.toNatClampNeg)) L ((up2 (up2 (up2 (up2 (up2 (up2 I 74 19 (I 84 (3 * x2).toNatClampNeg)) 74 20 (I 84 ((3 * x2) + 1).toNatClampNeg)) 74 21 (I 84 ((3 * x2) + 2).toNatClampNeg)) 74 22 (I 85 x2.toNatClampNeg)) 74 23 x2) 74 24 (I 86 x2.toNatClampNeg)) 74 4) x1) : Int32 × WI × WL) (fun p1 => ((up2 p1.2.1 89 (Int64.toInt32 (((((((((((((((((((((((Int32.toInt64 (I 74 4)) * 2) + (Int32.toInt64 x1)) * 2048) + (Int32.toInt64 (I 84 (3 * x2).toNatClampNeg))) + 1000) * 2048) + (Int32.toInt64 (I 84 ((3 * x2) + 1).toNatClampNeg))) + 1000) * 2048) + (Int32.toInt64 (I 84 ((3 * x2) + 2).toNatClampNeg))) + 1000) * 256) + (Int32.toInt64 (I 85 x2.toNatClampNeg))) + 100) * 16) + (Int32.toInt64 x2)) * 8) + (Int32.toInt64 (I 86 x2.toNatClampNeg))) + 2) * 7046029254386353131).toUInt64 >>> ((Int32.toInt64 55).toUInt64 &&& Int64.toUInt64 63)).toInt64)).toNatClampNeg p1.1), (up2 p1.2.2 88 (Int64.toInt32 (((((((((((((((((((((((Int32.toInt64 (I 74 4)) * 2) + (Int32.toInt64 x1)) * 2048) + (Int32.toInt64 (I 84 (3 * x2).toNatClampNeg))) + 1000) * 2048) + (Int32.toInt64 (I 84 ((3 * x2) + 1).toNatClampNeg))) + 1000) * 2048) + (Int32.toInt64 (I 84 ((3 * x2) + 2).toNatClampNeg))) + 1000) * 256) + (Int32.toInt64 (I 85 x2.toNatClampNeg))) + 100) * 16) + (Int32.toInt64 x2)) * 8) + (Int32.toInt64 (I 86 x2.toNatClampNeg))) + 2) * 7046029254386353131).toUInt64 >>> ((Int32.toInt64 55).toUInt64 &&& Int64.toUInt64 63)).toInt64)).toNatClampNeg ((((((((((((((((((((Int32.toInt64 (I 74 4)) * 2) + (Int32.toInt64 x1)) * 2048) + (Int32.toInt64 (I 84 (3 * x2).toNatClampNeg))) + 1000) * 2048) + (Int32.toInt64 (I 84 ((3 * x2) + 1).toNatClampNeg))) + 1000) * 2048) + (Int32.toInt64 (I 84 ((3 * x2) + 2).toNatClampNeg))) + 1000) * 256) + (Int32.toInt64 (I 85 x2.toNatClampNeg))) + 100) * 16) + (Int32.toInt64 x2)) * 8) + (Int32.toInt64 (I 86 x2.toNatClampNeg))) + 2)))))) : WI × WL) (fun p2 => (vp_in (Int64.toInt32 (((((((((((((((((((((((Int32.toInt64 (I 74 4)) * 2) + (Int32.toInt64 x1)) * 2048) + (Int32.toInt64 (I 84 (3 * x2).toNatClampNeg))) + 1000) * 2048) + (Int32.toInt64 (I 84 ((3 * x2) + 1).toNatClampNeg))) + 1000) * 2048) + (Int32.toInt64 (I 84 ((3 * x2) + 2).toNatClampNeg))) + 1000) * 256) + (Int32.toInt64 (I 85 x2.toNatClampNeg))) + 100) * 16) + (Int32.toInt64 x2)) * 8) + (Int32.toInt64 (I 86 x2.toNatClampNeg))) + 2) * 7046029254386353131).toUInt64 >>> ((Int32.toInt64 55).toUInt64 &&& Int64.toUInt64 63)).toInt64)) 512)))))))))
theorem cc_214 {l : LX} {d : Nat} {I : WI} {F : WF} {L : WL} {t : Nat} {x1 : Int32} {x2 : Int32} (hd : 173 ≤ d) (hg : g_214 I L x1 x2) : Con l 214 d 0 0 [.ref 74, .int x1, .int x2] SH (I, F, L, RT t) (po_I_IL F t (v_214 I L x1 x2)) := by
  obtain ⟨d, rfl⟩ : ∃ e, d = e + 173 := ⟨d - 173, by omega⟩
  refine cn_214 ?_
  obtain ⟨T1, hT1⟩ : ∃ r : Int32 × WI × WL, r = (v_214 I L x1 x2) := ⟨_, rfl⟩
  rw [← hT1]
  have he := (hT1.trans (v_214.eq_1 ..)).symm
  have hg := Eq.mp (g_214.eq_1 ..) hg
  obtain ⟨k1, k2, k3, k4, k5, hg⟩ := hg
  obtain ⟨hgX, hg⟩ := hg
  obtain ⟨X1, hX1⟩ : ∃ r : WI × WL, r = (if (lg_cmp (L 88 (Int64.toInt32 (((((((((((((((((((((((Int32.toInt64 (I 74 4)) * 2) + (Int32.toInt64 x1)) * 2048) + (Int32.toInt64 (I 84 (3 * x2).toNatClampNeg))) + 1000) * 2048) + (Int32.toInt64 (I 84 ((3 * x2) + 1).toNatClampNeg))) + 1000) * 2048) + (Int32.toInt64 (I 84 ((3 * x2) + 2).toNatClampNeg))) + 1000) * 256) + (Int32.toInt64 (I 85 x2.toNatClampNeg))) + 100) * 16) + (Int32.toInt64 x2)) * 8) + (Int32.toInt64 (I 86 x2.toNatClampNeg))) + 2) * 7046029254386353131).toUInt64 >>> ((Int32.toInt64 55).toUInt64 &&& Int64.toUInt64 63)).toInt64)).toNatClampNeg) ((((((((((((((((((((Int32.toInt64 (I 74 4)) * 2) + (Int32.toInt64 x1)) * 2048) + (Int32.toInt64 (I 84 (3 * x2).toNatClampNeg))) + 1000) * 2048) + (Int32.toInt64 (I 84 ((3 * x2) + 1).toNatClampNeg))) + 1000) * 2048) + (Int32.toInt64 (I 84 ((3 * x2) + 2).toNatClampNeg))) + 1000) * 256) + (Int32.toInt64 (I 85 x2.toNatClampNeg))) + 100) * 16) + (Int32.toInt64 x2)) * 8) + (Int32.toInt64 (I 86 x2.toNatClampNeg))) + 2)) = 0 then ((up2 (up2 (up2 (up2 (up2 (up2 I 74 19 (I 84 (3 * x2).toNatClampNeg)) 74 20 (I 84 ((3 * x2) + 1).toNatClampNeg)) 74 21 (I 84 ((3 * x2) + 2).toNatClampNeg)) 74 22 (I 85 x2.toNatClampNeg)) 74 23 x2) 74 24 (I 86 x2.toNatClampNeg)), L) else (bx ((v_193 (up2 (up2 (up2 (up2 (up2 (up2 I 74 19 (I 84 (3 * x2).toNatClampNeg)) 74 20 (I 84 ((3 * x2) + 1).toNatClampNeg)) 74 21 (I 84 ((3 * x2) + 2).toNatClampNeg)) 74 22 (I 85 x2.toNatClampNeg)) 74 23 x2) 74 24 (I 86 x2.toNatClampNeg)) L ((up2 (up2 (up2 (up2 (up2 (up2 I 74 19 (I 84 (3 * x2).toNatClampNeg)) 74 20 (I 84 ((3 * x2) + 1).toNatClampNeg)) 74 21 (I 84 ((3 * x2) + 2).toNatClampNeg)) 74 22 (I 85 x2.toNatClampNeg)) 74 23 x2) 74 24 (I 86 x2.toNatClampNeg)) 74 4) x1) : Int32 × WI × WL) (fun p1 => ((up2 p1.2.1 89 (Int64.toInt32 (((((((((((((((((((((((Int32.toInt64 (I 74 4)) * 2) + (Int32.toInt64 x1)) * 2048) + (Int32.toInt64 (I 84 (3 * x2).toNatClampNeg))) + 1000) * 2048) + (Int32.toInt64 (I 84 ((3 * x2) + 1).toNatClampNeg))) + 1000) * 2048) + (Int32.toInt64 (I 84 ((3 * x2) + 2).toNatClampNeg))) + 1000) * 256) + (Int32.toInt64 (I 85 x2.toNatClampNeg))) + 100) * 16) + (Int32.toInt64 x2)) * 8) + (Int32.toInt64 (I 86 x2.toNatClampNeg))) + 2) * 7046029254386353131).toUInt64 >>> ((Int32.toInt64 55).toUInt64 &&& Int64.toUInt64 63)).toInt64)).toNatClampNeg p1.1), (up2 p1.2.2 88 (Int64.toInt32 (((((((((((((((((((((((Int32.toInt64 (I 74 4)) * 2) + (Int32.toInt64 x1)) * 2048) + (Int32.toInt64 (I 84 (3 * x2).toNatClampNeg))) + 1000) * 2048) + (Int32.toInt64 (I 84 ((3 * x2) + 1).toNatClampNeg))) + 1000) * 2048) + (Int32.toInt64 (I 84 ((3 * x2) + 2).toNatClampNeg))) + 1000) * 256) + (Int32.toInt64 (I 85 x2.toNatClampNeg))) + 100) * 16) + (Int32.toInt64 x2)) * 8) + (Int32.toInt64 (I 86 x2.toNatClampNeg))) + 2) * 7046029254386353131).toUInt64 >>> ((Int32.toInt64 55).toUInt64 &&& Int64.toUInt64 63)).toInt64)).toNatClampNeg ((((((((((((((((((((Int32.toInt64 (I 74 4)) * 2) + (Int32.toInt64 x1)) * 2048) + (Int32.toInt64 (I 84 (3 * x2).toNatClampNeg))) + 1000) * 2048) + (Int32.toInt64 (I 84 ((3 * x2) + 1).toNatClampNeg))) + 1000) * 2048) + (Int32.toInt64 (I 84 ((3 * x2) + 2).toNatClampNeg))) + 1000) * 256) + (Int32.toInt64 (I 85 x2.toNatClampNeg))) + 100) * 16) + (Int32.toInt64 x2)) * 8) + (Int32.toInt64 (I 86 x2.toNatClampNeg))) + 2)))))) := ⟨_, rfl⟩
  have J1 : ∀ p2 : WI × WL, p2 = X1 → Wp l 214 (d + 173) 0 0 (po_I_IL F t T1) 0 0 217 [(0, .ref 74), (5, .int (Int64.toInt32 (((((((((((((((((((((((Int32.toInt64 (I 74 4)) * 2) + (Int32.toInt64 x1)) * 2048) + (Int32.toInt64 (I 84 (3 * x2).toNatClampNeg))) + 1000) * 2048) + (Int32.toInt64 (I 84 ((3 * x2) + 1).toNatClampNeg))) + 1000) * 2048) + (Int32.toInt64 (I 84 ((3 * x2) + 2).toNatClampNeg))) + 1000) * 256) + (Int32.toInt64 (I 85 x2.toNatClampNeg))) + 100) * 16) + (Int32.toInt64 x2)) * 8) + (Int32.toInt64 (I 86 x2.toNatClampNeg))) + 2) * 7046029254386353131).toUInt64 >>> ((Int32.toInt64 55).toUInt64 &&& Int64.toUInt64 63)).toInt64)))] [] SH (p2.1, F, p2.2, RT t) := by
    intro p2 hr
    have hr := hr.trans hX1
    have he := bx_eq hr he
    have hg := bx_un hr hg
    have k10 := hg
    exact bk_214_217 k10 (rl_I_IL he)
  have he := hX1.symm
  have hg := hgX
  refine bk_214_0 k1 k2 k3 k4 k5 (fun h6 => ?_) (fun h6 => ?_)
  · have he := ite_p h6 he
    exact J1 ((up2 (up2 (up2 (up2 (up2 (up2 I 74 19 (I 84 (3 * x2).toNatClampNeg)) 74 20 (I 84 ((3 * x2) + 1).toNatClampNeg)) 74 21 (I 84 ((3 * x2) + 2).toNatClampNeg)) 74 22 (I 85 x2.toNatClampNeg)) 74 23 x2) 74 24 (I 86 x2.toNatClampNeg)), L) he
  · have he := ite_n h6 he
    have hg := hg h6
    obtain ⟨k7, hg⟩ := hg
    refine bk_214_193 (cq_I_IL (cc_193 (d := d + 172) (by omega)  k7)) ?_
    rintro _ _ _ _ _ ⟨p1, hr, rfl, rfl, rfl, rfl, rfl⟩
    have he := bx_eq hr he
    have hg := bx_un hr hg
    obtain ⟨k8, k9⟩ := hg
    refine bk_214_208 k8 k9 ?_
    exact J1 ((up2 p1.2.1 89 (Int64.toInt32 (((((((((((((((((((((((Int32.toInt64 (I 74 4)) * 2) + (Int32.toInt64 x1)) * 2048) + (Int32.toInt64 (I 84 (3 * x2).toNatClampNeg))) + 1000) * 2048) + (Int32.toInt64 (I 84 ((3 * x2) + 1).toNatClampNeg))) + 1000) * 2048) + (Int32.toInt64 (I 84 ((3 * x2) + 2).toNatClampNeg))) + 1000) * 256) + (Int32.toInt64 (I 85 x2.toNatClampNeg))) + 100) * 16) + (Int32.toInt64 x2)) * 8) + (Int32.toInt64 (I 86 x2.toNatClampNeg))) + 2) * 7046029254386353131).toUInt64 >>> ((Int32.toInt64 55).toUInt64 &&& Int64.toUInt64 63)).toInt64)).toNatClampNeg p1.1), (up2 p1.2.2 88 (Int64.toInt32 (((((((((((((((((((((((Int32.toInt64 (I 74 4)) * 2) + (Int32.toInt64 x1)) * 2048) + (Int32.toInt64 (I 84 (3 * x2).toNatClampNeg))) + 1000) * 2048) + (Int32.toInt64 (I 84 ((3 * x2) + 1).toNatClampNeg))) + 1000) * 2048) + (Int32.toInt64 (I 84 ((3 * x2) + 2).toNatClampNeg))) + 1000) * 256) + (Int32.toInt64 (I 85 x2.toNatClampNeg))) + 100) * 16) + (Int32.toInt64 x2)) * 8) + (Int32.toInt64 (I 86 x2.toNatClampNeg))) + 2) * 7046029254386353131).toUInt64 >>> ((Int32.toInt64 55).toUInt64 &&& Int64.toUInt64 63)).toInt64)).toNatClampNeg ((((((((((((((((((((Int32.toInt64 (I 74 4)) * 2) + (Int32.toInt64 x1)) * 2048) + (Int32.toInt64 (I 84 (3 * x2).toNatClampNeg))) + 1000) * 2048) + (Int32.toInt64 (I 84 ((3 * x2) + 1).toNatClampNeg))) + 1000) * 2048) + (Int32.toInt64 (I 84 ((3 * x2) + 2).toNatClampNeg))) + 1000) * 256) + (Int32.toInt64 (I 85 x2.toNatClampNeg))) + 100) * 16) + (Int32.toInt64 x2)) * 8) + (Int32.toInt64 (I 86 x2.toNatClampNeg))) + 2))) he
/-- VectorShelfModel.pushOf(I)I -/
noncomputable def v_215 (I : WI) (L : WL) (x1 : Int32) : Int32 × WI × WL := (bx ((v_214 I L (1 : Int32) x1) : Int32 × WI × WL) (fun p1 => ((v_216 p1.1 (0 : Int32) (99 : Int32)), p1.2.1, p1.2.2)))
noncomputable def g_215 (I : WI) (L : WL) (x1 : Int32) : Prop := (g_214 I L (1 : Int32) x1)
theorem cc_215 {l : LX} {d : Nat} {I : WI} {F : WF} {L : WL} {t : Nat} {x1 : Int32} (hd : 174 ≤ d) (hg : g_215 I L x1) : Con l 215 d 0 0 [.ref 74, .int x1] SH (I, F, L, RT t) (po_I_IL F t (v_215 I L x1)) := by
  obtain ⟨d, rfl⟩ : ∃ e, d = e + 174 := ⟨d - 174, by omega⟩
  refine cn_215 ?_
  obtain ⟨T1, hT1⟩ : ∃ r : Int32 × WI × WL, r = (v_215 I L x1) := ⟨_, rfl⟩
  rw [← hT1]
  have he := (hT1.trans (v_215.eq_1 ..)).symm
  have hg := Eq.mp (g_215.eq_1 ..) hg
  have k1 := hg
  refine bk_215_0 (cq_I_IL (cc_214 (d := d + 173) (by omega)  k1)) ?_
  rintro _ _ _ _ _ ⟨p1, hr, rfl, rfl, rfl, rfl, rfl⟩
  have he := bx_eq hr he
  refine bk_215_6 (cc_216 (d := d + 173) ) ?_
  exact bk_215_12 (rl_I_IL he)
/-- VectorShelfModel.farOf(I)I -/
noncomputable def v_217 (I : WI) (L : WL) (x1 : Int32) : Int32 × WI × WL := (bx ((v_185 I (v_184 (I 84 (3 * x1).toNatClampNeg) (I 79 0)) (v_184 (I 84 ((3 * x1) + 1).toNatClampNeg) (I 79 1)) (v_184 (I 84 ((3 * x1) + 2).toNatClampNeg) (I 79 2))) : Int32) (fun p1 => (bx ((v_215 I L x1) : Int32 × WI × WL) (fun p2 => ((p1 + p2.1), p2.2.1, p2.2.2)))))
noncomputable def g_217 (I : WI) (L : WL) (x1 : Int32) : Prop := ((vp_in (3 * x1) 36) ∧ ((vp_in ((3 * x1) + 1) 36) ∧ ((vp_in ((3 * x1) + 2) 36) ∧ ((g_185 I (v_184 (I 84 (3 * x1).toNatClampNeg) (I 79 0)) (v_184 (I 84 ((3 * x1) + 1).toNatClampNeg) (I 79 1)) (v_184 (I 84 ((3 * x1) + 2).toNatClampNeg) (I 79 2))) ∧ (bx ((v_185 I (v_184 (I 84 (3 * x1).toNatClampNeg) (I 79 0)) (v_184 (I 84 ((3 * x1) + 1).toNatClampNeg) (I 79 1)) (v_184 (I 84 ((3 * x1) + 2).toNatClampNeg) (I 79 2))) : Int32) (fun p1 => (g_215 I L x1)))))))
theorem cc_217 {l : LX} {d : Nat} {I : WI} {F : WF} {L : WL} {t : Nat} {x1 : Int32} (hd : 175 ≤ d) (hg : g_217 I L x1) : Con l 217 d 0 0 [.ref 74, .int x1] SH (I, F, L, RT t) (po_I_IL F t (v_217 I L x1)) := by
  obtain ⟨d, rfl⟩ : ∃ e, d = e + 175 := ⟨d - 175, by omega⟩
  refine cn_217 ?_
  obtain ⟨T1, hT1⟩ : ∃ r : Int32 × WI × WL, r = (v_217 I L x1) := ⟨_, rfl⟩
  rw [← hT1]
  have he := (hT1.trans (v_217.eq_1 ..)).symm
  have hg := Eq.mp (g_217.eq_1 ..) hg
  obtain ⟨k1, hg⟩ := hg
  refine bk_217_0 k1 (cc_184 (d := d + 174) ) ?_
  obtain ⟨k3, hg⟩ := hg
  refine bk_217_18 k3 (cc_184 (d := d + 174) ) ?_
  obtain ⟨k5, hg⟩ := hg
  refine bk_217_37 k5 (cc_184 (d := d + 174) ) ?_
  obtain ⟨k7, hg⟩ := hg
  obtain ⟨p1, hr⟩ : ∃ q : Int32, q = (v_185 I (v_184 (I 84 (3 * x1).toNatClampNeg) (I 79 0)) (v_184 (I 84 ((3 * x1) + 1).toNatClampNeg) (I 79 1)) (v_184 (I 84 ((3 * x1) + 2).toNatClampNeg) (I 79 2))) := ⟨_, rfl⟩
  have he := bx_eq hr he
  have hg := bx_un hr hg
  refine bk_217_56 (show Con l 185 _ 0 0 _ SH _ (rI p1 _) from by rw [hr]; exact (cc_185 (d := d + 172)  k7)) ?_
  have k8 := hg
  refine bk_217_59 (cq_I_IL (cc_215 (d := d + 174) (by omega)  k8)) ?_
  rintro _ _ _ _ _ ⟨p2, hr, rfl, rfl, rfl, rfl, rfl⟩
  have he := bx_eq hr he
  exact bk_217_64 (rl_I_IL he)
/-- the loop at 14 of VectorShelfModel.text -/
def lp_192_14 (I : WI) : Nat → WI
  | 0 => I
  | k + 1 => bx (lp_192_14 I k) (fun p1 => (up2 p1 75 ((160 * (p1 74 3)) + (nI k)).toNatClampNeg (p1 77 (nI k).toNatClampNeg)))
def gl_192_14 (I : WI) (N : Nat) : Prop := ((∀ k, k < N → bx (lp_192_14 I k) (fun p1 => (((p1 74 6) = (I 74 6)) ∧ ((vp_in (nI k) 160) ∧ (vp_in ((160 * (p1 74 3)) + (nI k)) 960))))) ∧ (bx (lp_192_14 I N) (fun p1 => (p1 74 6) = (I 74 6))))
theorem lw_192_14 {l : LX} {d : Nat} {P : RP} {I : WI} {F : WF} {L : WL} {t : Nat} (hgl : gl_192_14 I ((I 74 6).toNatClampNeg)) (hx : ∀ p1 : WI, p1 = lp_192_14 I ((I 74 6).toNatClampNeg) → Wp l 192 (d + 173) 0 0 P 0 0 49 [(0, .ref 74)] [] SH (p1, F, L, RT t)) : Wp l 192 (d + 173) 0 0 P 0 0 14 [(0, .ref 74), (1, .int 0)] [] SH (I, F, L, RT t) := by
  obtain ⟨hin, hend⟩ := hgl
  have loop : ∀ m k, k + m = (I 74 6).toNatClampNeg → ∀ p1 : WI, p1 = lp_192_14 I k → Wp l 192 (d + 173) 0 0 P 0 0 14 [(0, .ref 74), (1, .int (nI k))] [] SH (p1, F, L, RT t) := by
    intro m
    induction m with
    | zero =>
      intro k hk p1 hs
      obtain rfl : k = (I 74 6).toNatClampNeg := by omega
      have hE := bx_un hs hend
      exact bk_192_14  (fun _ => hx _ hs) (fun h => absurd ((show (p1 74 6) ≤ (nI ((I 74 6).toNatClampNeg)) from by rw [show (p1 74 6) = (I 74 6) from hE]; exact (le_cl (Nat.le_refl _)).mpr rfl)) h)
    | succ m ih =>
      intro k hk p1 hs
      have hk2 : k < (I 74 6).toNatClampNeg := by omega
      have ih := ih (k + 1) (by omega)
      rw [nI_succ] at ih
      have he := bx_eq hs (lp_192_14.eq_2 ..).symm
      have hg := bx_un hs (hin k hk2)
      have hE : (p1 74 6) = (I 74 6) := hg.1
      have hg := hg.2
      refine bk_192_14  (fun h => absurd ((le_cl (E := (I 74 6)) (i := k) (by omega)).mp (by rw [show (p1 74 6) = (I 74 6) from hE] at h; exact h)) (by omega)) (fun _ => ?_)
      obtain ⟨k2, k3⟩ := hg
      refine bk_192_22 k2 k3 ?_
      exact ih (up2 p1 75 ((160 * (p1 74 3)) + (nI k)).toNatClampNeg (p1 77 (nI k).toNatClampNeg)) he
  exact loop _ 0 (Nat.zero_add _) _ rfl
/-- VectorShelfModel.text()I -/
noncomputable def v_192 (I : WI) (L : WL) : Int32 × WI × WL := (if ¬ (I 74 3) = 6 then (bx ((lp_192_14 I ((I 74 6).toNatClampNeg)) : WI) (fun p2 => (bx ((v_193 (up2 (up2 p2 76 (p2 74 3).toNatClampNeg (p2 74 6)) 74 6 0) L (p2 74 3) (0 : Int32)) : Int32 × WI × WL) (fun p3 => (if (p3.2.1 74 32) = 0 then ((((p3.2.1 74 3) + 1) - 1), (up2 p3.2.1 74 3 ((p3.2.1 74 3) + 1)), p3.2.2) else (((-100) - (p3.2.1 74 33)), p3.2.1, p3.2.2)))))) else ((-4), I, L))
noncomputable def g_192 (I : WI) (L : WL) : Prop := ((¬ (I 74 3) = 6) → ((gl_192_14 I ((I 74 6).toNatClampNeg)) ∧ (bx ((lp_192_14 I ((I 74 6).toNatClampNeg)) : WI) (fun p2 => ((vp_in (p2 74 3) 6) ∧ (g_193 (up2 (up2 p2 76 (p2 74 3).toNatClampNeg (p2 74 6)) 74 6 0) L (p2 74 3)))))))
theorem cc_192 {l : LX} {d : Nat} {I : WI} {F : WF} {L : WL} {t : Nat} (hd : 173 ≤ d) (hg : g_192 I L) : Con l 192 d 0 0 [.ref 74] SH (I, F, L, RT t) (po_I_IL F t (v_192 I L)) := by
  obtain ⟨d, rfl⟩ : ∃ e, d = e + 173 := ⟨d - 173, by omega⟩
  refine cn_192 ?_
  obtain ⟨T1, hT1⟩ : ∃ r : Int32 × WI × WL, r = (v_192 I L) := ⟨_, rfl⟩
  rw [← hT1]
  have he := (hT1.trans (v_192.eq_1 ..)).symm
  have hg := Eq.mp (g_192.eq_1 ..) hg
  refine bk_192_0 (fun h1 => ?_) (fun h1 => ?_)
  · have he := ite_p h1 he
    have hg := hg h1
    refine bk_192_12 ?_
    obtain ⟨hgX, hg⟩ := hg
    refine lw_192_14 (d := d)  hgX (fun p2 hr => ?_)
    have he := bx_eq hr he
    have hg := bx_un hr hg
    obtain ⟨k4, k5⟩ := hg
    refine bk_192_49 k4 (cq_I_IL (cc_193 (d := d + 172) (by omega)  k5)) ?_
    rintro _ _ _ _ _ ⟨p3, hr, rfl, rfl, rfl, rfl, rfl⟩
    have he := bx_eq hr he
    refine bk_192_76 (fun h6 => ?_) (fun h6 => ?_)
    · have he := ite_p h6 he
      exact bk_192_92 (rl_I_IL he)
    · have he := ite_n h6 he
      exact bk_192_84 (rl_I_IL he)
  · have he := ite_n h1 he
    exact bk_192_9 (rl_I_IL he)
/-- VectorShelfModel.isFitting(I)Z -/
noncomputable def v_213 (I : WI) (L : WL) (x1 : Int32) : Int32 × WI × WL := (if (v_180 I x1) = 0 then (0, I, L) else (bx ((v_214 I L (0 : Int32) x1) : Int32 × WI × WL) (fun p1 => (if p1.1 = 0 then (0, p1.2.1, p1.2.2) else (1, p1.2.1, p1.2.2)))))
noncomputable def g_213 (I : WI) (L : WL) (x1 : Int32) : Prop := ((g_180 I x1) ∧ (¬ ((v_180 I x1) = 0) → (g_214 I L (0 : Int32) x1)))
theorem cc_213 {l : LX} {d : Nat} {I : WI} {F : WF} {L : WL} {t : Nat} {x1 : Int32} (hd : 174 ≤ d) (hg : g_213 I L x1) : Con l 213 d 0 0 [.ref 74, .int x1] SH (I, F, L, RT t) (po_I_IL F t (v_213 I L x1)) := by
  obtain ⟨d, rfl⟩ : ∃ e, d = e + 174 := ⟨d - 174, by omega⟩
  refine cn_213 ?_
  obtain ⟨T1, hT1⟩ : ∃ r : Int32 × WI × WL, r = (v_213 I L x1) := ⟨_, rfl⟩
  rw [← hT1]
  have he := (hT1.trans (v_213.eq_1 ..)).symm
  have hg := Eq.mp (g_213.eq_1 ..) hg
  obtain ⟨k1, hg⟩ := hg
  refine bk_213_0 (cc_180 (d := d + 173)  k1) ?_
  refine bk_213_5 (fun h2 => ?_) (fun h2 => ?_)
  · have he := ite_p h2 he
    refine bk_213_21 ?_
    exact bk_213_22 (by decide) (rl_I_IL he)
  · have he := ite_n h2 he
    have hg := hg h2
    have k3 := hg
    refine bk_213_8 (cq_I_IL (cc_214 (d := d + 173) (by omega)  k3)) ?_
    rintro _ _ _ _ _ ⟨p1, hr, rfl, rfl, rfl, rfl, rfl⟩
    have he := bx_eq hr he
    refine bk_213_14 (fun h4 => ?_) (fun h4 => ?_)
    · have he := ite_p h4 he
      refine bk_213_21 ?_
      exact bk_213_22 (by decide) (rl_I_IL he)
    · have he := ite_n h4 he
      refine bk_213_17 ?_
      exact bk_213_22 (by decide) (rl_I_IL he)
end
