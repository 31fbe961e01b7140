section
/-- VectorShelfModel.isWord(IIIIIIII)Z -/
def v_196 (I : WI) (x1 : Int32) (x2 : Int32) (x3 : Int32) (x4 : Int32) (x5 : Int32) (x6 : Int32) (x7 : Int32) (x8 : Int32) : Int32 := (if ¬ (I 74 32) = 0 then 0 else (if ¬ (I 74 28) = 1 then 0 else (if ((I 74 29) + 8) < (I 74 27) then 0 else (if (v_197 I (0 : Int32) x1) = 0 then 0 else (if (v_197 I (1 : Int32) x2) = 0 then 0 else (if (v_197 I (2 : Int32) x3) = 0 then 0 else (if (v_197 I (3 : Int32) x4) = 0 then 0 else (if (v_197 I (4 : Int32) x5) = 0 then 0 else (if (v_197 I (5 : Int32) x6) = 0 then 0 else (if (v_197 I (6 : Int32) x7) = 0 then 0 else (if (v_197 I (7 : Int32) x8) = 0 then 0 else 1)))))))))))
def g_196 (I : WI) (x1 : Int32) (x2 : Int32) (x3 : Int32) (x4 : Int32) (x5 : Int32) (x6 : Int32) (x7 : Int32) : Prop := (¬ (¬ (I 74 32) = 0) → (¬ (¬ (I 74 28) = 1) → (¬ (((I 74 29) + 8) < (I 74 27)) → ((g_197 I (0 : Int32)) ∧ (¬ ((v_197 I (0 : Int32) x1) = 0) → ((g_197 I (1 : Int32)) ∧ (¬ ((v_197 I (1 : Int32) x2) = 0) → ((g_197 I (2 : Int32)) ∧ (¬ ((v_197 I (2 : Int32) x3) = 0) → ((g_197 I (3 : Int32)) ∧ (¬ ((v_197 I (3 : Int32) x4) = 0) → ((g_197 I (4 : Int32)) ∧ (¬ ((v_197 I (4 : Int32) x5) = 0) → ((g_197 I (5 : Int32)) ∧ (¬ ((v_197 I (5 : Int32) x6) = 0) → ((g_197 I (6 : Int32)) ∧ (¬ ((v_197 I (6 : Int32) x7) = 0) → (g_197 I (7 : Int32)))))))))))))))))))
theorem cc_196 {l : LX} {d : Nat} {I : WI} {F : WF} {L : WL} {t : Nat} {x1 : Int32} {x2 : Int32} {x3 : Int32} {x4 : Int32} {x5 : Int32} {x6 : Int32} {x7 : Int32} {x8 : Int32} (hg : g_196 I x1 x2 x3 x4 x5 x6 x7) : Con l 196 (d + 2) 0 0 [.ref 74, .int x1, .int x2, .int x3, .int x4, .int x5, .int x6, .int x7, .int x8] SH (I, F, L, RT t) (rI (v_196 I x1 x2 x3 x4 x5 x6 x7 x8) (I, F, L, RT t)) := by
  refine cn_196 ?_
  obtain ⟨T1, hT1⟩ : ∃ r : Int32, r = (v_196 I x1 x2 x3 x4 x5 x6 x7 x8) := ⟨_, rfl⟩
  rw [← hT1]
  have he := (hT1.trans (v_196.eq_1 ..)).symm
  have hg := Eq.mp (g_196.eq_1 ..) hg
  refine bk_196_0 (fun h1 => ?_) (fun h1 => ?_)
  · have he := ite_p h1 he
    refine bk_196_112 ?_
    exact bk_196_113 (by decide) (rl_p_I he)
  · have he := ite_n h1 he
    have hg := hg h1
    refine bk_196_7 (fun h2 => ?_) (fun h2 => ?_)
    · have he := ite_p h2 he
      refine bk_196_112 ?_
      exact bk_196_113 (by decide) (rl_p_I he)
    · have he := ite_n h2 he
      have hg := hg h2
      refine bk_196_15 (fun h3 => ?_) (fun h3 => ?_)
      · have he := ite_p h3 he
        refine bk_196_112 ?_
        exact bk_196_113 (by decide) (rl_p_I he)
      · have he := ite_n h3 he
        have hg := hg h3
        obtain ⟨k4, hg⟩ := hg
        refine bk_196_29 (cc_197 (d := d + 0)  k4) ?_
        refine bk_196_35 (fun h5 => ?_) (fun h5 => ?_)
        · have he := ite_p h5 he
          refine bk_196_112 ?_
          exact bk_196_113 (by decide) (rl_p_I he)
        · have he := ite_n h5 he
          have hg := hg h5
          obtain ⟨k6, hg⟩ := hg
          refine bk_196_38 (cc_197 (d := d + 0)  k6) ?_
          refine bk_196_44 (fun h7 => ?_) (fun h7 => ?_)
          · have he := ite_p h7 he
            refine bk_196_112 ?_
            exact bk_196_113 (by decide) (rl_p_I he)
          · have he := ite_n h7 he
            have hg := hg h7
            obtain ⟨k8, hg⟩ := hg
            refine bk_196_47 (cc_197 (d := d + 0)  k8) ?_
            refine bk_196_53 (fun h9 => ?_) (fun h9 => ?_)
            · have he := ite_p h9 he
              refine bk_196_112 ?_
              exact bk_196_113 (by decide) (rl_p_I he)
            · have he := ite_n h9 he
              have hg := hg h9
              obtain ⟨k10, hg⟩ := hg
              refine bk_196_56 (cc_197 (d := d + 0)  k10) ?_
              refine bk_196_63 (fun h11 => ?_) (fun h11 => ?_)
              · have he := ite_p h11 he
                refine bk_196_112 ?_
                exact bk_196_113 (by decide) (rl_p_I he)
              · have he := ite_n h11 he
                have hg := hg h11
                obtain ⟨k12, hg⟩ := hg
                refine bk_196_66 (cc_197 (d := d + 0)  k12) ?_
                refine bk_196_73 (fun h13 => ?_) (fun h13 => ?_)
                · have he := ite_p h13 he
                  refine bk_196_112 ?_
                  exact bk_196_113 (by decide) (rl_p_I he)
                · have he := ite_n h13 he
                  have hg := hg h13
                  obtain ⟨k14, hg⟩ := hg
                  refine bk_196_76 (cc_197 (d := d + 0)  k14) ?_
                  refine bk_196_83 (fun h15 => ?_) (fun h15 => ?_)
                  · have he := ite_p h15 he
                    refine bk_196_112 ?_
                    exact bk_196_113 (by decide) (rl_p_I he)
                  · have he := ite_n h15 he
                    have hg := hg h15
                    obtain ⟨k16, hg⟩ := hg
                    refine bk_196_86 (cc_197 (d := d + 0)  k16) ?_
                    refine bk_196_94 (fun h17 => ?_) (fun h17 => ?_)
                    · have he := ite_p h17 he
                      refine bk_196_112 ?_
                      exact bk_196_113 (by decide) (rl_p_I he)
                    · have he := ite_n h17 he
                      have hg := hg h17
                      have k18 := hg
                      refine bk_196_97 (cc_197 (d := d + 0)  k18) ?_
                      refine bk_196_105 (fun h19 => ?_) (fun h19 => ?_)
                      · have he := ite_p h19 he
                        refine bk_196_112 ?_
                        exact bk_196_113 (by decide) (rl_p_I he)
                      · have he := ite_n h19 he
                        refine bk_196_108 ?_
                        exact bk_196_113 (by decide) (rl_p_I he)
theorem sb_196 (I : WI) (x1 : Int32) (x2 : Int32) (x3 : Int32) (x4 : Int32) (x5 : Int32) (x6 : Int32) (x7 : Int32) (x8 : Int32) : (v_196 I x1 x2 x3 x4 x5 x6 x7 x8) &&& 1 = (v_196 I x1 x2 x3 x4 x5 x6 x7 x8) := by
  unfold v_196
  repeat' split
  all_goals first | rfl | exact sb_197 ..
/-- VectorShelfModel.opens()Z -/
def v_203 (I : WI) (L : WL) : Int32 × WI × WL := (if ¬ (I 74 31) = 5 then (bx ((v_194 (up2 I 74 31 ((I 74 31) + 1)) L) : WI × WL) (fun p1 => (1, p1.1, p1.2))) else (bx ((v_199 I) : WI) (fun p2 => (0, p2, L))))
def g_203 (I : WI) (L : WL) : Prop := ((¬ (I 74 31) = 5) → (g_194 (up2 I 74 31 ((I 74 31) + 1)) L))
theorem cc_203 {l : LX} {d : Nat} {I : WI} {F : WF} {L : WL} {t : Nat} (hg : g_203 I L) : Con l 203 (d + 2) 0 0 [.ref 74] SH (I, F, L, RT t) (po_I_IL F t (v_203 I L)) := by
  refine cn_203 ?_
  obtain ⟨T1, hT1⟩ : ∃ r : Int32 × WI × WL, r = (v_203 I L) := ⟨_, rfl⟩
  rw [← hT1]
  have he := (hT1.trans (v_203.eq_1 ..)).symm
  have hg := Eq.mp (g_203.eq_1 ..) hg
  refine bk_203_0 (fun h1 => ?_) (fun h1 => ?_)
  · have he := ite_p h1 he
    have hg := hg h1
    have k2 := hg
    refine bk_203_14 (cq_V_IL (cc_194 (d := d + 0)  k2)) ?_
    rintro _ _ _ _ ⟨p1, hr, rfl, rfl, rfl, rfl⟩
    have he := bx_eq hr he
    exact bk_203_28 (rl_I_IL he)
  · have he := ite_n h1 he
    refine bk_203_8 (cq_V_I (cc_199 (d := d + 1) )) ?_
    rintro _ _ _ _ ⟨p2, hr, rfl, rfl, rfl, rfl⟩
    have he := bx_eq hr he
    exact bk_203_12 (rl_I_IL he)
/-- VectorShelfModel.name()I -/
def v_208 (I : WI) : Int32 × WI := (if (v_196 I (120 : Int32) (0 : Int32) (0 : Int32) (0 : Int32) (0 : Int32) (0 : Int32) (0 : Int32) (0 : Int32)) = 0 then (if (v_196 I (121 : Int32) (0 : Int32) (0 : Int32) (0 : Int32) (0 : Int32) (0 : Int32) (0 : Int32) (0 : Int32)) = 0 then (if (v_196 I (122 : Int32) (0 : Int32) (0 : Int32) (0 : Int32) (0 : Int32) (0 : Int32) (0 : Int32) (0 : Int32)) = 0 then (if (v_196 I (116 : Int32) (97 : Int32) (103 : Int32) (0 : Int32) (0 : Int32) (0 : Int32) (0 : Int32) (0 : Int32)) = 0 then (if (v_196 I (110 : Int32) (117 : Int32) (109 : Int32) (98 : Int32) (101 : Int32) (114 : Int32) (0 : Int32) (0 : Int32)) = 0 then (if (v_196 I (99 : Int32) (101 : Int32) (108 : Int32) (108 : Int32) (0 : Int32) (0 : Int32) (0 : Int32) (0 : Int32)) = 0 then (bx ((v_199 I) : WI) (fun p1 => (0, p1))) else ((I 74 24), I)) else ((I 74 23), I)) else ((I 74 22), I)) else ((I 74 21), I)) else ((I 74 20), I)) else ((I 74 19), I))
def g_208 (I : WI) : Prop := ((g_196 I (120 : Int32) (0 : Int32) (0 : Int32) (0 : Int32) (0 : Int32) (0 : Int32) (0 : Int32)) ∧ (((v_196 I (120 : Int32) (0 : Int32) (0 : Int32) (0 : Int32) (0 : Int32) (0 : Int32) (0 : Int32) (0 : Int32)) = 0) → ((g_196 I (121 : Int32) (0 : Int32) (0 : Int32) (0 : Int32) (0 : Int32) (0 : Int32) (0 : Int32)) ∧ (((v_196 I (121 : Int32) (0 : Int32) (0 : Int32) (0 : Int32) (0 : Int32) (0 : Int32) (0 : Int32) (0 : Int32)) = 0) → ((g_196 I (122 : Int32) (0 : Int32) (0 : Int32) (0 : Int32) (0 : Int32) (0 : Int32) (0 : Int32)) ∧ (((v_196 I (122 : Int32) (0 : Int32) (0 : Int32) (0 : Int32) (0 : Int32) (0 : Int32) (0 : Int32) (0 : Int32)) = 0) → ((g_196 I (116 : Int32) (97 : Int32) (103 : Int32) (0 : Int32) (0 : Int32) (0 : Int32) (0 : Int32)) ∧ (((v_196 I (116 : Int32) (97 : Int32) (103 : Int32) (0 : Int32) (0 : Int32) (0 : Int32) (0 : Int32) (0 : Int32)) = 0) → ((g_196 I (110 : Int32) (117 : Int32) (109 : Int32) (98 : Int32) (101 : Int32) (114 : Int32) (0 : Int32)) ∧ (((v_196 I (110 : Int32) (117 : Int32) (109 : Int32) (98 : Int32) (101 : Int32) (114 : Int32) (0 : Int32) (0 : Int32)) = 0) → (g_196 I (99 : Int32) (101 : Int32) (108 : Int32) (108 : Int32) (0 : Int32) (0 : Int32) (0 : Int32))))))))))))
theorem cc_208 {l : LX} {d : Nat} {I : WI} {F : WF} {L : WL} {t : Nat} (hg : g_208 I) : Con l 208 (d + 3) 0 0 [.ref 74] SH (I, F, L, RT t) (po_I_I F L t (v_208 I)) := by
  refine cn_208 ?_
  obtain ⟨T1, hT1⟩ : ∃ r : Int32 × WI, r = (v_208 I) := ⟨_, rfl⟩
  rw [← hT1]
  have he := (hT1.trans (v_208.eq_1 ..)).symm
  have hg := Eq.mp (g_208.eq_1 ..) hg
  obtain ⟨k1, hg⟩ := hg
  refine bk_208_0 (cc_196 (d := d + 0)  k1) ?_
  refine bk_208_13 (fun h2 => ?_) (fun h2 => ?_)
  · have he := ite_p h2 he
    have hg := hg h2
    obtain ⟨k3, hg⟩ := hg
    refine bk_208_21 (cc_196 (d := d + 0)  k3) ?_
    refine bk_208_34 (fun h4 => ?_) (fun h4 => ?_)
    · have he := ite_p h4 he
      have hg := hg h4
      obtain ⟨k5, hg⟩ := hg
      refine bk_208_42 (cc_196 (d := d + 0)  k5) ?_
      refine bk_208_55 (fun h6 => ?_) (fun h6 => ?_)
      · have he := ite_p h6 he
        have hg := hg h6
        obtain ⟨k7, hg⟩ := hg
        refine bk_208_63 (cc_196 (d := d + 0)  k7) ?_
        refine bk_208_78 (fun h8 => ?_) (fun h8 => ?_)
        · have he := ite_p h8 he
          have hg := hg h8
          obtain ⟨k9, hg⟩ := hg
          refine bk_208_86 (cc_196 (d := d + 0)  k9) ?_
          refine bk_208_104 (fun h10 => ?_) (fun h10 => ?_)
          · have he := ite_p h10 he
            have hg := hg h10
            have k11 := hg
            refine bk_208_112 (cc_196 (d := d + 0)  k11) ?_
            refine bk_208_128 (fun h12 => ?_) (fun h12 => ?_)
            · have he := ite_p h12 he
              refine bk_208_136 (cq_V_I (cc_199 (d := d + 2) )) ?_
              rintro _ _ _ _ ⟨p1, hr, rfl, rfl, rfl, rfl⟩
              have he := bx_eq hr he
              exact bk_208_140 (rl_I_I he)
            · have he := ite_n h12 he
              exact bk_208_131 (rl_I_I he)
          · have he := ite_n h10 he
            exact bk_208_107 (rl_I_I he)
        · have he := ite_n h8 he
          exact bk_208_81 (rl_I_I he)
      · have he := ite_n h6 he
        exact bk_208_58 (rl_I_I he)
    · have he := ite_n h4 he
      exact bk_208_37 (rl_I_I he)
  · have he := ite_n h2 he
    exact bk_208_16 (rl_I_I he)
/-- VectorShelfModel.codeOf(II)I -/
def v_211 (I : WI) (x1 : Int32) (x2 : Int32) : Int32 := (if (-128) ≤ (v_212 ((I 84 ((3 * x1) + x2).toNatClampNeg) - (I 80 ((3 * (I 86 x1.toNatClampNeg)) + x2).toNatClampNeg)) (I 78 0)) then (if (v_212 ((I 84 ((3 * x1) + x2).toNatClampNeg) - (I 80 ((3 * (I 86 x1.toNatClampNeg)) + x2).toNatClampNeg)) (I 78 0)) ≤ 127 then (v_212 ((I 84 ((3 * x1) + x2).toNatClampNeg) - (I 80 ((3 * (I 86 x1.toNatClampNeg)) + x2).toNatClampNeg)) (I 78 0)) else 127) else (-128))
def g_211 (I : WI) (x1 : Int32) (x2 : Int32) : Prop := ((vp_in ((3 * x1) + x2) 36) ∧ ((vp_in x1 12) ∧ ((vp_in ((3 * (I 86 x1.toNatClampNeg)) + x2) 12) ∧ (g_212 (I 78 0)))))
theorem cc_211 {l : LX} {d : Nat} {I : WI} {F : WF} {L : WL} {t : Nat} {x1 : Int32} {x2 : Int32} (hg : g_211 I x1 x2) : Con l 211 (d + 1) 0 0 [.ref 74, .int x1, .int x2] SH (I, F, L, RT t) (rI (v_211 I x1 x2) (I, F, L, RT t)) := by
  refine cn_211 ?_
  obtain ⟨T1, hT1⟩ : ∃ r : Int32, r = (v_211 I x1 x2) := ⟨_, rfl⟩
  rw [← hT1]
  have he := (hT1.trans (v_211.eq_1 ..)).symm
  have hg := Eq.mp (g_211.eq_1 ..) hg
  obtain ⟨k1, k2, k3, k4⟩ := hg
  refine bk_211_0 k1 k2 k3 (cc_212 (d := d + 0)  k4) ?_
  refine bk_211_35 (fun h5 => ?_) (fun h5 => ?_)
  · have he := ite_p h5 he
    refine bk_211_47 (fun h6 => ?_) (fun h6 => ?_)
    · have he := ite_p h6 he
      refine bk_211_58 ?_
      exact bk_211_59 (rl_p_I he)
    · have he := ite_n h6 he
      refine bk_211_53 ?_
      exact bk_211_59 (rl_p_I he)
  · have he := ite_n h5 he
    refine bk_211_42 ?_
    exact bk_211_59 (rl_p_I he)
/-- VectorShelfModel.outsideCode(II)I -/
def v_219 (I : WI) (x1 : Int32) (x2 : Int32) : Int32 := (bx ((if ¬ (v_211 I x1 x2) = (-128) then ((I 80 ((3 * (I 86 x1.toNatClampNeg)) + x2).toNatClampNeg) + ((v_211 I x1 x2) * (I 78 0))) else (-999)) : Int32) (fun p1 => (bx ((if ¬ (v_211 I x1 x2) = 127 then ((((I 80 ((3 * (I 86 x1.toNatClampNeg)) + x2).toNatClampNeg) + ((v_211 I x1 x2) * (I 78 0))) + (I 78 0)) - 1) else 999) : Int32) (fun p2 => (v_220 (I 79 x2.toNatClampNeg) p1 p2)))))
def g_219 (I : WI) (x1 : Int32) (x2 : Int32) : Prop := ((g_211 I x1 x2) ∧ ((vp_in x1 12) ∧ ((vp_in ((3 * (I 86 x1.toNatClampNeg)) + x2) 12) ∧ (vp_in x2 3))))
theorem cc_219 {l : LX} {d : Nat} {I : WI} {F : WF} {L : WL} {t : Nat} {x1 : Int32} {x2 : Int32} (hg : g_219 I x1 x2) : Con l 219 (d + 2) 0 0 [.ref 74, .int x1, .int x2] SH (I, F, L, RT t) (rI (v_219 I x1 x2) (I, F, L, RT t)) := by
  refine cn_219 ?_
  obtain ⟨T1, hT1⟩ : ∃ r : Int32, r = (v_219 I x1 x2) := ⟨_, rfl⟩
  rw [← hT1]
  have he := (hT1.trans (v_219.eq_1 ..)).symm
  have hg := Eq.mp (g_219.eq_1 ..) hg
  obtain ⟨k1, hg⟩ := hg
  refine bk_219_0 (cc_211 (d := d + 0)  k1) ?_
  obtain ⟨k2, k3, k4⟩ := hg
  obtain ⟨X1, hX1⟩ : ∃ r : Int32, r = (if ¬ (v_211 I x1 x2) = (-128) then ((I 80 ((3 * (I 86 x1.toNatClampNeg)) + x2).toNatClampNeg) + ((v_211 I x1 x2) * (I 78 0))) else (-999)) := ⟨_, rfl⟩
  have J1 : ∀ p1 : Int32, p1 = X1 → Wp l 219 (d + 2) 0 0 (rI T1 (I, F, L, RT t)) 0 0 53 [(0, .ref 74), (3, .int (v_211 I x1 x2)), (4, .int ((I 80 ((3 * (I 86 x1.toNatClampNeg)) + x2).toNatClampNeg) + ((v_211 I x1 x2) * (I 78 0))))] [.int p1, .int (I 79 x2.toNatClampNeg)] SH (I, F, L, RT t) := by
    intro p1 hr
    have hr := hr.trans hX1
    have he := bx_eq hr he
    obtain ⟨X2, hX2⟩ : ∃ r : Int32, r = (if ¬ (v_211 I x1 x2) = 127 then ((((I 80 ((3 * (I 86 x1.toNatClampNeg)) + x2).toNatClampNeg) + ((v_211 I x1 x2) * (I 78 0))) + (I 78 0)) - 1) else 999) := ⟨_, rfl⟩
    have J2 : ∀ p2 : Int32, p2 = X2 → Wp l 219 (d + 2) 0 0 (rI T1 (I, F, L, RT t)) 0 0 76 [] [.int p2, .int p1, .int (I 79 x2.toNatClampNeg)] SH (I, F, L, RT t) := by
      intro p2 hr
      have hr := hr.trans hX2
      have he := bx_eq hr he
      refine bk_219_76 (cc_220 (d := d + 1) ) ?_
      exact bk_219_79 (rl_p_I he)
    have he := hX2.symm
    refine bk_219_53 (fun h6 => ?_) (fun h6 => ?_)
    · have he := ite_p h6 he
      refine bk_219_65 ?_
      exact J2 _ he
    · have he := ite_n h6 he
      refine bk_219_59 ?_
      exact J2 _ he
  have he := hX1.symm
  refine bk_219_6 k2 k3 k4 (fun h5 => ?_) (fun h5 => ?_)
  · have he := ite_p h5 he
    refine bk_219_51 ?_
    exact J1 _ he
  · have he := ite_n h5 he
    refine bk_219_45 ?_
    exact J1 _ he
/-- VectorShelfModel.low(III)F -/
def v_221 (I : WI) (x1 : Int32) (x2 : Int32) (x3 : Int32) : UInt32 := (bx ((if ¬ (I 78 3) = 4 then (bx ((if ¬ (I 78 3) = 2 then (if ¬ (I 78 3) = 5 then (FP.fadd (FP.fadd (v_222 I x1 (0 : Int32)) (v_222 I x2 (1 : Int32))) (v_222 I x3 (2 : Int32))) else (if (Op.cmpValue (FP.fcmp (FP.fadd (FP.fadd (v_222 I x1 (0 : Int32)) (v_222 I x2 (1 : Int32))) (v_222 I x3 (2 : Int32))) (FP.i2f (I 78 2))) .l) ≤ 0 then (FP.fadd (FP.fadd (v_222 I x1 (0 : Int32)) (v_222 I x2 (1 : Int32))) (v_222 I x3 (2 : Int32))) else (FP.i2f (I 78 2)))) else (FP.fmul 1082130432 (FP.fadd (FP.fadd (v_222 I x1 (0 : Int32)) (v_222 I x2 (1 : Int32))) (v_222 I x3 (2 : Int32))))) : UInt32) (fun p1 => p1)) else (bx ((if (Op.cmpValue (FP.fcmp (v_222 I x1 (0 : Int32)) (v_222 I x2 (1 : Int32))) .l) ≤ 0 then (v_222 I x2 (1 : Int32)) else (v_222 I x1 (0 : Int32))) : UInt32) (fun p2 => (bx ((if (Op.cmpValue (FP.fcmp p2 (v_222 I x3 (2 : Int32))) .l) ≤ 0 then (v_222 I x3 (2 : Int32)) else p2) : UInt32) (fun p3 => (FP.fadd (FP.fmul 1082130432 p3) FP.fconst1)))))) : UInt32) (fun p4 => (FP.fmul p4 1065353200)))
def g_221 (I : WI) (x1 : Int32) (x2 : Int32) (x3 : Int32) : Prop := ((g_222 I x1 (0 : Int32)) ∧ ((g_222 I x2 (1 : Int32)) ∧ ((g_222 I x3 (2 : Int32)) ∧ ((((¬ (I 78 3) = 4) → ((vf_n32 (FP.fadd (v_222 I x1 (0 : Int32)) (v_222 I x2 (1 : Int32)))) ∧ ((vf_n32 (FP.fadd (FP.fadd (v_222 I x1 (0 : Int32)) (v_222 I x2 (1 : Int32))) (v_222 I x3 (2 : Int32)))) ∧ (¬ (¬ (I 78 3) = 2) → (vf_n32 (FP.fmul 1082130432 (FP.fadd (FP.fadd (v_222 I x1 (0 : Int32)) (v_222 I x2 (1 : Int32))) (v_222 I x3 (2 : Int32))))))))) ∧ (¬ (¬ (I 78 3) = 4) → (bx ((if (Op.cmpValue (FP.fcmp (v_222 I x1 (0 : Int32)) (v_222 I x2 (1 : Int32))) .l) ≤ 0 then (v_222 I x2 (1 : Int32)) else (v_222 I x1 (0 : Int32))) : UInt32) (fun p2 => (bx ((if (Op.cmpValue (FP.fcmp p2 (v_222 I x3 (2 : Int32))) .l) ≤ 0 then (v_222 I x3 (2 : Int32)) else p2) : UInt32) (fun p3 => ((vf_n32 (FP.fmul 1082130432 p3)) ∧ (vf_n32 (FP.fadd (FP.fmul 1082130432 p3) FP.fconst1))))))))) ∧ (bx ((if ¬ (I 78 3) = 4 then (bx ((if ¬ (I 78 3) = 2 then (if ¬ (I 78 3) = 5 then (FP.fadd (FP.fadd (v_222 I x1 (0 : Int32)) (v_222 I x2 (1 : Int32))) (v_222 I x3 (2 : Int32))) else (if (Op.cmpValue (FP.fcmp (FP.fadd (FP.fadd (v_222 I x1 (0 : Int32)) (v_222 I x2 (1 : Int32))) (v_222 I x3 (2 : Int32))) (FP.i2f (I 78 2))) .l) ≤ 0 then (FP.fadd (FP.fadd (v_222 I x1 (0 : Int32)) (v_222 I x2 (1 : Int32))) (v_222 I x3 (2 : Int32))) else (FP.i2f (I 78 2)))) else (FP.fmul 1082130432 (FP.fadd (FP.fadd (v_222 I x1 (0 : Int32)) (v_222 I x2 (1 : Int32))) (v_222 I x3 (2 : Int32))))) : UInt32) (fun p1 => p1)) else (bx ((if (Op.cmpValue (FP.fcmp (v_222 I x1 (0 : Int32)) (v_222 I x2 (1 : Int32))) .l) ≤ 0 then (v_222 I x2 (1 : Int32)) else (v_222 I x1 (0 : Int32))) : UInt32) (fun p2 => (bx ((if (Op.cmpValue (FP.fcmp p2 (v_222 I x3 (2 : Int32))) .l) ≤ 0 then (v_222 I x3 (2 : Int32)) else p2) : UInt32) (fun p3 => (FP.fadd (FP.fmul 1082130432 p3) FP.fconst1)))))) : UInt32) (fun p4 => (vf_n32 (FP.fmul p4 1065353200))))))))
theorem cc_221 {l : LX} {d : Nat} {I : WI} {F : WF} {L : WL} {t : Nat} {x1 : Int32} {x2 : Int32} {x3 : Int32} (hg : g_221 I x1 x2 x3) : Con l 221 (d + 2) 0 0 [.ref 74, .int x1, .int x2, .int x3] SH (I, F, L, RT t) (rF (v_221 I x1 x2 x3) (I, F, L, RT t)) := by
  refine cn_221 ?_
  obtain ⟨T1, hT1⟩ : ∃ r : UInt32, r = (v_221 I x1 x2 x3) := ⟨_, rfl⟩
  rw [← hT1]
  have he := (hT1.trans (v_221.eq_1 ..)).symm
  have hg := Eq.mp (g_221.eq_1 ..) hg
  obtain ⟨k1, hg⟩ := hg
  refine bk_221_0 (cc_222 (d := d + 0)  k1) ?_
  obtain ⟨k2, hg⟩ := hg
  refine bk_221_6 (cc_222 (d := d + 0)  k2) ?_
  obtain ⟨k3, hg⟩ := hg
  refine bk_221_14 (cc_222 (d := d + 0)  k3) ?_
  obtain ⟨hgX, hg⟩ := hg
  obtain ⟨X1, hX1⟩ : ∃ r : UInt32, r = (if ¬ (I 78 3) = 4 then (bx ((if ¬ (I 78 3) = 2 then (if ¬ (I 78 3) = 5 then (FP.fadd (FP.fadd (v_222 I x1 (0 : Int32)) (v_222 I x2 (1 : Int32))) (v_222 I x3 (2 : Int32))) else (if (Op.cmpValue (FP.fcmp (FP.fadd (FP.fadd (v_222 I x1 (0 : Int32)) (v_222 I x2 (1 : Int32))) (v_222 I x3 (2 : Int32))) (FP.i2f (I 78 2))) .l) ≤ 0 then (FP.fadd (FP.fadd (v_222 I x1 (0 : Int32)) (v_222 I x2 (1 : Int32))) (v_222 I x3 (2 : Int32))) else (FP.i2f (I 78 2)))) else (FP.fmul 1082130432 (FP.fadd (FP.fadd (v_222 I x1 (0 : Int32)) (v_222 I x2 (1 : Int32))) (v_222 I x3 (2 : Int32))))) : UInt32) (fun p1 => p1)) else (bx ((if (Op.cmpValue (FP.fcmp (v_222 I x1 (0 : Int32)) (v_222 I x2 (1 : Int32))) .l) ≤ 0 then (v_222 I x2 (1 : Int32)) else (v_222 I x1 (0 : Int32))) : UInt32) (fun p2 => (bx ((if (Op.cmpValue (FP.fcmp p2 (v_222 I x3 (2 : Int32))) .l) ≤ 0 then (v_222 I x3 (2 : Int32)) else p2) : UInt32) (fun p3 => (FP.fadd (FP.fmul 1082130432 p3) FP.fconst1)))))) := ⟨_, rfl⟩
  have J1 : ∀ p4 : UInt32, p4 = X1 → Wp l 221 (d + 2) 0 0 (rF T1 (I, F, L, RT t)) 0 0 152 [(7, .float p4)] [] SH (I, F, L, RT t) := by
    intro p4 hr
    have hr := hr.trans hX1
    have he := bx_eq hr he
    have hg := bx_un hr hg
    have k15 := hg
    exact bk_221_152 k15 (rl_p_F he)
  have he := hX1.symm
  have hg := hgX
  refine bk_221_22 (fun h4 => ?_) (fun h4 => ?_)
  · have he := ite_p h4 he
    have hg := hg.1 h4
    obtain ⟨k5, k6, hg⟩ := hg
    have hgX := hg
    obtain ⟨X2, hX2⟩ : ∃ r : UInt32, r = (if ¬ (I 78 3) = 2 then (if ¬ (I 78 3) = 5 then (FP.fadd (FP.fadd (v_222 I x1 (0 : Int32)) (v_222 I x2 (1 : Int32))) (v_222 I x3 (2 : Int32))) else (if (Op.cmpValue (FP.fcmp (FP.fadd (FP.fadd (v_222 I x1 (0 : Int32)) (v_222 I x2 (1 : Int32))) (v_222 I x3 (2 : Int32))) (FP.i2f (I 78 2))) .l) ≤ 0 then (FP.fadd (FP.fadd (v_222 I x1 (0 : Int32)) (v_222 I x2 (1 : Int32))) (v_222 I x3 (2 : Int32))) else (FP.i2f (I 78 2)))) else (FP.fmul 1082130432 (FP.fadd (FP.fadd (v_222 I x1 (0 : Int32)) (v_222 I x2 (1 : Int32))) (v_222 I x3 (2 : Int32))))) := ⟨_, rfl⟩
    have J2 : ∀ p1 : UInt32, p1 = X2 → Wp l 221 (d + 2) 0 0 (rF T1 (I, F, L, RT t)) 0 0 150 [] [.float p1] SH (I, F, L, RT t) := by
      intro p1 hr
      have hr := hr.trans hX2
      have he := bx_eq hr he
      refine bk_221_150 ?_
      exact J1 _ he
    have he := hX2.symm
    have hg := hgX
    refine bk_221_84 k5 k6 (fun h7 => ?_) (fun h7 => ?_)
    · have he := ite_p h7 he
      refine bk_221_125 (fun h8 => ?_) (fun h8 => ?_)
      · have he := ite_p h8 he
        refine bk_221_148 ?_
        exact J2 _ he
      · have he := ite_n h8 he
        refine bk_221_135 (fun h9 => ?_) (fun h9 => ?_)
        · have he := ite_p h9 he
          refine bk_221_148 ?_
          exact J2 _ he
        · have he := ite_n h9 he
          refine bk_221_143 ?_
          exact J2 _ he
    · have he := ite_n h7 he
      have hg := hg h7
      have k10 := hg
      refine bk_221_117 k10 ?_
      exact J2 _ he
  · have he := ite_n h4 he
    have hg := hg.2 h4
    obtain ⟨X3, hX3⟩ : ∃ r : UInt32, r = (if (Op.cmpValue (FP.fcmp (v_222 I x1 (0 : Int32)) (v_222 I x2 (1 : Int32))) .l) ≤ 0 then (v_222 I x2 (1 : Int32)) else (v_222 I x1 (0 : Int32))) := ⟨_, rfl⟩
    have J3 : ∀ p2 : UInt32, p2 = X3 → Wp l 221 (d + 2) 0 0 (rF T1 (I, F, L, RT t)) 0 0 49 [(6, .float (v_222 I x3 (2 : Int32)))] [.float p2] SH (I, F, L, RT t) := by
      intro p2 hr
      have hr := hr.trans hX3
      have he := bx_eq hr he
      have hg := bx_un hr hg
      obtain ⟨X4, hX4⟩ : ∃ r : UInt32, r = (if (Op.cmpValue (FP.fcmp p2 (v_222 I x3 (2 : Int32))) .l) ≤ 0 then (v_222 I x3 (2 : Int32)) else p2) := ⟨_, rfl⟩
      have J4 : ∀ p3 : UInt32, p3 = X4 → Wp l 221 (d + 2) 0 0 (rF T1 (I, F, L, RT t)) 0 0 66 [] [.float p3] SH (I, F, L, RT t) := by
        intro p3 hr
        have hr := hr.trans hX4
        have he := bx_eq hr he
        have hg := bx_un hr hg
        obtain ⟨k13, k14⟩ := hg
        refine bk_221_66 k13 k14 ?_
        exact J1 _ he
      have he := hX4.symm
      refine bk_221_49 (fun h12 => ?_) (fun h12 => ?_)
      · have he := ite_p h12 he
        refine bk_221_64 ?_
        exact J4 _ he
      · have he := ite_n h12 he
        refine bk_221_59 ?_
        exact J4 _ he
    have he := hX3.symm
    refine bk_221_34 (fun h11 => ?_) (fun h11 => ?_)
    · have he := ite_p h11 he
      refine bk_221_47 ?_
      exact J3 _ he
    · have he := ite_n h11 he
      refine bk_221_42 ?_
      exact J3 _ he
/-- VectorShelfModel.lowOfCell(I)F -/
def v_225 (I : WI) (x1 : Int32) : UInt32 := (v_221 I (v_226 I x1 (0 : Int32)) (v_226 I x1 (1 : Int32)) (v_226 I x1 (2 : Int32)))
def g_225 (I : WI) (x1 : Int32) : Prop := ((g_226 x1 (0 : Int32)) ∧ ((g_226 x1 (1 : Int32)) ∧ ((g_226 x1 (2 : Int32)) ∧ (g_221 I (v_226 I x1 (0 : Int32)) (v_226 I x1 (1 : Int32)) (v_226 I x1 (2 : Int32))))))
theorem cc_225 {l : LX} {d : Nat} {I : WI} {F : WF} {L : WL} {t : Nat} {x1 : Int32} (hg : g_225 I x1) : Con l 225 (d + 3) 0 0 [.ref 74, .int x1] SH (I, F, L, RT t) (rF (v_225 I x1) (I, F, L, RT t)) := by
  refine cn_225 ?_
  obtain ⟨T1, hT1⟩ : ∃ r : UInt32, r = (v_225 I x1) := ⟨_, rfl⟩
  rw [← hT1]
  have he := (hT1.trans (v_225.eq_1 ..)).symm
  have hg := Eq.mp (g_225.eq_1 ..) hg
  obtain ⟨k1, hg⟩ := hg
  refine bk_225_0 (cc_226 (d := d + 1)  k1) ?_
  obtain ⟨k2, hg⟩ := hg
  refine bk_225_7 (cc_226 (d := d + 1)  k2) ?_
  obtain ⟨k3, hg⟩ := hg
  refine bk_225_13 (cc_226 (d := d + 1)  k3) ?_
  have k4 := hg
  refine bk_225_19 (cc_221 (d := d + 0)  k4) ?_
  exact bk_225_22 (rl_p_F he)
/-- the loop at 26 of VectorShelfModel.tidy -/
def lp_229_26 (I : WI) (x1 : Int32) : Nat → WI
  | 0 => I
  | k + 1 => bx (lp_229_26 I x1 k) (fun p2 => (bx ((if ¬ (p2 86 (nI k).toNatClampNeg) = x1 then p2 else (bx ((v_177 p2 (nI k) x1) : WI) (fun p3 => p3))) : WI) (fun p4 => p4)))
def gl_229_26 (I : WI) (x1 : Int32) (N : Nat) : Prop := ((∀ k, k < N → bx (lp_229_26 I x1 k) (fun p2 => (((p2 74 18) = (I 74 18)) ∧ ((vp_in (nI k) 12) ∧ (¬ (¬ (p2 86 (nI k).toNatClampNeg) = x1) → (g_177 p2 (nI k) x1)))))) ∧ (bx (lp_229_26 I x1 N) (fun p2 => (p2 74 18) = (I 74 18))))
theorem lw_229_26 {l : LX} {d : Nat} {P : RP} {I : WI} {F : WF} {L : WL} {t : Nat} {x1 : Int32} {x2 : Int32} (hgl : gl_229_26 I x1 ((I 74 18).toNatClampNeg)) (hx : ∀ p2 : WI, p2 = lp_229_26 I x1 ((I 74 18).toNatClampNeg) → Wp l 229 (d + 2) 0 0 P 0 0 56 [(2, .int x2)] [] SH (p2, F, L, RT t)) : Wp l 229 (d + 2) 0 0 P 0 0 26 [(0, .ref 74), (1, .int x1), (2, .int x2), (3, .int 0)] [] SH (I, F, L, RT t) := by
  obtain ⟨hin, hend⟩ := hgl
  have loop : ∀ m k, k + m = (I 74 18).toNatClampNeg → ∀ p2 : WI, p2 = lp_229_26 I x1 k → Wp l 229 (d + 2) 0 0 P 0 0 26 [(0, .ref 74), (1, .int x1), (2, .int x2), (3, .int (nI k))] [] SH (p2, F, L, RT t) := by
    intro m
    induction m with
    | zero =>
      intro k hk p2 hs
      obtain rfl : k = (I 74 18).toNatClampNeg := by omega
      have hE := bx_un hs hend
      exact bk_229_26  (fun _ => hx _ hs) (fun h => absurd ((show (p2 74 18) ≤ (nI ((I 74 18).toNatClampNeg)) from by rw [show (p2 74 18) = (I 74 18) from hE]; exact (le_cl (Nat.le_refl _)).mpr rfl)) h)
    | succ m ih =>
      intro k hk p2 hs
      have hk2 : k < (I 74 18).toNatClampNeg := by omega
      have ih := ih (k + 1) (by omega)
      rw [nI_succ] at ih
      have he := bx_eq hs (lp_229_26.eq_2 ..).symm
      have hg := bx_un hs (hin k hk2)
      have hE : (p2 74 18) = (I 74 18) := hg.1
      have hg := hg.2
      refine bk_229_26  (fun h => absurd ((le_cl (by omega)).mp (by rw [show (p2 74 18) = (I 74 18) from hE] at h; exact h)) (by omega)) (fun _ => ?_)
      obtain ⟨k5, hg⟩ := hg
      have hgX := hg
      obtain ⟨X1, hX1⟩ : ∃ r : WI, r = (if ¬ (p2 86 (nI k).toNatClampNeg) = x1 then p2 else (bx ((v_177 p2 (nI k) x1) : WI) (fun p3 => p3))) := ⟨_, rfl⟩
      have J1 : ∀ p4 : WI, p4 = X1 → Wp l 229 (d + 2) 0 0 P 0 0 50 [(0, .ref 74), (1, .int x1), (2, .int x2), (3, .int (nI k))] [] SH (p4, F, L, RT t) := by
        intro p4 hr
        have hr := hr.trans hX1
        have he := bx_eq hr he
        refine bk_229_50 ?_
        exact ih _ he
      have he := hX1.symm
      have hg := hgX
      refine bk_229_34 k5 (fun h6 => ?_) (fun h6 => ?_)
      · have he := ite_p h6 he
        exact J1 _ he
      · have he := ite_n h6 he
        have hg := hg h6
        have k7 := hg
        refine bk_229_44 (cq_V_I (cc_177 (d := d + 1)  k7)) ?_
        rintro _ _ _ _ ⟨p3, hr, rfl, rfl, rfl, rfl⟩
        have he := bx_eq hr he
        exact J1 _ he
  exact loop _ 0 (by omega) _ rfl
/-- VectorShelfModel.tidy(I)I -/
def v_229 (I : WI) (x1 : Int32) : Int32 × WI := (if ¬ (v_224 I x1) = 0 then (bx ((v_230 I x1) : Int32 × WI) (fun p1 => (bx ((lp_229_26 (up2 p1.2 83 x1.toNatClampNeg (vp_nar (bT 0) 0)) x1 (((up2 p1.2 83 x1.toNatClampNeg (vp_nar (bT 0) 0)) 74 18).toNatClampNeg)) : WI) (fun p5 => (p1.1, p5))))) else ((-2), I))
def g_229 (I : WI) (x1 : Int32) : Prop := ((¬ (v_224 I x1) = 0) → ((g_230 I x1) ∧ (bx ((v_230 I x1) : Int32 × WI) (fun p1 => ((vp_in x1 4) ∧ (gl_229_26 (up2 p1.2 83 x1.toNatClampNeg (vp_nar (bT 0) 0)) x1 (((up2 p1.2 83 x1.toNatClampNeg (vp_nar (bT 0) 0)) 74 18).toNatClampNeg)))))))
theorem cc_229 {l : LX} {d : Nat} {I : WI} {F : WF} {L : WL} {t : Nat} {x1 : Int32} (hg : g_229 I x1) : Con l 229 (d + 2) 0 0 [.ref 74, .int x1] SH (I, F, L, RT t) (po_I_I F L t (v_229 I x1)) := by
  refine cn_229 ?_
  obtain ⟨T1, hT1⟩ : ∃ r : Int32 × WI, r = (v_229 I x1) := ⟨_, rfl⟩
  rw [← hT1]
  have he := (hT1.trans (v_229.eq_1 ..)).symm
  have hg := Eq.mp (g_229.eq_1 ..) hg
  refine bk_229_0 (cc_224 (d := d + 0) ) ?_
  refine bk_229_5 (fun h2 => ?_) (fun h2 => ?_)
  · have he := ite_p h2 he
    have hg := hg h2
    obtain ⟨k3, hg⟩ := hg
    refine bk_229_11 (cq_I_I (cc_230 (d := d + 1)  k3)) ?_
    rintro _ _ _ _ _ ⟨p1, hr, rfl, rfl, rfl, rfl, rfl⟩
    have he := bx_eq hr he
    have hg := bx_un hr hg
    obtain ⟨k4, hg⟩ := hg
    refine bk_229_16 k4 ?_
    have hgX := hg
    refine lw_229_26 (d := d)  hgX (fun p5 hr => ?_)
    have he := bx_eq hr he
    exact bk_229_56 (rl_I_I he)
  · have he := ite_n h2 he
    exact bk_229_8 (rl_I_I he)
/-- VectorShelfModel.centre()I -/
def v_231 (I : WI) : Int32 × WI := (if ¬ (I 74 13) = 0 then (bx ((v_232 I) : Int32 × WI) (fun p1 => (p1.1, p1.2))) else ((-3), I))
def g_231 (I : WI) : Prop := ((¬ (I 74 13) = 0) → (g_232 I))
theorem cc_231 {l : LX} {d : Nat} {I : WI} {F : WF} {L : WL} {t : Nat} (hg : g_231 I) : Con l 231 (d + 2) 0 0 [.ref 74] SH (I, F, L, RT t) (po_I_I F L t (v_231 I)) := by
  refine cn_231 ?_
  obtain ⟨T1, hT1⟩ : ∃ r : Int32 × WI, r = (v_231 I) := ⟨_, rfl⟩
  rw [← hT1]
  have he := (hT1.trans (v_231.eq_1 ..)).symm
  have hg := Eq.mp (g_231.eq_1 ..) hg
  refine bk_231_0 (fun h1 => ?_) (fun h1 => ?_)
  · have he := ite_p h1 he
    have hg := hg h1
    have k2 := hg
    refine bk_231_12 (cq_I_I (cc_232 (d := d + 0)  k2)) ?_
    rintro _ _ _ _ _ ⟨p1, hr, rfl, rfl, rfl, rfl, rfl⟩
    have he := bx_eq hr he
    exact bk_231_16 (rl_I_I he)
  · have he := ite_n h1 he
    refine bk_231_7 ?_
    exact bk_231_16 (rl_I_I he)
/-- the loop at 31 of VectorShelfModel.rounds -/
def lp_233_31 : Nat → Int32 → Int32 → WI → Int32 × WI
  | 0, x2, x3, I => (x2, I)
  | k + 1, x2, x3, I => (if 20 ≤ x2 then (x2, I) else (if ¬ x3 = 0 then (x2, I) else (bx ((v_232 I) : Int32 × WI) (fun p2 => (bx ((if ¬ p2.1 = 0 then 0 else 1) : Int32) (fun p3 => (lp_233_31 k (x2 + 1) p3 p2.2)))))))
def gl_233_31 : Nat → Int32 → Int32 → WI → Prop
  | 0, _, _, _ => False
  | k + 1, x2, x3, I => (¬ (20 ≤ x2) → (¬ (¬ x3 = 0) → ((g_232 I) ∧ (bx ((v_232 I) : Int32 × WI) (fun p2 => (bx ((if ¬ p2.1 = 0 then 0 else 1) : Int32) (fun p3 => (gl_233_31 k (x2 + 1) p3 p2.2))))))))
theorem lw_233_31 {l : LX} {d : Nat} {P : RP} {F : WF} {L : WL} {t : Nat} {x1 : Int32} : ∀ k : Nat, ∀ (x2 : Int32) (x3 : Int32) (I : WI), gl_233_31 k x2 x3 I → (∀ r : Int32 × WI, r = lp_233_31 k x2 x3 I → Wp l 233 (d + 2) 0 0 P 0 0 60 [(0, .ref 74), (1, .int x1), (2, .int r.1)] [] SH (r.2, F, L, RT t)) → Wp l 233 (d + 2) 0 0 P 0 0 31 [(0, .ref 74), (1, .int x1), (2, .int x2), (3, .int x3)] [] SH (I, F, L, RT t) := by
  intro k
  induction k with
  | zero =>
    intro x2 x3 I hg hx
    exact hg.elim
  | succ k ih =>
    intro x2 x3 I hg hx
    have hg := Eq.mp (gl_233_31.eq_2 ..) hg
    obtain ⟨T1, hT1⟩ : ∃ r : Int32 × WI, r = lp_233_31 (k + 1) x2 x3 I := ⟨_, rfl⟩
    have hx : ∀ r : Int32 × WI, r = T1 → Wp l 233 (d + 2) 0 0 P 0 0 60 [(0, .ref 74), (1, .int x1), (2, .int r.1)] [] SH (r.2, F, L, RT t) := fun r hr => hx r (hr.trans hT1)
    have he := (hT1.trans (lp_233_31.eq_2 ..)).symm
    refine bk_233_31 (fun h5 => ?_) (fun h5 => ?_)
    · have he := ite_p h5 he
      exact hx _ he
    · have he := ite_n h5 he
      have hg := hg h5
      refine bk_233_37 (fun h6 => ?_) (fun h6 => ?_)
      · have he := ite_p h6 he
        exact hx _ he
      · have he := ite_n h6 he
        have hg := hg h6
        obtain ⟨k7, hg⟩ := hg
        refine bk_233_41 (cq_I_I (cc_232 (d := d + 0)  k7)) ?_
        rintro _ _ _ _ _ ⟨p2, hr, rfl, rfl, rfl, rfl, rfl⟩
        have he := bx_eq hr he
        have hg := bx_un hr hg
        obtain ⟨X1, hX1⟩ : ∃ r : Int32, r = (if ¬ p2.1 = 0 then 0 else 1) := ⟨_, rfl⟩
        have J1 : ∀ p3 : Int32, p3 = X1 → Wp l 233 (d + 2) 0 0 P 0 0 53 [(0, .ref 74), (1, .int x1), (2, .int x2)] [.int p3] SH (p2.2, F, L, RT t) := by
          intro p3 hr
          have hr := hr.trans hX1
          have he := bx_eq hr he
          have hg := bx_un hr hg
          refine bk_233_53 ?_
          exact ih _ _ _ hg (fun r hr => hx r (hr.trans he))
        have he := hX1.symm
        refine bk_233_45 (fun h8 => ?_) (fun h8 => ?_)
        · have he := ite_p h8 he
          refine bk_233_52 ?_
          exact J1 _ he
        · have he := ite_n h8 he
          refine bk_233_48 ?_
          exact J1 _ he
/-- the loop at 78 of VectorShelfModel.rounds -/
def lp_233_78 (I : WI) (x5 : Int32) : Nat → Int32 → Int32 → Int32
  | 0, x4, x6 => x4
  | k + 1, x4, x6 => (if 3 ≤ x6 then x4 else (if (v_180 I x5) = 0 then x4 else (lp_233_78 I x5 k (x4 + (((I 84 ((3 * x5) + x6).toNatClampNeg) - (I 80 ((3 * (I 86 x5.toNatClampNeg)) + x6).toNatClampNeg)) * ((I 84 ((3 * x5) + x6).toNatClampNeg) - (I 80 ((3 * (I 86 x5.toNatClampNeg)) + x6).toNatClampNeg)))) (x6 + 1))))
def gl_233_78 (I : WI) (x5 : Int32) : Nat → Int32 → Int32 → Prop
  | 0, _, _ => False
  | k + 1, x4, x6 => (¬ (3 ≤ x6) → ((g_180 I x5) ∧ (¬ ((v_180 I x5) = 0) → ((vp_in ((3 * x5) + x6) 36) ∧ ((vp_in x5 12) ∧ ((vp_in ((3 * (I 86 x5.toNatClampNeg)) + x6) 12) ∧ (gl_233_78 I x5 k (x4 + (((I 84 ((3 * x5) + x6).toNatClampNeg) - (I 80 ((3 * (I 86 x5.toNatClampNeg)) + x6).toNatClampNeg)) * ((I 84 ((3 * x5) + x6).toNatClampNeg) - (I 80 ((3 * (I 86 x5.toNatClampNeg)) + x6).toNatClampNeg)))) (x6 + 1))))))))
theorem lw_233_78 {l : LX} {d : Nat} {P : RP} {I : WI} {F : WF} {L : WL} {t : Nat} {x1 : Int32} {x2 : Int32} {x5 : Int32} : ∀ k : Nat, ∀ (x4 : Int32) (x6 : Int32), gl_233_78 I x5 k x4 x6 → (∀ r : Int32, r = lp_233_78 I x5 k x4 x6 → Wp l 233 (d + 2) 0 0 P 0 0 141 [(0, .ref 74), (1, .int x1), (2, .int x2), (4, .int r), (5, .int x5)] [] SH (I, F, L, RT t)) → Wp l 233 (d + 2) 0 0 P 0 0 78 [(0, .ref 74), (1, .int x1), (2, .int x2), (4, .int x4), (5, .int x5), (6, .int x6)] [] SH (I, F, L, RT t) := by
  intro k
  induction k with
  | zero =>
    intro x4 x6 hg hx
    exact hg.elim
  | succ k ih =>
    intro x4 x6 hg hx
    have hg := Eq.mp (gl_233_78.eq_2 ..) hg
    obtain ⟨T1, hT1⟩ : ∃ r : Int32, r = lp_233_78 I x5 (k + 1) x4 x6 := ⟨_, rfl⟩
    have hx : ∀ r : Int32, r = T1 → Wp l 233 (d + 2) 0 0 P 0 0 141 [(0, .ref 74), (1, .int x1), (2, .int x2), (4, .int r), (5, .int x5)] [] SH (I, F, L, RT t) := fun r hr => hx r (hr.trans hT1)
    have he := (hT1.trans (lp_233_78.eq_2 ..)).symm
    refine bk_233_78 (fun h9 => ?_) (fun h9 => ?_)
    · have he := ite_p h9 he
      exact hx _ he
    · have he := ite_n h9 he
      have hg := hg h9
      obtain ⟨k10, hg⟩ := hg
      refine bk_233_84 (cc_180 (d := d + 1)  k10) ?_
      refine bk_233_90 (fun h11 => ?_) (fun h11 => ?_)
      · have he := ite_p h11 he
        exact hx _ he
      · have he := ite_n h11 he
        have hg := hg h11
        obtain ⟨k12, k13, k14, hg⟩ := hg
        refine bk_233_93 k12 k13 k14 ?_
        exact ih _ _ hg (fun r hr => hx r (hr.trans he))
/-- the loop at 66 of VectorShelfModel.rounds -/
def lp_233_66 (I : WI) (a4 : Int32) : Nat → Int32
  | 0 => a4
  | k + 1 => bx (lp_233_66 I a4 k) (fun p5 => (bx ((lp_233_78 I (nI k) 400 p5 (0 : Int32)) : Int32) (fun p6 => p6)))
def gl_233_66 (I : WI) (a4 : Int32) (N : Nat) : Prop := (∀ k, k < N → bx (lp_233_66 I a4 k) (fun p5 => (gl_233_78 I (nI k) 400 p5 (0 : Int32))))
theorem lw_233_66 {l : LX} {d : Nat} {P : RP} {I : WI} {F : WF} {L : WL} {t : Nat} {x1 : Int32} {x2 : Int32} {a4 : Int32} (hgl : gl_233_66 I a4 ((I 74 18).toNatClampNeg)) (hx : ∀ p5 : Int32, p5 = lp_233_66 I a4 ((I 74 18).toNatClampNeg) → Wp l 233 (d + 2) 0 0 P 0 0 147 [(0, .ref 74), (1, .int x1), (2, .int x2), (4, .int p5)] [] SH (I, F, L, RT t)) : Wp l 233 (d + 2) 0 0 P 0 0 66 [(0, .ref 74), (1, .int x1), (2, .int x2), (4, .int a4), (5, .int 0)] [] SH (I, F, L, RT t) := by
  have hin := hgl
  have loop : ∀ m k, k + m = (I 74 18).toNatClampNeg → ∀ p5 : Int32, p5 = lp_233_66 I a4 k → Wp l 233 (d + 2) 0 0 P 0 0 66 [(0, .ref 74), (1, .int x1), (2, .int x2), (4, .int p5), (5, .int (nI k))] [] SH (I, F, L, RT t) := by
    intro m
    induction m with
    | zero =>
      intro k hk p5 hs
      obtain rfl : k = (I 74 18).toNatClampNeg := by omega
      exact bk_233_66  (fun _ => hx _ hs) (fun h => absurd ((le_cl (Nat.le_refl _)).mpr rfl) h)
    | succ m ih =>
      intro k hk p5 hs
      have hk2 : k < (I 74 18).toNatClampNeg := by omega
      have ih := ih (k + 1) (by omega)
      rw [nI_succ] at ih
      have he := bx_eq hs (lp_233_66.eq_2 ..).symm
      have hg := bx_un hs (hin k hk2)
      refine bk_233_66  (fun h => absurd ((le_cl (by omega)).mp h) (by omega)) (fun _ => ?_)
      refine bk_233_75 ?_
      have hgX := hg
      refine lw_233_78 (d := d)  400 _ _ hgX (fun p6 hr => ?_)
      have he := bx_eq hr he
      refine bk_233_141 ?_
      exact ih _ he
  exact loop _ 0 (by omega) _ rfl
/-- VectorShelfModel.rounds(I)I -/
def v_233 (I : WI) (x1 : Int32) : Int32 × WI := (if ¬ (v_170 (Int32.toInt64 x1) (0 : Int64) (1 : Int64)) = 0 then (if ¬ (I 74 13) = 0 then (bx ((v_234 I) : WI) (fun p1 => (bx ((lp_233_31 400 (0 : Int32) (0 : Int32) p1) : Int32 × WI) (fun p4 => (bx ((lp_233_66 p4.2 (0 : Int32) ((p4.2 74 18).toNatClampNeg)) : Int32) (fun p7 => (bx ((v_235 p4.2) : WI) (fun p8 => (if ¬ x1 = 0 then (p7, p8) else (p4.1, p8)))))))))) else ((-3), I)) else ((-2), I))
def g_233 (I : WI) (x1 : Int32) : Prop := ((¬ (v_170 (Int32.toInt64 x1) (0 : Int64) (1 : Int64)) = 0) → ((¬ (I 74 13) = 0) → ((g_234 I) ∧ (bx ((v_234 I) : WI) (fun p1 => ((gl_233_31 400 (0 : Int32) (0 : Int32) p1) ∧ (bx ((lp_233_31 400 (0 : Int32) (0 : Int32) p1) : Int32 × WI) (fun p4 => ((gl_233_66 p4.2 (0 : Int32) ((p4.2 74 18).toNatClampNeg)) ∧ (bx ((lp_233_66 p4.2 (0 : Int32) ((p4.2 74 18).toNatClampNeg)) : Int32) (fun p7 => (g_235 p4.2))))))))))))
theorem cc_233 {l : LX} {d : Nat} {I : WI} {F : WF} {L : WL} {t : Nat} {x1 : Int32} (hg : g_233 I x1) : Con l 233 (d + 2) 0 0 [.ref 74, .int x1] SH (I, F, L, RT t) (po_I_I F L t (v_233 I x1)) := by
  refine cn_233 ?_
  obtain ⟨T1, hT1⟩ : ∃ r : Int32 × WI, r = (v_233 I x1) := ⟨_, rfl⟩
  rw [← hT1]
  have he := (hT1.trans (v_233.eq_1 ..)).symm
  have hg := Eq.mp (g_233.eq_1 ..) hg
  refine bk_233_0 (cc_170 (d := d + 1) ) ?_
  refine bk_233_7 (fun h2 => ?_) (fun h2 => ?_)
  · have he := ite_p h2 he
    have hg := hg h2
    refine bk_233_13 (fun h3 => ?_) (fun h3 => ?_)
    · have he := ite_p h3 he
      have hg := hg h3
      obtain ⟨k4, hg⟩ := hg
      refine bk_233_23 (cq_V_I (cc_234 (d := d + 1)  k4)) ?_
      rintro _ _ _ _ ⟨p1, hr, rfl, rfl, rfl, rfl⟩
      have he := bx_eq hr he
      have hg := bx_un hr hg
      refine bk_233_27 ?_
      obtain ⟨hgX, hg⟩ := hg
      refine lw_233_31 (d := d)  400 _ _ _ hgX (fun p4 hr => ?_)
      have he := bx_eq hr he
      have hg := bx_un hr hg
      refine bk_233_60 ?_
      obtain ⟨hgX, hg⟩ := hg
      refine lw_233_66 (d := d)  hgX (fun p7 hr => ?_)
      have he := bx_eq hr he
      have hg := bx_un hr hg
      have k15 := hg
      refine bk_233_147 (cq_V_I (cc_235 (d := d + 1)  k15)) ?_
      rintro _ _ _ _ ⟨p8, hr, rfl, rfl, rfl, rfl⟩
      have he := bx_eq hr he
      refine bk_233_151 (fun h16 => ?_) (fun h16 => ?_)
      · have he := ite_p h16 he
        refine bk_233_159 ?_
        exact bk_233_161 (rl_I_I he)
      · have he := ite_n h16 he
        refine bk_233_155 ?_
        exact bk_233_161 (rl_I_I he)
    · have he := ite_n h3 he
      exact bk_233_20 (rl_I_I he)
  · have he := ite_n h2 he
    exact bk_233_10 (rl_I_I he)
end
