section
/-- VectorShelf$Judge.lift(I)V -/
def v_14 (I : WI) (x1 : Int32) : WI := (if 160 ≤ (I 35 1) then I else (up2 (up2 I 36 (I 35 1).toNatClampNeg x1) 35 1 ((I 35 1) + 1)))
def g_14 (I : WI) : Prop := (¬ (160 ≤ (I 35 1)) → (vp_in (I 35 1) 160))
theorem cc_14 {l : LX} {d : Nat} {I : WI} {F : WF} {L : WL} {t : Nat} {x1 : Int32} (hg : g_14 I) : Con l 14 (d + 0) 0 0 [.ref 35, .int x1] SH (I, F, L, RT t) (po_V_I F L t (v_14 I x1)) := by
  refine cn_14 ?_
  obtain ⟨T1, hT1⟩ : ∃ r : WI, r = (v_14 I x1) := ⟨_, rfl⟩
  rw [← hT1]
  have he := (hT1.trans (v_14.eq_1 ..)).symm
  have hg := Eq.mp (g_14.eq_1 ..) hg
  refine bk_14_0 (fun h1 => ?_) (fun h1 => ?_)
  · have he := ite_p h1 he
    exact bk_14_32 (rl_V_I he)
  · have he := ite_n h1 he
    have hg := hg h1
    have k2 := hg
    refine bk_14_12 k2 ?_
    exact bk_14_32 (rl_V_I he)
/-- VectorShelf$Judge.named(ILVectorShelf$Shelf;I)I -/
def v_15 (I : WI) (x0 : Int32) (r1 : Nat) (x2 : Int32) : Int32 := (if x0 = (-5) then x2 else (if x0 = (-4) then (I (r1 + 8) x2.toNatClampNeg) else (if x0 = (-3) then (I (r1 + 7) ((3 * x2) + 2).toNatClampNeg) else (if x0 = (-2) then (I (r1 + 7) ((3 * x2) + 1).toNatClampNeg) else (if x0 = (-1) then (I (r1 + 7) (3 * x2).toNatClampNeg) else (I (r1 + 9) x2.toNatClampNeg))))))
def g_15 (x0 : Int32) (x2 : Int32) : Prop := ((x0 = (-5) → True) ∧ (¬ (x0 = (-5)) → ((x0 = (-4) → (vp_in x2 12)) ∧ (¬ (x0 = (-4)) → ((x0 = (-3) → (vp_in ((3 * x2) + 2) 36)) ∧ (¬ (x0 = (-3)) → ((x0 = (-2) → (vp_in ((3 * x2) + 1) 36)) ∧ (¬ (x0 = (-2)) → ((x0 = (-1) → (vp_in (3 * x2) 36)) ∧ (¬ (x0 = (-1)) → (vp_in x2 12)))))))))))
theorem cc_15 {l : LX} {d : Nat} {I : WI} {F : WF} {L : WL} {t : Nat} {x0 : Int32} {r1 : Nat} {x2 : Int32} (hr1 : isS r1) (hg : g_15 x0 x2) : Con l 15 (d + 0) 0 0 [.int x0, .ref r1, .int x2] SH (I, F, L, RT t) (rI (v_15 I x0 r1 x2) (I, F, L, RT t)) := by
  refine cn_15 ?_
  obtain ⟨T1, hT1⟩ : ∃ r : Int32, r = (v_15 I x0 r1 x2) := ⟨_, rfl⟩
  rw [← hT1]
  have he := (hT1.trans (v_15.eq_1 ..)).symm
  have hg := Eq.mp (g_15.eq_1 ..) hg
  refine bk_15_0 (fun h1 => ?_) (fun h1 => ?_) (fun h1 => ?_) (fun h1 => ?_) (fun h1 => ?_) (fun h1x0 h1x1 h1x2 h1x3 h1x4 => ?_)
  · have he := ite_p h1 he
    exact bk_15_74 (rl_p_I he)
  · have he := ite_n (show ¬ x0 = (-5) from fun e => absurd (h1.symm.trans e) (by decide)) he
    have hg := hg.2 (show ¬ x0 = (-5) from fun e => absurd (h1.symm.trans e) (by decide))
    have he := ite_p h1 he
    have hg := hg.1 h1
    have k2 := hg
    exact bk_15_67 hr1 k2 (rl_p_I he)
  · have he := ite_n (show ¬ x0 = (-5) from fun e => absurd (h1.symm.trans e) (by decide)) he
    have hg := hg.2 (show ¬ x0 = (-5) from fun e => absurd (h1.symm.trans e) (by decide))
    have he := ite_n (show ¬ x0 = (-4) from fun e => absurd (h1.symm.trans e) (by decide)) he
    have hg := hg.2 (show ¬ x0 = (-4) from fun e => absurd (h1.symm.trans e) (by decide))
    have he := ite_p h1 he
    have hg := hg.1 h1
    have k3 := hg
    exact bk_15_56 hr1 k3 (rl_p_I he)
  · have he := ite_n (show ¬ x0 = (-5) from fun e => absurd (h1.symm.trans e) (by decide)) he
    have hg := hg.2 (show ¬ x0 = (-5) from fun e => absurd (h1.symm.trans e) (by decide))
    have he := ite_n (show ¬ x0 = (-4) from fun e => absurd (h1.symm.trans e) (by decide)) he
    have hg := hg.2 (show ¬ x0 = (-4) from fun e => absurd (h1.symm.trans e) (by decide))
    have he := ite_n (show ¬ x0 = (-3) from fun e => absurd (h1.symm.trans e) (by decide)) he
    have hg := hg.2 (show ¬ x0 = (-3) from fun e => absurd (h1.symm.trans e) (by decide))
    have he := ite_p h1 he
    have hg := hg.1 h1
    have k4 := hg
    exact bk_15_45 hr1 k4 (rl_p_I he)
  · have he := ite_n (show ¬ x0 = (-5) from fun e => absurd (h1.symm.trans e) (by decide)) he
    have hg := hg.2 (show ¬ x0 = (-5) from fun e => absurd (h1.symm.trans e) (by decide))
    have he := ite_n (show ¬ x0 = (-4) from fun e => absurd (h1.symm.trans e) (by decide)) he
    have hg := hg.2 (show ¬ x0 = (-4) from fun e => absurd (h1.symm.trans e) (by decide))
    have he := ite_n (show ¬ x0 = (-3) from fun e => absurd (h1.symm.trans e) (by decide)) he
    have hg := hg.2 (show ¬ x0 = (-3) from fun e => absurd (h1.symm.trans e) (by decide))
    have he := ite_n (show ¬ x0 = (-2) from fun e => absurd (h1.symm.trans e) (by decide)) he
    have hg := hg.2 (show ¬ x0 = (-2) from fun e => absurd (h1.symm.trans e) (by decide))
    have he := ite_p h1 he
    have hg := hg.1 h1
    have k5 := hg
    exact bk_15_36 hr1 k5 (rl_p_I he)
  · have he := ite_n h1x0 he
    have hg := hg.2 h1x0
    have he := ite_n h1x1 he
    have hg := hg.2 h1x1
    have he := ite_n h1x2 he
    have hg := hg.2 h1x2
    have he := ite_n h1x3 he
    have hg := hg.2 h1x3
    have he := ite_n h1x4 he
    have hg := hg.2 h1x4
    have k6 := hg
    exact bk_15_76 hr1 k6 (rl_p_I he)
/-- VectorShelf$Judge.truth(Z)I -/
def v_17 (x0 : Int32) : Int32 := (if x0 = 0 then 0 else 1)
theorem cc_17 {l : LX} {d : Nat} {I : WI} {F : WF} {L : WL} {t : Nat} {x0 : Int32} : Con l 17 (d + 0) 0 0 [.int x0] SH (I, F, L, RT t) (rI (v_17 x0) (I, F, L, RT t)) := by
  refine cn_17 ?_
  obtain ⟨T1, hT1⟩ : ∃ r : Int32, r = (v_17 x0) := ⟨_, rfl⟩
  rw [← hT1]
  have he := (hT1.trans (v_17.eq_1 ..)).symm
  refine bk_17_0 (fun h1 => ?_) (fun h1 => ?_)
  · have he := ite_p h1 he
    refine bk_17_8 ?_
    exact bk_17_9 (rl_p_I he)
  · have he := ite_n h1 he
    refine bk_17_4 ?_
    exact bk_17_9 (rl_p_I he)
/-- VectorShelf$Judge.joined(III)I -/
def v_19 (x0 : Int32) (x1 : Int32) (x2 : Int32) : Int32 := (if x0 = (-14) then (bx ((if x1 = 0 then 0 else (if x2 = 0 then 0 else 1)) : Int32) (fun p1 => (v_17 p1))) else (if x0 = (-13) then (bx ((if ¬ x1 = x2 then 0 else 1) : Int32) (fun p2 => (v_17 p2))) else (if x0 = (-12) then (bx ((if x2 ≤ x1 then 0 else 1) : Int32) (fun p3 => (v_17 p3))) else (if x0 = (-11) then (x1 * x2) else (if x0 = (-10) then (x1 - x2) else (if x0 = (-9) then (x1 + x2) else (bx ((if ¬ x1 = 0 then 1 else (if x2 = 0 then 0 else 1)) : Int32) (fun p4 => (v_17 p4)))))))))
theorem cc_19 {l : LX} {d : Nat} {I : WI} {F : WF} {L : WL} {t : Nat} {x0 : Int32} {x1 : Int32} {x2 : Int32} : Con l 19 (d + 1) 0 0 [.int x0, .int x1, .int x2] SH (I, F, L, RT t) (rI (v_19 x0 x1 x2) (I, F, L, RT t)) := by
  refine cn_19 ?_
  obtain ⟨T1, hT1⟩ : ∃ r : Int32, r = (v_19 x0 x1 x2) := ⟨_, rfl⟩
  rw [← hT1]
  have he := (hT1.trans (v_19.eq_1 ..)).symm
  refine bk_19_0 (fun h1 => ?_) (fun h1 => ?_) (fun h1 => ?_) (fun h1 => ?_) (fun h1 => ?_) (fun h1 => ?_) (fun h1x0 h1x1 h1x2 h1x3 h1x4 h1x5 => ?_)
  · have he := ite_p h1 he
    obtain ⟨X1, hX1⟩ : ∃ r : Int32, r = (if x1 = 0 then 0 else (if x2 = 0 then 0 else 1)) := ⟨_, rfl⟩
    have J1 : ∀ p1 : Int32, p1 = X1 → Wp l 19 (d + 1) 0 0 (rI T1 (I, F, L, RT t)) 0 0 93 [] [.int p1] SH (I, F, L, RT t) := by
      intro p1 hr
      have hr := hr.trans hX1
      have he := bx_eq hr he
      refine bk_19_93 (cc_17 (d := d + 0) ) ?_
      exact bk_19_96 (rl_p_I he)
    have he := hX1.symm
    refine bk_19_80 (fun h2 => ?_) (fun h2 => ?_)
    · have he := ite_p h2 he
      refine bk_19_92 ?_
      exact J1 0 he
    · have he := ite_n h2 he
      refine bk_19_84 (fun h3 => ?_) (fun h3 => ?_)
      · have he := ite_p h3 he
        refine bk_19_92 ?_
        exact J1 0 he
      · have he := ite_n h3 he
        refine bk_19_88 ?_
        exact J1 1 he
  · have he := ite_n (show ¬ x0 = (-14) from fun e => absurd (h1.symm.trans e) (by decide)) he
    have he := ite_p h1 he
    obtain ⟨X2, hX2⟩ : ∃ r : Int32, r = (if ¬ x1 = x2 then 0 else 1) := ⟨_, rfl⟩
    have J2 : ∀ p2 : Int32, p2 = X2 → Wp l 19 (d + 1) 0 0 (rI T1 (I, F, L, RT t)) 0 0 76 [] [.int p2] SH (I, F, L, RT t) := by
      intro p2 hr
      have hr := hr.trans hX2
      have he := bx_eq hr he
      refine bk_19_76 (cc_17 (d := d + 0) ) ?_
      exact bk_19_79 (rl_p_I he)
    have he := hX2.symm
    refine bk_19_66 (fun h5 => ?_) (fun h5 => ?_)
    · have he := ite_p h5 he
      refine bk_19_75 ?_
      exact J2 0 he
    · have he := ite_n h5 he
      refine bk_19_71 ?_
      exact J2 1 he
  · have he := ite_n (show ¬ x0 = (-14) from fun e => absurd (h1.symm.trans e) (by decide)) he
    have he := ite_n (show ¬ x0 = (-13) from fun e => absurd (h1.symm.trans e) (by decide)) he
    have he := ite_p h1 he
    obtain ⟨X3, hX3⟩ : ∃ r : Int32, r = (if x2 ≤ x1 then 0 else 1) := ⟨_, rfl⟩
    have J3 : ∀ p3 : Int32, p3 = X3 → Wp l 19 (d + 1) 0 0 (rI T1 (I, F, L, RT t)) 0 0 62 [] [.int p3] SH (I, F, L, RT t) := by
      intro p3 hr
      have hr := hr.trans hX3
      have he := bx_eq hr he
      refine bk_19_62 (cc_17 (d := d + 0) ) ?_
      exact bk_19_65 (rl_p_I he)
    have he := hX3.symm
    refine bk_19_52 (fun h7 => ?_) (fun h7 => ?_)
    · have he := ite_p h7 he
      refine bk_19_61 ?_
      exact J3 0 he
    · have he := ite_n h7 he
      refine bk_19_57 ?_
      exact J3 1 he
  · have he := ite_n (show ¬ x0 = (-14) from fun e => absurd (h1.symm.trans e) (by decide)) he
    have he := ite_n (show ¬ x0 = (-13) from fun e => absurd (h1.symm.trans e) (by decide)) he
    have he := ite_n (show ¬ x0 = (-12) from fun e => absurd (h1.symm.trans e) (by decide)) he
    have he := ite_p h1 he
    exact bk_19_48 (rl_p_I he)
  · have he := ite_n (show ¬ x0 = (-14) from fun e => absurd (h1.symm.trans e) (by decide)) he
    have he := ite_n (show ¬ x0 = (-13) from fun e => absurd (h1.symm.trans e) (by decide)) he
    have he := ite_n (show ¬ x0 = (-12) from fun e => absurd (h1.symm.trans e) (by decide)) he
    have he := ite_n (show ¬ x0 = (-11) from fun e => absurd (h1.symm.trans e) (by decide)) he
    have he := ite_p h1 he
    exact bk_19_44 (rl_p_I he)
  · have he := ite_n (show ¬ x0 = (-14) from fun e => absurd (h1.symm.trans e) (by decide)) he
    have he := ite_n (show ¬ x0 = (-13) from fun e => absurd (h1.symm.trans e) (by decide)) he
    have he := ite_n (show ¬ x0 = (-12) from fun e => absurd (h1.symm.trans e) (by decide)) he
    have he := ite_n (show ¬ x0 = (-11) from fun e => absurd (h1.symm.trans e) (by decide)) he
    have he := ite_n (show ¬ x0 = (-10) from fun e => absurd (h1.symm.trans e) (by decide)) he
    have he := ite_p h1 he
    exact bk_19_40 (rl_p_I he)
  · have he := ite_n h1x0 he
    have he := ite_n h1x1 he
    have he := ite_n h1x2 he
    have he := ite_n h1x3 he
    have he := ite_n h1x4 he
    have he := ite_n h1x5 he
    obtain ⟨X4, hX4⟩ : ∃ r : Int32, r = (if ¬ x1 = 0 then 1 else (if x2 = 0 then 0 else 1)) := ⟨_, rfl⟩
    have J4 : ∀ p4 : Int32, p4 = X4 → Wp l 19 (d + 1) 0 0 (rI T1 (I, F, L, RT t)) 0 0 110 [] [.int p4] SH (I, F, L, RT t) := by
      intro p4 hr
      have hr := hr.trans hX4
      have he := bx_eq hr he
      refine bk_19_110 (cc_17 (d := d + 0) ) ?_
      exact bk_19_113 (rl_p_I he)
    have he := hX4.symm
    refine bk_19_97 (fun h9 => ?_) (fun h9 => ?_)
    · have he := ite_p h9 he
      refine bk_19_105 ?_
      exact J4 1 he
    · have he := ite_n h9 he
      refine bk_19_101 (fun h10 => ?_) (fun h10 => ?_)
      · have he := ite_p h10 he
        refine bk_19_109 ?_
        exact J4 0 he
      · have he := ite_n h10 he
        refine bk_19_105 ?_
        exact J4 1 he
/-- VectorShelf$Judge.fitBits(LVectorShelf$Shelf;)I -/
def v_21 (I : WI) (r1 : Nat) : Int32 := ((I 35 2) &&& (I r1 12))
theorem cc_21 {l : LX} {d : Nat} {I : WI} {F : WF} {L : WL} {t : Nat} {r1 : Nat} (hr1 : isS r1) : Con l 21 (d + 0) 0 0 [.ref 35, .ref r1] SH (I, F, L, RT t) (rI (v_21 I r1) (I, F, L, RT t)) := by
  refine cn_21 ?_
  obtain ⟨T1, hT1⟩ : ∃ r : Int32, r = (v_21 I r1) := ⟨_, rfl⟩
  rw [← hT1]
  have he := (hT1.trans (v_21.eq_1 ..)).symm
  exact bk_21_0 hr1 (rl_p_I he)
/-- VectorShelf$Measure.floatTerm(II)F -/
def v_26 (I : WI) (b : Nat) (x1 : Int32) (x2 : Int32) : UInt32 := (if (I b 0) = 0 then (FP.fmul (FP.i2f x2) (FP.i2f x2)) else (if (I b 0) = 1 then (FP.fmul (FP.fmul (FP.i2f x2) (FP.i2f x2)) (FP.i2f (I (b + 1) x1.toNatClampNeg))) else (if (I b 0) = 2 then (FP.i2f x2) else (if (I b 0) = 3 then (bx ((if x2 ≤ (I b 1) then FP.fconst0 else (FP.i2f (x2 - (I b 1)))) : UInt32) (fun p1 => (FP.fmul (FP.fmul p1 p1) (FP.i2f (I (b + 1) x1.toNatClampNeg))))) else (if (I b 0) = 4 then (FP.i2f x2) else (bx ((if x2 ≤ (I b 1) then FP.fconst0 else (FP.i2f (x2 - (I b 1)))) : UInt32) (fun p2 => (FP.fmul (FP.fmul p2 p2) (FP.i2f (I (b + 1) x1.toNatClampNeg))))))))))
def g_26 (I : WI) (b : Nat) (x1 : Int32) (x2 : Int32) : Prop := ((vp_in x1 3) ∧ (((I b 0) = 0 → (vf_n32 (FP.fmul (FP.i2f x2) (FP.i2f x2)))) ∧ (¬ ((I b 0) = 0) → (((I b 0) = 1 → ((vf_n32 (FP.fmul (FP.i2f x2) (FP.i2f x2))) ∧ (vf_n32 (FP.fmul (FP.fmul (FP.i2f x2) (FP.i2f x2)) (FP.i2f (I (b + 1) x1.toNatClampNeg)))))) ∧ (¬ ((I b 0) = 1) → (((I b 0) = 2 → True) ∧ (¬ ((I b 0) = 2) → (((I b 0) = 3 → (bx ((if x2 ≤ (I b 1) then FP.fconst0 else (FP.i2f (x2 - (I b 1)))) : UInt32) (fun p1 => ((vf_n32 (FP.fmul p1 p1)) ∧ (vf_n32 (FP.fmul (FP.fmul p1 p1) (FP.i2f (I (b + 1) x1.toNatClampNeg)))))))) ∧ (¬ ((I b 0) = 3) → (((I b 0) = 4 → True) ∧ (¬ ((I b 0) = 4) → (bx ((if x2 ≤ (I b 1) then FP.fconst0 else (FP.i2f (x2 - (I b 1)))) : UInt32) (fun p2 => ((vf_n32 (FP.fmul p2 p2)) ∧ (vf_n32 (FP.fmul (FP.fmul p2 p2) (FP.i2f (I (b + 1) x1.toNatClampNeg))))))))))))))))))
theorem cc_26 {l : LX} {d : Nat} {I : WI} {F : WF} {L : WL} {t : Nat} {b : Nat} {x1 : Int32} {x2 : Int32} (hb : isM b) (hg : g_26 I b x1 x2) : Con l 26 (d + 0) 0 0 [.ref b, .int x1, .int x2] SH (I, F, L, RT t) (rF (v_26 I b x1 x2) (I, F, L, RT t)) := by
  refine cn_26 ?_
  obtain ⟨T1, hT1⟩ : ∃ r : UInt32, r = (v_26 I b x1 x2) := ⟨_, rfl⟩
  rw [← hT1]
  have he := (hT1.trans (v_26.eq_1 ..)).symm
  have hg := Eq.mp (g_26.eq_1 ..) hg
  obtain ⟨k1, hg⟩ := hg
  refine bk_26_0 hb k1 (fun h2 => ?_) (fun h2 => ?_) (fun h2 => ?_) (fun h2 => ?_) (fun h2 => ?_) (fun h2x0 h2x1 h2x2 h2x3 h2x4 => ?_)
  · have he := ite_p h2 he
    have hg := hg.1 h2
    have k3 := hg
    exact bk_26_52 k3 (rl_p_F he)
  · have he := ite_n (show ¬ (I b 0) = 0 from fun e => absurd (h2.symm.trans e) (by decide)) he
    have hg := hg.2 (show ¬ (I b 0) = 0 from fun e => absurd (h2.symm.trans e) (by decide))
    have he := ite_p h2 he
    have hg := hg.1 h2
    obtain ⟨k4, k5⟩ := hg
    exact bk_26_56 k4 k5 (rl_p_F he)
  · have he := ite_n (show ¬ (I b 0) = 0 from fun e => absurd (h2.symm.trans e) (by decide)) he
    have hg := hg.2 (show ¬ (I b 0) = 0 from fun e => absurd (h2.symm.trans e) (by decide))
    have he := ite_n (show ¬ (I b 0) = 1 from fun e => absurd (h2.symm.trans e) (by decide)) he
    have hg := hg.2 (show ¬ (I b 0) = 1 from fun e => absurd (h2.symm.trans e) (by decide))
    have he := ite_p h2 he
    exact bk_26_63 (rl_p_F he)
  · have he := ite_n (show ¬ (I b 0) = 0 from fun e => absurd (h2.symm.trans e) (by decide)) he
    have hg := hg.2 (show ¬ (I b 0) = 0 from fun e => absurd (h2.symm.trans e) (by decide))
    have he := ite_n (show ¬ (I b 0) = 1 from fun e => absurd (h2.symm.trans e) (by decide)) he
    have hg := hg.2 (show ¬ (I b 0) = 1 from fun e => absurd (h2.symm.trans e) (by decide))
    have he := ite_n (show ¬ (I b 0) = 2 from fun e => absurd (h2.symm.trans e) (by decide)) he
    have hg := hg.2 (show ¬ (I b 0) = 2 from fun e => absurd (h2.symm.trans e) (by decide))
    have he := ite_p h2 he
    have hg := hg.1 h2
    obtain ⟨X1, hX1⟩ : ∃ r : UInt32, r = (if x2 ≤ (I b 1) then FP.fconst0 else (FP.i2f (x2 - (I b 1)))) := ⟨_, rfl⟩
    have J1 : ∀ p1 : UInt32, p1 = X1 → Wp l 26 (d + 0) 0 0 (rF T1 (I, F, L, RT t)) 0 0 84 [(4, .float (FP.i2f (I (b + 1) x1.toNatClampNeg)))] [.float p1] SH (I, F, L, RT t) := by
      intro p1 hr
      have hr := hr.trans hX1
      have he := bx_eq hr he
      have hg := bx_un hr hg
      obtain ⟨k7, k8⟩ := hg
      exact bk_26_84 k7 k8 (rl_p_F he)
    have he := hX1.symm
    refine bk_26_65 hb (fun h6 => ?_) (fun h6 => ?_)
    · have he := ite_p h6 he
      refine bk_26_83 ?_
      exact J1 FP.fconst0 he
    · have he := ite_n h6 he
      refine bk_26_73 hb ?_
      exact J1 (FP.i2f (x2 - (I b 1))) he
  · have he := ite_n (show ¬ (I b 0) = 0 from fun e => absurd (h2.symm.trans e) (by decide)) he
    have hg := hg.2 (show ¬ (I b 0) = 0 from fun e => absurd (h2.symm.trans e) (by decide))
    have he := ite_n (show ¬ (I b 0) = 1 from fun e => absurd (h2.symm.trans e) (by decide)) he
    have hg := hg.2 (show ¬ (I b 0) = 1 from fun e => absurd (h2.symm.trans e) (by decide))
    have he := ite_n (show ¬ (I b 0) = 2 from fun e => absurd (h2.symm.trans e) (by decide)) he
    have hg := hg.2 (show ¬ (I b 0) = 2 from fun e => absurd (h2.symm.trans e) (by decide))
    have he := ite_n (show ¬ (I b 0) = 3 from fun e => absurd (h2.symm.trans e) (by decide)) he
    have hg := hg.2 (show ¬ (I b 0) = 3 from fun e => absurd (h2.symm.trans e) (by decide))
    have he := ite_p h2 he
    exact bk_26_63 (rl_p_F he)
  · have he := ite_n h2x0 he
    have hg := hg.2 h2x0
    have he := ite_n h2x1 he
    have hg := hg.2 h2x1
    have he := ite_n h2x2 he
    have hg := hg.2 h2x2
    have he := ite_n h2x3 he
    have hg := hg.2 h2x3
    have he := ite_n h2x4 he
    have hg := hg.2 h2x4
    obtain ⟨X2, hX2⟩ : ∃ r : UInt32, r = (if x2 ≤ (I b 1) then FP.fconst0 else (FP.i2f (x2 - (I b 1)))) := ⟨_, rfl⟩
    have J2 : ∀ p2 : UInt32, p2 = X2 → Wp l 26 (d + 0) 0 0 (rF T1 (I, F, L, RT t)) 0 0 84 [(4, .float (FP.i2f (I (b + 1) x1.toNatClampNeg)))] [.float p2] SH (I, F, L, RT t) := by
      intro p2 hr
      have hr := hr.trans hX2
      have he := bx_eq hr he
      have hg := bx_un hr hg
      obtain ⟨k10, k11⟩ := hg
      exact bk_26_84 k10 k11 (rl_p_F he)
    have he := hX2.symm
    refine bk_26_65 hb (fun h9 => ?_) (fun h9 => ?_)
    · have he := ite_p h9 he
      refine bk_26_83 ?_
      exact J2 FP.fconst0 he
    · have he := ite_n h9 he
      refine bk_26_73 hb ?_
      exact J2 (FP.i2f (x2 - (I b 1))) he
/-- VectorShelf$Measure.floatJoin(FF)F -/
def v_27 (I : WI) (b : Nat) (f1 : UInt32) (f2 : UInt32) : UInt32 := (if ¬ (I b 0) = 4 then (FP.fadd f1 f2) else (if (Op.cmpValue (FP.fcmp f1 f2) .l) < 0 then f2 else f1))
def g_27 (I : WI) (b : Nat) (f1 : UInt32) (f2 : UInt32) : Prop := ((¬ (I b 0) = 4) → (vf_n32 (FP.fadd f1 f2)))
theorem cc_27 {l : LX} {d : Nat} {I : WI} {F : WF} {L : WL} {t : Nat} {b : Nat} {f1 : UInt32} {f2 : UInt32} (hb : isM b) (hg : g_27 I b f1 f2) : Con l 27 (d + 0) 0 0 [.ref b, .float f1, .float f2] SH (I, F, L, RT t) (rF (v_27 I b f1 f2) (I, F, L, RT t)) := by
  refine cn_27 ?_
  obtain ⟨T1, hT1⟩ : ∃ r : UInt32, r = (v_27 I b f1 f2) := ⟨_, rfl⟩
  rw [← hT1]
  have he := (hT1.trans (v_27.eq_1 ..)).symm
  have hg := Eq.mp (g_27.eq_1 ..) hg
  refine bk_27_0 hb (fun h1 => ?_) (fun h1 => ?_)
  · have he := ite_p h1 he
    have hg := hg h1
    have k2 := hg
    exact bk_27_20 k2 (rl_p_F he)
  · have he := ite_n h1 he
    refine bk_27_8 (fun h3 => ?_) (fun h3 => ?_)
    · have he := ite_p h3 he
      refine bk_27_18 ?_
      exact bk_27_19 (rl_p_F he)
    · have he := ite_n h3 he
      refine bk_27_14 ?_
      exact bk_27_19 (rl_p_F he)
/-- VectorShelf$Measure.floatWhole(F)F -/
def v_28 (I : WI) (b : Nat) (f1 : UInt32) : UInt32 := (if ¬ (I b 0) = 2 then (if ¬ (I b 0) = 4 then (if ¬ (I b 0) = 5 then f1 else (if (Op.cmpValue (FP.fcmp f1 (FP.i2f (I b 2))) .l) ≤ 0 then f1 else (FP.i2f (I b 2)))) else (FP.fadd (FP.fmul 1082130432 f1) FP.fconst1)) else (FP.fmul 1082130432 f1))
def g_28 (I : WI) (b : Nat) (f1 : UInt32) : Prop := (((¬ (I b 0) = 2) → (¬ (¬ (I b 0) = 4) → ((vf_n32 (FP.fmul 1082130432 f1)) ∧ (vf_n32 (FP.fadd (FP.fmul 1082130432 f1) FP.fconst1))))) ∧ (¬ (¬ (I b 0) = 2) → (vf_n32 (FP.fmul 1082130432 f1))))
theorem cc_28 {l : LX} {d : Nat} {I : WI} {F : WF} {L : WL} {t : Nat} {b : Nat} {f1 : UInt32} (hb : isM b) (hg : g_28 I b f1) : Con l 28 (d + 0) 0 0 [.ref b, .float f1] SH (I, F, L, RT t) (rF (v_28 I b f1) (I, F, L, RT t)) := by
  refine cn_28 ?_
  obtain ⟨T1, hT1⟩ : ∃ r : UInt32, r = (v_28 I b f1) := ⟨_, rfl⟩
  rw [← hT1]
  have he := (hT1.trans (v_28.eq_1 ..)).symm
  have hg := Eq.mp (g_28.eq_1 ..) hg
  refine bk_28_0 hb (fun h1 => ?_) (fun h1 => ?_)
  · have he := ite_p h1 he
    have hg := hg.1 h1
    refine bk_28_13 hb (fun h2 => ?_) (fun h2 => ?_)
    · have he := ite_p h2 he
      refine bk_28_28 hb (fun h3 => ?_) (fun h3 => ?_)
      · have he := ite_p h3 he
        refine bk_28_54 ?_
        exact bk_28_55 (rl_p_F he)
      · have he := ite_n h3 he
        refine bk_28_36 hb (fun h4 => ?_) (fun h4 => ?_)
        · have he := ite_p h4 he
          refine bk_28_54 ?_
          exact bk_28_55 (rl_p_F he)
        · have he := ite_n h4 he
          refine bk_28_46 hb ?_
          exact bk_28_55 (rl_p_F he)
    · have he := ite_n h2 he
      have hg := hg h2
      obtain ⟨k5, k6⟩ := hg
      exact bk_28_21 k5 k6 (rl_p_F he)
  · have he := ite_n h1 he
    have hg := hg.2 h1
    have k7 := hg
    exact bk_28_8 k7 (rl_p_F he)
/-- VectorShelf$Measure.term(II)I -/
def v_30 (I : WI) (b : Nat) (x1 : Int32) (x2 : Int32) : Int32 := (if (I b 0) = 0 then (x2 * x2) else (if (I b 0) = 1 then ((x2 * x2) * (I (b + 1) x1.toNatClampNeg)) else (if (I b 0) = 2 then x2 else (if (I b 0) = 3 then (bx ((if x2 ≤ (I b 1) then 0 else (x2 - (I b 1))) : Int32) (fun p1 => ((p1 * p1) * (I (b + 1) x1.toNatClampNeg)))) else (if (I b 0) = 4 then x2 else (bx ((if x2 ≤ (I b 1) then 0 else (x2 - (I b 1))) : Int32) (fun p2 => ((p2 * p2) * (I (b + 1) x1.toNatClampNeg)))))))))
def g_30 (I : WI) (b : Nat) (x1 : Int32) (x2 : Int32) : Prop := (((I b 0) = 0 → True) ∧ (¬ ((I b 0) = 0) → (((I b 0) = 1 → (vp_in x1 3)) ∧ (¬ ((I b 0) = 1) → (((I b 0) = 2 → True) ∧ (¬ ((I b 0) = 2) → (((I b 0) = 3 → (bx ((if x2 ≤ (I b 1) then 0 else (x2 - (I b 1))) : Int32) (fun p1 => (vp_in x1 3)))) ∧ (¬ ((I b 0) = 3) → (((I b 0) = 4 → True) ∧ (¬ ((I b 0) = 4) → (bx ((if x2 ≤ (I b 1) then 0 else (x2 - (I b 1))) : Int32) (fun p2 => (vp_in x1 3)))))))))))))
theorem cc_30 {l : LX} {d : Nat} {I : WI} {F : WF} {L : WL} {t : Nat} {b : Nat} {x1 : Int32} {x2 : Int32} (hb : isM b) (hg : g_30 I b x1 x2) : Con l 30 (d + 0) 0 0 [.ref b, .int x1, .int x2] SH (I, F, L, RT t) (rI (v_30 I b x1 x2) (I, F, L, RT t)) := by
  refine cn_30 ?_
  obtain ⟨T1, hT1⟩ : ∃ r : Int32, r = (v_30 I b x1 x2) := ⟨_, rfl⟩
  rw [← hT1]
  have he := (hT1.trans (v_30.eq_1 ..)).symm
  have hg := Eq.mp (g_30.eq_1 ..) hg
  refine bk_30_0 hb (fun h1 => ?_) (fun h1 => ?_) (fun h1 => ?_) (fun h1 => ?_) (fun h1 => ?_) (fun h1x0 h1x1 h1x2 h1x3 h1x4 => ?_)
  · have he := ite_p h1 he
    exact bk_30_40 (rl_p_I he)
  · have he := ite_n (show ¬ (I b 0) = 0 from fun e => absurd (h1.symm.trans e) (by decide)) he
    have hg := hg.2 (show ¬ (I b 0) = 0 from fun e => absurd (h1.symm.trans e) (by decide))
    have he := ite_p h1 he
    have hg := hg.1 h1
    have k2 := hg
    exact bk_30_44 hb k2 (rl_p_I he)
  · have he := ite_n (show ¬ (I b 0) = 0 from fun e => absurd (h1.symm.trans e) (by decide)) he
    have hg := hg.2 (show ¬ (I b 0) = 0 from fun e => absurd (h1.symm.trans e) (by decide))
    have he := ite_n (show ¬ (I b 0) = 1 from fun e => absurd (h1.symm.trans e) (by decide)) he
    have hg := hg.2 (show ¬ (I b 0) = 1 from fun e => absurd (h1.symm.trans e) (by decide))
    have he := ite_p h1 he
    exact bk_30_55 (rl_p_I he)
  · have he := ite_n (show ¬ (I b 0) = 0 from fun e => absurd (h1.symm.trans e) (by decide)) he
    have hg := hg.2 (show ¬ (I b 0) = 0 from fun e => absurd (h1.symm.trans e) (by decide))
    have he := ite_n (show ¬ (I b 0) = 1 from fun e => absurd (h1.symm.trans e) (by decide)) he
    have hg := hg.2 (show ¬ (I b 0) = 1 from fun e => absurd (h1.symm.trans e) (by decide))
    have he := ite_n (show ¬ (I b 0) = 2 from fun e => absurd (h1.symm.trans e) (by decide)) he
    have hg := hg.2 (show ¬ (I b 0) = 2 from fun e => absurd (h1.symm.trans e) (by decide))
    have he := ite_p h1 he
    have hg := hg.1 h1
    obtain ⟨X1, hX1⟩ : ∃ r : Int32, r = (if x2 ≤ (I b 1) then 0 else (x2 - (I b 1))) := ⟨_, rfl⟩
    have J1 : ∀ p1 : Int32, p1 = X1 → Wp l 30 (d + 0) 0 0 (rI T1 (I, F, L, RT t)) 0 0 75 [(0, .ref b), (1, .int x1)] [.int p1] SH (I, F, L, RT t) := by
      intro p1 hr
      have hr := hr.trans hX1
      have he := bx_eq hr he
      have hg := bx_un hr hg
      have k4 := hg
      exact bk_30_75 hb k4 (rl_p_I he)
    have he := hX1.symm
    refine bk_30_57 hb (fun h3 => ?_) (fun h3 => ?_)
    · have he := ite_p h3 he
      refine bk_30_74 ?_
      exact J1 0 he
    · have he := ite_n h3 he
      refine bk_30_65 hb ?_
      exact J1 (x2 - (I b 1)) he
  · have he := ite_n (show ¬ (I b 0) = 0 from fun e => absurd (h1.symm.trans e) (by decide)) he
    have hg := hg.2 (show ¬ (I b 0) = 0 from fun e => absurd (h1.symm.trans e) (by decide))
    have he := ite_n (show ¬ (I b 0) = 1 from fun e => absurd (h1.symm.trans e) (by decide)) he
    have hg := hg.2 (show ¬ (I b 0) = 1 from fun e => absurd (h1.symm.trans e) (by decide))
    have he := ite_n (show ¬ (I b 0) = 2 from fun e => absurd (h1.symm.trans e) (by decide)) he
    have hg := hg.2 (show ¬ (I b 0) = 2 from fun e => absurd (h1.symm.trans e) (by decide))
    have he := ite_n (show ¬ (I b 0) = 3 from fun e => absurd (h1.symm.trans e) (by decide)) he
    have hg := hg.2 (show ¬ (I b 0) = 3 from fun e => absurd (h1.symm.trans e) (by decide))
    have he := ite_p h1 he
    exact bk_30_55 (rl_p_I he)
  · have he := ite_n h1x0 he
    have hg := hg.2 h1x0
    have he := ite_n h1x1 he
    have hg := hg.2 h1x1
    have he := ite_n h1x2 he
    have hg := hg.2 h1x2
    have he := ite_n h1x3 he
    have hg := hg.2 h1x3
    have he := ite_n h1x4 he
    have hg := hg.2 h1x4
    obtain ⟨X2, hX2⟩ : ∃ r : Int32, r = (if x2 ≤ (I b 1) then 0 else (x2 - (I b 1))) := ⟨_, rfl⟩
    have J2 : ∀ p2 : Int32, p2 = X2 → Wp l 30 (d + 0) 0 0 (rI T1 (I, F, L, RT t)) 0 0 75 [(0, .ref b), (1, .int x1)] [.int p2] SH (I, F, L, RT t) := by
      intro p2 hr
      have hr := hr.trans hX2
      have he := bx_eq hr he
      have hg := bx_un hr hg
      have k6 := hg
      exact bk_30_75 hb k6 (rl_p_I he)
    have he := hX2.symm
    refine bk_30_57 hb (fun h5 => ?_) (fun h5 => ?_)
    · have he := ite_p h5 he
      refine bk_30_74 ?_
      exact J2 0 he
    · have he := ite_n h5 he
      refine bk_30_65 hb ?_
      exact J2 (x2 - (I b 1)) he
/-- VectorShelf$Measure.highOf(I)F -/
def v_31 (x0 : Int32) : UInt32 := (FP.fmul (FP.i2f x0) 1065353224)
def g_31 (x0 : Int32) : Prop := (vf_n32 (FP.fmul (FP.i2f x0) 1065353224))
theorem cc_31 {l : LX} {d : Nat} {I : WI} {F : WF} {L : WL} {t : Nat} {x0 : Int32} (hg : g_31 x0) : Con l 31 (d + 0) 0 0 [.int x0] SH (I, F, L, RT t) (rF (v_31 x0) (I, F, L, RT t)) := by
  refine cn_31 ?_
  obtain ⟨T1, hT1⟩ : ∃ r : UInt32, r = (v_31 x0) := ⟨_, rfl⟩
  rw [← hT1]
  have he := (hT1.trans (v_31.eq_1 ..)).symm
  have hg := Eq.mp (g_31.eq_1 ..) hg
  have k1 := hg
  exact bk_31_0 k1 (rl_p_F he)
/-- VectorShelf$Measure.lay(LVectorShelf$Measure;)V -/
def v_32 (I : WI) (b : Nat) (r1 : Nat) : WI := (bx ((upR (up2 (up2 (up2 I b 0 (I r1 0)) b 1 ((up2 I b 0 (I r1 0)) r1 1)) b 2 ((up2 (up2 I b 0 (I r1 0)) b 1 ((up2 I b 0 (I r1 0)) r1 1)) r1 2)) (b + 1) (va_cpy ((up2 (up2 (up2 I b 0 (I r1 0)) b 1 ((up2 I b 0 (I r1 0)) r1 1)) b 2 ((up2 (up2 I b 0 (I r1 0)) b 1 ((up2 I b 0 (I r1 0)) r1 1)) r1 2)) (r1 + 1)) ((up2 (up2 (up2 I b 0 (I r1 0)) b 1 ((up2 I b 0 (I r1 0)) r1 1)) b 2 ((up2 (up2 I b 0 (I r1 0)) b 1 ((up2 I b 0 (I r1 0)) r1 1)) r1 2)) (b + 1)) 0 0 3)) : WI) (fun p1 => p1))
theorem cc_32 {l : LX} {d : Nat} {I : WI} {F : WF} {L : WL} {t : Nat} {b : Nat} {r1 : Nat} (hb : isM b) (hr1 : isM r1) : Con l 32 (d + 1) 0 0 [.ref b, .ref r1] SH (I, F, L, RT t) (po_V_I F L t (v_32 I b r1)) := by
  refine cn_32 ?_
  obtain ⟨T1, hT1⟩ : ∃ r : WI, r = (v_32 I b r1) := ⟨_, rfl⟩
  rw [← hT1]
  have he := (hT1.trans (v_32.eq_1 ..)).symm
  refine bk_32_0 hb hr1 ?_
  obtain ⟨p1, hr⟩ : ∃ q : WI, q = (upR (up2 (up2 (up2 I b 0 (I r1 0)) b 1 ((up2 I b 0 (I r1 0)) r1 1)) b 2 ((up2 (up2 I b 0 (I r1 0)) b 1 ((up2 I b 0 (I r1 0)) r1 1)) r1 2)) (b + 1) (va_cpy ((up2 (up2 (up2 I b 0 (I r1 0)) b 1 ((up2 I b 0 (I r1 0)) r1 1)) b 2 ((up2 (up2 I b 0 (I r1 0)) b 1 ((up2 I b 0 (I r1 0)) r1 1)) r1 2)) (r1 + 1)) ((up2 (up2 (up2 I b 0 (I r1 0)) b 1 ((up2 I b 0 (I r1 0)) r1 1)) b 2 ((up2 (up2 I b 0 (I r1 0)) b 1 ((up2 I b 0 (I r1 0)) r1 1)) r1 2)) (b + 1)) 0 0 3)) := ⟨_, rfl⟩
  rw [← hr]
  have he := bx_eq hr he
  exact bk_32_38 (rl_V_I he)
/-- the loop at 7 of VectorShelf$Measure.isUnder -/
def lp_33_7 (x1 : Int32) : Nat → Int32 → Int32 → Int32
  | 0, x2, x3 => 0
  | k + 1, x2, x3 => (if 6 ≤ x3 then 0 else (if x2 < 0 then 0 else (if ¬ x2 = x1 then (lp_33_7 x1 k (abv x2.toNatClampNeg) (x3 + 1)) else 1)))
def gl_33_7 (x1 : Int32) : Nat → Int32 → Int32 → Prop
  | 0, _, _ => False
  | k + 1, x2, x3 => (¬ (6 ≤ x3) → (¬ (x2 < 0) → ((¬ x2 = x1) → ((vp_in x2 6) ∧ (gl_33_7 x1 k (abv x2.toNatClampNeg) (x3 + 1))))))
theorem lw_33_7 {l : LX} {d : Nat} {I : WI} {F : WF} {L : WL} {t : Nat} {x1 : Int32} : ∀ k : Nat, ∀ (x2 : Int32) (x3 : Int32), gl_33_7 x1 k x2 x3 → Wp l 33 (d + 0) 0 0 (rI (lp_33_7 x1 k x2 x3) (I, F, L, RT t)) 0 0 7 [(1, .int x1), (2, .int x2), (3, .int x3)] [] SH (I, F, L, RT t) := by
  intro k
  induction k with
  | zero =>
    intro x2 x3 hg
    exact hg.elim
  | succ k ih =>
    intro x2 x3 hg
    have hg := Eq.mp (gl_33_7.eq_2 ..) hg
    obtain ⟨T1, hT1⟩ : ∃ r : Int32, r = lp_33_7 x1 (k + 1) x2 x3 := ⟨_, rfl⟩
    rw [← hT1]
    have he := (hT1.trans (lp_33_7.eq_2 ..)).symm
    refine bk_33_7 ?_
    refine bk_33_11 ?_
    refine bk_33_12 (fun h1 => ?_) (fun h1 => ?_)
    · have he := ite_p h1 he
      exact bk_33_38 (rl_p_I he)
    · have he := ite_n h1 he
      have hg := hg h1
      refine bk_33_15 (fun h2 => ?_) (fun h2 => ?_)
      · have he := ite_p h2 he
        exact bk_33_38 (rl_p_I he)
      · have he := ite_n h2 he
        have hg := hg h2
        refine bk_33_19 (fun h3 => ?_) (fun h3 => ?_)
        · have he := ite_p h3 he
          have hg := hg h3
          refine bk_33_26 ?_
          obtain ⟨k4, hg⟩ := hg
          refine bk_33_29 k4 ?_
          refine bk_33_31 ?_
          exact Wp_eq (post := fun r => (rI r (I, F, L, RT t))) he (ih (abv x2.toNatClampNeg) (x3 + 1) hg)
        · have he := ite_n h3 he
          exact bk_33_24 (rl_p_I he)
/-- VectorShelf$Measure.isUnder(I)Z -/
def v_33 (I : WI) (b : Nat) (x1 : Int32) : Int32 := (lp_33_7 x1 400 (I b 0) (0 : Int32))
def g_33 (I : WI) (b : Nat) (x1 : Int32) : Prop := (gl_33_7 x1 400 (I b 0) (0 : Int32))
theorem cc_33 {l : LX} {d : Nat} {I : WI} {F : WF} {L : WL} {t : Nat} {b : Nat} {x1 : Int32} (hb : isM b) (hg : g_33 I b x1) : Con l 33 (d + 0) 0 0 [.ref b, .int x1] SH (I, F, L, RT t) (rI (v_33 I b x1) (I, F, L, RT t)) := by
  refine cn_33 ?_
  obtain ⟨T1, hT1⟩ : ∃ r : Int32, r = (v_33 I b x1) := ⟨_, rfl⟩
  rw [← hT1]
  have he := (hT1.trans (v_33.eq_1 ..)).symm
  have hg := Eq.mp (g_33.eq_1 ..) hg
  refine bk_33_0 hb ?_
  exact Wp_eq (post := fun r => (rI r (I, F, L, RT t))) he (lw_33_7 (d := d)  400 (I b 0) (0 : Int32) hg)
/-- VectorShelf$Reading.isBeyond(FI)Z -/
def v_38 (I : WI) (f1 : UInt32) (x2 : Int32) : Int32 := (if (I 38 3) ≤ 0 then 0 else (if (I 38 3) < x2 then 0 else (if (Op.cmpValue (FP.fcmp f1 (v_31 (I 41 ((I 38 3) - 1).toNatClampNeg))) .l) ≤ 0 then 0 else 1)))
def g_38 (I : WI) (x2 : Int32) : Prop := (¬ ((I 38 3) ≤ 0) → (¬ ((I 38 3) < x2) → ((vp_in ((I 38 3) - 1) 6) ∧ (g_31 (I 41 ((I 38 3) - 1).toNatClampNeg)))))
theorem cc_38 {l : LX} {d : Nat} {I : WI} {F : WF} {L : WL} {t : Nat} {f1 : UInt32} {x2 : Int32} (hg : g_38 I x2) : Con l 38 (d + 1) 0 0 [.ref 38, .float f1, .int x2] SH (I, F, L, RT t) (rI (v_38 I f1 x2) (I, F, L, RT t)) := by
  refine cn_38 ?_
  obtain ⟨T1, hT1⟩ : ∃ r : Int32, r = (v_38 I f1 x2) := ⟨_, rfl⟩
  rw [← hT1]
  have he := (hT1.trans (v_38.eq_1 ..)).symm
  have hg := Eq.mp (g_38.eq_1 ..) hg
  refine bk_38_0 (fun h1 => ?_) (fun h1 => ?_)
  · have he := ite_p h1 he
    refine bk_38_38 ?_
    exact bk_38_39 (by decide) (rl_p_I he)
  · have he := ite_n h1 he
    have hg := hg h1
    refine bk_38_7 (fun h2 => ?_) (fun h2 => ?_)
    · have he := ite_p h2 he
      refine bk_38_38 ?_
      exact bk_38_39 (by decide) (rl_p_I he)
    · have he := ite_n h2 he
      have hg := hg h2
      obtain ⟨k3, k4⟩ := hg
      refine bk_38_15 k3 (cc_31 (d := d + 0)  k4) ?_
      refine bk_38_30 (fun h5 => ?_) (fun h5 => ?_)
      · have he := ite_p h5 he
        refine bk_38_38 ?_
        exact bk_38_39 (by decide) (rl_p_I he)
      · have he := ite_n h5 he
        refine bk_38_34 ?_
        exact bk_38_39 (by decide) (rl_p_I he)
theorem sb_38 (I : WI) (f1 : UInt32) (x2 : Int32) : (v_38 I f1 x2) &&& 1 = (v_38 I f1 x2) := by
  unfold v_38
  repeat' split
  all_goals first | rfl
/-- VectorShelf$Reading.lastFar()I -/
def v_41 (I : WI) : Int32 := (if (I 38 3) ≤ 0 then (-1) else (I 41 ((I 38 3) - 1).toNatClampNeg))
def g_41 (I : WI) : Prop := (¬ ((I 38 3) ≤ 0) → (vp_in ((I 38 3) - 1) 6))
theorem cc_41 {l : LX} {d : Nat} {I : WI} {F : WF} {L : WL} {t : Nat} (hg : g_41 I) : Con l 41 (d + 0) 0 0 [.ref 38] SH (I, F, L, RT t) (rI (v_41 I) (I, F, L, RT t)) := by
  refine cn_41 ?_
  obtain ⟨T1, hT1⟩ : ∃ r : Int32, r = (v_41 I) := ⟨_, rfl⟩
  rw [← hT1]
  have he := (hT1.trans (v_41.eq_1 ..)).symm
  have hg := Eq.mp (g_41.eq_1 ..) hg
  refine bk_41_0 (fun h1 => ?_) (fun h1 => ?_)
  · have he := ite_p h1 he
    refine bk_41_21 ?_
    exact bk_41_22 (rl_p_I he)
  · have he := ite_n h1 he
    have hg := hg h1
    have k2 := hg
    refine bk_41_7 k2 ?_
    exact bk_41_22 (rl_p_I he)
/-- VectorShelf$Sheet.isMissing()Z -/
def v_44 (I : WI) (b : Nat) : Int32 := (if ¬ (I b 0) = (-1) then 0 else 1)
theorem cc_44 {l : LX} {d : Nat} {I : WI} {F : WF} {L : WL} {t : Nat} {b : Nat} (hb : isH b) : Con l 44 (d + 0) 0 0 [.ref b] SH (I, F, L, RT t) (rI (v_44 I b) (I, F, L, RT t)) := by
  refine cn_44 ?_
  obtain ⟨T1, hT1⟩ : ∃ r : Int32, r = (v_44 I b) := ⟨_, rfl⟩
  rw [← hT1]
  have he := (hT1.trans (v_44.eq_1 ..)).symm
  refine bk_44_0 hb (fun h1 => ?_) (fun h1 => ?_)
  · have he := ite_p h1 he
    refine bk_44_12 ?_
    exact bk_44_13 (by decide) (rl_p_I he)
  · have he := ite_n h1 he
    refine bk_44_8 ?_
    exact bk_44_13 (by decide) (rl_p_I he)
theorem sb_44 (I : WI) (b : Nat) : (v_44 I b) &&& 1 = (v_44 I b) := by
  unfold v_44
  repeat' split
  all_goals first | rfl
/-- VectorShelf$Sheet.tellAt(I)I -/
def v_45 (I : WI) (F : WF) (b : Nat) (x1 : Int32) : Int32 := (if (I b 0) = 0 then (FP.f2i (FP.fmul 1082130432 (F (b + 1) x1.toNatClampNeg))) else (if (I b 0) = 1 then (I (b + 2) x1.toNatClampNeg) else (if (I b 0) = 2 then (I (b + 3) x1.toNatClampNeg) else 0)))
def g_45 (I : WI) (F : WF) (b : Nat) (x1 : Int32) : Prop := (((I b 0) = 0 → ((vp_in x1 40) ∧ (vf_n32 (FP.fmul 1082130432 (F (b + 1) x1.toNatClampNeg))))) ∧ (¬ ((I b 0) = 0) → (((I b 0) = 1 → (vp_in x1 40)) ∧ (¬ ((I b 0) = 1) → (((I b 0) = 2 → (vp_in x1 40)) ∧ (¬ ((I b 0) = 2) → True))))))
theorem cc_45 {l : LX} {d : Nat} {I : WI} {F : WF} {L : WL} {t : Nat} {b : Nat} {x1 : Int32} (hb : isH b) (hg : g_45 I F b x1) : Con l 45 (d + 0) 0 0 [.ref b, .int x1] SH (I, F, L, RT t) (rI (v_45 I F b x1) (I, F, L, RT t)) := by
  refine cn_45 ?_
  obtain ⟨T1, hT1⟩ : ∃ r : Int32, r = (v_45 I F b x1) := ⟨_, rfl⟩
  rw [← hT1]
  have he := (hT1.trans (v_45.eq_1 ..)).symm
  have hg := Eq.mp (g_45.eq_1 ..) hg
  refine bk_45_0 hb (fun h1 => ?_) (fun h1 => ?_) (fun h1 => ?_) (fun h1x0 h1x1 h1x2 => ?_)
  · have he := ite_p h1 he
    have hg := hg.1 h1
    obtain ⟨k2, k3⟩ := hg
    exact bk_45_32 hb k2 k3 (rl_p_I he)
  · have he := ite_n (show ¬ (I b 0) = 0 from fun e => absurd (h1.symm.trans e) (by decide)) he
    have hg := hg.2 (show ¬ (I b 0) = 0 from fun e => absurd (h1.symm.trans e) (by decide))
    have he := ite_p h1 he
    have hg := hg.1 h1
    have k4 := hg
    exact bk_45_43 hb k4 (rl_p_I he)
  · have he := ite_n (show ¬ (I b 0) = 0 from fun e => absurd (h1.symm.trans e) (by decide)) he
    have hg := hg.2 (show ¬ (I b 0) = 0 from fun e => absurd (h1.symm.trans e) (by decide))
    have he := ite_n (show ¬ (I b 0) = 1 from fun e => absurd (h1.symm.trans e) (by decide)) he
    have hg := hg.2 (show ¬ (I b 0) = 1 from fun e => absurd (h1.symm.trans e) (by decide))
    have he := ite_p h1 he
    have hg := hg.1 h1
    have k5 := hg
    exact bk_45_50 hb k5 (rl_p_I he)
  · have he := ite_n h1x0 he
    have he := ite_n h1x1 he
    have he := ite_n h1x2 he
    exact bk_45_57 (rl_p_I he)
/-- VectorShelf$Sheet.write(II)V -/
def v_47 (I : WI) (F : WF) (b : Nat) (x1 : Int32) (x2 : Int32) : WI × WF := (if (I b 0) = 0 then (I, (up2 F (b + 1) x1.toNatClampNeg (FP.fmul (FP.i2f x2) 1048576000))) else (if (I b 0) = 1 then ((up2 I (b + 2) x1.toNatClampNeg (vp_nar (bT 1) (Int8.toInt32 (Int32.toInt8 x2)))), F) else (if (I b 0) = 2 then ((up2 I (b + 3) x1.toNatClampNeg (vp_nar .short (Int16.toInt32 (Int32.toInt16 x2)))), F) else (I, F))))
def g_47 (I : WI) (b : Nat) (x1 : Int32) (x2 : Int32) : Prop := (((I b 0) = 0 → ((vf_n32 (FP.fmul (FP.i2f x2) 1048576000)) ∧ (vp_in x1 40))) ∧ (¬ ((I b 0) = 0) → (((I b 0) = 1 → (vp_in x1 40)) ∧ (¬ ((I b 0) = 1) → (((I b 0) = 2 → (vp_in x1 40)) ∧ (¬ ((I b 0) = 2) → True))))))
theorem cc_47 {l : LX} {d : Nat} {I : WI} {F : WF} {L : WL} {t : Nat} {b : Nat} {x1 : Int32} {x2 : Int32} (hb : isH b) (hg : g_47 I b x1 x2) : Con l 47 (d + 0) 0 0 [.ref b, .int x1, .int x2] SH (I, F, L, RT t) (po_V_IF L t (v_47 I F b x1 x2)) := by
  refine cn_47 ?_
  obtain ⟨T1, hT1⟩ : ∃ r : WI × WF, r = (v_47 I F b x1 x2) := ⟨_, rfl⟩
  rw [← hT1]
  have he := (hT1.trans (v_47.eq_1 ..)).symm
  have hg := Eq.mp (g_47.eq_1 ..) hg
  refine bk_47_0 hb (fun h1 => ?_) (fun h1 => ?_) (fun h1 => ?_) (fun h1x0 h1x1 h1x2 => ?_)
  · have he := ite_p h1 he
    have hg := hg.1 h1
    obtain ⟨k2, k3⟩ := hg
    refine bk_47_32 hb k2 k3 ?_
    exact bk_47_68 (rl_V_IF he)
  · have he := ite_n (show ¬ (I b 0) = 0 from fun e => absurd (h1.symm.trans e) (by decide)) he
    have hg := hg.2 (show ¬ (I b 0) = 0 from fun e => absurd (h1.symm.trans e) (by decide))
    have he := ite_p h1 he
    have hg := hg.1 h1
    have k4 := hg
    refine bk_47_46 hb k4 ?_
    exact bk_47_68 (rl_V_IF he)
  · have he := ite_n (show ¬ (I b 0) = 0 from fun e => absurd (h1.symm.trans e) (by decide)) he
    have hg := hg.2 (show ¬ (I b 0) = 0 from fun e => absurd (h1.symm.trans e) (by decide))
    have he := ite_n (show ¬ (I b 0) = 1 from fun e => absurd (h1.symm.trans e) (by decide)) he
    have hg := hg.2 (show ¬ (I b 0) = 1 from fun e => absurd (h1.symm.trans e) (by decide))
    have he := ite_p h1 he
    have hg := hg.1 h1
    have k5 := hg
    refine bk_47_57 hb k5 ?_
    exact bk_47_68 (rl_V_IF he)
  · have he := ite_n h1x0 he
    have he := ite_n h1x1 he
    have he := ite_n h1x2 he
    exact bk_47_68 (rl_V_IF he)
/-- VectorShelf$Sheet.hasRun(II)Z -/
def v_48 (I : WI) (b : Nat) (x1 : Int32) (x2 : Int32) : Int32 := (if x1 < 0 then 0 else (if x2 < 0 then 0 else (if (I b 1) < x1 then 0 else (if ((I b 1) - x1) < x2 then 0 else 1))))
theorem cc_48 {l : LX} {d : Nat} {I : WI} {F : WF} {L : WL} {t : Nat} {b : Nat} {x1 : Int32} {x2 : Int32} (hb : isH b) : Con l 48 (d + 0) 0 0 [.ref b, .int x1, .int x2] SH (I, F, L, RT t) (rI (v_48 I b x1 x2) (I, F, L, RT t)) := by
  refine cn_48 ?_
  obtain ⟨T1, hT1⟩ : ∃ r : Int32, r = (v_48 I b x1 x2) := ⟨_, rfl⟩
  rw [← hT1]
  have he := (hT1.trans (v_48.eq_1 ..)).symm
  refine bk_48_0 (fun h1 => ?_) (fun h1 => ?_)
  · have he := ite_p h1 he
    refine bk_48_30 ?_
    exact bk_48_31 (by decide) (rl_p_I he)
  · have he := ite_n h1 he
    refine bk_48_4 (fun h2 => ?_) (fun h2 => ?_)
    · have he := ite_p h2 he
      refine bk_48_30 ?_
      exact bk_48_31 (by decide) (rl_p_I he)
    · have he := ite_n h2 he
      refine bk_48_8 hb (fun h3 => ?_) (fun h3 => ?_)
      · have he := ite_p h3 he
        refine bk_48_30 ?_
        exact bk_48_31 (by decide) (rl_p_I he)
      · have he := ite_n h3 he
        refine bk_48_16 hb (fun h4 => ?_) (fun h4 => ?_)
        · have he := ite_p h4 he
          refine bk_48_30 ?_
          exact bk_48_31 (by decide) (rl_p_I he)
        · have he := ite_n h4 he
          refine bk_48_26 ?_
          exact bk_48_31 (by decide) (rl_p_I he)
theorem sb_48 (I : WI) (b : Nat) (x1 : Int32) (x2 : Int32) : (v_48 I b x1 x2) &&& 1 = (v_48 I b x1 x2) := by
  unfold v_48
  repeat' split
  all_goals first | rfl
end
